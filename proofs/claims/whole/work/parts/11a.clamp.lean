/-! the constructors' numbers -/
def hs_cd (x : Int32) : Nat := if x < 0 then 0 else if 5 < x then 5 else x.toNatClampNeg
def hs_cw (x : Int32) : Nat := if x < 1 then 1 else if 6 < x then 6 else x.toNatClampNeg
theorem hs_5 : (5 : Int32).toInt = 5 := by decide
theorem hs_6 : (6 : Int32).toInt = 6 := by decide
theorem hs_1 : (1 : Int32).toInt = 1 := by decide
theorem hs_0 : (0 : Int32).toInt = 0 := by decide
theorem hs_cd1 {x : Int32} (c : ¬ 0 ≤ x) : nI 0 = nI (hs_cd x) := by unfold hs_cd; rw [if_pos (Int32.not_le.mp c)]
theorem hs_cd2 {x : Int32} (c : 0 ≤ x) (c2 : ¬ x ≤ 5) : nI 5 = nI (hs_cd x) := by unfold hs_cd; rw [if_neg (Int32.not_lt.mpr c), if_pos (Int32.not_le.mp c2)]
theorem hs_cd3 {x : Int32} (c : 0 ≤ x) (c2 : x ≤ 5) : x = nI (hs_cd x) := by
  obtain ⟨j, hj, rfl⟩ := nI_of2 (M := 5) (n := 5) hs_5 (Int32.not_lt.mpr c) c2
  unfold hs_cd
  rw [if_neg (Int32.not_lt.mpr c), if_neg (Int32.not_lt.mpr c2), nI_clamp (by omega)]
theorem hs_cw1 {x : Int32} (c : ¬ 1 ≤ x) : nI 1 = nI (hs_cw x) := by unfold hs_cw; rw [if_pos (Int32.not_le.mp c)]
theorem hs_cw2 {x : Int32} (c : 1 ≤ x) (c2 : ¬ x ≤ 6) : nI 6 = nI (hs_cw x) := by unfold hs_cw; rw [if_neg (Int32.not_lt.mpr c), if_pos (Int32.not_le.mp c2)]
theorem hs_ge1 {x : Int32} (c : 1 ≤ x) : ¬ x < 0 := fun q => by
  rw [Int32.le_iff_toInt_le, hs_1] at c
  rw [Int32.lt_iff_toInt_lt, hs_0] at q
  omega
theorem hs_cw3 {x : Int32} (c : 1 ≤ x) (c2 : x ≤ 6) : x = nI (hs_cw x) := by
  obtain ⟨j, hj, rfl⟩ := nI_of2 (M := 6) (n := 6) hs_6 (hs_ge1 c) c2
  unfold hs_cw
  rw [if_neg (Int32.not_lt.mpr c), if_neg (Int32.not_lt.mpr c2), nI_clamp (by omega)]
theorem hs_cd_le (x : Int32) : hs_cd x ≤ 5 := by
  by_cases c : 0 ≤ x
  · by_cases c2 : x ≤ 5
    · obtain ⟨j, hj, rfl⟩ := nI_of2 (M := 5) (n := 5) hs_5 (Int32.not_lt.mpr c) c2
      unfold hs_cd
      rw [if_neg (Int32.not_lt.mpr c), if_neg (Int32.not_lt.mpr c2), nI_clamp (by omega)]; exact hj
    · unfold hs_cd; rw [if_neg (Int32.not_lt.mpr c), if_pos (Int32.not_le.mp c2)]; omega
  · unfold hs_cd; rw [if_pos (Int32.not_le.mp c)]; omega
theorem hs_cw_le (x : Int32) : 1 ≤ hs_cw x ∧ hs_cw x ≤ 6 := by
  by_cases c : 1 ≤ x
  · by_cases c2 : x ≤ 6
    · obtain ⟨j, hj, rfl⟩ := nI_of2 (M := 6) (n := 6) hs_6 (hs_ge1 c) c2
      unfold hs_cw
      rw [if_neg (Int32.not_lt.mpr c), if_neg (Int32.not_lt.mpr c2), nI_clamp (by omega)]
      refine ⟨?_, hj⟩
      rw [Int32.le_iff_toInt_le, hs_1, nI_toInt (by omega)] at c
      omega
    · unfold hs_cw; rw [if_neg (Int32.not_lt.mpr c), if_pos (Int32.not_le.mp c2)]; omega
  · unfold hs_cw; rw [if_pos (Int32.not_le.mp c)]; omega
theorem hs_ok_c (x y : Int32) : hs_ok (hs_cd x) (2 ^ hs_cd x) (hs_cw y) (2 ^ hs_cd x * hs_cw y) (2 ^ hs_cd x * hs_cw y + 2 * 2 ^ hs_cd x - 1) := ⟨hs_cd_le x, rfl, (hs_cw_le y).1, (hs_cw_le y).2, rfl, rfl⟩
/-- max(0, min(x, 5)), max(1, min(x, 6)) -/
theorem hs_cdX (x : Int32) : (if (0 : Int32) < (if (5 : Int32) < x then 5 else x) then (if (5 : Int32) < x then 5 else x) else 0) = nI (hs_cd x) := by
  by_cases c5 : (5 : Int32) < x
  · simp only [if_pos c5]
    rw [if_pos (by decide)]
    refine hs_cd2 (Int32.not_lt.mp fun q => ?_) (Int32.not_le.mpr c5)
    rw [Int32.lt_iff_toInt_lt, hs_0] at q
    rw [Int32.lt_iff_toInt_lt, hs_5] at c5
    omega
  · simp only [if_neg c5]
    by_cases c0 : (0 : Int32) < x
    · rw [if_pos c0]
      refine hs_cd3 (Int32.not_lt.mp fun q => ?_) (Int32.not_lt.mp c5)
      rw [Int32.lt_iff_toInt_lt, hs_0] at q c0
      omega
    · rw [if_neg c0]
      by_cases c : 0 ≤ x
      · have e : x = 0 := Int32.le_antisymm (Int32.not_lt.mp c0) c
        rw [← hs_cd3 c (Int32.not_lt.mp c5), e]
      · exact nI_0.symm.trans (hs_cd1 c)
theorem hs_cwX (x : Int32) : (if (1 : Int32) < (if (6 : Int32) < x then 6 else x) then (if (6 : Int32) < x then 6 else x) else 1) = nI (hs_cw x) := by
  by_cases c5 : (6 : Int32) < x
  · simp only [if_pos c5]
    rw [if_pos (by decide)]
    refine hs_cw2 (Int32.not_lt.mp fun q => ?_) (Int32.not_le.mpr c5)
    rw [Int32.lt_iff_toInt_lt, hs_1] at q
    rw [Int32.lt_iff_toInt_lt, hs_6] at c5
    omega
  · simp only [if_neg c5]
    by_cases c0 : (1 : Int32) < x
    · rw [if_pos c0]
      refine hs_cw3 (Int32.not_lt.mp fun q => ?_) (Int32.not_lt.mp c5)
      rw [Int32.lt_iff_toInt_lt, hs_1] at q c0
      omega
    · rw [if_neg c0]
      by_cases c : 1 ≤ x
      · have e : x = 1 := Int32.le_antisymm (Int32.not_lt.mp c0) c
        rw [← hs_cw3 c (Int32.not_lt.mp c5), e]
      · exact (show (1 : Int32) = nI 1 from rfl).trans (hs_cw1 c)
theorem hs_shl : ∀ d, d < 6 → nI 1 <<< (nI d &&& 31) = nI (2 ^ d) := by decide
theorem hs_sameA {D : va_G} {cl : List vw_C} {c1 c2 : ClassId} {s : State} (hK : va_K D cl [(c1, .int), (c2, .int)] s) : c1 = c2 := Option.some.inj ((va_nm_int (hK.2 0 _ rfl).2).symm.trans (va_nm_int (hK.2 1 _ rfl).2))
theorem hs_new {n : Nat} (cA : ClassId) : vp_cell cA (n, .inl (fun _ => 0)) = arrV cA n (fun _ => defaultValue .int) := by rw [vp_cell_i]; rfl
theorem hs_bytes {n : Nat} (h : n ≤ 600) : n * componentBytes .int ≤ 536870912 := by
  have e : componentBytes .int = 4 := rfl
  rw [e]
  omega
