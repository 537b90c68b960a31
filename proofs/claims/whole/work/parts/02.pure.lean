/-! the mathematics of both sides: MIX, hashes, ways, plans, writings -/
def hs_m1 (a b : Int32) : Int32 := (a ^^^ ((b <<< ((13 : Int32) &&& 31)) ||| (b.toUInt32 >>> ((19 : Int32).toUInt32 &&& Int32.toUInt32 31)).toInt32)) * 739982445
def hs_m2 (x : Int32) : Int32 := x ^^^ (x.toUInt32 >>> ((15 : Int32).toUInt32 &&& Int32.toUInt32 31)).toInt32
def hs_m3 (x b : Int32) : Int32 := (x + b) * 695872825
def hs_m4 (x : Int32) : Int32 := x ^^^ (x.toUInt32 >>> ((14 : Int32).toUInt32 &&& Int32.toUInt32 31)).toInt32
theorem hs_mx_ex : ∃ f : Int32 → Int32 → Int32, ∀ a b, f a b = hs_m4 (hs_m3 (hs_m2 (hs_m1 a b)) b) := ⟨fun a b => hs_m4 (hs_m3 (hs_m2 (hs_m1 a b)) b), fun _ _ => rfl⟩
/-- MIX, sealed: nothing unfolds it but hs_mx_eq -/
noncomputable def hs_mx : Int32 → Int32 → Int32 := Classical.choose hs_mx_ex
theorem hs_mx_eq (a b : Int32) : hs_mx a b = hs_m4 (hs_m3 (hs_m2 (hs_m1 a b)) b) := Classical.choose_spec hs_mx_ex a b
def hs_b (x : Bool) : Int32 := if x = true then 1 else 0
def hs_ok (d N w nw sz : Nat) : Prop := d ≤ 5 ∧ N = 2 ^ d ∧ 1 ≤ w ∧ w ≤ 6 ∧ nw = N * w ∧ sz = nw + 2 * N - 1
theorem hs_okf {d N w nw sz : Nat} (h : hs_ok d N w nw sz) : d ≤ 5 ∧ 1 ≤ N ∧ N ≤ 32 ∧ 1 ≤ w ∧ w ≤ 6 ∧ 1 ≤ nw ∧ nw ≤ 192 ∧ sz = nw + 2 * N - 1 ∧ sz ≤ 255 := by
  obtain ⟨h1, h2, h3, h4, h5, h6⟩ := h
  have hN : 1 ≤ N := by rw [h2]; exact Nat.one_le_two_pow
  have hN2 : N ≤ 32 := by
    have : 2 ^ d ≤ 2 ^ 5 := Nat.pow_le_pow_right (by omega) h1
    rw [h2]; omega
  have a : N * w ≤ 32 * 6 := Nat.mul_le_mul hN2 h4
  have b : 1 * 1 ≤ N * w := Nat.mul_le_mul hN h3
  omega
theorem hs_row {d N w nw sz b : Nat} (h : hs_ok d N w nw sz) (hb : b < N) : b * w + w ≤ nw := by
  obtain ⟨h1, h2, h3, h4, h5, h6⟩ := h
  have a : (b + 1) * w ≤ N * w := Nat.mul_le_mul_right w hb
  rw [Nat.add_mul, Nat.one_mul] at a
  omega
/-- a node of the n-th level from above -/
def hs_lv (n k : Nat) : Prop := 2 ^ n ≤ k ∧ k < 2 * 2 ^ n
theorem hs_lv_s {n k : Nat} (h : hs_lv (n + 1) k) : hs_lv n (k / 2) ∧ 2 ≤ k := by
  obtain ⟨h1, h2⟩ := h
  have e : 2 ^ (n + 1) = 2 * 2 ^ n := by rw [Nat.pow_succ]; omega
  have e1 : 1 ≤ 2 ^ n := Nat.one_le_two_pow
  rw [e] at h1 h2
  refine ⟨⟨?_, ?_⟩, ?_⟩ <;> omega
theorem hs_lv_0 {k : Nat} (h : hs_lv 0 k) : k = 1 := by
  obtain ⟨h1, h2⟩ := h
  have e : 2 ^ 0 = 1 := rfl
  omega
theorem hs_lv_b {d N w nw sz b : Nat} (h : hs_ok d N w nw sz) (hb : b < N) : hs_lv d (N + b) := by
  obtain ⟨h1, h2, h3, h4, h5, h6⟩ := h
  refine ⟨?_, ?_⟩ <;> rw [← h2] <;> omega
noncomputable def hs_bl (v : Nat → Int32) : Nat → Nat → Int32 → Int32
  | 0, _, h => h
  | n + 1, p, h => hs_bl v n (p + 1) (hs_mx h (v p))
def hs_ng (v : Nat → Int32) : Nat → Nat → Bool
  | 0, _ => false
  | n + 1, p => if v p < 0 then true else hs_ng v n (p + 1)
noncomputable def hs_st (nw : Nat) (v : Nat → Int32) (k : Nat) (h : Int32) : Int32 := if k % 2 = 0 then hs_mx h (v (nw + (k + 1) - 1)) else hs_mx (v (nw + (k - 1) - 1)) h
noncomputable def hs_up (nw : Nat) (v : Nat → Int32) : Nat → Nat → Int32 → Int32
  | 0, _, h => h
  | n + 1, k, h => hs_up nw v n (k / 2) (hs_st nw v k h)
noncomputable def hs_pw (nw : Nat) : Nat → Nat → Int32 → (Nat → Int32) → (Nat → Int32) × Int32
  | 0, k, h, g => (upd g (nw + k - 1) h, h)
  | n + 1, k, h, g => hs_pw nw n (k / 2) (hs_st nw (upd g (nw + k - 1) h) k h) (upd g (nw + k - 1) h)
noncomputable def hs_px (nw : Nat) : Nat → Nat → (Nat → Int32) → (Nat → Int32)
  | 0, _, g => g
  | n + 1, k, g => hs_px nw n (k / 2) (upd g (nw + k / 2 - 1) (hs_mx (g (nw + 2 * (k / 2) - 1)) (g (nw + (2 * (k / 2) + 1) - 1))))
noncomputable def hs_rt (d N w nw : Nat) (v : Nat → Int32) (b : Nat) : Int32 := hs_up nw v d (N + b) (hs_bl v w (b * w) (nI b))
noncomputable def hs_rg (d N w nw : Nat) (v : Nat → Int32) (k : Int32) (b : Nat) : Bool := if hs_ng v w (b * w) = true then false else decide (hs_rt d N w nw v b = k)
def hs_au (P : Nat → Bool) : Nat → Nat → Int32
  | 0, _ => -1
  | n + 1, b => if P b = true then hs_au P n (b + 1) else nI b
theorem hs_bl_c {v v' : Nat → Int32} : ∀ (n p : Nat) (h : Int32), (∀ j, p ≤ j → j < p + n → v j = v' j) → hs_bl v n p h = hs_bl v' n p h := by
  intro n
  induction n with
  | zero => intro p h H; rfl
  | succ n ih =>
    intro p h H
    rw [hs_bl, hs_bl, H p (Nat.le_refl p) (by omega)]
    exact ih (p + 1) _ (fun j h1 h2 => H j (by omega) (by omega))
theorem hs_ng_c {v v' : Nat → Int32} : ∀ (n p : Nat), (∀ j, p ≤ j → j < p + n → v j = v' j) → hs_ng v n p = hs_ng v' n p
  | 0, _, _ => rfl
  | n + 1, p, H => by
    show (if v p < 0 then true else hs_ng v n (p + 1)) = (if v' p < 0 then true else hs_ng v' n (p + 1))
    rw [H p (Nat.le_refl p) (by omega), hs_ng_c n (p + 1) (fun j h1 h2 => H j (by omega) (by omega))]
theorem hs_st_c {nw N sz : Nat} {v v' : Nat → Int32} (hsz : sz = nw + 2 * N - 1) (H : ∀ j, j < sz → v j = v' j) {k : Nat} {h : Int32} (h2 : 2 ≤ k) (hk : k < 2 * N) : hs_st nw v k h = hs_st nw v' k h := by
  unfold hs_st
  by_cases hq : k % 2 = 0
  · rw [if_pos hq, if_pos hq, H _ (by omega)]
  · rw [if_neg hq, if_neg hq, H _ (by omega)]
theorem hs_up_c {nw N sz : Nat} {v v' : Nat → Int32} (hsz : sz = nw + 2 * N - 1) (H : ∀ j, j < sz → v j = v' j) : ∀ (n k : Nat) (h : Int32), hs_lv n k → k < 2 * N → hs_up nw v n k h = hs_up nw v' n k h
  | 0, _, _, _, _ => rfl
  | n + 1, k, h, hl, hk => by
    show hs_up nw v n (k / 2) (hs_st nw v k h) = hs_up nw v' n (k / 2) (hs_st nw v' k h)
    obtain ⟨h1, h2⟩ := hs_lv_s hl
    rw [hs_st_c hsz H h2 hk]
    exact hs_up_c hsz H n (k / 2) _ h1 (by omega)
theorem hs_upd_c {sz a : Nat} {x : Int32} {g g' : Nat → Int32} (H : ∀ j, j < sz → g j = g' j) : ∀ j, j < sz → upd g a x j = upd g' a x j := by
  intro j hj
  by_cases e : j = a
  · subst e; rw [pk_us, pk_us]
  · rw [pk_un e, pk_un e]; exact H j hj
theorem hs_pw_c {nw N sz : Nat} (hsz : sz = nw + 2 * N - 1) : ∀ (n k : Nat) (h : Int32) (g g' : Nat → Int32), hs_lv n k → k < 2 * N → (∀ j, j < sz → g j = g' j) → (∀ j, j < sz → (hs_pw nw n k h g).1 j = (hs_pw nw n k h g').1 j) ∧ (hs_pw nw n k h g).2 = (hs_pw nw n k h g').2
  | 0, k, h, g, g', _, _, H => ⟨hs_upd_c H, rfl⟩
  | n + 1, k, h, g, g', hl, hk, H => by
    obtain ⟨h1, h2⟩ := hs_lv_s hl
    show (∀ j, j < sz → (hs_pw nw n (k / 2) (hs_st nw (upd g (nw + k - 1) h) k h) (upd g (nw + k - 1) h)).1 j = (hs_pw nw n (k / 2) (hs_st nw (upd g' (nw + k - 1) h) k h) (upd g' (nw + k - 1) h)).1 j) ∧ (hs_pw nw n (k / 2) (hs_st nw (upd g (nw + k - 1) h) k h) (upd g (nw + k - 1) h)).2 = (hs_pw nw n (k / 2) (hs_st nw (upd g' (nw + k - 1) h) k h) (upd g' (nw + k - 1) h)).2
    have H1 : ∀ j, j < sz → upd g (nw + k - 1) h j = upd g' (nw + k - 1) h j := hs_upd_c H
    rw [hs_st_c hsz H1 h2 hk]
    exact hs_pw_c hsz n (k / 2) _ _ _ h1 (by omega) H1
theorem hs_pw_root {nw : Nat} : ∀ (n k : Nat) (h : Int32) (g : Nat → Int32), hs_lv n k → (hs_pw nw n k h g).1 (nw + 1 - 1) = (hs_pw nw n k h g).2
  | 0, k, h, g, hl => by
    have e := hs_lv_0 hl
    subst e
    exact pk_us
  | n + 1, k, h, g, hl => hs_pw_root n (k / 2) _ _ (hs_lv_s hl).1
theorem hs_px_pw {nw : Nat} (h1w : 1 ≤ nw) : ∀ (n k : Nat) (h : Int32) (g : Nat → Int32), hs_lv n k → hs_px nw n k (upd g (nw + k - 1) h) = (hs_pw nw n k h g).1 := by
  intro n
  induction n with
  | zero => intro k h g hl; rfl
  | succ n ih =>
    intro k h g hl
    obtain ⟨h1, h2⟩ := hs_lv_s hl
    have e : hs_mx (upd g (nw + k - 1) h (nw + 2 * (k / 2) - 1)) (upd g (nw + k - 1) h (nw + (2 * (k / 2) + 1) - 1)) = hs_st nw (upd g (nw + k - 1) h) k h := by
      unfold hs_st
      by_cases hq : k % 2 = 0
      · rw [if_pos hq, show 2 * (k / 2) = k by omega, pk_us]
      · rw [if_neg hq, show 2 * (k / 2) + 1 = k by omega, show 2 * (k / 2) = k - 1 by omega, pk_us]
    rw [hs_px, hs_pw, e]
    exact ih (k / 2) _ _ h1
/-- writings: the disk, the writes left, those done, whether it is down -/
abbrev hs_T : Type := (Nat → Int32) × Int32 × Int32 × Bool
def hs_put (o : Nat) (g : Nat → Int32) (k : Nat) : hs_T → hs_T × Bool
  | (F, lf, dn, dw) => if F (o + k) = g k then ((F, lf, dn, dw), true) else if lf = 0 then ((F, lf, dn, true), false) else ((upd F (o + k) (g k), (if lf = -1 then lf else lf - 1), dn + 1, dw), true)
def hs_ps (o : Nat) (g : Nat → Int32) : List Nat → hs_T → hs_T × Bool
  | [], x => (x, true)
  | k :: ks, x => if (hs_put o g k x).2 = true then hs_ps o g ks (hs_put o g k x).1 else hs_put o g k x
def hs_lo (lf : Int32) : Prop := lf = -1 ∨ 0 ≤ lf
theorem hs_lo_p {lf : Int32} (h : hs_lo lf) (h0 : ¬ lf = 0) : hs_lo (if lf = -1 then lf else lf - 1) := by
  by_cases e : lf = -1
  · rw [if_pos e]; exact Or.inl e
  · rw [if_neg e]
    rcases h with h | h
    · exact absurd h e
    · obtain ⟨j, hj, rfl⟩ := nI_of (Int32.not_lt.mpr h)
      cases j with
      | zero => exact absurd nI_0 h0
      | succ j => rw [nI_pred]; exact Or.inr (nI_pos' (by omega))
theorem hs_put_lo {o k : Nat} {g F : Nat → Int32} {lf dn : Int32} {dw : Bool} (h : hs_lo lf) : hs_lo (hs_put o g k (F, lf, dn, dw)).1.2.1 := by
  unfold hs_put
  by_cases e : F (o + k) = g k
  · simp only [if_pos e]; exact h
  · by_cases e0 : lf = 0
    · simp only [if_neg e, if_pos e0]; exact h
    · simp only [if_neg e, if_neg e0]; exact hs_lo_p h e0
theorem hs_ps_lo {o : Nat} {g : Nat → Int32} : ∀ (ks : List Nat) (x : hs_T), hs_lo x.2.1 → hs_lo (hs_ps o g ks x).1.2.1
  | [], _, h => h
  | k :: ks, (F, lf, dn, dw), h => by
    show hs_lo (if (hs_put o g k (F, lf, dn, dw)).2 = true then hs_ps o g ks (hs_put o g k (F, lf, dn, dw)).1 else hs_put o g k (F, lf, dn, dw)).1.2.1
    by_cases e : (hs_put o g k (F, lf, dn, dw)).2 = true
    · rw [if_pos e]; exact hs_ps_lo ks _ (hs_put_lo h)
    · rw [if_neg e]; exact hs_put_lo h
theorem hs_put_c {o k : Nat} {g g' : Nat → Int32} (e : g k = g' k) : ∀ x : hs_T, hs_put o g k x = hs_put o g' k x
  | (F, lf, dn, dw) => by unfold hs_put; simp only [e]
theorem hs_ps_c {o : Nat} {g g' : Nat → Int32} : ∀ (ks : List Nat) (x : hs_T), (∀ k ∈ ks, g k = g' k) → hs_ps o g ks x = hs_ps o g' ks x
  | [], _, _ => rfl
  | k :: ks, x, h => by
    show (if (hs_put o g k x).2 = true then hs_ps o g ks (hs_put o g k x).1 else hs_put o g k x) = (if (hs_put o g' k x).2 = true then hs_ps o g' ks (hs_put o g' k x).1 else hs_put o g' k x)
    rw [hs_put_c (h k List.mem_cons_self) x, hs_ps_c ks _ (fun j hj => h j (List.mem_cons_of_mem _ hj))]
theorem hs_ps_app {o : Nat} {g : Nat → Int32} : ∀ (l1 l2 : List Nat) (x : hs_T), hs_ps o g (l1 ++ l2) x = if (hs_ps o g l1 x).2 = true then hs_ps o g l2 (hs_ps o g l1 x).1 else hs_ps o g l1 x
  | [], l2, x => by rw [List.nil_append, show hs_ps o g [] x = (x, true) from rfl, if_pos rfl]
  | k :: ks, l2, x => by
    rw [List.cons_append]
    show (if (hs_put o g k x).2 = true then hs_ps o g (ks ++ l2) (hs_put o g k x).1 else hs_put o g k x) = _
    rw [show hs_ps o g (k :: ks) x = (if (hs_put o g k x).2 = true then hs_ps o g ks (hs_put o g k x).1 else hs_put o g k x) from rfl]
    by_cases e : (hs_put o g k x).2 = true
    · rw [if_pos e, if_pos e]; exact hs_ps_app ks l2 _
    · rw [if_neg e, if_neg e, if_neg e]
/-- the order of the writings: words up, nodes down -/
def hs_us : Nat → Nat → List Nat
  | 0, _ => []
  | n + 1, i => i :: hs_us n (i + 1)
def hs_ds (nw : Nat) : Nat → List Nat
  | 0 => []
  | k + 1 => (nw + (k + 1) - 1) :: hs_ds nw k
theorem hs_us_lt : ∀ (n i j : Nat), j ∈ hs_us n i → j < i + n
  | 0, _, _, h => by cases h
  | n + 1, i, j, h => by
    rcases List.mem_cons.mp h with h | h
    · omega
    · have := hs_us_lt n (i + 1) j h; omega
theorem hs_ds_lt {nw : Nat} : ∀ (k j : Nat), j ∈ hs_ds nw k → j < nw + k
  | 0, _, h => by cases h
  | k + 1, j, h => by
    rcases List.mem_cons.mp h with h | h
    · omega
    · have := hs_ds_lt k j h; omega
def hs_cs (N nw : Nat) : List Nat := hs_us nw 0 ++ hs_ds nw (2 * N - 1)
theorem hs_cs_lt {N nw sz : Nat} (hN : 1 ≤ N) (hsz : sz = nw + 2 * N - 1) : ∀ j ∈ hs_cs N nw, j < sz := by
  intro j h
  rcases List.mem_append.mp h with h | h
  · have := hs_us_lt _ _ _ h; omega
  · have := hs_ds_lt _ _ h; omega
/-- what an area holds -/
def hs_vw (sz : Nat) (F : Nat → Int32) (u : Nat) : Nat → Int32 := fun j => F (u * sz + j)
noncomputable def hs_pl (d N w nw : Nat) (v : Nat → Int32) (b i : Nat) (x : Int32) : (Nat → Int32) × Int32 := hs_pw nw d (N + b) (hs_bl (upd v (b * w + i) x) w (b * w) (nI b)) (upd v (b * w + i) x)
/-- the state that calls show: disk, area in use, root, writes done, writes left, down -/
abbrev hs_S : Type := (Nat → Int32) × Nat × Int32 × Int32 × Int32 × Bool
def hs_hb (n : Nat) (x : Int32) : Bool := if x < 0 then false else decide (x < nI n)
theorem hs_hb_t {n : Nat} {x : Int32} (hn : n < 2 ^ 31) (h : hs_hb n x = true) : ∃ j, j < n ∧ x = nI j := by
  unfold hs_hb at h
  rcases pk_ix x hn with q | q | q
  · rw [if_pos q] at h; cases h
  · by_cases z : x < 0
    · rw [if_pos z] at h; cases h
    · rw [if_neg z] at h; exact absurd (of_decide_eq_true h) (Int32.not_lt.mpr q)
  · exact q
theorem hs_hb_i {n j : Nat} (h : j < n) (hn : n < 2 ^ 31) : hs_hb n (nI j) = true := by
  unfold hs_hb
  rw [if_neg (nI_pos (by omega))]
  exact decide_eq_true (nI_lt h hn)
/-- what format() makes of the first area: zero words, the nodes over them, zeros behind -/
def hs_E (N w nw sz : Nat) (F : Nat → Int32) : Prop := (∀ j, j < nw → F j = 0) ∧ (∀ b, b < N → F (nw + (N + b) - 1) = hs_bl F w (b * w) (nI b)) ∧ (∀ k, 1 ≤ k → k < N → F (nw + k - 1) = hs_mx (F (nw + 2 * k - 1)) (F (nw + (2 * k + 1) - 1))) ∧ ∀ j, sz ≤ j → F j = 0
theorem hs_E_u {d N w nw sz : Nat} (ok : hs_ok d N w nw sz) {F F' : Nat → Int32} (h : hs_E N w nw sz F) (h' : hs_E N w nw sz F') : F = F' := by
  obtain ⟨-, hN, hN2, hw, -, hn1, -, hsz, -⟩ := hs_okf ok
  obtain ⟨a1, a2, a3, a4⟩ := h
  obtain ⟨b1, b2, b3, b4⟩ := h'
  have key : ∀ n k, 1 ≤ k → k < 2 * N → 2 * N ≤ k + n → F (nw + k - 1) = F' (nw + k - 1) := by
    intro n
    induction n with
    | zero => intro k h1 h2 h3; omega
    | succ n ih =>
      intro k h1 h2 h3
      by_cases hk : k < N
      · rw [a3 k h1 hk, b3 k h1 hk, ih (2 * k) (by omega) (by omega) (by omega), ih (2 * k + 1) (by omega) (by omega) (by omega)]
      · obtain ⟨b, rfl⟩ : ∃ b, k = N + b := ⟨k - N, by omega⟩
        have hr := hs_row ok (b := b) (by omega)
        rw [a2 b (by omega), b2 b (by omega)]
        exact hs_bl_c w (b * w) _ (fun j h4 h5 => by rw [a1 j (by omega), b1 j (by omega)])
  funext j
  by_cases h1 : j < nw
  · rw [a1 j h1, b1 j h1]
  · by_cases h2 : sz ≤ j
    · rw [a4 j h2, b4 j h2]
    · have e := key (2 * N) (j + 1 - nw) (by omega) (by omega) (by omega)
      rw [show nw + (j + 1 - nw) - 1 = j by omega] at e
      exact e
/-- the same, half done: all nodes above the k-th stand -/
def hs_I (N w nw : Nat) (k : Nat) (F : Nat → Int32) : Prop := (∀ j, j < nw → F j = 0) ∧ (∀ b, b < N → k < N + b → F (nw + (N + b) - 1) = hs_bl F w (b * w) (nI b)) ∧ (∀ i, 1 ≤ i → k < i → i < N → F (nw + i - 1) = hs_mx (F (nw + 2 * i - 1)) (F (nw + (2 * i + 1) - 1)))
theorem hs_I_s {d N w nw sz : Nat} (ok : hs_ok d N w nw sz) {k : Nat} {F : Nat → Int32} {x : Int32} (h : hs_I N w nw (k + 1) F) (hk : k + 1 < 2 * N) (hx : ∀ b, k + 1 = N + b → x = hs_bl F w (b * w) (nI b)) (hy : k + 1 < N → x = hs_mx (F (nw + 2 * (k + 1) - 1)) (F (nw + (2 * (k + 1) + 1) - 1))) : hs_I N w nw k (upd F (nw + (k + 1) - 1) x) := by
  obtain ⟨-, hN, hN2, hw, -, hn1, -, hsz, -⟩ := hs_okf ok
  obtain ⟨a1, a2, a3⟩ := h
  have hbl : ∀ b, b < N → hs_bl (upd F (nw + (k + 1) - 1) x) w (b * w) (nI b) = hs_bl F w (b * w) (nI b) := fun b hb => by
    have hr := hs_row ok hb
    exact hs_bl_c w (b * w) _ (fun j h4 h5 => pk_un (by omega))
  refine ⟨fun j hj => ?_, fun b hb hkb => ?_, fun i h1 h2 h3 => ?_⟩
  · rw [pk_un (by omega)]; exact a1 j hj
  · rw [hbl b hb]
    by_cases e : k + 1 = N + b
    · rw [← e, pk_us]; exact hx b e
    · rw [pk_un (by omega)]; exact a2 b hb (by omega)
  · rw [pk_un (j := nw + 2 * i - 1) (by omega), pk_un (j := nw + (2 * i + 1) - 1) (by omega)]
    by_cases e : i = k + 1
    · subst e; rw [pk_us]; exact hy h3
    · rw [pk_un (by omega)]; exact a3 i h1 (by omega) h3
theorem hs_I_E {d N w nw sz : Nat} (ok : hs_ok d N w nw sz) {F : Nat → Int32} (h : hs_I N w nw 0 F) (hz : ∀ j, sz ≤ j → F j = 0) : hs_E N w nw sz F := by
  obtain ⟨-, hN, -⟩ := hs_okf ok
  exact ⟨h.1, fun b hb => h.2.1 b hb (by omega), fun k h1 h2 => h.2.2 k h1 (by omega) h2, hz⟩
/-- leaves of the blocks below b stand -/
def hs_J (N w nw : Nat) (c : Nat) (F : Nat → Int32) : Prop := (∀ j, j < nw → F j = 0) ∧ (∀ b, b < c → F (nw + (N + b) - 1) = hs_bl F w (b * w) (nI b))
theorem hs_J_s {d N w nw sz : Nat} (ok : hs_ok d N w nw sz) {c : Nat} {F : Nat → Int32} (h : hs_J N w nw c F) (hc : c < N) : hs_J N w nw (c + 1) (upd F (nw + (N + c) - 1) (hs_bl F w (c * w) (nI c))) := by
  obtain ⟨-, hN, hN2, hw, -, hn1, -, hsz, -⟩ := hs_okf ok
  obtain ⟨a1, a2⟩ := h
  have hbl : ∀ x b, b < N → hs_bl (upd F (nw + (N + c) - 1) x) w (b * w) (nI b) = hs_bl F w (b * w) (nI b) := fun x b hb => by
    have hr := hs_row ok hb
    exact hs_bl_c w (b * w) _ (fun j h4 h5 => pk_un (by omega))
  refine ⟨fun j hj => ?_, fun b hb => ?_⟩
  · rw [pk_un (by omega)]; exact a1 j hj
  · rw [hbl _ b (by omega)]
    by_cases e : b = c
    · subst e; rw [pk_us]
    · rw [pk_un (by omega)]; exact a2 b (by omega)
theorem hs_J_I {N w nw : Nat} {F : Nat → Int32} (h : hs_J N w nw N F) : hs_I N w nw (N - 1) F := ⟨h.1, fun b hb _ => h.2 b hb, fun i h1 h2 h3 => by omega⟩
