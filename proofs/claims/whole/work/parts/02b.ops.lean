/-! the calls, as functions of the state -/
noncomputable def hs_rd (d N w nw sz : Nat) (b i : Int32) : hs_S → Int32
  | (F, u, kr, _, _, dw) => if (hs_hb N b && hs_hb w i) = true then (if dw = true then -4 else if hs_rg d N w nw (hs_vw sz F u) kr b.toNatClampNeg = true then hs_vw sz F u (b.toNatClampNeg * w + i.toNatClampNeg) else -3) else -2
def hs_fin (u : Nat) (kr rt : Int32) : hs_T × Bool → Int32 × hs_S
  | ((F, lf, dn, dw), true) => (0, (F, 1 - u, rt, dn, lf, dw))
  | ((F, lf, dn, dw), false) => (-4, (F, u, kr, dn, lf, dw))
noncomputable def hs_wr (d N w nw sz : Nat) (b i x : Int32) : hs_S → Int32 × hs_S
  | (F, u, kr, dn, lf, dw) => if (hs_hb N b && hs_hb w i) = true then (if x < 0 then (-2, (F, u, kr, dn, lf, dw)) else if dw = true then (-4, (F, u, kr, dn, lf, dw)) else if hs_rg d N w nw (hs_vw sz F u) kr b.toNatClampNeg = true then
      hs_fin u kr (hs_pl d N w nw (hs_vw sz F u) b.toNatClampNeg i.toNatClampNeg x).2 (hs_ps ((1 - u) * sz) (hs_pl d N w nw (hs_vw sz F u) b.toNatClampNeg i.toNatClampNeg x).1 (hs_cs N nw) (F, lf, dn, dw))
      else (-3, (F, u, kr, dn, lf, dw))) else (-2, (F, u, kr, dn, lf, dw))
noncomputable def hs_vf (d N w nw sz : Nat) (b : Int32) : hs_S → Bool
  | (F, u, kr, _, _, dw) => if hs_hb N b = true then (if dw = true then false else hs_rg d N w nw (hs_vw sz F u) kr b.toNatClampNeg) else false
noncomputable def hs_ad (d N w nw sz : Nat) : hs_S → Int32
  | (F, u, kr, _, _, dw) => if dw = true then -4 else hs_au (hs_rg d N w nw (hs_vw sz F u) kr) N 0
def hs_pk (sz : Nat) (F : Nat → Int32) (a : Int32) : Int32 := if hs_hb (2 * sz) a = true then F a.toNatClampNeg else 0
def hs_tm (sz : Nat) (a x : Int32) : hs_S → hs_S
  | (F, u, kr, dn, lf, dw) => if hs_hb (2 * sz) a = true then (upd F a.toNatClampNeg x, u, kr, dn, lf, dw) else (F, u, kr, dn, lf, dw)
def hs_cr (x : Int32) : hs_S → hs_S
  | (F, u, kr, dn, lf, dw) => if x < 0 then (F, u, kr, dn, lf, dw) else if dw = true then (F, u, kr, dn, lf, dw) else (F, u, kr, dn, x, dw)
def hs_rc (nw sz : Nat) (t : Int32) : hs_S → Int32 × hs_S
  | (F, u, kr, dn, lf, dw) => if dw = true then (if F (0 * sz + (nw + 1 - 1)) = t then (0, (F, 0, t, dn, -1, false)) else if F (1 * sz + (nw + 1 - 1)) = t then (0, (F, 1, t, dn, -1, false)) else (-5, (F, u, kr, dn, lf, dw))) else (-2, (F, u, kr, dn, lf, dw))
section OPS
variable {d N w nw sz u j i : Nat} {F : Nat → Int32} {kr dn lf x : Int32} {dw : Bool}
theorem hs_and_i (hj : j < N) (hi : i < w) (hN : N < 2 ^ 31) (hw : w < 2 ^ 31) : (hs_hb N (nI j) && hs_hb w (nI i)) = true := by rw [hs_hb_i hj hN, hs_hb_i hi hw]; rfl
theorem hs_and_t {b i : Int32} (h : (hs_hb N b && hs_hb w i) = true) (hN : N < 2 ^ 31) (hw : w < 2 ^ 31) : (∃ j, j < N ∧ b = nI j) ∧ (∃ j, j < w ∧ i = nI j) := by
  have h1 : hs_hb N b = true := by cases q : hs_hb N b with | true => rfl | false => rw [q] at h; cases h
  have h2 : hs_hb w i = true := by cases q : hs_hb w i with | true => rfl | false => rw [h1, q] at h; cases h
  exact ⟨hs_hb_t hN h1, hs_hb_t hw h2⟩
theorem hs_ff {x : Bool} (h : x = false) : ¬ x = true := by rw [h]; exact Bool.false_ne_true
theorem hs_rd_1 {b i : Int32} (c : (hs_hb N b && hs_hb w i) = false) : -2 = hs_rd d N w nw sz b i (F, u, kr, dn, lf, dw) := by rw [hs_rd, if_neg (hs_ff c)]
theorem hs_rd_2 (hj : j < N) (hi : i < w) (hN : N < 2 ^ 31) (hw : w < 2 ^ 31) (c : dw = true) : -4 = hs_rd d N w nw sz (nI j) (nI i) (F, u, kr, dn, lf, dw) := by rw [hs_rd, if_pos (hs_and_i hj hi hN hw), if_pos c]
theorem hs_rd_3 (hj : j < N) (hi : i < w) (hN : N < 2 ^ 31) (hw : w < 2 ^ 31) (c : dw = false) (c2 : hs_rg d N w nw (hs_vw sz F u) kr j = false) : -3 = hs_rd d N w nw sz (nI j) (nI i) (F, u, kr, dn, lf, dw) := by
  rw [hs_rd, if_pos (hs_and_i hj hi hN hw), if_neg (hs_ff c), nI_clamp (show j < 2 ^ 31 by omega), if_neg (hs_ff c2)]
theorem hs_rd_4 (hj : j < N) (hi : i < w) (hN : N < 2 ^ 31) (hw : w < 2 ^ 31) (c : dw = false) (c2 : hs_rg d N w nw (hs_vw sz F u) kr j = true) : hs_vw sz F u (j * w + i) = hs_rd d N w nw sz (nI j) (nI i) (F, u, kr, dn, lf, dw) := by
  rw [hs_rd, if_pos (hs_and_i hj hi hN hw), if_neg (hs_ff c), nI_clamp (show j < 2 ^ 31 by omega), if_pos c2, nI_clamp (show i < 2 ^ 31 by omega)]
theorem hs_wr_1 {b i : Int32} (c : (hs_hb N b && hs_hb w i) = false) : hs_wr d N w nw sz b i x (F, u, kr, dn, lf, dw) = (-2, (F, u, kr, dn, lf, dw)) := by rw [hs_wr, if_neg (hs_ff c)]
theorem hs_wr_2 {b i : Int32} (c : x < 0) : hs_wr d N w nw sz b i x (F, u, kr, dn, lf, dw) = (-2, (F, u, kr, dn, lf, dw)) := by
  rw [hs_wr]
  by_cases q : (hs_hb N b && hs_hb w i) = true
  · rw [if_pos q, if_pos c]
  · rw [if_neg q]
theorem hs_wr_3 (hj : j < N) (hi : i < w) (hN : N < 2 ^ 31) (hw : w < 2 ^ 31) (hx : ¬ x < 0) (c : dw = true) : hs_wr d N w nw sz (nI j) (nI i) x (F, u, kr, dn, lf, dw) = (-4, (F, u, kr, dn, lf, dw)) := by
  rw [hs_wr, if_pos (hs_and_i hj hi hN hw), if_neg hx, if_pos c]
theorem hs_wr_4 (hj : j < N) (hi : i < w) (hN : N < 2 ^ 31) (hw : w < 2 ^ 31) (hx : ¬ x < 0) (c : dw = false) (c2 : hs_rg d N w nw (hs_vw sz F u) kr j = false) : hs_wr d N w nw sz (nI j) (nI i) x (F, u, kr, dn, lf, dw) = (-3, (F, u, kr, dn, lf, dw)) := by
  rw [hs_wr, if_pos (hs_and_i hj hi hN hw), if_neg hx, if_neg (hs_ff c), nI_clamp (show j < 2 ^ 31 by omega), if_neg (hs_ff c2)]
theorem hs_wr_5 (hj : j < N) (hi : i < w) (hN : N < 2 ^ 31) (hw : w < 2 ^ 31) (hx : ¬ x < 0) (c : dw = false) (c2 : hs_rg d N w nw (hs_vw sz F u) kr j = true) {g : Nat → Int32} {rt : Int32} (hg : hs_pl d N w nw (hs_vw sz F u) j i x = (g, rt)) {F2 : Nat → Int32} {lf2 dn2 : Int32} {dw2 : Bool} (c3 : hs_ps ((1 - u) * sz) g (hs_cs N nw) (F, lf, dn, dw) = ((F2, lf2, dn2, dw2), false)) : hs_wr d N w nw sz (nI j) (nI i) x (F, u, kr, dn, lf, dw) = (-4, (F2, u, kr, dn2, lf2, dw2)) := by
  rw [hs_wr, if_pos (hs_and_i hj hi hN hw), if_neg hx, if_neg (hs_ff c), nI_clamp (show j < 2 ^ 31 by omega), if_pos c2, nI_clamp (show i < 2 ^ 31 by omega), hg]
  show hs_fin u kr rt (hs_ps ((1 - u) * sz) g (hs_cs N nw) (F, lf, dn, dw)) = _
  rw [c3]
  rfl
theorem hs_wr_6 (hj : j < N) (hi : i < w) (hN : N < 2 ^ 31) (hw : w < 2 ^ 31) (hx : ¬ x < 0) (c : dw = false) (c2 : hs_rg d N w nw (hs_vw sz F u) kr j = true) {g : Nat → Int32} {rt : Int32} (hg : hs_pl d N w nw (hs_vw sz F u) j i x = (g, rt)) {F2 : Nat → Int32} {lf2 dn2 : Int32} {dw2 : Bool} (c3 : hs_ps ((1 - u) * sz) g (hs_cs N nw) (F, lf, dn, dw) = ((F2, lf2, dn2, dw2), true)) : hs_wr d N w nw sz (nI j) (nI i) x (F, u, kr, dn, lf, dw) = (0, (F2, 1 - u, rt, dn2, lf2, dw2)) := by
  rw [hs_wr, if_pos (hs_and_i hj hi hN hw), if_neg hx, if_neg (hs_ff c), nI_clamp (show j < 2 ^ 31 by omega), if_pos c2, nI_clamp (show i < 2 ^ 31 by omega), hg]
  show hs_fin u kr rt (hs_ps ((1 - u) * sz) g (hs_cs N nw) (F, lf, dn, dw)) = _
  rw [c3]
  rfl
theorem hs_vf_1 {b : Int32} (c : hs_hb N b = false) : false = hs_vf d N w nw sz b (F, u, kr, dn, lf, dw) := by rw [hs_vf, if_neg (hs_ff c)]
theorem hs_vf_2 (hj : j < N) (hN : N < 2 ^ 31) (c : dw = true) : false = hs_vf d N w nw sz (nI j) (F, u, kr, dn, lf, dw) := by rw [hs_vf, if_pos (hs_hb_i hj hN), if_pos c]
theorem hs_vf_3 (hj : j < N) (hN : N < 2 ^ 31) (c : dw = false) : hs_rg d N w nw (hs_vw sz F u) kr j = hs_vf d N w nw sz (nI j) (F, u, kr, dn, lf, dw) := by rw [hs_vf, if_pos (hs_hb_i hj hN), if_neg (hs_ff c), nI_clamp (show j < 2 ^ 31 by omega)]
theorem hs_ad_1 (c : dw = true) : -4 = hs_ad d N w nw sz (F, u, kr, dn, lf, dw) := by rw [hs_ad, if_pos c]
theorem hs_ad_2 (c : dw = false) : hs_au (hs_rg d N w nw (hs_vw sz F u) kr) N 0 = hs_ad d N w nw sz (F, u, kr, dn, lf, dw) := by rw [hs_ad, if_neg (hs_ff c)]
theorem hs_pk_1 {a : Int32} (c : hs_hb (2 * sz) a = false) : 0 = hs_pk sz F a := by rw [hs_pk, if_neg (hs_ff c)]
theorem hs_pk_2 (hj : j < 2 * sz) (hN : 2 * sz < 2 ^ 31) : F j = hs_pk sz F (nI j) := by rw [hs_pk, if_pos (hs_hb_i hj hN), nI_clamp (show j < 2 ^ 31 by omega)]
theorem hs_tm_1 {a : Int32} (c : hs_hb (2 * sz) a = false) : hs_tm sz a x (F, u, kr, dn, lf, dw) = (F, u, kr, dn, lf, dw) := by rw [hs_tm, if_neg (hs_ff c)]
theorem hs_tm_2 (hj : j < 2 * sz) (hN : 2 * sz < 2 ^ 31) : hs_tm sz (nI j) x (F, u, kr, dn, lf, dw) = (upd F j x, u, kr, dn, lf, dw) := by rw [hs_tm, if_pos (hs_hb_i hj hN), nI_clamp (show j < 2 ^ 31 by omega)]
theorem hs_cr_1 (c : x < 0) : hs_cr x (F, u, kr, dn, lf, dw) = (F, u, kr, dn, lf, dw) := by rw [hs_cr, if_pos c]
theorem hs_cr_2 (c : dw = true) : hs_cr x (F, u, kr, dn, lf, dw) = (F, u, kr, dn, lf, dw) := by
  rw [hs_cr]
  by_cases q : x < 0
  · rw [if_pos q]
  · rw [if_neg q, if_pos c]
theorem hs_cr_3 (c : ¬ x < 0) (c2 : dw = false) : hs_cr x (F, u, kr, dn, lf, dw) = (F, u, kr, dn, x, dw) := by rw [hs_cr, if_neg c, if_neg (hs_ff c2)]
theorem hs_rc_1 (c : dw = false) : hs_rc nw sz x (F, u, kr, dn, lf, dw) = (-2, (F, u, kr, dn, lf, dw)) := by rw [hs_rc, if_neg (hs_ff c)]
theorem hs_rc_2 (c : dw = true) (c1 : F (0 * sz + (nw + 1 - 1)) = x) : hs_rc nw sz x (F, u, kr, dn, lf, dw) = (0, (F, 0, x, dn, -1, false)) := by rw [hs_rc, if_pos c, if_pos c1]
theorem hs_rc_3 (c : dw = true) (c1 : ¬ F (0 * sz + (nw + 1 - 1)) = x) (c2 : F (1 * sz + (nw + 1 - 1)) = x) : hs_rc nw sz x (F, u, kr, dn, lf, dw) = (0, (F, 1, x, dn, -1, false)) := by rw [hs_rc, if_pos c, if_neg c1, if_pos c2]
theorem hs_rc_4 (c : dw = true) (c1 : ¬ F (0 * sz + (nw + 1 - 1)) = x) (c2 : ¬ F (1 * sz + (nw + 1 - 1)) = x) : hs_rc nw sz x (F, u, kr, dn, lf, dw) = (-5, (F, u, kr, dn, lf, dw)) := by rw [hs_rc, if_pos c, if_neg c1, if_neg c2]
/-- what holds of every state: which area; the writes left -/
def hs_in (x : hs_S) : Prop := x.2.1 < 2 ∧ hs_lo x.2.2.2.2.1
theorem hs_in_fin {rt : Int32} (hu : u < 2) : ∀ y : hs_T × Bool, hs_lo y.1.2.1 → hs_in (hs_fin u kr rt y).2
  | ((F, lf, dn, dw), true), h => ⟨by show 1 - u < 2; omega, h⟩
  | ((F, lf, dn, dw), false), h => ⟨hu, h⟩
theorem hs_in_wr {b i : Int32} (h : hs_in (F, u, kr, dn, lf, dw)) : hs_in (hs_wr d N w nw sz b i x (F, u, kr, dn, lf, dw)).2 := by
  rw [hs_wr]
  by_cases c1 : (hs_hb N b && hs_hb w i) = true
  · rw [if_pos c1]
    by_cases c2 : x < 0
    · rw [if_pos c2]; exact h
    · rw [if_neg c2]
      by_cases c3 : dw = true
      · rw [if_pos c3]; exact h
      · rw [if_neg c3]
        by_cases c4 : hs_rg d N w nw (hs_vw sz F u) kr b.toNatClampNeg = true
        · rw [if_pos c4]; exact hs_in_fin h.1 _ (hs_ps_lo _ _ h.2)
        · rw [if_neg c4]; exact h
  · rw [if_neg c1]; exact h
theorem hs_in_tm {a : Int32} (h : hs_in (F, u, kr, dn, lf, dw)) : hs_in (hs_tm sz a x (F, u, kr, dn, lf, dw)) := by
  rw [hs_tm]
  split
  · exact h
  · exact h
theorem hs_in_cr (h : hs_in (F, u, kr, dn, lf, dw)) : hs_in (hs_cr x (F, u, kr, dn, lf, dw)) := by
  rw [hs_cr]
  split
  · exact h
  · split
    · exact h
    · next q _ => exact ⟨h.1, Or.inr (Int32.not_lt.mp q)⟩
theorem hs_in_rc (h : hs_in (F, u, kr, dn, lf, dw)) : hs_in (hs_rc nw sz x (F, u, kr, dn, lf, dw)).2 := by
  rw [hs_rc]
  split
  · split
    · exact ⟨by show 0 < 2; omega, Or.inl rfl⟩
    · split
      · exact ⟨by show 1 < 2; omega, Or.inl rfl⟩
      · exact h
  · exact h
end OPS
theorem hs_us2 {u sz : Nat} (h : u < 2) : u * sz + sz ≤ 2 * sz := by
  have a := Nat.mul_le_mul_right sz (show u + 1 ≤ 2 by omega)
  rw [Nat.add_mul, Nat.one_mul] at a
  exact a
theorem hs_z0 (f : Nat → Int32) : (fun x => f (0 + x)) = f := funext fun x => by rw [Nat.zero_add]
theorem hs_psp {o k : Nat} {g : Nat → Int32} {ks : List Nat} {x : hs_T} (c : (hs_put o g k x).2 = true) : hs_ps o g (k :: ks) x = hs_ps o g ks (hs_put o g k x).1 := if_pos c
theorem hs_psn {o k : Nat} {g : Nat → Int32} {ks : List Nat} {x : hs_T} (c : (hs_put o g k x).2 = false) : hs_ps o g (k :: ks) x = hs_put o g k x := if_neg (hs_ff c)
theorem hs_pl_root {d N w nw sz j i : Nat} (ok : hs_ok d N w nw sz) (hj : j < N) (v : Nat → Int32) (x : Int32) : (hs_pl d N w nw v j i x).1 (nw + 1 - 1) = (hs_pl d N w nw v j i x).2 := hs_pw_root d (N + j) _ _ (hs_lv_b ok hj)
theorem hs_lf1 {lf : Int32} (h : hs_lo lf) (h0 : ¬ lf = 0) (c : lf ≤ 0) : (if lf = -1 then lf else lf - 1) = lf := by
  rcases h with h | h
  · rw [if_pos h]
  · exact absurd (Int32.le_antisymm c h) h0
theorem hs_lf2 {lf : Int32} (c : ¬ lf ≤ 0) : (if lf = -1 then lf else lf - 1) = lf - 1 := if_neg (fun h => c (by rw [h]; decide))
theorem hs_hb_n {n : Nat} {x : Int32} (c : x < 0) : hs_hb n x = false := by unfold hs_hb; rw [if_pos c]
theorem hs_hb_g {n : Nat} {x : Int32} (c : nI n ≤ x) : hs_hb n x = false := by
  unfold hs_hb
  by_cases q : x < 0
  · rw [if_pos q]
  · rw [if_neg q]; exact decide_eq_false (Int32.not_lt.mpr c)
theorem hs_hb_o {n : Nat} {x : Int32} (c : ¬ x < 0) (c2 : x < nI n) : hs_hb n x = true := by unfold hs_hb; rw [if_neg c]; exact decide_eq_true c2
theorem hs_af {a b : Bool} (h : a = false) : (a && b) = false := by rw [h]; rfl
theorem hs_ag {a b : Bool} (h : b = false) : (a && b) = false := by rw [h]; cases a <;> rfl
theorem hs_at {a b : Bool} (h : a = true) (h2 : b = true) : (a && b) = true := by rw [h, h2]; rfl
theorem hs_rg_c {d N w nw sz j : Nat} (ok : hs_ok d N w nw sz) (hj : j < N) {v v' : Nat → Int32} (H : ∀ x, x < sz → v x = v' x) (k : Int32) : hs_rg d N w nw v k j = hs_rg d N w nw v' k j := by
  obtain ⟨-, hN, hN2, hw, -, hn1, -, hsz, -⟩ := hs_okf ok
  have hr := hs_row ok hj
  unfold hs_rg hs_rt
  rw [hs_ng_c w (j * w) (fun x h1 h2 => H x (by omega)), hs_bl_c w (j * w) _ (fun x h1 h2 => H x (by omega)), hs_up_c hsz H d (N + j) _ (hs_lv_b ok hj) (by omega)]
theorem hs_pl_c {d N w nw sz j i : Nat} (ok : hs_ok d N w nw sz) (hj : j < N) {v v' : Nat → Int32} (H : ∀ x, x < sz → v x = v' x) (x : Int32) : (∀ y, y < sz → (hs_pl d N w nw v j i x).1 y = (hs_pl d N w nw v' j i x).1 y) ∧ (hs_pl d N w nw v j i x).2 = (hs_pl d N w nw v' j i x).2 := by
  obtain ⟨-, hN, hN2, hw, -, hn1, -, hsz, -⟩ := hs_okf ok
  have hr := hs_row ok hj
  have H1 : ∀ y, y < sz → upd v (j * w + i) x y = upd v' (j * w + i) x y := hs_upd_c H
  unfold hs_pl
  rw [hs_bl_c w (j * w) _ (fun x h1 h2 => H1 x (by omega))]
  exact hs_pw_c hsz d (N + j) _ _ _ (hs_lv_b ok hj) (by omega) H1
theorem hs_E_of {d N w nw sz : Nat} (ok : hs_ok d N w nw sz) {g : Nat → Int32} (h : hs_I N w nw 0 g) : hs_E N w nw sz (fun x => if x < sz then g x else 0) := by
  obtain ⟨-, hN, hN2, hw, -, hn1, -, hsz, -⟩ := hs_okf ok
  have e : ∀ x, x < sz → (fun x => if x < sz then g x else 0) x = g x := fun x hx => if_pos hx
  refine ⟨fun j hj => ?_, fun b hb => ?_, fun k h1 h2 => ?_, fun j hj => if_neg (by omega)⟩
  · rw [e j (by omega)]; exact h.1 j hj
  · have hr := hs_row ok hb
    rw [e _ (by omega), h.2.1 b hb (by omega)]
    exact hs_bl_c w (b * w) _ (fun x h4 h5 => (e x (by omega)).symm)
  · rw [e _ (by omega), e _ (by omega), e _ (by omega)]; exact h.2.2 k h1 (by omega) h2
