set_option maxHeartbeats 4000000 in
set_option maxRecDepth 100000 in
/-- THE LAW'S LOOP -/
theorem law_loop {p : Program} {l : Launch} {e : Env} {s : State} {m : MethodId} {below : List Frame} {meth : Method} {c : Code} {dC : Nat → ClassId} {dI : Nat → Nat → Nat} {b L : Nat} {xs : Nat → Int32} (hL : L ≤ 2050) (C0 : lw_At p s m meth c b L xs) {cA : ClassId} {d N w nw sz x0 xd xp m0 md mp : Nat} (ok : hs_ok d N w nw sz) (hK : va_K (dC, dI) vwCl [(cA, .int)] s) : ∀ (n i : Nat), i ≤ 3000 → L + 1 ≤ i + n → lw_K p l e s m below meth c dC dI b cA d N w nw sz x0 xd xp m0 md mp i 38 := by
  have C1 := C0
  obtain ⟨hx, hb, hr, hml, hown, hts, hX, hbl, hlocks, hgv⟩ := C0
  have hts := fun w h => hts w (wsL_law_in w h)
  have hA : ∀ q : Nat, s.heap.size ≤ q → (fun q : Nat => s.heap.size ≤ q) q := fun _ h => h
  have hbA : ¬ (fun q : Nat => s.heap.size ≤ q) b := Nat.not_le.mpr hbl
  intro n
  induction n with
  | zero =>
    intro i hi3 hi y G G2 H locs ls hin hP hD hS hl
    refine lv_iload_n hx hb dL_law_38 rfl (lv_at hl 3 rfl) ?_
    refine lv_aload_n hx hb dL_law_39 rfl (lv_at hl 0 rfl) ?_
    refine hs_slen hx hb hX hbl hbA hS dL_law_40 ?_
    refine lv_iconst (v := nI 4) hx hb dL_law_41 (by decide) ?_
    refine lv_isub hx hb dL_law_42 ?_
    refine lv_icmp_gt (tgt := 418) hx hb dL_law_43 (by decide) (fun c1 => ?_) (fun c1 => ?_)
    · refine lv_iconst (v := 1) hx hb dL_law_418 (by decide) ?_
      refine va_forget (fun q hq => hS.2.2 q hq) ?_
      refine W.widen (k := 600000) (n := 7302250) (Nat.le_of_ble_eq_true rfl) (Nat.le_of_ble_eq_true rfl) ?_
      exact lw_ret hx hb hr hlocks dL_law_419
    · exact absurd (hs_law4 (by omega) (by omega) c1) (by omega)
  | succ n ih =>
    intro i hi3 hi y G G2 H locs ls hin hP hD hS hl
    refine lv_iload_n hx hb dL_law_38 rfl (lv_at hl 3 rfl) ?_
    refine lv_aload_n hx hb dL_law_39 rfl (lv_at hl 0 rfl) ?_
    refine hs_slen hx hb hX hbl hbA hS dL_law_40 ?_
    refine lv_iconst (v := nI 4) hx hb dL_law_41 (by decide) ?_
    refine lv_isub hx hb dL_law_42 ?_
    refine lv_icmp_gt (tgt := 418) hx hb dL_law_43 (by decide) (fun c1 => ?_) (fun c1 => ?_)
    · refine lv_iconst (v := 1) hx hb dL_law_418 (by decide) ?_
      refine va_forget (fun q hq => hS.2.2 q hq) ?_
      refine W.widen (k := 600000) (n := 7302250) (Nat.le_of_ble_eq_true rfl) (Nat.le_of_ble_eq_true rfl) ?_
      exact lw_ret hx hb hr hlocks dL_law_419
    · have hi4 : i + 4 ≤ L := hs_law4 (by omega) (by omega) c1
      have k412 : lw_K p l e s m below meth c dC dI b cA d N w nw sz x0 xd xp m0 md mp i 412 := by
        intro y G G2 H locs ls hin hP hD hS hl
        refine lv_iinc (v := nI (i + 4)) (lv' := [(3, .int (nI (i + 4))), (0, .ref b), (1, .ref x0), (2, .ref m0)]) hx hb dL_law_412 hl (k := 3) rfl (nI_add _ 4) (by decide) rfl (fun ls hl => ?_)
        refine lv_goto (tgt := 38) hx hb dL_law_415 (by decide) ?_
        exact ih (i + 4) (by omega) (by omega) y G G2 H locs ls hin hP hD hS (lv_sub hl [1, 2, 3, 0] rfl)
      refine lv_aload_n hx hb dL_law_46 rfl (lv_at hl 0 rfl) ?_
      refine lv_iload_n hx hb dL_law_47 rfl (lv_at hl 3 rfl) ?_
      refine hs_sld hx hb hX hbl hbA hS (k := i) (by omega) (by omega) dL_law_48 ?_
      refine lv_bipush (v := 15) hx hb dL_law_49 (by decide) ?_
      refine lv_iand hx hb dL_law_51 ?_
      obtain ⟨j, hj, ej⟩ := pk_andE (xs i) (m := 15) 4 (by decide)
      rw [ej]
      match j, hj with
      | 0, _ => exact lv_tableIn (tgt := 124) (off := 72) hx hb dL_law_52 (by decide) (by decide) (by decide) (by decide) (law_format hL C1 ok hK hi4 k412 y G G2 H locs ls hin hP hD hS hl)
      | 1, _ => exact lv_tableIn (tgt := 137) (off := 85) hx hb dL_law_52 (by decide) (by decide) (by decide) (by decide) (law_write hL C1 ok hK hi4 k412 y G G2 H locs ls hin hP hD hS hl)
      | 2, _ => exact lv_tableIn (tgt := 180) (off := 128) hx hb dL_law_52 (by decide) (by decide) (by decide) (by decide) (law_read hL C1 ok hK hi4 k412 y G G2 H locs ls hin hP hD hS hl)
      | 3, _ => exact lv_tableIn (tgt := 213) (off := 161) hx hb dL_law_52 (by decide) (by decide) (by decide) (by decide) (law_verify hL C1 ok hK hi4 k412 y G G2 H locs ls hin hP hD hS hl)
      | 4, _ => exact lv_tableIn (tgt := 236) (off := 184) hx hb dL_law_52 (by decide) (by decide) (by decide) (by decide) (law_root hL C1 ok hK hi4 k412 y G G2 H locs ls hin hP hD hS hl)
      | 5, _ => exact lv_tableIn (tgt := 249) (off := 197) hx hb dL_law_52 (by decide) (by decide) (by decide) (by decide) (law_audit hL C1 ok hK hi4 k412 y G G2 H locs ls hin hP hD hS hl)
      | 6, _ => exact lv_tableIn (tgt := 262) (off := 210) hx hb dL_law_52 (by decide) (by decide) (by decide) (by decide) (law_tamper hL C1 ok hK hi4 k412 y G G2 H locs ls hin hP hD hS hl)
      | 7, _ => exact lv_tableIn (tgt := 293) (off := 241) hx hb dL_law_52 (by decide) (by decide) (by decide) (by decide) (law_crashAfter hL C1 ok hK hi4 k412 y G G2 H locs ls hin hP hD hS hl)
      | 8, _ => exact lv_tableIn (tgt := 314) (off := 262) hx hb dL_law_52 (by decide) (by decide) (by decide) (by decide) (law_recover hL C1 ok hK hi4 k412 y G G2 H locs ls hin hP hD hS hl)
      | 9, _ => exact lv_tableIn (tgt := 337) (off := 285) hx hb dL_law_52 (by decide) (by decide) (by decide) (by decide) (law_cells hL C1 ok hK hi4 k412 y G G2 H locs ls hin hP hD hS hl)
      | 10, _ => exact lv_tableIn (tgt := 350) (off := 298) hx hb dL_law_52 (by decide) (by decide) (by decide) (by decide) (law_peek hL C1 ok hK hi4 k412 y G G2 H locs ls hin hP hD hS hl)
      | 11, _ => exact lv_tableIn (tgt := 373) (off := 321) hx hb dL_law_52 (by decide) (by decide) (by decide) (by decide) (law_writes hL C1 ok hK hi4 k412 y G G2 H locs ls hin hP hD hS hl)
      | 12, _ => exact lv_tableIn (tgt := 386) (off := 334) hx hb dL_law_52 (by decide) (by decide) (by decide) (by decide) (law_slot hL C1 ok hK hi4 k412 y G G2 H locs ls hin hP hD hS hl)
      | 13, _ => exact lv_tableIn (tgt := 399) (off := 347) hx hb dL_law_52 (by decide) (by decide) (by decide) (by decide) (law_down hL C1 ok hK hi4 k412 y G G2 H locs ls hin hP hD hS hl)
      | 14, _ => exact lv_tableOut (tgt := 412) hx hb dL_law_52 (Or.inr (by decide)) (by decide) (k412 y G G2 H locs ls hin hP hD hS hl)
      | 15, _ => exact lv_tableOut (tgt := 412) hx hb dL_law_52 (Or.inr (by decide)) (by decide) (k412 y G G2 H locs ls hin hP hD hS hl)
      | n + 16, h => exact absurd h (by omega)
set_option maxHeartbeats 4000000 in
set_option maxRecDepth 100000 in
/-- THE LAW, from its entry -/
theorem whole_start {p : Program} {e : Env} {s : State} {m : MethodId} {below : List Frame} {meth : Method} {c : Code} (l : Launch) {b L : Nat} {xs : Nat → Int32} (hL : L ≤ 2050) (C0 : lw_At p s m meth c b L xs) : W p l e room_1 s m #[Value.ref b] below meth c s.heap [] 0 0 (lw_Z below #[Value.ref b] s) (entryFrame m ([Value.ref b] : List Value).toArray 4) := by
  have C1 := C0
  obtain ⟨hx, hb, hr, hml, hown, hts, hX, hbl, hlocks, hgv⟩ := C0
  have hts := fun w h => hts w (wsL_law_in w h)
  have hA : ∀ q : Nat, s.heap.size ≤ q → (fun q : Nat => s.heap.size ≤ q) q := fun _ h => h
  have hbA : ¬ (fun q : Nat => s.heap.size ≤ q) b := Nat.not_le.mpr hbl
  obtain ⟨c0, iS0, hKn0⟩ := u_known (C := RX0) (T := TX0) (N := 12) (n := 12) hts inlX0 (hts (.instantiable RX0 12) (by decide +kernel))
  obtain ⟨c1, iS1, hKn1⟩ := u_known (C := RX1) (T := TX1) (N := 11) (n := 11) hts inlX1 (hts (.instantiable RX1 11) (by decide +kernel))
  obtain ⟨dC, dI, hKc⟩ : ∃ (dC : Nat → ClassId) (dI : Nat → Nat → Nat), ∀ (k : Nat) (q : vw_C), vwCl[k]? = some q → u_Kn s q.1 q.2.1 q.2.2 (dC k) (dI k) := by
    refine ⟨fun k => if k = 0 then c0 else c1, fun k => if k = 0 then iS0 else iS1, ?_⟩
    intro k q hq
    match k, hq with
    | 0, hq => cases hq; exact hKn0
    | 1, hq => cases hq; exact hKn1
    | k + 2, hq => simp [vwCl] at hq
  have hS : va_S (fun q : Nat => s.heap.size ≤ q) s.heap s.heap [] := va_S.rf
  have hK : va_K (dC, dI) vwCl [] s := ⟨hKc, fun k q h => by simp at h⟩
  have hP : va_P (dC, dI) vwCl [] s.heap := fun k q h => by simp at h
  have hD : va_D (fun q : Nat => s.heap.size ≤ q) [] := ⟨fun i j p q h => by simp at h, fun k q h => by simp at h⟩
  have hl := lv_entry ([.ref b]) (n := 4) (Nat.le_of_ble_eq_true rfl)
  rw [lg_entry_eq]
  generalize (lg_sl ([.ref b]) ++ List.replicate (4 - (lg_sl ([.ref b])).length) Slot.unset).toArray = ls at hl ⊢
  have hl : lv_has ls 4 [(0, .ref b)] := hl
  obtain ⟨p1, ep1⟩ : ∃ x, x = hs_sc xs L 0 := ⟨_, rfl⟩
  obtain ⟨p2, ep2⟩ : ∃ x, x = hs_sc xs L 1 := ⟨_, rfl⟩
  obtain ⟨d, N, w, nw, sz, ok, ed, ew⟩ : ∃ d N w nw sz, hs_ok d N w nw sz ∧ d = hs_cd p1 ∧ w = hs_cw p2 := ⟨_, _, _, _, _, hs_ok_c p1 p2, rfl, rfl⟩
  refine va_new (ci := 0) (fs := [.int 0, .int 0, .int 0, .int 0, .int 0, .null, .null, .int 0, .int 0, .int 0, .int 0, .int 0]) (C := RX0) (T := TX0) (N := 12) hx hb hts inlX0 tyX0 tyX0_ok hown (hts (.classLink RL 7 RX0) (by decide +kernel)) (hts (.instantiable RX0 12) (by decide +kernel)) (hts (.initialized RX0) (by decide +kernel)) hK hP hD hS hA rfl (fun j hj => by rcases (show j = 0 ∨ j = 1 ∨ j = 2 ∨ j = 3 ∨ j = 4 ∨ j = 5 ∨ j = 6 ∨ j = 7 ∨ j = 8 ∨ j = 9 ∨ j = 10 ∨ j = 11 by omega) with rfl | rfl | rfl | rfl | rfl | rfl | rfl | rfl | rfl | rfl | rfl | rfl <;> rfl) (Nat.le_of_ble_eq_true rfl) (Nat.le_of_ble_eq_true rfl) dL_law_0 (fun x0 H hP hD hS => ?_)
  have hP : va_P (dC, dI) vwCl [(x0, .inr (0, [.int 0, .int 0, .int 0, .int 0, .int 0, .null, .null, .int 0, .int 0, .int 0, .int 0, .int 0]))] H := hP
  have hD : va_D (fun q : Nat => s.heap.size ≤ q) [(x0, .inr (0, [.int 0, .int 0, .int 0, .int 0, .int 0, .null, .null, .int 0, .int 0, .int 0, .int 0, .int 0]))] := hD
  refine lv_dup hx hb dL_law_3 rfl ?_
  refine lv_aload_n hx hb dL_law_4 rfl (lv_at hl 0 rfl) ?_
  refine lv_iconst (v := nI 0) hx hb dL_law_5 (by decide) ?_
  refine hs_pe (v := hs_sc xs L 0) (va_runS (As := [.ref b, .int (nI 0)]) (rest := [.ref x0, .ref x0]) ⟨hx, hb, hml, hown, hts⟩ (kL_cell l b L xs 0 hL (by omega)) (va_cwS 2 hts gL_law_L_cell rfl rfl rfl (by decide +kernel) ⟨(Nat.le_of_ble_eq_true rfl), (Nat.le_of_ble_eq_true rfl)⟩) (hs_preC hX hbl hbA hS) rfl rfl hl.1 rfl (lv_room (Nat.le_of_ble_eq_true rfl)) dL_law_6 ⟨(Nat.le_of_ble_eq_true rfl), (Nat.le_of_ble_eq_true rfl)⟩) hS hP (fun H locs hP hS => ?_)
  rw [← ep1]
  refine lv_aload_n hx hb dL_law_9 rfl (lv_at hl 0 rfl) ?_
  refine lv_iconst (v := nI 1) hx hb dL_law_10 (by decide) ?_
  refine hs_pe (v := hs_sc xs L 1) (va_runS (As := [.ref b, .int (nI 1)]) (rest := [.int p1, .ref x0, .ref x0]) ⟨hx, hb, hml, hown, hts⟩ (kL_cell l b L xs 1 hL (by omega)) (va_cwS 2 hts gL_law_L_cell rfl rfl rfl (by decide +kernel) ⟨(Nat.le_of_ble_eq_true rfl), (Nat.le_of_ble_eq_true rfl)⟩) (hs_preC hX hbl hbA hS) rfl rfl hl.1 rfl (lv_room (Nat.le_of_ble_eq_true rfl)) dL_law_11 ⟨(Nat.le_of_ble_eq_true rfl), (Nat.le_of_ble_eq_true rfl)⟩) hS hP (fun H locs hP hS => ?_)
  rw [← ep2]
  have hPc := hP.sub (ws' := [(x0, .inr (0, [.int 0, .int 0, .int 0, .int 0, .int 0, .null, .null, .int 0, .int 0, .int 0, .int 0, .int 0]))]) [0] rfl
  have hDc := hD.sub (ws' := [(x0, .inr (0, [.int 0, .int 0, .int 0, .int 0, .int 0, .null, .null, .int 0, .int 0, .int 0, .int 0, .int 0]))]) [0] (by decide) rfl
  have hFc := va_free (wc := [(x0, .inr (0, [.int 0, .int 0, .int 0, .int 0, .int 0, .null, .null, .int 0, .int 0, .int 0, .int 0, .int 0]))]) hD hS hA [0] rfl
  have hK0 : va_K (dC, dI) vwCl [] s := hK.sub [] rfl
  refine va_callv (va_runI (As := [.int p1, .int p2]) (rest := [.ref x0]) ⟨hx, hb, hml, hown, hts⟩ (kX0_init l dC dI x0 d N w nw sz ok p1 p2 ed ew _) (cwI 2 hts gL_law_X0_init rfl rfl rfl (hts (.initialized RX0) (by decide +kernel)) (hts (.methodLink RL 15 yX0_init) (by decide +kernel)) (hts (.instanceMethod yX0_init) (by decide +kernel)) rfl (by decide +kernel) ⟨(Nat.le_of_ble_eq_true rfl), (Nat.le_of_ble_eq_true rfl)⟩) (hs_preI hK0 hPc hDc) rfl rfl hl.1 rfl (lv_room (Nat.le_of_ble_eq_true rfl)) dL_law_14 ⟨(Nat.le_of_ble_eq_true rfl), (Nat.le_of_ble_eq_true rfl)⟩) hS (fun q _ h => hFc q h) hFc (fun uu t H1 locs ht hvm hw hB hz1 hk1 hS => ?_)
  obtain ⟨xd, xp, cA, F9, g9⟩ := uu
  have hE : hs_E N w nw sz F9 := hw
  obtain ⟨hP1, hK1, hD1⟩ := hB
  rw [ht] at hP1
  have hK : va_K (dC, dI) vwCl [(cA, .int)] s := va_K.moved hvm.symm hK1
  obtain ⟨hP, hD⟩ := va_join (wr := []) (w1 := (wfX x0 xd xp cA d N w nw sz ((F9, 0, F9 (nw + 1 - 1), 0, -1, false), g9))) hP hD [0] [] rfl rfl (by decide) (by decide) hk1 hFc hP1 hD1
  generalize H1 = H at hP hS ⊢
  have hP : va_P (dC, dI) vwCl (wfX x0 xd xp cA d N w nw sz ((F9, 0, F9 (nw + 1 - 1), 0, -1, false), g9)) H := hP
  have hD : va_D (fun q : Nat => s.heap.size ≤ q) (wfX x0 xd xp cA d N w nw sz ((F9, 0, F9 (nw + 1 - 1), 0, -1, false), g9)) := hD
  refine lv_astore_n (lv' := [(1, .ref x0), (0, .ref b)]) hx hb dL_law_17 rfl hl (by decide) rfl (fun ls hl => ?_)
  refine va_new (ci := 1) (fs := [.int 0, .int 0, .int 0, .int 0, .null, .null, .int 0, .int 0, .int 0, .int 0, .int 0]) (C := RX1) (T := TX1) (N := 11) hx hb hts inlX1 tyX1 tyX1_ok hown (hts (.classLink RL 18 RX1) (by decide +kernel)) (hts (.instantiable RX1 11) (by decide +kernel)) (hts (.initialized RX1) (by decide +kernel)) hK hP hD hS hA rfl (fun j hj => by rcases (show j = 0 ∨ j = 1 ∨ j = 2 ∨ j = 3 ∨ j = 4 ∨ j = 5 ∨ j = 6 ∨ j = 7 ∨ j = 8 ∨ j = 9 ∨ j = 10 by omega) with rfl | rfl | rfl | rfl | rfl | rfl | rfl | rfl | rfl | rfl | rfl <;> rfl) (Nat.le_of_ble_eq_true rfl) (Nat.le_of_ble_eq_true rfl) dL_law_18 (fun m0 H hP hD hS => ?_)
  have hP : va_P (dC, dI) vwCl ((wfX x0 xd xp cA d N w nw sz ((F9, 0, F9 (nw + 1 - 1), 0, -1, false), g9)) ++ [(m0, .inr (1, [.int 0, .int 0, .int 0, .int 0, .null, .null, .int 0, .int 0, .int 0, .int 0, .int 0]))]) H := hP
  have hD : va_D (fun q : Nat => s.heap.size ≤ q) ((wfX x0 xd xp cA d N w nw sz ((F9, 0, F9 (nw + 1 - 1), 0, -1, false), g9)) ++ [(m0, .inr (1, [.int 0, .int 0, .int 0, .int 0, .null, .null, .int 0, .int 0, .int 0, .int 0, .int 0]))]) := hD
  refine lv_dup hx hb dL_law_21 rfl ?_
  refine lv_aload_n hx hb dL_law_22 rfl (lv_at hl 1 rfl) ?_
  refine lv_iconst (v := nI 0) hx hb dL_law_23 (by decide) ?_
  refine hs_pe (v := hs_sc xs L 0) (va_runS (As := [.ref b, .int (nI 0)]) (rest := [.ref m0, .ref m0]) ⟨hx, hb, hml, hown, hts⟩ (kL_cell l b L xs 0 hL (by omega)) (va_cwS 2 hts gL_law_L_cell rfl rfl rfl (by decide +kernel) ⟨(Nat.le_of_ble_eq_true rfl), (Nat.le_of_ble_eq_true rfl)⟩) (hs_preC hX hbl hbA hS) rfl rfl hl.1 rfl (lv_room (Nat.le_of_ble_eq_true rfl)) dL_law_24 ⟨(Nat.le_of_ble_eq_true rfl), (Nat.le_of_ble_eq_true rfl)⟩) hS hP (fun H locs hP hS => ?_)
  rw [← ep1]
  refine lv_aload_n hx hb dL_law_27 rfl (lv_at hl 1 rfl) ?_
  refine lv_iconst (v := nI 1) hx hb dL_law_28 (by decide) ?_
  refine hs_pe (v := hs_sc xs L 1) (va_runS (As := [.ref b, .int (nI 1)]) (rest := [.int p1, .ref m0, .ref m0]) ⟨hx, hb, hml, hown, hts⟩ (kL_cell l b L xs 1 hL (by omega)) (va_cwS 2 hts gL_law_L_cell rfl rfl rfl (by decide +kernel) ⟨(Nat.le_of_ble_eq_true rfl), (Nat.le_of_ble_eq_true rfl)⟩) (hs_preC hX hbl hbA hS) rfl rfl hl.1 rfl (lv_room (Nat.le_of_ble_eq_true rfl)) dL_law_29 ⟨(Nat.le_of_ble_eq_true rfl), (Nat.le_of_ble_eq_true rfl)⟩) hS hP (fun H locs hP hS => ?_)
  rw [← ep2]
  have hPc := hP.sub (ws' := [(m0, .inr (1, [.int 0, .int 0, .int 0, .int 0, .null, .null, .int 0, .int 0, .int 0, .int 0, .int 0]))]) [3] rfl
  have hDc := hD.sub (ws' := [(m0, .inr (1, [.int 0, .int 0, .int 0, .int 0, .null, .null, .int 0, .int 0, .int 0, .int 0, .int 0]))]) [3] (by decide) rfl
  have hFc := va_free (wc := [(m0, .inr (1, [.int 0, .int 0, .int 0, .int 0, .null, .null, .int 0, .int 0, .int 0, .int 0, .int 0]))]) hD hS hA [3] rfl
  have hK0 : va_K (dC, dI) vwCl [] s := hK.sub [] rfl
  refine va_callv (va_runI (As := [.int p1, .int p2]) (rest := [.ref m0]) ⟨hx, hb, hml, hown, hts⟩ (kX1_init l dC dI m0 d N w nw sz ok p1 p2 ed ew _) (cwI 2 hts gL_law_X1_init rfl rfl rfl (hts (.initialized RX1) (by decide +kernel)) (hts (.methodLink RL 20 yX1_init) (by decide +kernel)) (hts (.instanceMethod yX1_init) (by decide +kernel)) rfl (by decide +kernel) ⟨(Nat.le_of_ble_eq_true rfl), (Nat.le_of_ble_eq_true rfl)⟩) (hs_preI hK0 hPc hDc) rfl rfl hl.1 rfl (lv_room (Nat.le_of_ble_eq_true rfl)) dL_law_32 ⟨(Nat.le_of_ble_eq_true rfl), (Nat.le_of_ble_eq_true rfl)⟩) hS (fun q _ h => hFc q h) hFc (fun uu t H1 locs ht hvm hw hB hz1 hk1 hS => ?_)
  obtain ⟨md, mp, cB, F8, g8⟩ := uu
  have hE8 : hs_E N w nw sz F8 := hw
  obtain ⟨hP1, hK1, hD1⟩ := hB
  rw [ht] at hP1
  have hK2 : va_K (dC, dI) vwCl [(cB, .int)] s := va_K.moved hvm.symm hK1
  obtain ⟨hP, hD⟩ := va_join (wr := (wfX x0 xd xp cA d N w nw sz ((F9, 0, F9 (nw + 1 - 1), 0, -1, false), g9))) (w1 := (wfM m0 md mp cB d N w nw sz ((F8, 0, F8 (nw + 1 - 1), 0, -1, false), g8))) hP hD [3] [0, 1, 2] rfl rfl (by decide) (by decide) hk1 hFc hP1 hD1
  generalize H1 = H at hP hS ⊢
  have hAB : cA = cB := hs_sameA (hK.app hK2)
  subst hAB
  have hEE := hs_E_u ok hE hE8
  subst hEE
  refine lv_astore_n (lv' := [(2, .ref m0), (1, .ref x0), (0, .ref b)]) hx hb dL_law_35 rfl hl (by decide) rfl (fun ls hl => ?_)
  refine lv_iconst (v := nI 2) hx hb dL_law_36 (by decide) ?_
  refine lv_istore_n (lv' := [(3, .int (nI 2)), (2, .ref m0), (1, .ref x0), (0, .ref b)]) hx hb dL_law_37 rfl hl (by decide) rfl (fun ls hl => ?_)
  refine W.widen (k := 6) (n := 1688) (Nat.le_of_ble_eq_true rfl) (Nat.le_of_ble_eq_true rfl) ?_
  exact law_loop hL C1 ok hK (L + 1) 2 (by omega) (by omega) (F9, 0, F9 (nw + 1 - 1), 0, -1, false) g9 g8 H locs ls ⟨Nat.zero_lt_succ 1, Or.inl rfl⟩ hP hD hS (lv_sub hl [3, 2, 1, 0] rfl)
