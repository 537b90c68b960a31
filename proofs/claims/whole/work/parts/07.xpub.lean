set_option maxHeartbeats 4000000 in
set_option maxRecDepth 100000 in
theorem kX0_startAnew (l : Launch) (dC : Nat → ClassId) (dI : Nat → Nat → Nat) (h0 hd hp : Nat) (cA : ClassId) (d N w nw sz u : Nat) (F G : Nat → Int32) (kr dn lf : Int32) (dw : Bool) (ok : hs_ok d N w nw sz) (zz : Nat)  : Met l yX0_startAnew wsX0_startAnew ({ frames := 3, cells := 0, slots := 0, locals := 68 }) (va_Pc [.ref h0] (hs_pm (dC, dI) vwCl [(cA, .int)] [oX_ h0 hd hp d N w nw sz u kr dn lf dw, ar_ hd cA (2 * sz) F, ar_ hp cA sz G] zz)) (va_Qv (S := hs_S × (Nat → Int32)) (fun uu => ∃ F9, uu = ((F9, 0, F9 (nw + 1 - 1), 0, -1, false), G) ∧ hs_E N w nw sz F9) (hs_B (dC, dI) vwCl [(cA, .int)] (wfX h0 hd hp cA d N w nw sz) (va_A [oX_ h0 hd hp d N w nw sz u kr dn lf dw, ar_ hd cA (2 * sz) F, ar_ hp cA sz G] zz)) (va_A [oX_ h0 hd hp d N w nw sz u kr dn lf dw, ar_ hd cA (2 * sz) F, ar_ hp cA sz G] zz)) 0 0 (va_A [oX_ h0 hd hp d N w nw sz u kr dn lf dw, ar_ hd cA (2 * sz) F, ar_ hp cA sz G] zz) := by
  refine Met.ofW (cc := cX0_startAnew) (maxL := 1) (ret := none) (by decide) rfl ?_
  intro p e s m args below meth c s₁ B hml hv
  obtain ⟨rfl, hzz, hP, hK, hD0⟩ := hv
  have hx := B.exec
  have hb := B.bytes
  have hr := B.returns
  have hts := atoms_spec (ws := wsX0_startAnew) B.pre
  have hown : s.vm.findClass RX0 = some m.cls := findClass_of_methodNamed B.named
  have hlocks := B.notSynchronized
  obtain ⟨hd5, hN1, hN2, hw1, hw2, hn1, hn2, hsz, hsz2⟩ := hs_okf ok
  have hnw : nw = N * w := ok.2.2.2.2.1
  subst hzz
  have hD := hD0.self (sz := s.heap.size)
  have hS : va_S (va_A [oX_ h0 hd hp d N w nw sz u kr dn lf dw, ar_ hd cA (2 * sz) F, ar_ hp cA sz G] s.heap.size) s.heap s.heap [] := va_S.rf
  have hA : ∀ q : Nat, s.heap.size ≤ q → va_A [oX_ h0 hd hp d N w nw sz u kr dn lf dw, ar_ hd cA (2 * sz) F, ar_ hp cA sz G] s.heap.size q := fun q h => Or.inr h
  have hl := lv_entry ([.ref h0]) (n := 1) (Nat.le_of_ble_eq_true rfl)
  rw [lg_entry_eq]
  generalize (lg_sl ([.ref h0]) ++ List.replicate (1 - (lg_sl ([.ref h0])).length) Slot.unset).toArray = ls at hl ⊢
  have hl : lv_has ls 1 [(0, .ref h0)] := hl
  refine lv_aload_n hx hb dX0_startAnew_0 rfl (lv_at hl 0 rfl) ?_
  refine va_get (D := (dC, dI)) (ci := 0) (v := .ref hd) (C := RX0) (T := TX0) (N := 12) hx hb hts (by decide +kernel) hown hK hP 0 rfl rfl 5 (by decide) (hts (.fieldLink RX0 34 "HashedStore" "disk" "[I") (by decide +kernel)) (fun _ h9 => h9) rfl dX0_startAnew_1 ?_
  refine lv_iconst (v := nI 0) hx hb dX0_startAnew_4 (by decide) ?_
  have hPc := hP.sub (ws' := [ar_ hd cA (2 * sz) F]) [1] rfl
  have hDc := hD.sub (ws' := [ar_ hd cA (2 * sz) F]) [1] (by decide) rfl
  have hFc := va_free (wc := [ar_ hd cA (2 * sz) F]) hD hS hA [1] rfl
  refine va_callv (va_runS (As := [.ref hd, .int (nI 0)]) (rest := []) ⟨hx, hb, hml, hown, hts⟩ (kJ7_fill l dC dI hd cA (2 * sz) F (nI 0) (by omega) _) (va_cwS 2 hts gX0_startAnew_J7_fill_53178 rfl rfl rfl (by decide +kernel) ⟨(Nat.le_of_ble_eq_true rfl), (Nat.le_of_ble_eq_true rfl)⟩) (hs_preI hK hPc hDc) rfl rfl hl.1 rfl (lv_room (Nat.le_of_ble_eq_true rfl)) dX0_startAnew_5 ⟨Nat.zero_le _, Nat.zero_le _⟩) hS (fun q _ h => hFc q h) hFc (fun g t H1 locs ht hvm hw hB hz1 hk1 hS => ?_)
  obtain ⟨hP1, hK1, hD1⟩ := hB
  rw [ht] at hP1
  obtain ⟨hP, hD⟩ := va_join (wr := [oX_ h0 hd hp d N w nw sz u kr dn lf dw, ar_ hp cA sz G]) (w1 := [ar_ hd cA (2 * sz) g]) hP hD [1] [0, 2] rfl rfl (by decide) (by decide) hk1 hFc hP1 hD1
  generalize H1 = H at hP hS ⊢
  have hP := hP.sub (ws' := [oX_ h0 hd hp d N w nw sz u kr dn lf dw, ar_ hd cA (2 * sz) g, ar_ hp cA sz G]) [0, 2, 1] rfl
  have hD := hD.sub (ws' := [oX_ h0 hd hp d N w nw sz u kr dn lf dw, ar_ hd cA (2 * sz) g, ar_ hp cA sz G]) [0, 2, 1] (by decide) rfl
  obtain ⟨hP, hD⟩ := hs_repP (q0 := 1) (g := fun _ => 0) hP hD rfl (fun j hj => (hw j hj).trans nI_0)
  have hP : va_P (dC, dI) vwCl [oX_ h0 hd hp d N w nw sz u kr dn lf dw, ar_ hd cA (2 * sz) (fun _ => 0), ar_ hp cA sz G] H := hP
  have hD : va_D (va_A [oX_ h0 hd hp d N w nw sz u kr dn lf dw, ar_ hd cA (2 * sz) F, ar_ hp cA sz G] s.heap.size) [oX_ h0 hd hp d N w nw sz u kr dn lf dw, ar_ hd cA (2 * sz) (fun _ => 0), ar_ hp cA sz G] := hD
  refine lv_aload_n hx hb dX0_startAnew_8 rfl (lv_at hl 0 rfl) ?_
  refine hs_cv (va_runV (As := []) (rest := []) ⟨hx, hb, hml, hown, hts⟩ (kX0_makeAllNodesOfFirstArea l dC dI h0 hd hp cA d N w nw sz u (fun _ => 0) G kr dn lf dw ok _ (fun _ => rfl)) (cwV 0 hts gX0_startAnew_X0_makeAllNodesOfFirstArea rfl rfl rfl (by decide +kernel) ⟨(Nat.le_of_ble_eq_true rfl), (Nat.le_of_ble_eq_true rfl)⟩) (hs_preM (q := (RX0, TX0, 12)) (ci := 0) hK hP hD rfl rfl) rfl rfl hl.1 rfl (lv_room (Nat.le_of_ble_eq_true rfl)) dX0_startAnew_9 ⟨Nat.zero_le _, Nat.zero_le _⟩) hS hD hA (fun v H locs hv hP hD hS => ?_)
  obtain ⟨F9, rfl, hE⟩ := hv
  have hP : va_P (dC, dI) vwCl [oX_ h0 hd hp d N w nw sz u kr dn lf dw, ar_ hd cA (2 * sz) F9, ar_ hp cA sz G] H := hP
  have hD : va_D (va_A [oX_ h0 hd hp d N w nw sz u kr dn lf dw, ar_ hd cA (2 * sz) F, ar_ hp cA sz G] s.heap.size) [oX_ h0 hd hp d N w nw sz u kr dn lf dw, ar_ hd cA (2 * sz) F9, ar_ hp cA sz G] := hD
  refine lv_aload_n hx hb dX0_startAnew_12 rfl (lv_at hl 0 rfl) ?_
  refine lv_iconst (v := nI 0) hx hb dX0_startAnew_13 (by decide) ?_
  refine lv_aload_n hx hb dX0_startAnew_14 rfl (lv_at hl 0 rfl) ?_
  refine va_get (D := (dC, dI)) (ci := 0) (v := .ref hd) (C := RX0) (T := TX0) (N := 12) hx hb hts (by decide +kernel) hown hK hP 0 rfl rfl 5 (by decide) (hts (.fieldLink RX0 34 "HashedStore" "disk" "[I") (by decide +kernel)) (fun _ h9 => h9) rfl dX0_startAnew_15 ?_
  refine lv_aload_n hx hb dX0_startAnew_18 rfl (lv_at hl 0 rfl) ?_
  refine lv_iconst (v := nI 1) hx hb dX0_startAnew_19 (by decide) ?_
  refine hs_pe (v := nI (nw + 1 - 1)) (va_runV (As := [.int (nI 1)]) (rest := [.ref hd, .int (nI 0), .ref h0]) ⟨hx, hb, hml, hown, hts⟩ (kX0_nodeCell l dC dI h0 hd hp cA d N w nw sz u F9 G kr dn lf dw ok 1) (cwV 1 hts gX0_startAnew_X0_nodeCell rfl rfl rfl (by decide +kernel) ⟨(Nat.le_of_ble_eq_true rfl), (Nat.le_of_ble_eq_true rfl)⟩) (hs_preV (q := (RX0, TX0, 12)) (ci := 0) hK (hP.sub [0] rfl) rfl rfl) rfl rfl hl.1 rfl (lv_room (Nat.le_of_ble_eq_true rfl)) dX0_startAnew_20 ⟨Nat.zero_le _, Nat.zero_le _⟩) hS hP (fun H locs hP hS => ?_)
  refine hs_ald hx hb hK hP 1 0 rfl rfl (k := nw + 1 - 1) (by omega) (by omega) dX0_startAnew_23 ?_
  refine hs_cv (va_runV (As := [.int (nI 0), .int (F9 (nw + 1 - 1))]) (rest := []) ⟨hx, hb, hml, hown, hts⟩ (kX0_turnTo l dC dI h0 hd hp cA d N w nw sz u F9 G kr dn lf dw ok _ 0 (F9 (nw + 1 - 1))) (cwV 2 hts gX0_startAnew_X0_turnTo rfl rfl rfl (by decide +kernel) ⟨(Nat.le_of_ble_eq_true rfl), (Nat.le_of_ble_eq_true rfl)⟩) (hs_preM (q := (RX0, TX0, 12)) (ci := 0) hK hP hD rfl rfl) rfl rfl hl.1 rfl (lv_room (Nat.le_of_ble_eq_true rfl)) dX0_startAnew_24 ⟨Nat.zero_le _, Nat.zero_le _⟩) hS hD hA (fun v H locs hv hP hD hS => ?_)
  subst hv
  have hP : va_P (dC, dI) vwCl [oX_ h0 hd hp d N w nw sz 0 (F9 (nw + 1 - 1)) dn lf dw, ar_ hd cA (2 * sz) F9, ar_ hp cA sz G] H := hP
  have hD : va_D (va_A [oX_ h0 hd hp d N w nw sz u kr dn lf dw, ar_ hd cA (2 * sz) F, ar_ hp cA sz G] s.heap.size) [oX_ h0 hd hp d N w nw sz 0 (F9 (nw + 1 - 1)) dn lf dw, ar_ hd cA (2 * sz) F9, ar_ hp cA sz G] := hD
  refine lv_aload_n hx hb dX0_startAnew_27 rfl (lv_at hl 0 rfl) ?_
  refine lv_iconst (v := 0) hx hb dX0_startAnew_28 (by decide) ?_
  refine va_put (D := (dC, dI)) (ci := 0) (v := .int 0) (ty := .int) (C := RX0) (T := TX0) (N := 12) hx hb hts (by decide +kernel) tyX0 tyX0_ok nmX0 hown hK hP hD hS 0 rfl rfl 9 (by decide) (hts (.fieldLink RX0 95 "HashedStore" "writeCount" "I") (by decide +kernel)) (fun _ h9 => h9) rfl (by decide +kernel) rfl rfl (Nat.le_of_ble_eq_true rfl) dX0_startAnew_29 (fun H locs hP hD hS => ?_)
  have hP : va_P (dC, dI) vwCl [oX_ h0 hd hp d N w nw sz 0 (F9 (nw + 1 - 1)) 0 lf dw, ar_ hd cA (2 * sz) F9, ar_ hp cA sz G] H := hP
  have hD : va_D (va_A [oX_ h0 hd hp d N w nw sz u kr dn lf dw, ar_ hd cA (2 * sz) F, ar_ hp cA sz G] s.heap.size) [oX_ h0 hd hp d N w nw sz 0 (F9 (nw + 1 - 1)) 0 lf dw, ar_ hd cA (2 * sz) F9, ar_ hp cA sz G] := hD
  refine lv_aload_n hx hb dX0_startAnew_32 rfl (lv_at hl 0 rfl) ?_
  refine hs_cv (va_runV (As := []) (rest := []) ⟨hx, hb, hml, hown, hts⟩ (kX0_comeUp l dC dI h0 hd hp cA d N w nw sz 0 F9 G (F9 (nw + 1 - 1)) 0 lf dw ok _ ) (cwV 0 hts gX0_startAnew_X0_comeUp rfl rfl rfl (by decide +kernel) ⟨(Nat.le_of_ble_eq_true rfl), (Nat.le_of_ble_eq_true rfl)⟩) (hs_preM (q := (RX0, TX0, 12)) (ci := 0) hK hP hD rfl rfl) rfl rfl hl.1 rfl (lv_room (Nat.le_of_ble_eq_true rfl)) dX0_startAnew_33 ⟨Nat.zero_le _, Nat.zero_le _⟩) hS hD hA (fun v H locs hv hP hD hS => ?_)
  subst hv
  have hP : va_P (dC, dI) vwCl [oX_ h0 hd hp d N w nw sz 0 (F9 (nw + 1 - 1)) 0 (-1) false, ar_ hd cA (2 * sz) F9, ar_ hp cA sz G] H := hP
  have hD : va_D (va_A [oX_ h0 hd hp d N w nw sz u kr dn lf dw, ar_ hd cA (2 * sz) F, ar_ hp cA sz G] s.heap.size) [oX_ h0 hd hp d N w nw sz 0 (F9 (nw + 1 - 1)) 0 (-1) false, ar_ hd cA (2 * sz) F9, ar_ hp cA sz G] := hD
  exact W.vret hx hb hr (fun t ht hW => ⟨⟨((F9, 0, (F9 (nw + 1 - 1)), 0, (-1), false), G), rfl, ⟨F9, rfl, hE⟩, by rw [ht]; exact hP, va_K.moved hW.alike hK, hD⟩, hS.F ht⟩) hS.2.2 dX0_startAnew_36
set_option maxHeartbeats 4000000 in
set_option maxRecDepth 100000 in
theorem kX0_format (l : Launch) (dC : Nat → ClassId) (dI : Nat → Nat → Nat) (h0 hd hp : Nat) (cA : ClassId) (d N w nw sz u : Nat) (F G : Nat → Int32) (kr dn lf : Int32) (dw : Bool) (ok : hs_ok d N w nw sz) (zz : Nat)  : Met l yX0_format wsX0_format ({ frames := 4, cells := 0, slots := 0, locals := 88 }) (va_Pc [.ref h0] (hs_pm (dC, dI) vwCl [(cA, .int)] [oX_ h0 hd hp d N w nw sz u kr dn lf dw, ar_ hd cA (2 * sz) F, ar_ hp cA sz G] zz)) (va_Qi (S := hs_S × (Nat → Int32)) (fun r uu => r = 0 ∧ ∃ F9, uu = ((F9, 0, F9 (nw + 1 - 1), 0, -1, false), G) ∧ hs_E N w nw sz F9) (hs_B (dC, dI) vwCl [(cA, .int)] (wfX h0 hd hp cA d N w nw sz) (va_A [oX_ h0 hd hp d N w nw sz u kr dn lf dw, ar_ hd cA (2 * sz) F, ar_ hp cA sz G] zz)) (va_A [oX_ h0 hd hp d N w nw sz u kr dn lf dw, ar_ hd cA (2 * sz) F, ar_ hp cA sz G] zz)) 0 0 (va_A [oX_ h0 hd hp d N w nw sz u kr dn lf dw, ar_ hd cA (2 * sz) F, ar_ hp cA sz G] zz) := by
  refine Met.ofW (cc := cX0_format) (maxL := 1) (ret := (some .int)) (by decide) rfl ?_
  intro p e s m args below meth c s₁ B hml hv
  obtain ⟨rfl, hzz, hP, hK, hD0⟩ := hv
  have hx := B.exec
  have hb := B.bytes
  have hr := B.returns
  have hts := atoms_spec (ws := wsX0_format) B.pre
  have hown : s.vm.findClass RX0 = some m.cls := findClass_of_methodNamed B.named
  have hlocks := B.notSynchronized
  obtain ⟨hd5, hN1, hN2, hw1, hw2, hn1, hn2, hsz, hsz2⟩ := hs_okf ok
  have hnw : nw = N * w := ok.2.2.2.2.1
  subst hzz
  have hD := hD0.self (sz := s.heap.size)
  have hS : va_S (va_A [oX_ h0 hd hp d N w nw sz u kr dn lf dw, ar_ hd cA (2 * sz) F, ar_ hp cA sz G] s.heap.size) s.heap s.heap [] := va_S.rf
  have hA : ∀ q : Nat, s.heap.size ≤ q → va_A [oX_ h0 hd hp d N w nw sz u kr dn lf dw, ar_ hd cA (2 * sz) F, ar_ hp cA sz G] s.heap.size q := fun q h => Or.inr h
  have hl := lv_entry ([.ref h0]) (n := 1) (Nat.le_of_ble_eq_true rfl)
  rw [lg_entry_eq]
  generalize (lg_sl ([.ref h0]) ++ List.replicate (1 - (lg_sl ([.ref h0])).length) Slot.unset).toArray = ls at hl ⊢
  have hl : lv_has ls 1 [(0, .ref h0)] := hl
  refine lv_aload_n hx hb dX0_format_0 rfl (lv_at hl 0 rfl) ?_
  refine hs_cv (va_runV (As := []) (rest := []) ⟨hx, hb, hml, hown, hts⟩ (kX0_startAnew l dC dI h0 hd hp cA d N w nw sz u F G kr dn lf dw ok _ ) (cwV 0 hts gX0_format_X0_startAnew rfl rfl rfl (by decide +kernel) ⟨(Nat.le_of_ble_eq_true rfl), (Nat.le_of_ble_eq_true rfl)⟩) (hs_preM (q := (RX0, TX0, 12)) (ci := 0) hK hP hD rfl rfl) rfl rfl hl.1 rfl (lv_room (Nat.le_of_ble_eq_true rfl)) dX0_format_1 ⟨Nat.zero_le _, Nat.zero_le _⟩) hS hD hA (fun v H locs hv hP hD hS => ?_)
  obtain ⟨F9, rfl, hE⟩ := hv
  have hP : va_P (dC, dI) vwCl [oX_ h0 hd hp d N w nw sz 0 (F9 (nw + 1 - 1)) 0 (-1) false, ar_ hd cA (2 * sz) F9, ar_ hp cA sz G] H := hP
  have hD : va_D (va_A [oX_ h0 hd hp d N w nw sz u kr dn lf dw, ar_ hd cA (2 * sz) F, ar_ hp cA sz G] s.heap.size) [oX_ h0 hd hp d N w nw sz 0 (F9 (nw + 1 - 1)) 0 (-1) false, ar_ hd cA (2 * sz) F9, ar_ hp cA sz G] := hD
  refine lv_iconst (v := nI 0) hx hb dX0_format_4 (by decide) ?_
  exact W.iret (v := nI 0) hx hb hr (fun t ht hW => ⟨⟨nI 0, ((F9, 0, (F9 (nw + 1 - 1)), 0, (-1), false), G), rfl, ⟨rfl, F9, rfl, hE⟩, by rw [ht]; exact hP, va_K.moved hW.alike hK, hD⟩, hS.F ht⟩) hS.2.2 dX0_format_5
set_option maxHeartbeats 4000000 in
set_option maxRecDepth 100000 in
theorem kX0_write (l : Launch) (dC : Nat → ClassId) (dI : Nat → Nat → Nat) (h0 hd hp : Nat) (cA : ClassId) (d N w nw sz u : Nat) (F G : Nat → Int32) (kr dn lf : Int32) (dw : Bool) (ok : hs_ok d N w nw sz) (zz : Nat) (p1 p2 p3 : Int32) (hu : u < 2) : Met l yX0_write wsX0_write ({ frames := 4, cells := 0, slots := 0, locals := 96 }) (va_Pc [.ref h0, .int p1, .int p2, .int p3] (hs_pm (dC, dI) vwCl [(cA, .int)] [oX_ h0 hd hp d N w nw sz u kr dn lf dw, ar_ hd cA (2 * sz) F, ar_ hp cA sz G] zz)) (va_Qi (S := hs_S × (Nat → Int32)) (fun r uu => (r, uu.1) = hs_wr d N w nw sz p1 p2 p3 (F, u, kr, dn, lf, dw)) (hs_B (dC, dI) vwCl [(cA, .int)] (wfX h0 hd hp cA d N w nw sz) (va_A [oX_ h0 hd hp d N w nw sz u kr dn lf dw, ar_ hd cA (2 * sz) F, ar_ hp cA sz G] zz)) (va_A [oX_ h0 hd hp d N w nw sz u kr dn lf dw, ar_ hd cA (2 * sz) F, ar_ hp cA sz G] zz)) 0 0 (va_A [oX_ h0 hd hp d N w nw sz u kr dn lf dw, ar_ hd cA (2 * sz) F, ar_ hp cA sz G] zz) := by
  refine Met.ofW (cc := cX0_write) (maxL := 5) (ret := (some .int)) (by decide) rfl ?_
  intro p e s m args below meth c s₁ B hml hv
  obtain ⟨rfl, hzz, hP, hK, hD0⟩ := hv
  have hx := B.exec
  have hb := B.bytes
  have hr := B.returns
  have hts := atoms_spec (ws := wsX0_write) B.pre
  have hown : s.vm.findClass RX0 = some m.cls := findClass_of_methodNamed B.named
  have hlocks := B.notSynchronized
  obtain ⟨hd5, hN1, hN2, hw1, hw2, hn1, hn2, hsz, hsz2⟩ := hs_okf ok
  have hnw : nw = N * w := ok.2.2.2.2.1
  subst hzz
  have hD := hD0.self (sz := s.heap.size)
  have hS : va_S (va_A [oX_ h0 hd hp d N w nw sz u kr dn lf dw, ar_ hd cA (2 * sz) F, ar_ hp cA sz G] s.heap.size) s.heap s.heap [] := va_S.rf
  have hA : ∀ q : Nat, s.heap.size ≤ q → va_A [oX_ h0 hd hp d N w nw sz u kr dn lf dw, ar_ hd cA (2 * sz) F, ar_ hp cA sz G] s.heap.size q := fun q h => Or.inr h
  have hl := lv_entry ([.ref h0, .int p1, .int p2, .int p3]) (n := 5) (Nat.le_of_ble_eq_true rfl)
  rw [lg_entry_eq]
  generalize (lg_sl ([.ref h0, .int p1, .int p2, .int p3]) ++ List.replicate (5 - (lg_sl ([.ref h0, .int p1, .int p2, .int p3])).length) Slot.unset).toArray = ls at hl ⊢
  have hl : lv_has ls 5 [(0, .ref h0), (1, .int p1), (2, .int p2), (3, .int p3)] := hl
  have hus : (1 - u) * sz + sz ≤ 2 * sz := hs_us2 (by omega)
  refine lv_aload_n hx hb dX0_write_0 rfl (lv_at hl 0 rfl) ?_
  refine lv_iload_n hx hb dX0_write_1 rfl (lv_at hl 1 rfl) ?_
  refine lv_iload_n hx hb dX0_write_2 rfl (lv_at hl 2 rfl) ?_
  refine hs_pe (v := hs_b (hs_hb N p1 && hs_hb w p2)) (va_runV (As := [.int p1, .int p2]) (rest := []) ⟨hx, hb, hml, hown, hts⟩ (kX0_hasWord l dC dI h0 hd hp cA d N w nw sz u F G kr dn lf dw ok p1 p2) (cwV 2 hts gX0_write_X0_hasWord rfl rfl rfl (by decide +kernel) ⟨(Nat.le_of_ble_eq_true rfl), (Nat.le_of_ble_eq_true rfl)⟩) (hs_preV (q := (RX0, TX0, 12)) (ci := 0) hK (hP.sub [0] rfl) rfl rfl) rfl rfl hl.1 rfl (lv_room (Nat.le_of_ble_eq_true rfl)) dX0_write_3 ⟨Nat.zero_le _, Nat.zero_le _⟩) hS hP (fun H locs hP hS => ?_)
  refine hs_beq (tgt := 13) hx hb dX0_write_6 (by decide) (fun c1 => ?_) (fun c1 => ?_)
  · refine lv_bipush (v := (-2)) hx hb dX0_write_13 (by decide) ?_
    exact W.iret (v := (-2)) hx hb hr (fun t ht hW => ⟨⟨(-2), ((F, u, kr, dn, lf, dw), G), rfl, (by rw [hs_wr_1 c1]), by rw [ht]; exact hP, va_K.moved hW.alike hK, hD⟩, hS.F ht⟩) hS.2.2 dX0_write_15
  · refine lv_iload_n hx hb dX0_write_9 rfl (lv_at hl 3 rfl) ?_
    refine lv_if_ge (tgt := 16) hx hb dX0_write_10 (by decide) (fun c2 => ?_) (fun c2 => ?_)
    · obtain ⟨⟨j, hj, rfl⟩, ⟨i, hi, rfl⟩⟩ := hs_and_t c1 (by omega) (by omega)
      have c0 := Int32.not_lt.mpr c2
      refine lv_aload_n hx hb dX0_write_16 rfl (lv_at hl 0 rfl) ?_
      refine va_get (D := (dC, dI)) (ci := 0) (v := .int (hs_b dw)) (C := RX0) (T := TX0) (N := 12) hx hb hts (by decide +kernel) hown hK hP 0 rfl rfl 11 (by decide) (hts (.fieldLink RX0 48 "HashedStore" "isDown" "Z") (by decide +kernel)) (fun _ h9 => h9) rfl dX0_write_17 ?_
      refine hs_beq (tgt := 26) hx hb dX0_write_20 (by decide) (fun c3 => ?_) (fun c3 => ?_)
      · refine lv_aload_n hx hb dX0_write_26 rfl (lv_at hl 0 rfl) ?_
        refine lv_iload_n hx hb dX0_write_27 rfl (lv_at hl 1 rfl) ?_
        refine hs_pe (v := hs_b (hs_rg d N w nw (hs_vw sz F u) kr j)) (va_runV (As := [.int (nI j)]) (rest := []) ⟨hx, hb, hml, hown, hts⟩ (kX0_isRight l dC dI h0 hd hp cA d N w nw sz u F G kr dn lf dw ok j hj hu) (cwV 1 hts gX0_write_X0_isRight rfl rfl rfl (by decide +kernel) ⟨(Nat.le_of_ble_eq_true rfl), (Nat.le_of_ble_eq_true rfl)⟩) (hs_preV (q := (RX0, TX0, 12)) (ci := 0) hK (hP.sub [0, 1] rfl) rfl rfl) rfl rfl hl.1 rfl (lv_room (Nat.le_of_ble_eq_true rfl)) dX0_write_28 ⟨Nat.zero_le _, Nat.zero_le _⟩) hS hP (fun H locs hP hS => ?_)
        refine hs_bne (tgt := 37) hx hb dX0_write_31 (by decide) (fun c4 => ?_) (fun c4 => ?_)
        · refine lv_aload_n hx hb dX0_write_37 rfl (lv_at hl 0 rfl) ?_
          refine lv_iload_n hx hb dX0_write_38 rfl (lv_at hl 1 rfl) ?_
          refine lv_iload_n hx hb dX0_write_39 rfl (lv_at hl 2 rfl) ?_
          refine lv_iload_n hx hb dX0_write_40 rfl (lv_at hl 3 rfl) ?_
          refine hs_cv (va_runV (As := [.int (nI j), .int (nI i), .int p3]) (rest := []) ⟨hx, hb, hml, hown, hts⟩ (kX0_planWord l dC dI h0 hd hp cA d N w nw sz u F G kr dn lf dw ok _ j i p3 hj hi hu) (cwV 3 hts gX0_write_X0_planWord rfl rfl rfl (by decide +kernel) ⟨(Nat.le_of_ble_eq_true rfl), (Nat.le_of_ble_eq_true rfl)⟩) (hs_preM (q := (RX0, TX0, 12)) (ci := 0) hK hP hD rfl rfl) rfl rfl hl.1 rfl (lv_room (Nat.le_of_ble_eq_true rfl)) dX0_write_41 ⟨Nat.zero_le _, Nat.zero_le _⟩) hS hD hA (fun v H locs hv hP hD hS => ?_)
          subst hv
          have hroot := hs_pl_root (i := i) ok hj (hs_vw sz F u) p3
          obtain ⟨g, rt, hg⟩ : ∃ g rt, hs_pl d N w nw (hs_vw sz F u) j i p3 = (g, rt) := ⟨_, _, rfl⟩
          rw [hg] at hP hD hroot
          have hroot : g (nw + 1 - 1) = rt := hroot
          have hP : va_P (dC, dI) vwCl [oX_ h0 hd hp d N w nw sz u kr dn lf dw, ar_ hd cA (2 * sz) F, ar_ hp cA sz g] H := hP
          have hD : va_D (va_A [oX_ h0 hd hp d N w nw sz u kr dn lf dw, ar_ hd cA (2 * sz) F, ar_ hp cA sz G] s.heap.size) [oX_ h0 hd hp d N w nw sz u kr dn lf dw, ar_ hd cA (2 * sz) F, ar_ hp cA sz g] := hD
          refine lv_iconst (v := nI 1) hx hb dX0_write_44 (by decide) ?_
          refine lv_aload_n hx hb dX0_write_45 rfl (lv_at hl 0 rfl) ?_
          refine va_get (D := (dC, dI)) (ci := 0) (v := .int (nI u)) (C := RX0) (T := TX0) (N := 12) hx hb hts (by decide +kernel) hown hK hP 0 rfl rfl 7 (by decide) (hts (.fieldLink RX0 60 "HashedStore" "areaInUse" "I") (by decide +kernel)) (fun _ h9 => h9) rfl dX0_write_46 ?_
          refine hs_subN hx hb (by omega) dX0_write_49 ?_
          refine lv_istore (lv' := [(4, .int (nI (1 - u))), (0, .ref h0), (1, .int (nI j)), (2, .int (nI i)), (3, .int p3)]) hx hb dX0_write_50 hl (by decide) rfl (fun ls hl => ?_)
          refine lv_aload_n hx hb dX0_write_52 rfl (lv_at hl 1 rfl) ?_
          refine lv_aload_n hx hb dX0_write_53 rfl (lv_at hl 1 rfl) ?_
          refine lv_iload hx hb dX0_write_54 (lv_at hl 0 rfl) ?_
          refine hs_pe (v := nI ((1 - u) * sz)) (va_runV (As := [.int (nI (1 - u))]) (rest := [.ref h0]) ⟨hx, hb, hml, hown, hts⟩ (kX0_areaStart l dC dI h0 hd hp cA d N w nw sz u F g kr dn lf dw ok (1 - u)) (cwV 1 hts gX0_write_X0_areaStart rfl rfl rfl (by decide +kernel) ⟨(Nat.le_of_ble_eq_true rfl), (Nat.le_of_ble_eq_true rfl)⟩) (hs_preV (q := (RX0, TX0, 12)) (ci := 0) hK (hP.sub [0] rfl) rfl rfl) rfl rfl hl.1 rfl (lv_room (Nat.le_of_ble_eq_true rfl)) dX0_write_56 ⟨Nat.zero_le _, Nat.zero_le _⟩) hS hP (fun H locs hP hS => ?_)
          refine hs_ci (va_runV (As := [.int (nI ((1 - u) * sz))]) (rest := []) ⟨hx, hb, hml, hown, hts⟩ (kX0_carryOutPlan l dC dI h0 hd hp cA d N w nw sz u F g kr dn lf dw ok _ ((1 - u) * sz) hus) (cwV 1 hts gX0_write_X0_carryOutPlan rfl rfl rfl (by decide +kernel) ⟨(Nat.le_of_ble_eq_true rfl), (Nat.le_of_ble_eq_true rfl)⟩) (hs_preM (q := (RX0, TX0, 12)) (ci := 0) hK hP hD rfl rfl) rfl rfl hl.1 rfl (lv_room (Nat.le_of_ble_eq_true rfl)) dX0_write_59 ⟨Nat.zero_le _, Nat.zero_le _⟩) hS hD hA (fun rv v H locs hv hP hD hS => ?_)
          obtain ⟨F2, lf2, dn2, dw2, b2, hps⟩ : ∃ F2 lf2 dn2 dw2 b2, hs_ps ((1 - u) * sz) g (hs_cs N nw) (F, lf, dn, dw) = ((F2, lf2, dn2, dw2), b2) := ⟨_, _, _, _, _, rfl⟩
          rw [hps] at hv
          obtain ⟨rfl, rfl⟩ := hv
          have hP : va_P (dC, dI) vwCl [oX_ h0 hd hp d N w nw sz u kr dn2 lf2 dw2, ar_ hd cA (2 * sz) F2, ar_ hp cA sz g] H := hP
          have hD : va_D (va_A [oX_ h0 hd hp d N w nw sz u kr dn lf dw, ar_ hd cA (2 * sz) F, ar_ hp cA sz G] s.heap.size) [oX_ h0 hd hp d N w nw sz u kr dn2 lf2 dw2, ar_ hd cA (2 * sz) F2, ar_ hp cA sz g] := hD
          refine hs_bne (tgt := 68) hx hb dX0_write_62 (by decide) (fun c5 => ?_) (fun c5 => ?_)
          · refine lv_aload_n hx hb dX0_write_68 rfl (lv_at hl 1 rfl) ?_
            refine lv_iload hx hb dX0_write_69 (lv_at hl 0 rfl) ?_
            refine lv_aload_n hx hb dX0_write_71 rfl (lv_at hl 1 rfl) ?_
            refine va_get (D := (dC, dI)) (ci := 0) (v := .ref hp) (C := RX0) (T := TX0) (N := 12) hx hb hts (by decide +kernel) hown hK hP 0 rfl rfl 6 (by decide) (hts (.fieldLink RX0 38 "HashedStore" "plan" "[I") (by decide +kernel)) (fun _ h9 => h9) rfl dX0_write_72 ?_
            refine lv_aload_n hx hb dX0_write_75 rfl (lv_at hl 1 rfl) ?_
            refine lv_iconst (v := nI 1) hx hb dX0_write_76 (by decide) ?_
            refine hs_pe (v := nI (nw + 1 - 1)) (va_runV (As := [.int (nI 1)]) (rest := [.ref hp, .int (nI (1 - u)), .ref h0]) ⟨hx, hb, hml, hown, hts⟩ (kX0_nodeCell l dC dI h0 hd hp cA d N w nw sz u F2 g kr dn2 lf2 dw2 ok 1) (cwV 1 hts gX0_write_X0_nodeCell rfl rfl rfl (by decide +kernel) ⟨(Nat.le_of_ble_eq_true rfl), (Nat.le_of_ble_eq_true rfl)⟩) (hs_preV (q := (RX0, TX0, 12)) (ci := 0) hK (hP.sub [0] rfl) rfl rfl) rfl rfl hl.1 rfl (lv_room (Nat.le_of_ble_eq_true rfl)) dX0_write_77 ⟨Nat.zero_le _, Nat.zero_le _⟩) hS hP (fun H locs hP hS => ?_)
            refine hs_ald hx hb hK hP 2 0 rfl rfl (k := nw + 1 - 1) (by omega) (by omega) dX0_write_80 ?_
            refine hs_cv (va_runV (As := [.int (nI (1 - u)), .int (g (nw + 1 - 1))]) (rest := []) ⟨hx, hb, hml, hown, hts⟩ (kX0_turnTo l dC dI h0 hd hp cA d N w nw sz u F2 g kr dn2 lf2 dw2 ok _ (1 - u) (g (nw + 1 - 1))) (cwV 2 hts gX0_write_X0_turnTo rfl rfl rfl (by decide +kernel) ⟨(Nat.le_of_ble_eq_true rfl), (Nat.le_of_ble_eq_true rfl)⟩) (hs_preM (q := (RX0, TX0, 12)) (ci := 0) hK hP hD rfl rfl) rfl rfl hl.1 rfl (lv_room (Nat.le_of_ble_eq_true rfl)) dX0_write_81 ⟨Nat.zero_le _, Nat.zero_le _⟩) hS hD hA (fun v H locs hv hP hD hS => ?_)
            subst hv
            have hP : va_P (dC, dI) vwCl [oX_ h0 hd hp d N w nw sz (1 - u) (g (nw + 1 - 1)) dn2 lf2 dw2, ar_ hd cA (2 * sz) F2, ar_ hp cA sz g] H := hP
            have hD : va_D (va_A [oX_ h0 hd hp d N w nw sz u kr dn lf dw, ar_ hd cA (2 * sz) F, ar_ hp cA sz G] s.heap.size) [oX_ h0 hd hp d N w nw sz (1 - u) (g (nw + 1 - 1)) dn2 lf2 dw2, ar_ hd cA (2 * sz) F2, ar_ hp cA sz g] := hD
            refine lv_iconst (v := nI 0) hx hb dX0_write_84 (by decide) ?_
            exact W.iret (v := nI 0) hx hb hr (fun t ht hW => ⟨⟨nI 0, ((F2, (1 - u), (g (nw + 1 - 1)), dn2, lf2, dw2), g), rfl, (by subst c5; rw [hs_wr_6 hj hi (by omega) (by omega) c0 c3 c4 hg hps, hroot]; rfl), by rw [ht]; exact hP, va_K.moved hW.alike hK, hD⟩, hS.F ht⟩) hS.2.2 dX0_write_85
          · refine lv_bipush (v := (-4)) hx hb dX0_write_65 (by decide) ?_
            exact W.iret (v := (-4)) hx hb hr (fun t ht hW => ⟨⟨(-4), ((F2, u, kr, dn2, lf2, dw2), g), rfl, (by subst c5; rw [hs_wr_5 hj hi (by omega) (by omega) c0 c3 c4 hg hps]), by rw [ht]; exact hP, va_K.moved hW.alike hK, hD⟩, hS.F ht⟩) hS.2.2 dX0_write_67
        · refine lv_bipush (v := (-3)) hx hb dX0_write_34 (by decide) ?_
          exact W.iret (v := (-3)) hx hb hr (fun t ht hW => ⟨⟨(-3), ((F, u, kr, dn, lf, dw), G), rfl, (by rw [hs_wr_4 hj hi (by omega) (by omega) c0 c3 c4]), by rw [ht]; exact hP, va_K.moved hW.alike hK, hD⟩, hS.F ht⟩) hS.2.2 dX0_write_36
      · refine lv_bipush (v := (-4)) hx hb dX0_write_23 (by decide) ?_
        exact W.iret (v := (-4)) hx hb hr (fun t ht hW => ⟨⟨(-4), ((F, u, kr, dn, lf, dw), G), rfl, (by rw [hs_wr_3 hj hi (by omega) (by omega) c0 c3]), by rw [ht]; exact hP, va_K.moved hW.alike hK, hD⟩, hS.F ht⟩) hS.2.2 dX0_write_25
    · refine lv_bipush (v := (-2)) hx hb dX0_write_13 (by decide) ?_
      exact W.iret (v := (-2)) hx hb hr (fun t ht hW => ⟨⟨(-2), ((F, u, kr, dn, lf, dw), G), rfl, (by rw [hs_wr_2 (Int32.not_le.mp c2)]), by rw [ht]; exact hP, va_K.moved hW.alike hK, hD⟩, hS.F ht⟩) hS.2.2 dX0_write_15
set_option maxHeartbeats 4000000 in
set_option maxRecDepth 100000 in
theorem kX0_tamper (l : Launch) (dC : Nat → ClassId) (dI : Nat → Nat → Nat) (h0 hd hp : Nat) (cA : ClassId) (d N w nw sz u : Nat) (F G : Nat → Int32) (kr dn lf : Int32) (dw : Bool) (ok : hs_ok d N w nw sz) (zz : Nat) (p1 p2 : Int32) : Met l yX0_tamper wsX0_tamper ({ frames := 1, cells := 0, slots := 0, locals := 21 }) (va_Pc [.ref h0, .int p1, .int p2] (hs_pm (dC, dI) vwCl [(cA, .int)] [oX_ h0 hd hp d N w nw sz u kr dn lf dw, ar_ hd cA (2 * sz) F, ar_ hp cA sz G] zz)) (va_Qv (S := hs_S × (Nat → Int32)) (fun uu => uu = (hs_tm sz p1 p2 (F, u, kr, dn, lf, dw), G)) (hs_B (dC, dI) vwCl [(cA, .int)] (wfX h0 hd hp cA d N w nw sz) (va_A [oX_ h0 hd hp d N w nw sz u kr dn lf dw, ar_ hd cA (2 * sz) F, ar_ hp cA sz G] zz)) (va_A [oX_ h0 hd hp d N w nw sz u kr dn lf dw, ar_ hd cA (2 * sz) F, ar_ hp cA sz G] zz)) 0 0 (va_A [oX_ h0 hd hp d N w nw sz u kr dn lf dw, ar_ hd cA (2 * sz) F, ar_ hp cA sz G] zz) := by
  refine Met.ofW (cc := cX0_tamper) (maxL := 3) (ret := none) (by decide) rfl ?_
  intro p e s m args below meth c s₁ B hml hv
  obtain ⟨rfl, hzz, hP, hK, hD0⟩ := hv
  have hx := B.exec
  have hb := B.bytes
  have hr := B.returns
  have hts := atoms_spec (ws := wsX0_tamper) B.pre
  have hown : s.vm.findClass RX0 = some m.cls := findClass_of_methodNamed B.named
  have hlocks := B.notSynchronized
  obtain ⟨hd5, hN1, hN2, hw1, hw2, hn1, hn2, hsz, hsz2⟩ := hs_okf ok
  have hnw : nw = N * w := ok.2.2.2.2.1
  subst hzz
  have hD := hD0.self (sz := s.heap.size)
  have hS : va_S (va_A [oX_ h0 hd hp d N w nw sz u kr dn lf dw, ar_ hd cA (2 * sz) F, ar_ hp cA sz G] s.heap.size) s.heap s.heap [] := va_S.rf
  have hA : ∀ q : Nat, s.heap.size ≤ q → va_A [oX_ h0 hd hp d N w nw sz u kr dn lf dw, ar_ hd cA (2 * sz) F, ar_ hp cA sz G] s.heap.size q := fun q h => Or.inr h
  have hl := lv_entry ([.ref h0, .int p1, .int p2]) (n := 3) (Nat.le_of_ble_eq_true rfl)
  rw [lg_entry_eq]
  generalize (lg_sl ([.ref h0, .int p1, .int p2]) ++ List.replicate (3 - (lg_sl ([.ref h0, .int p1, .int p2])).length) Slot.unset).toArray = ls at hl ⊢
  have hl : lv_has ls 3 [(0, .ref h0), (1, .int p1), (2, .int p2)] := hl
  refine lv_aload_n hx hb dX0_tamper_0 rfl (lv_at hl 0 rfl) ?_
  refine lv_iload_n hx hb dX0_tamper_1 rfl (lv_at hl 1 rfl) ?_
  refine hs_pe (v := hs_b (hs_hb (2 * sz) p1)) (va_runV (As := [.int p1]) (rest := []) ⟨hx, hb, hml, hown, hts⟩ (kX0_hasCell l dC dI h0 hd hp cA d N w nw sz u F G kr dn lf dw ok p1) (cwV 1 hts gX0_tamper_X0_hasCell rfl rfl rfl (by decide +kernel) ⟨(Nat.le_of_ble_eq_true rfl), (Nat.le_of_ble_eq_true rfl)⟩) (hs_preV (q := (RX0, TX0, 12)) (ci := 0) hK (hP.sub [0, 1] rfl) rfl rfl) rfl rfl hl.1 rfl (lv_room (Nat.le_of_ble_eq_true rfl)) dX0_tamper_2 ⟨Nat.zero_le _, Nat.zero_le _⟩) hS hP (fun H locs hP hS => ?_)
  refine hs_beq (tgt := 15) hx hb dX0_tamper_5 (by decide) (fun c1 => ?_) (fun c1 => ?_)
  · exact W.vret hx hb hr (fun t ht hW => ⟨⟨((F, u, kr, dn, lf, dw), G), rfl, (by rw [hs_tm_1 c1]), by rw [ht]; exact hP, va_K.moved hW.alike hK, hD⟩, hS.F ht⟩) hS.2.2 dX0_tamper_15
  · obtain ⟨j, hj, rfl⟩ := hs_hb_t (by omega) c1
    refine lv_aload_n hx hb dX0_tamper_8 rfl (lv_at hl 0 rfl) ?_
    refine va_get (D := (dC, dI)) (ci := 0) (v := .ref hd) (C := RX0) (T := TX0) (N := 12) hx hb hts (by decide +kernel) hown hK hP 0 rfl rfl 5 (by decide) (hts (.fieldLink RX0 34 "HashedStore" "disk" "[I") (by decide +kernel)) (fun _ h9 => h9) rfl dX0_tamper_9 ?_
    refine lv_iload_n hx hb dX0_tamper_12 rfl (lv_at hl 1 rfl) ?_
    refine lv_iload_n hx hb dX0_tamper_13 rfl (lv_at hl 2 rfl) ?_
    refine hs_ast hx hb hK hP hD hS 1 0 rfl rfl (k := j) (by omega) (by omega) dX0_tamper_14 (fun H locs hP hD hS => ?_)
    have hP : va_P (dC, dI) vwCl [oX_ h0 hd hp d N w nw sz u kr dn lf dw, ar_ hd cA (2 * sz) (upd F j p2), ar_ hp cA sz G] H := hP
    have hD : va_D (va_A [oX_ h0 hd hp d N w nw sz u kr dn lf dw, ar_ hd cA (2 * sz) F, ar_ hp cA sz G] s.heap.size) [oX_ h0 hd hp d N w nw sz u kr dn lf dw, ar_ hd cA (2 * sz) (upd F j p2), ar_ hp cA sz G] := hD
    exact W.vret hx hb hr (fun t ht hW => ⟨⟨((upd F j p2, u, kr, dn, lf, dw), G), rfl, (by rw [hs_tm_2 hj (by omega)]), by rw [ht]; exact hP, va_K.moved hW.alike hK, hD⟩, hS.F ht⟩) hS.2.2 dX0_tamper_15
set_option maxHeartbeats 4000000 in
set_option maxRecDepth 100000 in
theorem kX0_crashAfter (l : Launch) (dC : Nat → ClassId) (dI : Nat → Nat → Nat) (h0 hd hp : Nat) (cA : ClassId) (d N w nw sz u : Nat) (F G : Nat → Int32) (kr dn lf : Int32) (dw : Bool) (ok : hs_ok d N w nw sz) (zz : Nat) (p1 : Int32) : Met l yX0_crashAfter wsX0_crashAfter ({ frames := 0, cells := 0, slots := 0, locals := 0 }) (va_Pc [.ref h0, .int p1] (hs_pm (dC, dI) vwCl [(cA, .int)] [oX_ h0 hd hp d N w nw sz u kr dn lf dw, ar_ hd cA (2 * sz) F, ar_ hp cA sz G] zz)) (va_Qv (S := hs_S × (Nat → Int32)) (fun uu => uu = (hs_cr p1 (F, u, kr, dn, lf, dw), G)) (hs_B (dC, dI) vwCl [(cA, .int)] (wfX h0 hd hp cA d N w nw sz) (va_A [oX_ h0 hd hp d N w nw sz u kr dn lf dw, ar_ hd cA (2 * sz) F, ar_ hp cA sz G] zz)) (va_A [oX_ h0 hd hp d N w nw sz u kr dn lf dw, ar_ hd cA (2 * sz) F, ar_ hp cA sz G] zz)) 0 0 (va_A [oX_ h0 hd hp d N w nw sz u kr dn lf dw, ar_ hd cA (2 * sz) F, ar_ hp cA sz G] zz) := by
  refine Met.ofW (cc := cX0_crashAfter) (maxL := 2) (ret := none) (by decide) rfl ?_
  intro p e s m args below meth c s₁ B hml hv
  obtain ⟨rfl, hzz, hP, hK, hD0⟩ := hv
  have hx := B.exec
  have hb := B.bytes
  have hr := B.returns
  have hts := atoms_spec (ws := wsX0_crashAfter) B.pre
  have hown : s.vm.findClass RX0 = some m.cls := findClass_of_methodNamed B.named
  have hlocks := B.notSynchronized
  obtain ⟨hd5, hN1, hN2, hw1, hw2, hn1, hn2, hsz, hsz2⟩ := hs_okf ok
  have hnw : nw = N * w := ok.2.2.2.2.1
  subst hzz
  have hD := hD0.self (sz := s.heap.size)
  have hS : va_S (va_A [oX_ h0 hd hp d N w nw sz u kr dn lf dw, ar_ hd cA (2 * sz) F, ar_ hp cA sz G] s.heap.size) s.heap s.heap [] := va_S.rf
  have hA : ∀ q : Nat, s.heap.size ≤ q → va_A [oX_ h0 hd hp d N w nw sz u kr dn lf dw, ar_ hd cA (2 * sz) F, ar_ hp cA sz G] s.heap.size q := fun q h => Or.inr h
  have hl := lv_entry ([.ref h0, .int p1]) (n := 2) (Nat.le_of_ble_eq_true rfl)
  rw [lg_entry_eq]
  generalize (lg_sl ([.ref h0, .int p1]) ++ List.replicate (2 - (lg_sl ([.ref h0, .int p1])).length) Slot.unset).toArray = ls at hl ⊢
  have hl : lv_has ls 2 [(0, .ref h0), (1, .int p1)] := hl
  refine lv_iload_n hx hb dX0_crashAfter_0 rfl (lv_at hl 1 rfl) ?_
  refine lv_if_lt (tgt := 16) hx hb dX0_crashAfter_1 (by decide) (fun c1 => ?_) (fun c1 => ?_)
  · exact W.vret hx hb hr (fun t ht hW => ⟨⟨((F, u, kr, dn, lf, dw), G), rfl, (by rw [hs_cr_1 c1]), by rw [ht]; exact hP, va_K.moved hW.alike hK, hD⟩, hS.F ht⟩) hS.2.2 dX0_crashAfter_16
  · refine lv_aload_n hx hb dX0_crashAfter_4 rfl (lv_at hl 0 rfl) ?_
    refine va_get (D := (dC, dI)) (ci := 0) (v := .int (hs_b dw)) (C := RX0) (T := TX0) (N := 12) hx hb hts (by decide +kernel) hown hK hP 0 rfl rfl 11 (by decide) (hts (.fieldLink RX0 48 "HashedStore" "isDown" "Z") (by decide +kernel)) (fun _ h9 => h9) rfl dX0_crashAfter_5 ?_
    refine hs_bne (tgt := 16) hx hb dX0_crashAfter_8 (by decide) (fun c2 => ?_) (fun c2 => ?_)
    · exact W.vret hx hb hr (fun t ht hW => ⟨⟨((F, u, kr, dn, lf, dw), G), rfl, (by rw [hs_cr_2 c2]), by rw [ht]; exact hP, va_K.moved hW.alike hK, hD⟩, hS.F ht⟩) hS.2.2 dX0_crashAfter_16
    · refine lv_aload_n hx hb dX0_crashAfter_11 rfl (lv_at hl 0 rfl) ?_
      refine lv_iload_n hx hb dX0_crashAfter_12 rfl (lv_at hl 1 rfl) ?_
      refine va_put (D := (dC, dI)) (ci := 0) (v := .int p1) (ty := .int) (C := RX0) (T := TX0) (N := 12) hx hb hts (by decide +kernel) tyX0 tyX0_ok nmX0 hown hK hP hD hS 0 rfl rfl 10 (by decide) (hts (.fieldLink RX0 89 "HashedStore" "writesUntilCrash" "I") (by decide +kernel)) (fun _ h9 => h9) rfl (by decide +kernel) rfl rfl (Nat.le_of_ble_eq_true rfl) dX0_crashAfter_13 (fun H locs hP hD hS => ?_)
      have hP : va_P (dC, dI) vwCl [oX_ h0 hd hp d N w nw sz u kr dn p1 dw, ar_ hd cA (2 * sz) F, ar_ hp cA sz G] H := hP
      have hD : va_D (va_A [oX_ h0 hd hp d N w nw sz u kr dn lf dw, ar_ hd cA (2 * sz) F, ar_ hp cA sz G] s.heap.size) [oX_ h0 hd hp d N w nw sz u kr dn p1 dw, ar_ hd cA (2 * sz) F, ar_ hp cA sz G] := hD
      exact W.vret hx hb hr (fun t ht hW => ⟨⟨((F, u, kr, dn, p1, dw), G), rfl, (by rw [hs_cr_3 c1 c2]), by rw [ht]; exact hP, va_K.moved hW.alike hK, hD⟩, hS.F ht⟩) hS.2.2 dX0_crashAfter_16
set_option maxHeartbeats 4000000 in
set_option maxRecDepth 100000 in
theorem kX0_recover (l : Launch) (dC : Nat → ClassId) (dI : Nat → Nat → Nat) (h0 hd hp : Nat) (cA : ClassId) (d N w nw sz u : Nat) (F G : Nat → Int32) (kr dn lf : Int32) (dw : Bool) (ok : hs_ok d N w nw sz) (zz : Nat) (p1 : Int32) : Met l yX0_recover wsX0_recover ({ frames := 1, cells := 0, slots := 0, locals := 22 }) (va_Pc [.ref h0, .int p1] (hs_pm (dC, dI) vwCl [(cA, .int)] [oX_ h0 hd hp d N w nw sz u kr dn lf dw, ar_ hd cA (2 * sz) F, ar_ hp cA sz G] zz)) (va_Qi (S := hs_S × (Nat → Int32)) (fun r uu => (r, uu.1) = hs_rc nw sz p1 (F, u, kr, dn, lf, dw)) (hs_B (dC, dI) vwCl [(cA, .int)] (wfX h0 hd hp cA d N w nw sz) (va_A [oX_ h0 hd hp d N w nw sz u kr dn lf dw, ar_ hd cA (2 * sz) F, ar_ hp cA sz G] zz)) (va_A [oX_ h0 hd hp d N w nw sz u kr dn lf dw, ar_ hd cA (2 * sz) F, ar_ hp cA sz G] zz)) 0 0 (va_A [oX_ h0 hd hp d N w nw sz u kr dn lf dw, ar_ hd cA (2 * sz) F, ar_ hp cA sz G] zz) := by
  refine Met.ofW (cc := cX0_recover) (maxL := 3) (ret := (some .int)) (by decide) rfl ?_
  intro p e s m args below meth c s₁ B hml hv
  obtain ⟨rfl, hzz, hP, hK, hD0⟩ := hv
  have hx := B.exec
  have hb := B.bytes
  have hr := B.returns
  have hts := atoms_spec (ws := wsX0_recover) B.pre
  have hown : s.vm.findClass RX0 = some m.cls := findClass_of_methodNamed B.named
  have hlocks := B.notSynchronized
  obtain ⟨hd5, hN1, hN2, hw1, hw2, hn1, hn2, hsz, hsz2⟩ := hs_okf ok
  have hnw : nw = N * w := ok.2.2.2.2.1
  subst hzz
  have hD := hD0.self (sz := s.heap.size)
  have hS : va_S (va_A [oX_ h0 hd hp d N w nw sz u kr dn lf dw, ar_ hd cA (2 * sz) F, ar_ hp cA sz G] s.heap.size) s.heap s.heap [] := va_S.rf
  have hA : ∀ q : Nat, s.heap.size ≤ q → va_A [oX_ h0 hd hp d N w nw sz u kr dn lf dw, ar_ hd cA (2 * sz) F, ar_ hp cA sz G] s.heap.size q := fun q h => Or.inr h
  have hl := lv_entry ([.ref h0, .int p1]) (n := 3) (Nat.le_of_ble_eq_true rfl)
  rw [lg_entry_eq]
  generalize (lg_sl ([.ref h0, .int p1]) ++ List.replicate (3 - (lg_sl ([.ref h0, .int p1])).length) Slot.unset).toArray = ls at hl ⊢
  have hl : lv_has ls 3 [(0, .ref h0), (1, .int p1)] := hl
  refine lv_aload_n hx hb dX0_recover_0 rfl (lv_at hl 0 rfl) ?_
  refine va_get (D := (dC, dI)) (ci := 0) (v := .int (hs_b dw)) (C := RX0) (T := TX0) (N := 12) hx hb hts (by decide +kernel) hown hK hP 0 rfl rfl 11 (by decide) (hts (.fieldLink RX0 48 "HashedStore" "isDown" "Z") (by decide +kernel)) (fun _ h9 => h9) rfl dX0_recover_1 ?_
  refine hs_bne (tgt := 10) hx hb dX0_recover_4 (by decide) (fun c1 => ?_) (fun c1 => ?_)
  · refine lv_iconst (v := nI 0) hx hb dX0_recover_10 (by decide) ?_
    refine lv_istore_n (lv' := [(2, .int (nI 0)), (0, .ref h0), (1, .int p1)]) hx hb dX0_recover_11 rfl hl (by decide) rfl (fun ls hl => ?_)
    refine lv_iload_n hx hb dX0_recover_12 rfl (lv_at hl 0 rfl) ?_
    refine lv_iconst (v := nI 2) hx hb dX0_recover_13 (by decide) ?_
    refine hs_cge (tgt := 55) hx hb (by omega) (by omega) dX0_recover_14 (by decide) (fun a1 => ?_) (fun a1 => ?_)
    · exact absurd a1 (by omega)
    · refine lv_aload_n hx hb dX0_recover_17 rfl (lv_at hl 1 rfl) ?_
      refine va_get (D := (dC, dI)) (ci := 0) (v := .ref hd) (C := RX0) (T := TX0) (N := 12) hx hb hts (by decide +kernel) hown hK hP 0 rfl rfl 5 (by decide) (hts (.fieldLink RX0 34 "HashedStore" "disk" "[I") (by decide +kernel)) (fun _ h9 => h9) rfl dX0_recover_18 ?_
      refine lv_aload_n hx hb dX0_recover_21 rfl (lv_at hl 1 rfl) ?_
      refine lv_iload_n hx hb dX0_recover_22 rfl (lv_at hl 0 rfl) ?_
      refine hs_pe (v := nI (0 * sz)) (va_runV (As := [.int (nI 0)]) (rest := [.ref hd]) ⟨hx, hb, hml, hown, hts⟩ (kX0_areaStart l dC dI h0 hd hp cA d N w nw sz u F G kr dn lf dw ok 0) (cwV 1 hts gX0_recover_X0_areaStart rfl rfl rfl (by decide +kernel) ⟨(Nat.le_of_ble_eq_true rfl), (Nat.le_of_ble_eq_true rfl)⟩) (hs_preV (q := (RX0, TX0, 12)) (ci := 0) hK (hP.sub [0] rfl) rfl rfl) rfl rfl hl.1 rfl (lv_room (Nat.le_of_ble_eq_true rfl)) dX0_recover_23 ⟨Nat.zero_le _, Nat.zero_le _⟩) hS hP (fun H locs hP hS => ?_)
      refine lv_aload_n hx hb dX0_recover_26 rfl (lv_at hl 1 rfl) ?_
      refine lv_iconst (v := nI 1) hx hb dX0_recover_27 (by decide) ?_
      refine hs_pe (v := nI (nw + 1 - 1)) (va_runV (As := [.int (nI 1)]) (rest := [.int (nI (0 * sz)), .ref hd]) ⟨hx, hb, hml, hown, hts⟩ (kX0_nodeCell l dC dI h0 hd hp cA d N w nw sz u F G kr dn lf dw ok 1) (cwV 1 hts gX0_recover_X0_nodeCell rfl rfl rfl (by decide +kernel) ⟨(Nat.le_of_ble_eq_true rfl), (Nat.le_of_ble_eq_true rfl)⟩) (hs_preV (q := (RX0, TX0, 12)) (ci := 0) hK (hP.sub [0] rfl) rfl rfl) rfl rfl hl.1 rfl (lv_room (Nat.le_of_ble_eq_true rfl)) dX0_recover_28 ⟨Nat.zero_le _, Nat.zero_le _⟩) hS hP (fun H locs hP hS => ?_)
      refine hs_addN hx hb dX0_recover_31 ?_
      refine hs_ald hx hb hK hP 1 0 rfl rfl (k := (0 * sz) + (nw + 1 - 1)) (by omega) (by omega) dX0_recover_32 ?_
      refine lv_iload_n hx hb dX0_recover_33 rfl (lv_at hl 2 rfl) ?_
      refine lv_icmp_ne (tgt := 49) hx hb dX0_recover_34 (by decide) (fun e1 => ?_) (fun e1 => ?_)
      · refine lv_iinc (v := nI (0 + 1)) (lv' := [(2, .int (nI (0 + 1))), (0, .ref h0), (1, .int p1)]) hx hb dX0_recover_49 hl (k := 0) rfl (nI_1 _) (by decide) rfl (fun ls hl => ?_)
        refine lv_goto (tgt := 12) hx hb dX0_recover_52 (by decide) ?_
        refine lv_iload_n hx hb dX0_recover_12 rfl (lv_at hl 0 rfl) ?_
        refine lv_iconst (v := nI 2) hx hb dX0_recover_13 (by decide) ?_
        refine hs_cge (tgt := 55) hx hb (by omega) (by omega) dX0_recover_14 (by decide) (fun a2 => ?_) (fun a2 => ?_)
        · exact absurd a2 (by omega)
        · refine lv_aload_n hx hb dX0_recover_17 rfl (lv_at hl 1 rfl) ?_
          refine va_get (D := (dC, dI)) (ci := 0) (v := .ref hd) (C := RX0) (T := TX0) (N := 12) hx hb hts (by decide +kernel) hown hK hP 0 rfl rfl 5 (by decide) (hts (.fieldLink RX0 34 "HashedStore" "disk" "[I") (by decide +kernel)) (fun _ h9 => h9) rfl dX0_recover_18 ?_
          refine lv_aload_n hx hb dX0_recover_21 rfl (lv_at hl 1 rfl) ?_
          refine lv_iload_n hx hb dX0_recover_22 rfl (lv_at hl 0 rfl) ?_
          refine hs_pe (v := nI ((0 + 1) * sz)) (va_runV (As := [.int (nI (0 + 1))]) (rest := [.ref hd]) ⟨hx, hb, hml, hown, hts⟩ (kX0_areaStart l dC dI h0 hd hp cA d N w nw sz u F G kr dn lf dw ok (0 + 1)) (cwV 1 hts gX0_recover_X0_areaStart rfl rfl rfl (by decide +kernel) ⟨(Nat.le_of_ble_eq_true rfl), (Nat.le_of_ble_eq_true rfl)⟩) (hs_preV (q := (RX0, TX0, 12)) (ci := 0) hK (hP.sub [0] rfl) rfl rfl) rfl rfl hl.1 rfl (lv_room (Nat.le_of_ble_eq_true rfl)) dX0_recover_23 ⟨Nat.zero_le _, Nat.zero_le _⟩) hS hP (fun H locs hP hS => ?_)
          refine lv_aload_n hx hb dX0_recover_26 rfl (lv_at hl 1 rfl) ?_
          refine lv_iconst (v := nI 1) hx hb dX0_recover_27 (by decide) ?_
          refine hs_pe (v := nI (nw + 1 - 1)) (va_runV (As := [.int (nI 1)]) (rest := [.int (nI ((0 + 1) * sz)), .ref hd]) ⟨hx, hb, hml, hown, hts⟩ (kX0_nodeCell l dC dI h0 hd hp cA d N w nw sz u F G kr dn lf dw ok 1) (cwV 1 hts gX0_recover_X0_nodeCell rfl rfl rfl (by decide +kernel) ⟨(Nat.le_of_ble_eq_true rfl), (Nat.le_of_ble_eq_true rfl)⟩) (hs_preV (q := (RX0, TX0, 12)) (ci := 0) hK (hP.sub [0] rfl) rfl rfl) rfl rfl hl.1 rfl (lv_room (Nat.le_of_ble_eq_true rfl)) dX0_recover_28 ⟨Nat.zero_le _, Nat.zero_le _⟩) hS hP (fun H locs hP hS => ?_)
          refine hs_addN hx hb dX0_recover_31 ?_
          refine hs_ald hx hb hK hP 1 0 rfl rfl (k := ((0 + 1) * sz) + (nw + 1 - 1)) (by omega) (by omega) dX0_recover_32 ?_
          refine lv_iload_n hx hb dX0_recover_33 rfl (lv_at hl 2 rfl) ?_
          refine lv_icmp_ne (tgt := 49) hx hb dX0_recover_34 (by decide) (fun e2 => ?_) (fun e2 => ?_)
          · refine lv_iinc (v := nI ((0 + 1) + 1)) (lv' := [(2, .int (nI ((0 + 1) + 1))), (0, .ref h0), (1, .int p1)]) hx hb dX0_recover_49 hl (k := 0) rfl (nI_1 _) (by decide) rfl (fun ls hl => ?_)
            refine lv_goto (tgt := 12) hx hb dX0_recover_52 (by decide) ?_
            refine lv_iload_n hx hb dX0_recover_12 rfl (lv_at hl 0 rfl) ?_
            refine lv_iconst (v := nI 2) hx hb dX0_recover_13 (by decide) ?_
            refine hs_cge (tgt := 55) hx hb (by omega) (by omega) dX0_recover_14 (by decide) (fun a3 => ?_) (fun a3 => ?_)
            · refine lv_bipush (v := (-5)) hx hb dX0_recover_55 (by decide) ?_
              exact W.iret (v := (-5)) hx hb hr (fun t ht hW => ⟨⟨(-5), ((F, u, kr, dn, lf, dw), G), rfl, (by rw [hs_rc_4 c1 e1 e2]), by rw [ht]; exact hP, va_K.moved hW.alike hK, hD⟩, hS.F ht⟩) hS.2.2 dX0_recover_57
            · exact absurd a3 (by omega)
          · refine lv_aload_n hx hb dX0_recover_37 rfl (lv_at hl 1 rfl) ?_
            refine lv_iload_n hx hb dX0_recover_38 rfl (lv_at hl 0 rfl) ?_
            refine lv_iload_n hx hb dX0_recover_39 rfl (lv_at hl 2 rfl) ?_
            refine hs_cv (va_runV (As := [.int (nI (0 + 1)), .int p1]) (rest := []) ⟨hx, hb, hml, hown, hts⟩ (kX0_turnTo l dC dI h0 hd hp cA d N w nw sz u F G kr dn lf dw ok _ (0 + 1) p1) (cwV 2 hts gX0_recover_X0_turnTo rfl rfl rfl (by decide +kernel) ⟨(Nat.le_of_ble_eq_true rfl), (Nat.le_of_ble_eq_true rfl)⟩) (hs_preM (q := (RX0, TX0, 12)) (ci := 0) hK hP hD rfl rfl) rfl rfl hl.1 rfl (lv_room (Nat.le_of_ble_eq_true rfl)) dX0_recover_40 ⟨Nat.zero_le _, Nat.zero_le _⟩) hS hD hA (fun v H locs hv hP hD hS => ?_)
            subst hv
            have hP : va_P (dC, dI) vwCl [oX_ h0 hd hp d N w nw sz (0 + 1) p1 dn lf dw, ar_ hd cA (2 * sz) F, ar_ hp cA sz G] H := hP
            have hD : va_D (va_A [oX_ h0 hd hp d N w nw sz u kr dn lf dw, ar_ hd cA (2 * sz) F, ar_ hp cA sz G] s.heap.size) [oX_ h0 hd hp d N w nw sz (0 + 1) p1 dn lf dw, ar_ hd cA (2 * sz) F, ar_ hp cA sz G] := hD
            refine lv_aload_n hx hb dX0_recover_43 rfl (lv_at hl 1 rfl) ?_
            refine hs_cv (va_runV (As := []) (rest := []) ⟨hx, hb, hml, hown, hts⟩ (kX0_comeUp l dC dI h0 hd hp cA d N w nw sz (0 + 1) F G p1 dn lf dw ok _ ) (cwV 0 hts gX0_recover_X0_comeUp rfl rfl rfl (by decide +kernel) ⟨(Nat.le_of_ble_eq_true rfl), (Nat.le_of_ble_eq_true rfl)⟩) (hs_preM (q := (RX0, TX0, 12)) (ci := 0) hK hP hD rfl rfl) rfl rfl hl.1 rfl (lv_room (Nat.le_of_ble_eq_true rfl)) dX0_recover_44 ⟨Nat.zero_le _, Nat.zero_le _⟩) hS hD hA (fun v H locs hv hP hD hS => ?_)
            subst hv
            have hP : va_P (dC, dI) vwCl [oX_ h0 hd hp d N w nw sz (0 + 1) p1 dn (-1) false, ar_ hd cA (2 * sz) F, ar_ hp cA sz G] H := hP
            have hD : va_D (va_A [oX_ h0 hd hp d N w nw sz u kr dn lf dw, ar_ hd cA (2 * sz) F, ar_ hp cA sz G] s.heap.size) [oX_ h0 hd hp d N w nw sz (0 + 1) p1 dn (-1) false, ar_ hd cA (2 * sz) F, ar_ hp cA sz G] := hD
            refine lv_iconst (v := nI 0) hx hb dX0_recover_47 (by decide) ?_
            exact W.iret (v := nI 0) hx hb hr (fun t ht hW => ⟨⟨nI 0, ((F, (0 + 1), p1, dn, (-1), false), G), rfl, (by rw [hs_rc_3 c1 e1 e2]; rfl), by rw [ht]; exact hP, va_K.moved hW.alike hK, hD⟩, hS.F ht⟩) hS.2.2 dX0_recover_48
      · refine lv_aload_n hx hb dX0_recover_37 rfl (lv_at hl 1 rfl) ?_
        refine lv_iload_n hx hb dX0_recover_38 rfl (lv_at hl 0 rfl) ?_
        refine lv_iload_n hx hb dX0_recover_39 rfl (lv_at hl 2 rfl) ?_
        refine hs_cv (va_runV (As := [.int (nI 0), .int p1]) (rest := []) ⟨hx, hb, hml, hown, hts⟩ (kX0_turnTo l dC dI h0 hd hp cA d N w nw sz u F G kr dn lf dw ok _ 0 p1) (cwV 2 hts gX0_recover_X0_turnTo rfl rfl rfl (by decide +kernel) ⟨(Nat.le_of_ble_eq_true rfl), (Nat.le_of_ble_eq_true rfl)⟩) (hs_preM (q := (RX0, TX0, 12)) (ci := 0) hK hP hD rfl rfl) rfl rfl hl.1 rfl (lv_room (Nat.le_of_ble_eq_true rfl)) dX0_recover_40 ⟨Nat.zero_le _, Nat.zero_le _⟩) hS hD hA (fun v H locs hv hP hD hS => ?_)
        subst hv
        have hP : va_P (dC, dI) vwCl [oX_ h0 hd hp d N w nw sz 0 p1 dn lf dw, ar_ hd cA (2 * sz) F, ar_ hp cA sz G] H := hP
        have hD : va_D (va_A [oX_ h0 hd hp d N w nw sz u kr dn lf dw, ar_ hd cA (2 * sz) F, ar_ hp cA sz G] s.heap.size) [oX_ h0 hd hp d N w nw sz 0 p1 dn lf dw, ar_ hd cA (2 * sz) F, ar_ hp cA sz G] := hD
        refine lv_aload_n hx hb dX0_recover_43 rfl (lv_at hl 1 rfl) ?_
        refine hs_cv (va_runV (As := []) (rest := []) ⟨hx, hb, hml, hown, hts⟩ (kX0_comeUp l dC dI h0 hd hp cA d N w nw sz 0 F G p1 dn lf dw ok _ ) (cwV 0 hts gX0_recover_X0_comeUp rfl rfl rfl (by decide +kernel) ⟨(Nat.le_of_ble_eq_true rfl), (Nat.le_of_ble_eq_true rfl)⟩) (hs_preM (q := (RX0, TX0, 12)) (ci := 0) hK hP hD rfl rfl) rfl rfl hl.1 rfl (lv_room (Nat.le_of_ble_eq_true rfl)) dX0_recover_44 ⟨Nat.zero_le _, Nat.zero_le _⟩) hS hD hA (fun v H locs hv hP hD hS => ?_)
        subst hv
        have hP : va_P (dC, dI) vwCl [oX_ h0 hd hp d N w nw sz 0 p1 dn (-1) false, ar_ hd cA (2 * sz) F, ar_ hp cA sz G] H := hP
        have hD : va_D (va_A [oX_ h0 hd hp d N w nw sz u kr dn lf dw, ar_ hd cA (2 * sz) F, ar_ hp cA sz G] s.heap.size) [oX_ h0 hd hp d N w nw sz 0 p1 dn (-1) false, ar_ hd cA (2 * sz) F, ar_ hp cA sz G] := hD
        refine lv_iconst (v := nI 0) hx hb dX0_recover_47 (by decide) ?_
        exact W.iret (v := nI 0) hx hb hr (fun t ht hW => ⟨⟨nI 0, ((F, 0, p1, dn, (-1), false), G), rfl, (by rw [hs_rc_2 c1 e1]; rfl), by rw [ht]; exact hP, va_K.moved hW.alike hK, hD⟩, hS.F ht⟩) hS.2.2 dX0_recover_48
  · refine lv_bipush (v := (-2)) hx hb dX0_recover_7 (by decide) ?_
    exact W.iret (v := (-2)) hx hb hr (fun t ht hW => ⟨⟨(-2), ((F, u, kr, dn, lf, dw), G), rfl, (by rw [hs_rc_1 c1]), by rw [ht]; exact hP, va_K.moved hW.alike hK, hD⟩, hS.F ht⟩) hS.2.2 dX0_recover_9
