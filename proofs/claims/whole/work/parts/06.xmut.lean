set_option maxHeartbeats 4000000 in
set_option maxRecDepth 100000 in
/-- Arrays.fill: every place holds x -/
theorem kJ7_fill (l : Launch) (dC : Nat → ClassId) (dI : Nat → Nat → Nat) (q : Nat) (cA : ClassId) (qn : Nat) (f : Nat → Int32) (x : Int32) (hqn : qn < 2 ^ 31) (zz : Nat) : Met l yJ7_fill_53178 wsJ7_fill_53178 ({ frames := 0, cells := 0, slots := 0, locals := 0 }) (va_Pc [.ref q, .int x] (hs_pm (dC, dI) vwCl [(cA, .int)] [ar_ q cA qn f] zz)) (va_Qv (S := Nat → Int32) (fun g => ∀ j, j < qn → g j = x) (hs_B (dC, dI) vwCl [(cA, .int)] (fun g => [ar_ q cA qn g]) (va_A [ar_ q cA qn f] zz)) (va_A [ar_ q cA qn f] zz)) 0 0 (va_A [ar_ q cA qn f] zz) := by
  refine Met.ofW (cc := cJ7_fill_53178) (maxL := 4) (ret := none) (by decide) rfl ?_
  intro p e s m args below meth c s₁ B hml hv
  obtain ⟨rfl, hzz, hP, hK, hD0⟩ := hv
  have hx := B.exec
  have hb := B.bytes
  have hr := B.returns
  have hts := atoms_spec (ws := wsJ7_fill_53178) B.pre
  have hown : s.vm.findClass RJ7 = some m.cls := findClass_of_methodNamed B.named
  have hlocks := B.notSynchronized
  subst hzz
  have hD := hD0.self (sz := s.heap.size)
  have hS : va_S (va_A [ar_ q cA qn f] s.heap.size) s.heap s.heap [] := va_S.rf
  have hl := lv_entry ([.ref q, .int x]) (n := 4) (Nat.le_of_ble_eq_true rfl)
  rw [lg_entry_eq]
  generalize (lg_sl ([.ref q, .int x]) ++ List.replicate (4 - (lg_sl ([.ref q, .int x])).length) Slot.unset).toArray = ls at hl ⊢
  have hl : lv_has ls 4 [(0, .ref q), (1, .int x)] := hl
  refine lv_iconst (v := nI 0) hx hb dJ7_fill_53178_0 (by decide) ?_
  refine lv_istore_n (lv' := [(2, .int (nI 0)), (0, .ref q), (1, .int x)]) hx hb dJ7_fill_53178_1 rfl hl (by decide) rfl (fun ls hl => ?_)
  refine lv_aload_n hx hb dJ7_fill_53178_2 rfl (lv_at hl 1 rfl) ?_
  refine va_alen hx hb hK hP 0 0 rfl rfl (v := nI qn) rfl dJ7_fill_53178_3 ?_
  refine lv_istore_n (lv' := [(3, .int (nI qn)), (2, .int (nI 0)), (0, .ref q), (1, .int x)]) hx hb dJ7_fill_53178_4 rfl hl (by decide) rfl (fun ls hl => ?_)
  have loop : ∀ (n : Nat) (i : Nat) (g : Nat → Int32) (H : Heap) (locs : List Loc) (ls : Array Slot), (i + n = qn) → (∀ j, j < i → g j = x) → va_P (dC, dI) vwCl [ar_ q cA qn g] H → va_D (va_A [ar_ q cA qn f] s.heap.size) [ar_ q cA qn g] → va_S (va_A [ar_ q cA qn f] s.heap.size) s.heap H locs → lv_has ls 4 [(2, .int (nI i)), (3, .int (nI qn)), (0, .ref q), (1, .int x)] → W p l e (headSpec wsJ7_fill_53178 ({ frames := 0, cells := 0, slots := 0, locals := 0 })).room s m ([.ref q, .int x] : List Value).toArray below meth c H locs 0 0 (MQ below (va_Qv (S := Nat → Int32) (fun g => ∀ j, j < qn → g j = x) (hs_B (dC, dI) vwCl [(cA, .int)] (fun g => [ar_ q cA qn g]) (va_A [ar_ q cA qn f] s.heap.size)) (va_A [ar_ q cA qn f] s.heap.size)) ([.ref q, .int x] : List Value).toArray s 0 0 (va_A [ar_ q cA qn f] s.heap.size)) (F0 m 5 ls []) := by
    intro n
    induction n with
    | zero =>
      intro i g H locs ls hi hg hP hD hS hl
      refine lv_iload_n hx hb dJ7_fill_53178_5 rfl (lv_at hl 0 rfl) ?_
      refine lv_iload_n hx hb dJ7_fill_53178_6 rfl (lv_at hl 1 rfl) ?_
      refine hs_cge (tgt := 20) hx hb (by omega) (by omega) dJ7_fill_53178_7 (by decide) (fun c1 => ?_) (fun c1 => ?_)
      · exact W.vret hx hb hr (fun t ht hW => ⟨⟨g, rfl, (fun j hj => hg j (by omega)), by rw [ht]; exact hP, va_K.moved hW.alike hK, hD⟩, hS.F ht⟩) hS.2.2 dJ7_fill_53178_20
      · exact absurd c1 (by omega)
    | succ n ih =>
      intro i g H locs ls hi hg hP hD hS hl
      refine lv_iload_n hx hb dJ7_fill_53178_5 rfl (lv_at hl 0 rfl) ?_
      refine lv_iload_n hx hb dJ7_fill_53178_6 rfl (lv_at hl 1 rfl) ?_
      refine hs_cge (tgt := 20) hx hb (by omega) (by omega) dJ7_fill_53178_7 (by decide) (fun c1 => ?_) (fun c1 => ?_)
      · exact absurd c1 (by omega)
      · refine lv_aload_n hx hb dJ7_fill_53178_10 rfl (lv_at hl 2 rfl) ?_
        refine lv_iload_n hx hb dJ7_fill_53178_11 rfl (lv_at hl 0 rfl) ?_
        refine lv_iload_n hx hb dJ7_fill_53178_12 rfl (lv_at hl 3 rfl) ?_
        refine hs_ast hx hb hK hP hD hS 0 0 rfl rfl (k := i) (by omega) (by omega) dJ7_fill_53178_13 (fun H locs hP hD hS => ?_)
        have hP : va_P (dC, dI) vwCl [ar_ q cA qn (upd g i x)] H := hP
        have hD : va_D (va_A [ar_ q cA qn f] s.heap.size) [ar_ q cA qn (upd g i x)] := hD
        refine lv_iinc (v := nI (i + 1)) (lv' := [(2, .int (nI (i + 1))), (3, .int (nI qn)), (0, .ref q), (1, .int x)]) hx hb dJ7_fill_53178_14 hl (k := 0) rfl (nI_1 _) (by decide) rfl (fun ls hl => ?_)
        refine lv_goto (tgt := 5) hx hb dJ7_fill_53178_17 (by decide) ?_
        exact ih (i + 1) _ H locs ls (by omega) (fun j hj => by
          by_cases e : j = i
          · subst e; exact pk_us
          · exact (pk_un e).trans (hg j (by omega))) hP hD hS (lv_sub hl [0, 1, 2, 3] rfl)
  exact loop qn 0 f _ _ ls (by omega) (fun j hj => absurd hj (Nat.not_lt_zero j)) hP hD hS (lv_sub hl [1, 0, 2, 3] rfl)
set_option maxHeartbeats 4000000 in
set_option maxRecDepth 100000 in
theorem kX0_turnTo (l : Launch) (dC : Nat → ClassId) (dI : Nat → Nat → Nat) (h0 hd hp : Nat) (cA : ClassId) (d N w nw sz u : Nat) (F G : Nat → Int32) (kr dn lf : Int32) (dw : Bool) (ok : hs_ok d N w nw sz) (zz : Nat) (x1 : Nat) (p2 : Int32) : Met l yX0_turnTo wsX0_turnTo ({ frames := 0, cells := 0, slots := 0, locals := 0 }) (va_Pc [.ref h0, .int (nI x1), .int p2] (hs_pm (dC, dI) vwCl [(cA, .int)] [oX_ h0 hd hp d N w nw sz u kr dn lf dw, ar_ hd cA (2 * sz) F, ar_ hp cA sz G] zz)) (va_Qv (S := hs_S × (Nat → Int32)) (fun uu => uu = ((F, x1, p2, dn, lf, dw), G)) (hs_B (dC, dI) vwCl [(cA, .int)] (wfX h0 hd hp cA d N w nw sz) (va_A [oX_ h0 hd hp d N w nw sz u kr dn lf dw, ar_ hd cA (2 * sz) F, ar_ hp cA sz G] zz)) (va_A [oX_ h0 hd hp d N w nw sz u kr dn lf dw, ar_ hd cA (2 * sz) F, ar_ hp cA sz G] zz)) 0 0 (va_A [oX_ h0 hd hp d N w nw sz u kr dn lf dw, ar_ hd cA (2 * sz) F, ar_ hp cA sz G] zz) := by
  refine Met.ofW (cc := cX0_turnTo) (maxL := 3) (ret := none) (by decide) rfl ?_
  intro p e s m args below meth c s₁ B hml hv
  obtain ⟨rfl, hzz, hP, hK, hD0⟩ := hv
  have hx := B.exec
  have hb := B.bytes
  have hr := B.returns
  have hts := atoms_spec (ws := wsX0_turnTo) B.pre
  have hown : s.vm.findClass RX0 = some m.cls := findClass_of_methodNamed B.named
  have hlocks := B.notSynchronized
  obtain ⟨hd5, hN1, hN2, hw1, hw2, hn1, hn2, hsz, hsz2⟩ := hs_okf ok
  have hnw : nw = N * w := ok.2.2.2.2.1
  subst hzz
  have hD := hD0.self (sz := s.heap.size)
  have hS : va_S (va_A [oX_ h0 hd hp d N w nw sz u kr dn lf dw, ar_ hd cA (2 * sz) F, ar_ hp cA sz G] s.heap.size) s.heap s.heap [] := va_S.rf
  have hA : ∀ q : Nat, s.heap.size ≤ q → va_A [oX_ h0 hd hp d N w nw sz u kr dn lf dw, ar_ hd cA (2 * sz) F, ar_ hp cA sz G] s.heap.size q := fun q h => Or.inr h
  have hl := lv_entry ([.ref h0, .int (nI x1), .int p2]) (n := 3) (Nat.le_of_ble_eq_true rfl)
  rw [lg_entry_eq]
  generalize (lg_sl ([.ref h0, .int (nI x1), .int p2]) ++ List.replicate (3 - (lg_sl ([.ref h0, .int (nI x1), .int p2])).length) Slot.unset).toArray = ls at hl ⊢
  have hl : lv_has ls 3 [(0, .ref h0), (1, .int (nI x1)), (2, .int p2)] := hl
  refine lv_aload_n hx hb dX0_turnTo_0 rfl (lv_at hl 0 rfl) ?_
  refine lv_iload_n hx hb dX0_turnTo_1 rfl (lv_at hl 1 rfl) ?_
  refine va_put (D := (dC, dI)) (ci := 0) (v := .int (nI x1)) (ty := .int) (C := RX0) (T := TX0) (N := 12) hx hb hts (by decide +kernel) tyX0 tyX0_ok nmX0 hown hK hP hD hS 0 rfl rfl 7 (by decide) (hts (.fieldLink RX0 60 "HashedStore" "areaInUse" "I") (by decide +kernel)) (fun _ h9 => h9) rfl (by decide +kernel) rfl rfl (Nat.le_of_ble_eq_true rfl) dX0_turnTo_2 (fun H locs hP hD hS => ?_)
  have hP : va_P (dC, dI) vwCl [oX_ h0 hd hp d N w nw sz x1 kr dn lf dw, ar_ hd cA (2 * sz) F, ar_ hp cA sz G] H := hP
  have hD : va_D (va_A [oX_ h0 hd hp d N w nw sz u kr dn lf dw, ar_ hd cA (2 * sz) F, ar_ hp cA sz G] s.heap.size) [oX_ h0 hd hp d N w nw sz x1 kr dn lf dw, ar_ hd cA (2 * sz) F, ar_ hp cA sz G] := hD
  refine lv_aload_n hx hb dX0_turnTo_5 rfl (lv_at hl 0 rfl) ?_
  refine lv_iload_n hx hb dX0_turnTo_6 rfl (lv_at hl 2 rfl) ?_
  refine va_put (D := (dC, dI)) (ci := 0) (v := .int p2) (ty := .int) (C := RX0) (T := TX0) (N := 12) hx hb hts (by decide +kernel) tyX0 tyX0_ok nmX0 hown hK hP hD hS 0 rfl rfl 8 (by decide) (hts (.fieldLink RX0 83 "HashedStore" "keptRoot" "I") (by decide +kernel)) (fun _ h9 => h9) rfl (by decide +kernel) rfl rfl (Nat.le_of_ble_eq_true rfl) dX0_turnTo_7 (fun H locs hP hD hS => ?_)
  have hP : va_P (dC, dI) vwCl [oX_ h0 hd hp d N w nw sz x1 p2 dn lf dw, ar_ hd cA (2 * sz) F, ar_ hp cA sz G] H := hP
  have hD : va_D (va_A [oX_ h0 hd hp d N w nw sz u kr dn lf dw, ar_ hd cA (2 * sz) F, ar_ hp cA sz G] s.heap.size) [oX_ h0 hd hp d N w nw sz x1 p2 dn lf dw, ar_ hd cA (2 * sz) F, ar_ hp cA sz G] := hD
  exact W.vret hx hb hr (fun t ht hW => ⟨⟨((F, x1, p2, dn, lf, dw), G), rfl, rfl, by rw [ht]; exact hP, va_K.moved hW.alike hK, hD⟩, hS.F ht⟩) hS.2.2 dX0_turnTo_10
set_option maxHeartbeats 4000000 in
set_option maxRecDepth 100000 in
theorem kX0_comeUp (l : Launch) (dC : Nat → ClassId) (dI : Nat → Nat → Nat) (h0 hd hp : Nat) (cA : ClassId) (d N w nw sz u : Nat) (F G : Nat → Int32) (kr dn lf : Int32) (dw : Bool) (ok : hs_ok d N w nw sz) (zz : Nat)  : Met l yX0_comeUp wsX0_comeUp ({ frames := 0, cells := 0, slots := 0, locals := 0 }) (va_Pc [.ref h0] (hs_pm (dC, dI) vwCl [(cA, .int)] [oX_ h0 hd hp d N w nw sz u kr dn lf dw, ar_ hd cA (2 * sz) F, ar_ hp cA sz G] zz)) (va_Qv (S := hs_S × (Nat → Int32)) (fun uu => uu = ((F, u, kr, dn, -1, false), G)) (hs_B (dC, dI) vwCl [(cA, .int)] (wfX h0 hd hp cA d N w nw sz) (va_A [oX_ h0 hd hp d N w nw sz u kr dn lf dw, ar_ hd cA (2 * sz) F, ar_ hp cA sz G] zz)) (va_A [oX_ h0 hd hp d N w nw sz u kr dn lf dw, ar_ hd cA (2 * sz) F, ar_ hp cA sz G] zz)) 0 0 (va_A [oX_ h0 hd hp d N w nw sz u kr dn lf dw, ar_ hd cA (2 * sz) F, ar_ hp cA sz G] zz) := by
  refine Met.ofW (cc := cX0_comeUp) (maxL := 1) (ret := none) (by decide) rfl ?_
  intro p e s m args below meth c s₁ B hml hv
  obtain ⟨rfl, hzz, hP, hK, hD0⟩ := hv
  have hx := B.exec
  have hb := B.bytes
  have hr := B.returns
  have hts := atoms_spec (ws := wsX0_comeUp) B.pre
  have hown : s.vm.findClass RX0 = some m.cls := findClass_of_methodNamed B.named
  have hlocks := B.notSynchronized
  obtain ⟨hd5, hN1, hN2, hw1, hw2, hn1, hn2, hsz, hsz2⟩ := hs_okf ok
  have hnw : nw = N * w := ok.2.2.2.2.1
  subst hzz
  have hD := hD0.self (sz := s.heap.size)
  have hS : va_S (va_A [oX_ h0 hd hp d N w nw sz u kr dn lf dw, ar_ hd cA (2 * sz) F, ar_ hp cA sz G] s.heap.size) s.heap s.heap [] := va_S.rf
  have hA : ∀ q : Nat, s.heap.size ≤ q → va_A [oX_ h0 hd hp d N w nw sz u kr dn lf dw, ar_ hd cA (2 * sz) F, ar_ hp cA sz G] s.heap.size q := fun q h => Or.inr h
  have hl := lv_entry ([.ref h0]) (n := 1) (Nat.le_of_ble_eq_true rfl)
  rw [lg_entry_eq]
  generalize (lg_sl ([.ref h0]) ++ List.replicate (1 - (lg_sl ([.ref h0])).length) Slot.unset).toArray = ls at hl ⊢
  have hl : lv_has ls 1 [(0, .ref h0)] := hl
  refine lv_aload_n hx hb dX0_comeUp_0 rfl (lv_at hl 0 rfl) ?_
  refine lv_iconst (v := hs_b false) hx hb dX0_comeUp_1 (by decide) ?_
  refine va_put (D := (dC, dI)) (ci := 0) (v := .int (hs_b false)) (ty := .boolean) (C := RX0) (T := TX0) (N := 12) hx hb hts (by decide +kernel) tyX0 tyX0_ok nmX0 hown hK hP hD hS 0 rfl rfl 11 (by decide) (hts (.fieldLink RX0 48 "HashedStore" "isDown" "Z") (by decide +kernel)) (fun _ h9 => h9) rfl (by decide +kernel) rfl rfl (Nat.le_of_ble_eq_true rfl) dX0_comeUp_2 (fun H locs hP hD hS => ?_)
  have hP : va_P (dC, dI) vwCl [oX_ h0 hd hp d N w nw sz u kr dn lf false, ar_ hd cA (2 * sz) F, ar_ hp cA sz G] H := hP
  have hD : va_D (va_A [oX_ h0 hd hp d N w nw sz u kr dn lf dw, ar_ hd cA (2 * sz) F, ar_ hp cA sz G] s.heap.size) [oX_ h0 hd hp d N w nw sz u kr dn lf false, ar_ hd cA (2 * sz) F, ar_ hp cA sz G] := hD
  refine lv_aload_n hx hb dX0_comeUp_5 rfl (lv_at hl 0 rfl) ?_
  refine lv_iconst (v := (-1)) hx hb dX0_comeUp_6 (by decide) ?_
  refine va_put (D := (dC, dI)) (ci := 0) (v := .int (-1)) (ty := .int) (C := RX0) (T := TX0) (N := 12) hx hb hts (by decide +kernel) tyX0 tyX0_ok nmX0 hown hK hP hD hS 0 rfl rfl 10 (by decide) (hts (.fieldLink RX0 89 "HashedStore" "writesUntilCrash" "I") (by decide +kernel)) (fun _ h9 => h9) rfl (by decide +kernel) rfl rfl (Nat.le_of_ble_eq_true rfl) dX0_comeUp_7 (fun H locs hP hD hS => ?_)
  have hP : va_P (dC, dI) vwCl [oX_ h0 hd hp d N w nw sz u kr dn (-1) false, ar_ hd cA (2 * sz) F, ar_ hp cA sz G] H := hP
  have hD : va_D (va_A [oX_ h0 hd hp d N w nw sz u kr dn lf dw, ar_ hd cA (2 * sz) F, ar_ hp cA sz G] s.heap.size) [oX_ h0 hd hp d N w nw sz u kr dn (-1) false, ar_ hd cA (2 * sz) F, ar_ hp cA sz G] := hD
  exact W.vret hx hb hr (fun t ht hW => ⟨⟨((F, u, kr, dn, (-1), false), G), rfl, rfl, by rw [ht]; exact hP, va_K.moved hW.alike hK, hD⟩, hS.F ht⟩) hS.2.2 dX0_comeUp_10
set_option maxHeartbeats 4000000 in
set_option maxRecDepth 100000 in
theorem kX0_putCell (l : Launch) (dC : Nat → ClassId) (dI : Nat → Nat → Nat) (h0 hd hp : Nat) (cA : ClassId) (d N w nw sz u : Nat) (F G : Nat → Int32) (kr dn lf : Int32) (dw : Bool) (ok : hs_ok d N w nw sz) (zz : Nat) (x1 : Nat) (p2 : Int32) (hx1 : x1 < 2 * sz) : Met l yX0_putCell wsX0_putCell ({ frames := 0, cells := 0, slots := 0, locals := 0 }) (va_Pc [.ref h0, .int (nI x1), .int p2] (hs_pm (dC, dI) vwCl [(cA, .int)] [oX_ h0 hd hp d N w nw sz u kr dn lf dw, ar_ hd cA (2 * sz) F, ar_ hp cA sz G] zz)) (va_Qi (S := hs_S × (Nat → Int32)) (fun r uu => (lf = 0 ∧ r = 0 ∧ uu = ((F, u, kr, dn, lf, true), G)) ∨ (¬ lf = 0 ∧ r = 1 ∧ uu = ((upd F x1 p2, u, kr, dn + 1, (if lf = -1 then lf else lf - 1), dw), G))) (hs_B (dC, dI) vwCl [(cA, .int)] (wfX h0 hd hp cA d N w nw sz) (va_A [oX_ h0 hd hp d N w nw sz u kr dn lf dw, ar_ hd cA (2 * sz) F, ar_ hp cA sz G] zz)) (va_A [oX_ h0 hd hp d N w nw sz u kr dn lf dw, ar_ hd cA (2 * sz) F, ar_ hp cA sz G] zz)) 0 0 (va_A [oX_ h0 hd hp d N w nw sz u kr dn lf dw, ar_ hd cA (2 * sz) F, ar_ hp cA sz G] zz) := by
  refine Met.ofW (cc := cX0_putCell) (maxL := 3) (ret := (some .boolean)) (by decide) rfl ?_
  intro p e s m args below meth c s₁ B hml hv
  obtain ⟨rfl, hzz, hP, hK, hD0⟩ := hv
  have hx := B.exec
  have hb := B.bytes
  have hr := B.returns
  have hts := atoms_spec (ws := wsX0_putCell) B.pre
  have hown : s.vm.findClass RX0 = some m.cls := findClass_of_methodNamed B.named
  have hlocks := B.notSynchronized
  obtain ⟨hd5, hN1, hN2, hw1, hw2, hn1, hn2, hsz, hsz2⟩ := hs_okf ok
  have hnw : nw = N * w := ok.2.2.2.2.1
  subst hzz
  have hD := hD0.self (sz := s.heap.size)
  have hS : va_S (va_A [oX_ h0 hd hp d N w nw sz u kr dn lf dw, ar_ hd cA (2 * sz) F, ar_ hp cA sz G] s.heap.size) s.heap s.heap [] := va_S.rf
  have hA : ∀ q : Nat, s.heap.size ≤ q → va_A [oX_ h0 hd hp d N w nw sz u kr dn lf dw, ar_ hd cA (2 * sz) F, ar_ hp cA sz G] s.heap.size q := fun q h => Or.inr h
  have hl := lv_entry ([.ref h0, .int (nI x1), .int p2]) (n := 3) (Nat.le_of_ble_eq_true rfl)
  rw [lg_entry_eq]
  generalize (lg_sl ([.ref h0, .int (nI x1), .int p2]) ++ List.replicate (3 - (lg_sl ([.ref h0, .int (nI x1), .int p2])).length) Slot.unset).toArray = ls at hl ⊢
  have hl : lv_has ls 3 [(0, .ref h0), (1, .int (nI x1)), (2, .int p2)] := hl
  refine lv_aload_n hx hb dX0_putCell_0 rfl (lv_at hl 0 rfl) ?_
  refine va_get (D := (dC, dI)) (ci := 0) (v := .int lf) (C := RX0) (T := TX0) (N := 12) hx hb hts (by decide +kernel) hown hK hP 0 rfl rfl 10 (by decide) (hts (.fieldLink RX0 89 "HashedStore" "writesUntilCrash" "I") (by decide +kernel)) (fun _ h9 => h9) rfl dX0_putCell_1 ?_
  refine lv_if_ne (tgt := 14) hx hb dX0_putCell_4 (by decide) (fun c1 => ?_) (fun c1 => ?_)
  · refine lv_aload_n hx hb dX0_putCell_14 rfl (lv_at hl 0 rfl) ?_
    refine va_get (D := (dC, dI)) (ci := 0) (v := .int lf) (C := RX0) (T := TX0) (N := 12) hx hb hts (by decide +kernel) hown hK hP 0 rfl rfl 10 (by decide) (hts (.fieldLink RX0 89 "HashedStore" "writesUntilCrash" "I") (by decide +kernel)) (fun _ h9 => h9) rfl dX0_putCell_15 ?_
    refine lv_iconst (v := (-1)) hx hb dX0_putCell_18 (by decide) ?_
    refine lv_icmp_eq (tgt := 32) hx hb dX0_putCell_19 (by decide) (fun c2 => ?_) (fun c2 => ?_)
    · refine lv_aload_n hx hb dX0_putCell_32 rfl (lv_at hl 0 rfl) ?_
      refine va_get (D := (dC, dI)) (ci := 0) (v := .ref hd) (C := RX0) (T := TX0) (N := 12) hx hb hts (by decide +kernel) hown hK hP 0 rfl rfl 5 (by decide) (hts (.fieldLink RX0 34 "HashedStore" "disk" "[I") (by decide +kernel)) (fun _ h9 => h9) rfl dX0_putCell_33 ?_
      refine lv_iload_n hx hb dX0_putCell_36 rfl (lv_at hl 1 rfl) ?_
      refine lv_iload_n hx hb dX0_putCell_37 rfl (lv_at hl 2 rfl) ?_
      refine hs_ast hx hb hK hP hD hS 1 0 rfl rfl (k := x1) (by omega) (by omega) dX0_putCell_38 (fun H locs hP hD hS => ?_)
      have hP : va_P (dC, dI) vwCl [oX_ h0 hd hp d N w nw sz u kr dn lf dw, ar_ hd cA (2 * sz) (upd F x1 p2), ar_ hp cA sz G] H := hP
      have hD : va_D (va_A [oX_ h0 hd hp d N w nw sz u kr dn lf dw, ar_ hd cA (2 * sz) F, ar_ hp cA sz G] s.heap.size) [oX_ h0 hd hp d N w nw sz u kr dn lf dw, ar_ hd cA (2 * sz) (upd F x1 p2), ar_ hp cA sz G] := hD
      refine lv_aload_n hx hb dX0_putCell_39 rfl (lv_at hl 0 rfl) ?_
      refine lv_dup hx hb dX0_putCell_40 rfl ?_
      refine va_get (D := (dC, dI)) (ci := 0) (v := .int dn) (C := RX0) (T := TX0) (N := 12) hx hb hts (by decide +kernel) hown hK hP 0 rfl rfl 9 (by decide) (hts (.fieldLink RX0 95 "HashedStore" "writeCount" "I") (by decide +kernel)) (fun _ h9 => h9) rfl dX0_putCell_41 ?_
      refine lv_iconst (v := 1) hx hb dX0_putCell_44 (by decide) ?_
      refine lv_iadd hx hb dX0_putCell_45 ?_
      refine va_put (D := (dC, dI)) (ci := 0) (v := .int (dn + 1)) (ty := .int) (C := RX0) (T := TX0) (N := 12) hx hb hts (by decide +kernel) tyX0 tyX0_ok nmX0 hown hK hP hD hS 0 rfl rfl 9 (by decide) (hts (.fieldLink RX0 95 "HashedStore" "writeCount" "I") (by decide +kernel)) (fun _ h9 => h9) rfl (by decide +kernel) rfl rfl (Nat.le_of_ble_eq_true rfl) dX0_putCell_46 (fun H locs hP hD hS => ?_)
      have hP : va_P (dC, dI) vwCl [oX_ h0 hd hp d N w nw sz u kr (dn + 1) lf dw, ar_ hd cA (2 * sz) (upd F x1 p2), ar_ hp cA sz G] H := hP
      have hD : va_D (va_A [oX_ h0 hd hp d N w nw sz u kr dn lf dw, ar_ hd cA (2 * sz) F, ar_ hp cA sz G] s.heap.size) [oX_ h0 hd hp d N w nw sz u kr (dn + 1) lf dw, ar_ hd cA (2 * sz) (upd F x1 p2), ar_ hp cA sz G] := hD
      refine lv_iconst (v := nI 1) hx hb dX0_putCell_49 (by decide) ?_
      exact W.zret (v := nI 1) hx hb hr rfl (fun t ht hW => ⟨⟨nI 1, ((upd F x1 p2, u, kr, (dn + 1), lf, dw), G), rfl, (Or.inr ⟨c1, rfl, by rw [if_pos c2]⟩), by rw [ht]; exact hP, va_K.moved hW.alike hK, hD⟩, hS.F ht⟩) hS.2.2 dX0_putCell_50
    · refine lv_aload_n hx hb dX0_putCell_22 rfl (lv_at hl 0 rfl) ?_
      refine lv_dup hx hb dX0_putCell_23 rfl ?_
      refine va_get (D := (dC, dI)) (ci := 0) (v := .int lf) (C := RX0) (T := TX0) (N := 12) hx hb hts (by decide +kernel) hown hK hP 0 rfl rfl 10 (by decide) (hts (.fieldLink RX0 89 "HashedStore" "writesUntilCrash" "I") (by decide +kernel)) (fun _ h9 => h9) rfl dX0_putCell_24 ?_
      refine lv_iconst (v := 1) hx hb dX0_putCell_27 (by decide) ?_
      refine lv_isub hx hb dX0_putCell_28 ?_
      refine va_put (D := (dC, dI)) (ci := 0) (v := .int (lf - 1)) (ty := .int) (C := RX0) (T := TX0) (N := 12) hx hb hts (by decide +kernel) tyX0 tyX0_ok nmX0 hown hK hP hD hS 0 rfl rfl 10 (by decide) (hts (.fieldLink RX0 89 "HashedStore" "writesUntilCrash" "I") (by decide +kernel)) (fun _ h9 => h9) rfl (by decide +kernel) rfl rfl (Nat.le_of_ble_eq_true rfl) dX0_putCell_29 (fun H locs hP hD hS => ?_)
      have hP : va_P (dC, dI) vwCl [oX_ h0 hd hp d N w nw sz u kr dn (lf - 1) dw, ar_ hd cA (2 * sz) F, ar_ hp cA sz G] H := hP
      have hD : va_D (va_A [oX_ h0 hd hp d N w nw sz u kr dn lf dw, ar_ hd cA (2 * sz) F, ar_ hp cA sz G] s.heap.size) [oX_ h0 hd hp d N w nw sz u kr dn (lf - 1) dw, ar_ hd cA (2 * sz) F, ar_ hp cA sz G] := hD
      refine lv_aload_n hx hb dX0_putCell_32 rfl (lv_at hl 0 rfl) ?_
      refine va_get (D := (dC, dI)) (ci := 0) (v := .ref hd) (C := RX0) (T := TX0) (N := 12) hx hb hts (by decide +kernel) hown hK hP 0 rfl rfl 5 (by decide) (hts (.fieldLink RX0 34 "HashedStore" "disk" "[I") (by decide +kernel)) (fun _ h9 => h9) rfl dX0_putCell_33 ?_
      refine lv_iload_n hx hb dX0_putCell_36 rfl (lv_at hl 1 rfl) ?_
      refine lv_iload_n hx hb dX0_putCell_37 rfl (lv_at hl 2 rfl) ?_
      refine hs_ast hx hb hK hP hD hS 1 0 rfl rfl (k := x1) (by omega) (by omega) dX0_putCell_38 (fun H locs hP hD hS => ?_)
      have hP : va_P (dC, dI) vwCl [oX_ h0 hd hp d N w nw sz u kr dn (lf - 1) dw, ar_ hd cA (2 * sz) (upd F x1 p2), ar_ hp cA sz G] H := hP
      have hD : va_D (va_A [oX_ h0 hd hp d N w nw sz u kr dn lf dw, ar_ hd cA (2 * sz) F, ar_ hp cA sz G] s.heap.size) [oX_ h0 hd hp d N w nw sz u kr dn (lf - 1) dw, ar_ hd cA (2 * sz) (upd F x1 p2), ar_ hp cA sz G] := hD
      refine lv_aload_n hx hb dX0_putCell_39 rfl (lv_at hl 0 rfl) ?_
      refine lv_dup hx hb dX0_putCell_40 rfl ?_
      refine va_get (D := (dC, dI)) (ci := 0) (v := .int dn) (C := RX0) (T := TX0) (N := 12) hx hb hts (by decide +kernel) hown hK hP 0 rfl rfl 9 (by decide) (hts (.fieldLink RX0 95 "HashedStore" "writeCount" "I") (by decide +kernel)) (fun _ h9 => h9) rfl dX0_putCell_41 ?_
      refine lv_iconst (v := 1) hx hb dX0_putCell_44 (by decide) ?_
      refine lv_iadd hx hb dX0_putCell_45 ?_
      refine va_put (D := (dC, dI)) (ci := 0) (v := .int (dn + 1)) (ty := .int) (C := RX0) (T := TX0) (N := 12) hx hb hts (by decide +kernel) tyX0 tyX0_ok nmX0 hown hK hP hD hS 0 rfl rfl 9 (by decide) (hts (.fieldLink RX0 95 "HashedStore" "writeCount" "I") (by decide +kernel)) (fun _ h9 => h9) rfl (by decide +kernel) rfl rfl (Nat.le_of_ble_eq_true rfl) dX0_putCell_46 (fun H locs hP hD hS => ?_)
      have hP : va_P (dC, dI) vwCl [oX_ h0 hd hp d N w nw sz u kr (dn + 1) (lf - 1) dw, ar_ hd cA (2 * sz) (upd F x1 p2), ar_ hp cA sz G] H := hP
      have hD : va_D (va_A [oX_ h0 hd hp d N w nw sz u kr dn lf dw, ar_ hd cA (2 * sz) F, ar_ hp cA sz G] s.heap.size) [oX_ h0 hd hp d N w nw sz u kr (dn + 1) (lf - 1) dw, ar_ hd cA (2 * sz) (upd F x1 p2), ar_ hp cA sz G] := hD
      refine lv_iconst (v := nI 1) hx hb dX0_putCell_49 (by decide) ?_
      exact W.zret (v := nI 1) hx hb hr rfl (fun t ht hW => ⟨⟨nI 1, ((upd F x1 p2, u, kr, (dn + 1), (lf - 1), dw), G), rfl, (Or.inr ⟨c1, rfl, by rw [if_neg c2]⟩), by rw [ht]; exact hP, va_K.moved hW.alike hK, hD⟩, hS.F ht⟩) hS.2.2 dX0_putCell_50
  · refine lv_aload_n hx hb dX0_putCell_7 rfl (lv_at hl 0 rfl) ?_
    refine lv_iconst (v := hs_b true) hx hb dX0_putCell_8 (by decide) ?_
    refine va_put (D := (dC, dI)) (ci := 0) (v := .int (hs_b true)) (ty := .boolean) (C := RX0) (T := TX0) (N := 12) hx hb hts (by decide +kernel) tyX0 tyX0_ok nmX0 hown hK hP hD hS 0 rfl rfl 11 (by decide) (hts (.fieldLink RX0 48 "HashedStore" "isDown" "Z") (by decide +kernel)) (fun _ h9 => h9) rfl (by decide +kernel) rfl rfl (Nat.le_of_ble_eq_true rfl) dX0_putCell_9 (fun H locs hP hD hS => ?_)
    have hP : va_P (dC, dI) vwCl [oX_ h0 hd hp d N w nw sz u kr dn lf true, ar_ hd cA (2 * sz) F, ar_ hp cA sz G] H := hP
    have hD : va_D (va_A [oX_ h0 hd hp d N w nw sz u kr dn lf dw, ar_ hd cA (2 * sz) F, ar_ hp cA sz G] s.heap.size) [oX_ h0 hd hp d N w nw sz u kr dn lf true, ar_ hd cA (2 * sz) F, ar_ hp cA sz G] := hD
    refine lv_iconst (v := nI 0) hx hb dX0_putCell_12 (by decide) ?_
    exact W.zret (v := nI 0) hx hb hr rfl (fun t ht hW => ⟨⟨nI 0, ((F, u, kr, dn, lf, true), G), rfl, (Or.inl ⟨c1, rfl, rfl⟩), by rw [ht]; exact hP, va_K.moved hW.alike hK, hD⟩, hS.F ht⟩) hS.2.2 dX0_putCell_13
set_option maxHeartbeats 4000000 in
set_option maxRecDepth 100000 in
theorem kX0_bringToPlan (l : Launch) (dC : Nat → ClassId) (dI : Nat → Nat → Nat) (h0 hd hp : Nat) (cA : ClassId) (d N w nw sz u : Nat) (F G : Nat → Int32) (kr dn lf : Int32) (dw : Bool) (ok : hs_ok d N w nw sz) (zz : Nat) (o x : Nat) (hx2 : o + x < 2 * sz) (hxs : x < sz) : Met l yX0_bringToPlan wsX0_bringToPlan ({ frames := 1, cells := 0, slots := 0, locals := 22 }) (va_Pc [.ref h0, .int (nI o), .int (nI x)] (hs_pm (dC, dI) vwCl [(cA, .int)] [oX_ h0 hd hp d N w nw sz u kr dn lf dw, ar_ hd cA (2 * sz) F, ar_ hp cA sz G] zz)) (va_Qi (S := hs_S × (Nat → Int32)) (fun r uu => r = hs_b (hs_put o G x (F, lf, dn, dw)).2 ∧ uu = (((hs_put o G x (F, lf, dn, dw)).1.1, u, kr, (hs_put o G x (F, lf, dn, dw)).1.2.2.1, (hs_put o G x (F, lf, dn, dw)).1.2.1, (hs_put o G x (F, lf, dn, dw)).1.2.2.2), G)) (hs_B (dC, dI) vwCl [(cA, .int)] (wfX h0 hd hp cA d N w nw sz) (va_A [oX_ h0 hd hp d N w nw sz u kr dn lf dw, ar_ hd cA (2 * sz) F, ar_ hp cA sz G] zz)) (va_A [oX_ h0 hd hp d N w nw sz u kr dn lf dw, ar_ hd cA (2 * sz) F, ar_ hp cA sz G] zz)) 0 0 (va_A [oX_ h0 hd hp d N w nw sz u kr dn lf dw, ar_ hd cA (2 * sz) F, ar_ hp cA sz G] zz) := by
  refine Met.ofW (cc := cX0_bringToPlan) (maxL := 3) (ret := (some .boolean)) (by decide) rfl ?_
  intro p e s m args below meth c s₁ B hml hv
  obtain ⟨rfl, hzz, hP, hK, hD0⟩ := hv
  have hx := B.exec
  have hb := B.bytes
  have hr := B.returns
  have hts := atoms_spec (ws := wsX0_bringToPlan) B.pre
  have hown : s.vm.findClass RX0 = some m.cls := findClass_of_methodNamed B.named
  have hlocks := B.notSynchronized
  obtain ⟨hd5, hN1, hN2, hw1, hw2, hn1, hn2, hsz, hsz2⟩ := hs_okf ok
  have hnw : nw = N * w := ok.2.2.2.2.1
  subst hzz
  have hD := hD0.self (sz := s.heap.size)
  have hS : va_S (va_A [oX_ h0 hd hp d N w nw sz u kr dn lf dw, ar_ hd cA (2 * sz) F, ar_ hp cA sz G] s.heap.size) s.heap s.heap [] := va_S.rf
  have hA : ∀ q : Nat, s.heap.size ≤ q → va_A [oX_ h0 hd hp d N w nw sz u kr dn lf dw, ar_ hd cA (2 * sz) F, ar_ hp cA sz G] s.heap.size q := fun q h => Or.inr h
  have hl := lv_entry ([.ref h0, .int (nI o), .int (nI x)]) (n := 3) (Nat.le_of_ble_eq_true rfl)
  rw [lg_entry_eq]
  generalize (lg_sl ([.ref h0, .int (nI o), .int (nI x)]) ++ List.replicate (3 - (lg_sl ([.ref h0, .int (nI o), .int (nI x)])).length) Slot.unset).toArray = ls at hl ⊢
  have hl : lv_has ls 3 [(0, .ref h0), (1, .int (nI o)), (2, .int (nI x))] := hl
  refine lv_aload_n hx hb dX0_bringToPlan_0 rfl (lv_at hl 0 rfl) ?_
  refine va_get (D := (dC, dI)) (ci := 0) (v := .ref hd) (C := RX0) (T := TX0) (N := 12) hx hb hts (by decide +kernel) hown hK hP 0 rfl rfl 5 (by decide) (hts (.fieldLink RX0 34 "HashedStore" "disk" "[I") (by decide +kernel)) (fun _ h9 => h9) rfl dX0_bringToPlan_1 ?_
  refine lv_iload_n hx hb dX0_bringToPlan_4 rfl (lv_at hl 1 rfl) ?_
  refine lv_iload_n hx hb dX0_bringToPlan_5 rfl (lv_at hl 2 rfl) ?_
  refine hs_addN hx hb dX0_bringToPlan_6 ?_
  refine hs_ald hx hb hK hP 1 0 rfl rfl (k := o + x) (by omega) (by omega) dX0_bringToPlan_7 ?_
  refine lv_aload_n hx hb dX0_bringToPlan_8 rfl (lv_at hl 0 rfl) ?_
  refine va_get (D := (dC, dI)) (ci := 0) (v := .ref hp) (C := RX0) (T := TX0) (N := 12) hx hb hts (by decide +kernel) hown hK hP 0 rfl rfl 6 (by decide) (hts (.fieldLink RX0 38 "HashedStore" "plan" "[I") (by decide +kernel)) (fun _ h9 => h9) rfl dX0_bringToPlan_9 ?_
  refine lv_iload_n hx hb dX0_bringToPlan_12 rfl (lv_at hl 2 rfl) ?_
  refine hs_ald hx hb hK hP 2 0 rfl rfl (k := x) (by omega) (by omega) dX0_bringToPlan_13 ?_
  refine lv_icmp_eq (tgt := 33) hx hb dX0_bringToPlan_14 (by decide) (fun c1 => ?_) (fun c1 => ?_)
  · refine lv_iconst (v := nI 1) hx hb dX0_bringToPlan_33 (by decide) ?_
    refine lv_goto (tgt := 38) hx hb dX0_bringToPlan_34 (by decide) ?_
    exact W.zret (v := nI 1) hx hb hr rfl (fun t ht hW => ⟨⟨nI 1, ((F, u, kr, dn, lf, dw), G), rfl, (by rw [hs_put, if_pos c1]; exact ⟨rfl, rfl⟩), by rw [ht]; exact hP, va_K.moved hW.alike hK, hD⟩, hS.F ht⟩) hS.2.2 dX0_bringToPlan_38
  · refine lv_aload_n hx hb dX0_bringToPlan_17 rfl (lv_at hl 0 rfl) ?_
    refine lv_iload_n hx hb dX0_bringToPlan_18 rfl (lv_at hl 1 rfl) ?_
    refine lv_iload_n hx hb dX0_bringToPlan_19 rfl (lv_at hl 2 rfl) ?_
    refine hs_addN hx hb dX0_bringToPlan_20 ?_
    refine lv_aload_n hx hb dX0_bringToPlan_21 rfl (lv_at hl 0 rfl) ?_
    refine va_get (D := (dC, dI)) (ci := 0) (v := .ref hp) (C := RX0) (T := TX0) (N := 12) hx hb hts (by decide +kernel) hown hK hP 0 rfl rfl 6 (by decide) (hts (.fieldLink RX0 38 "HashedStore" "plan" "[I") (by decide +kernel)) (fun _ h9 => h9) rfl dX0_bringToPlan_22 ?_
    refine lv_iload_n hx hb dX0_bringToPlan_25 rfl (lv_at hl 2 rfl) ?_
    refine hs_ald hx hb hK hP 2 0 rfl rfl (k := x) (by omega) (by omega) dX0_bringToPlan_26 ?_
    refine hs_ci (va_runV (As := [.int (nI (o + x)), .int (G x)]) (rest := []) ⟨hx, hb, hml, hown, hts⟩ (kX0_putCell l dC dI h0 hd hp cA d N w nw sz u F G kr dn lf dw ok _ (o + x) (G x) (by omega)) (cwV 2 hts gX0_bringToPlan_X0_putCell rfl rfl rfl (by decide +kernel) ⟨(Nat.le_of_ble_eq_true rfl), (Nat.le_of_ble_eq_true rfl)⟩) (hs_preM (q := (RX0, TX0, 12)) (ci := 0) hK hP hD rfl rfl) rfl rfl hl.1 rfl (lv_room (Nat.le_of_ble_eq_true rfl)) dX0_bringToPlan_27 ⟨Nat.zero_le _, Nat.zero_le _⟩) hS hD hA (fun rv v H locs hv hP hD hS => ?_)
    rcases hv with ⟨c2, rfl, rfl⟩ | ⟨c2, rfl, rfl⟩
    · have c2 := c2
      have hP : va_P (dC, dI) vwCl [oX_ h0 hd hp d N w nw sz u kr dn lf true, ar_ hd cA (2 * sz) F, ar_ hp cA sz G] H := hP
      have hD : va_D (va_A [oX_ h0 hd hp d N w nw sz u kr dn lf dw, ar_ hd cA (2 * sz) F, ar_ hp cA sz G] s.heap.size) [oX_ h0 hd hp d N w nw sz u kr dn lf true, ar_ hd cA (2 * sz) F, ar_ hp cA sz G] := hD
      refine lv_if_eq (tgt := 37) hx hb dX0_bringToPlan_30 (by decide) (fun c3 => ?_) (fun c3 => ?_)
      · refine lv_iconst (v := nI 0) hx hb dX0_bringToPlan_37 (by decide) ?_
        exact W.zret (v := nI 0) hx hb hr rfl (fun t ht hW => ⟨⟨nI 0, ((F, u, kr, dn, lf, true), G), rfl, (by rw [hs_put, if_neg c1, if_pos c2]; exact ⟨rfl, rfl⟩), by rw [ht]; exact hP, va_K.moved hW.alike hK, hD⟩, hS.F ht⟩) hS.2.2 dX0_bringToPlan_38
      · exact absurd rfl c3
    · have c2 := c2
      have hP : va_P (dC, dI) vwCl [oX_ h0 hd hp d N w nw sz u kr (dn + 1) (if lf = -1 then lf else lf - 1) dw, ar_ hd cA (2 * sz) (upd F (o + x) (G x)), ar_ hp cA sz G] H := hP
      have hD : va_D (va_A [oX_ h0 hd hp d N w nw sz u kr dn lf dw, ar_ hd cA (2 * sz) F, ar_ hp cA sz G] s.heap.size) [oX_ h0 hd hp d N w nw sz u kr (dn + 1) (if lf = -1 then lf else lf - 1) dw, ar_ hd cA (2 * sz) (upd F (o + x) (G x)), ar_ hp cA sz G] := hD
      refine lv_if_eq (tgt := 37) hx hb dX0_bringToPlan_30 (by decide) (fun c3 => ?_) (fun c3 => ?_)
      · exact absurd c3 (by decide)
      · refine lv_iconst (v := nI 1) hx hb dX0_bringToPlan_33 (by decide) ?_
        refine lv_goto (tgt := 38) hx hb dX0_bringToPlan_34 (by decide) ?_
        exact W.zret (v := nI 1) hx hb hr rfl (fun t ht hW => ⟨⟨nI 1, ((upd F (o + x) (G x), u, kr, (dn + 1), (if lf = -1 then lf else lf - 1), dw), G), rfl, (by rw [hs_put, if_neg c1, if_neg c2]; exact ⟨rfl, rfl⟩), by rw [ht]; exact hP, va_K.moved hW.alike hK, hD⟩, hS.F ht⟩) hS.2.2 dX0_bringToPlan_38
set_option maxHeartbeats 4000000 in
set_option maxRecDepth 100000 in
theorem kX0_carryOutPlan (l : Launch) (dC : Nat → ClassId) (dI : Nat → Nat → Nat) (h0 hd hp : Nat) (cA : ClassId) (d N w nw sz u : Nat) (F G : Nat → Int32) (kr dn lf : Int32) (dw : Bool) (ok : hs_ok d N w nw sz) (zz : Nat) (o : Nat) (ho : o + sz ≤ 2 * sz) : Met l yX0_carryOutPlan wsX0_carryOutPlan ({ frames := 2, cells := 0, slots := 0, locals := 44 }) (va_Pc [.ref h0, .int (nI o)] (hs_pm (dC, dI) vwCl [(cA, .int)] [oX_ h0 hd hp d N w nw sz u kr dn lf dw, ar_ hd cA (2 * sz) F, ar_ hp cA sz G] zz)) (va_Qi (S := hs_S × (Nat → Int32)) (fun r uu => r = hs_b (hs_ps o G (hs_cs N nw) (F, lf, dn, dw)).2 ∧ uu = (((hs_ps o G (hs_cs N nw) (F, lf, dn, dw)).1.1, u, kr, (hs_ps o G (hs_cs N nw) (F, lf, dn, dw)).1.2.2.1, (hs_ps o G (hs_cs N nw) (F, lf, dn, dw)).1.2.1, (hs_ps o G (hs_cs N nw) (F, lf, dn, dw)).1.2.2.2), G)) (hs_B (dC, dI) vwCl [(cA, .int)] (wfX h0 hd hp cA d N w nw sz) (va_A [oX_ h0 hd hp d N w nw sz u kr dn lf dw, ar_ hd cA (2 * sz) F, ar_ hp cA sz G] zz)) (va_A [oX_ h0 hd hp d N w nw sz u kr dn lf dw, ar_ hd cA (2 * sz) F, ar_ hp cA sz G] zz)) 0 0 (va_A [oX_ h0 hd hp d N w nw sz u kr dn lf dw, ar_ hd cA (2 * sz) F, ar_ hp cA sz G] zz) := by
  refine Met.ofW (cc := cX0_carryOutPlan) (maxL := 3) (ret := (some .boolean)) (by decide) rfl ?_
  intro p e s m args below meth c s₁ B hml hv
  obtain ⟨rfl, hzz, hP, hK, hD0⟩ := hv
  have hx := B.exec
  have hb := B.bytes
  have hr := B.returns
  have hts := atoms_spec (ws := wsX0_carryOutPlan) B.pre
  have hown : s.vm.findClass RX0 = some m.cls := findClass_of_methodNamed B.named
  have hlocks := B.notSynchronized
  obtain ⟨hd5, hN1, hN2, hw1, hw2, hn1, hn2, hsz, hsz2⟩ := hs_okf ok
  have hnw : nw = N * w := ok.2.2.2.2.1
  subst hzz
  have hD := hD0.self (sz := s.heap.size)
  have hS : va_S (va_A [oX_ h0 hd hp d N w nw sz u kr dn lf dw, ar_ hd cA (2 * sz) F, ar_ hp cA sz G] s.heap.size) s.heap s.heap [] := va_S.rf
  have hA : ∀ q : Nat, s.heap.size ≤ q → va_A [oX_ h0 hd hp d N w nw sz u kr dn lf dw, ar_ hd cA (2 * sz) F, ar_ hp cA sz G] s.heap.size q := fun q h => Or.inr h
  have hl := lv_entry ([.ref h0, .int (nI o)]) (n := 3) (Nat.le_of_ble_eq_true rfl)
  rw [lg_entry_eq]
  generalize (lg_sl ([.ref h0, .int (nI o)]) ++ List.replicate (3 - (lg_sl ([.ref h0, .int (nI o)])).length) Slot.unset).toArray = ls at hl ⊢
  have hl : lv_has ls 3 [(0, .ref h0), (1, .int (nI o))] := hl
  have loop2 : ∀ (n : Nat) (x : Nat) (F1 : Nat → Int32) (lf1 : Int32) (dn1 : Int32) (dw1 : Bool) (H : Heap) (locs : List Loc) (ls : Array Slot), (x + 1 = nw + n) → (n ≤ 2 * N - 1) → (hs_ps o G (hs_ds nw n) (F1, lf1, dn1, dw1) = (hs_ps o G (hs_cs N nw) (F, lf, dn, dw))) → va_P (dC, dI) vwCl [oX_ h0 hd hp d N w nw sz u kr dn1 lf1 dw1, ar_ hd cA (2 * sz) F1, ar_ hp cA sz G] H → va_D (va_A [oX_ h0 hd hp d N w nw sz u kr dn lf dw, ar_ hd cA (2 * sz) F, ar_ hp cA sz G] s.heap.size) [oX_ h0 hd hp d N w nw sz u kr dn1 lf1 dw1, ar_ hd cA (2 * sz) F1, ar_ hp cA sz G] → va_S (va_A [oX_ h0 hd hp d N w nw sz u kr dn lf dw, ar_ hd cA (2 * sz) F, ar_ hp cA sz G] s.heap.size) s.heap H locs → lv_has ls 3 [(2, .int (nI x)), (0, .ref h0), (1, .int (nI o))] → W p l e (headSpec wsX0_carryOutPlan ({ frames := 2, cells := 0, slots := 0, locals := 44 })).room s m ([.ref h0, .int (nI o)] : List Value).toArray below meth c H locs 0 0 (MQ below (va_Qi (S := hs_S × (Nat → Int32)) (fun r uu => r = hs_b (hs_ps o G (hs_cs N nw) (F, lf, dn, dw)).2 ∧ uu = (((hs_ps o G (hs_cs N nw) (F, lf, dn, dw)).1.1, u, kr, (hs_ps o G (hs_cs N nw) (F, lf, dn, dw)).1.2.2.1, (hs_ps o G (hs_cs N nw) (F, lf, dn, dw)).1.2.1, (hs_ps o G (hs_cs N nw) (F, lf, dn, dw)).1.2.2.2), G)) (hs_B (dC, dI) vwCl [(cA, .int)] (wfX h0 hd hp cA d N w nw sz) (va_A [oX_ h0 hd hp d N w nw sz u kr dn lf dw, ar_ hd cA (2 * sz) F, ar_ hp cA sz G] s.heap.size)) (va_A [oX_ h0 hd hp d N w nw sz u kr dn lf dw, ar_ hd cA (2 * sz) F, ar_ hp cA sz G] s.heap.size)) ([.ref h0, .int (nI o)] : List Value).toArray s 0 0 (va_A [oX_ h0 hd hp d N w nw sz u kr dn lf dw, ar_ hd cA (2 * sz) F, ar_ hp cA sz G] s.heap.size)) (F0 m 34 ls []) := by
    intro n
    induction n with
    | zero =>
      intro x F1 lf1 dn1 dw1 H locs ls hx2 hn3 he hP hD hS hl
      refine lv_iload_n hx hb dX0_carryOutPlan_34 rfl (lv_at hl 0 rfl) ?_
      refine lv_aload_n hx hb dX0_carryOutPlan_35 rfl (lv_at hl 1 rfl) ?_
      refine va_get (D := (dC, dI)) (ci := 0) (v := .int (nI nw)) (C := RX0) (T := TX0) (N := 12) hx hb hts (by decide +kernel) hown hK hP 0 rfl rfl 3 (by decide) (hts (.fieldLink RX0 28 "HashedStore" "areaWords" "I") (by decide +kernel)) (fun _ h9 => h9) rfl dX0_carryOutPlan_36 ?_
      refine hs_clt (tgt := 59) hx hb (by omega) (by omega) dX0_carryOutPlan_39 (by decide) (fun c1 => ?_) (fun c1 => ?_)
      · refine lv_iconst (v := nI 1) hx hb dX0_carryOutPlan_59 (by decide) ?_
        exact W.zret (v := nI 1) hx hb hr rfl (fun t ht hW => ⟨⟨nI 1, ((F1, u, kr, dn1, lf1, dw1), G), rfl, (by rw [← he]; exact ⟨rfl, rfl⟩), by rw [ht]; exact hP, va_K.moved hW.alike hK, hD⟩, hS.F ht⟩) hS.2.2 dX0_carryOutPlan_60
      · exact absurd c1 (by omega)
    | succ n ih =>
      intro x F1 lf1 dn1 dw1 H locs ls hx2 hn3 he hP hD hS hl
      obtain ⟨y, rfl⟩ : ∃ y, x = y + 1 := ⟨x - 1, by omega⟩
      have he : hs_ps o G ((y + 1) :: hs_ds nw n) (F1, lf1, dn1, dw1) = (hs_ps o G (hs_cs N nw) (F, lf, dn, dw)) := by rw [show y + 1 = nw + (n + 1) - 1 by omega]; exact he
      refine lv_iload_n hx hb dX0_carryOutPlan_34 rfl (lv_at hl 0 rfl) ?_
      refine lv_aload_n hx hb dX0_carryOutPlan_35 rfl (lv_at hl 1 rfl) ?_
      refine va_get (D := (dC, dI)) (ci := 0) (v := .int (nI nw)) (C := RX0) (T := TX0) (N := 12) hx hb hts (by decide +kernel) hown hK hP 0 rfl rfl 3 (by decide) (hts (.fieldLink RX0 28 "HashedStore" "areaWords" "I") (by decide +kernel)) (fun _ h9 => h9) rfl dX0_carryOutPlan_36 ?_
      refine hs_clt (tgt := 59) hx hb (by omega) (by omega) dX0_carryOutPlan_39 (by decide) (fun c1 => ?_) (fun c1 => ?_)
      · exact absurd c1 (by omega)
      · refine lv_aload_n hx hb dX0_carryOutPlan_42 rfl (lv_at hl 1 rfl) ?_
        refine lv_iload_n hx hb dX0_carryOutPlan_43 rfl (lv_at hl 2 rfl) ?_
        refine lv_iload_n hx hb dX0_carryOutPlan_44 rfl (lv_at hl 0 rfl) ?_
        refine hs_ci (va_runV (As := [.int (nI o), .int (nI (y + 1))]) (rest := []) ⟨hx, hb, hml, hown, hts⟩ (kX0_bringToPlan l dC dI h0 hd hp cA d N w nw sz u F1 G kr dn1 lf1 dw1 ok _ o (y + 1) (by omega) (by omega)) (cwV 2 hts gX0_carryOutPlan_X0_bringToPlan rfl rfl rfl (by decide +kernel) ⟨(Nat.le_of_ble_eq_true rfl), (Nat.le_of_ble_eq_true rfl)⟩) (hs_preM (q := (RX0, TX0, 12)) (ci := 0) hK hP hD rfl rfl) rfl rfl hl.1 rfl (lv_room (Nat.le_of_ble_eq_true rfl)) dX0_carryOutPlan_45 ⟨Nat.zero_le _, Nat.zero_le _⟩) hS hD hA (fun rv v H locs hv hP hD hS => ?_)
        obtain ⟨rfl, rfl⟩ := hv
        have hP : va_P (dC, dI) vwCl [oX_ h0 hd hp d N w nw sz u kr ((hs_put o G (y + 1) (F1, lf1, dn1, dw1)).1.2.2.1) ((hs_put o G (y + 1) (F1, lf1, dn1, dw1)).1.2.1) ((hs_put o G (y + 1) (F1, lf1, dn1, dw1)).1.2.2.2), ar_ hd cA (2 * sz) ((hs_put o G (y + 1) (F1, lf1, dn1, dw1)).1.1), ar_ hp cA sz G] H := hP
        have hD : va_D (va_A [oX_ h0 hd hp d N w nw sz u kr dn lf dw, ar_ hd cA (2 * sz) F, ar_ hp cA sz G] s.heap.size) [oX_ h0 hd hp d N w nw sz u kr ((hs_put o G (y + 1) (F1, lf1, dn1, dw1)).1.2.2.1) ((hs_put o G (y + 1) (F1, lf1, dn1, dw1)).1.2.1) ((hs_put o G (y + 1) (F1, lf1, dn1, dw1)).1.2.2.2), ar_ hd cA (2 * sz) ((hs_put o G (y + 1) (F1, lf1, dn1, dw1)).1.1), ar_ hp cA sz G] := hD
        refine hs_bne (tgt := 53) hx hb dX0_carryOutPlan_48 (by decide) (fun c2 => ?_) (fun c2 => ?_)
        · refine lv_iinc (v := nI y) (lv' := [(2, .int (nI y)), (0, .ref h0), (1, .int (nI o))]) hx hb dX0_carryOutPlan_53 hl (k := 0) rfl (pk_m1 _) (by decide) rfl (fun ls hl => ?_)
          refine lv_goto (tgt := 34) hx hb dX0_carryOutPlan_56 (by decide) ?_
          exact ih y _ _ _ _ H locs ls (by omega) (by omega) ((hs_psp c2).symm.trans he) hP hD hS (lv_sub hl [0, 1, 2] rfl)
        · refine lv_iconst (v := nI 0) hx hb dX0_carryOutPlan_51 (by decide) ?_
          exact W.zret (v := nI 0) hx hb hr rfl (fun t ht hW => ⟨⟨nI 0, (((hs_put o G (y + 1) (F1, lf1, dn1, dw1)).1.1, u, kr, (hs_put o G (y + 1) (F1, lf1, dn1, dw1)).1.2.2.1, (hs_put o G (y + 1) (F1, lf1, dn1, dw1)).1.2.1, (hs_put o G (y + 1) (F1, lf1, dn1, dw1)).1.2.2.2), G), rfl, (by rw [← ((hs_psn c2).symm.trans he)]; exact ⟨by rw [c2]; rfl, rfl⟩), by rw [ht]; exact hP, va_K.moved hW.alike hK, hD⟩, hS.F ht⟩) hS.2.2 dX0_carryOutPlan_52
  refine lv_iconst (v := nI 0) hx hb dX0_carryOutPlan_0 (by decide) ?_
  refine lv_istore_n (lv' := [(2, .int (nI 0)), (0, .ref h0), (1, .int (nI o))]) hx hb dX0_carryOutPlan_1 rfl hl (by decide) rfl (fun ls hl => ?_)
  have loop1 : ∀ (n : Nat) (i : Nat) (F1 : Nat → Int32) (lf1 : Int32) (dn1 : Int32) (dw1 : Bool) (H : Heap) (locs : List Loc) (ls : Array Slot), (i + n = nw) → (hs_ps o G (hs_us n i ++ hs_ds nw (2 * N - 1)) (F1, lf1, dn1, dw1) = (hs_ps o G (hs_cs N nw) (F, lf, dn, dw))) → va_P (dC, dI) vwCl [oX_ h0 hd hp d N w nw sz u kr dn1 lf1 dw1, ar_ hd cA (2 * sz) F1, ar_ hp cA sz G] H → va_D (va_A [oX_ h0 hd hp d N w nw sz u kr dn lf dw, ar_ hd cA (2 * sz) F, ar_ hp cA sz G] s.heap.size) [oX_ h0 hd hp d N w nw sz u kr dn1 lf1 dw1, ar_ hd cA (2 * sz) F1, ar_ hp cA sz G] → va_S (va_A [oX_ h0 hd hp d N w nw sz u kr dn lf dw, ar_ hd cA (2 * sz) F, ar_ hp cA sz G] s.heap.size) s.heap H locs → lv_has ls 3 [(2, .int (nI i)), (0, .ref h0), (1, .int (nI o))] → W p l e (headSpec wsX0_carryOutPlan ({ frames := 2, cells := 0, slots := 0, locals := 44 })).room s m ([.ref h0, .int (nI o)] : List Value).toArray below meth c H locs 0 0 (MQ below (va_Qi (S := hs_S × (Nat → Int32)) (fun r uu => r = hs_b (hs_ps o G (hs_cs N nw) (F, lf, dn, dw)).2 ∧ uu = (((hs_ps o G (hs_cs N nw) (F, lf, dn, dw)).1.1, u, kr, (hs_ps o G (hs_cs N nw) (F, lf, dn, dw)).1.2.2.1, (hs_ps o G (hs_cs N nw) (F, lf, dn, dw)).1.2.1, (hs_ps o G (hs_cs N nw) (F, lf, dn, dw)).1.2.2.2), G)) (hs_B (dC, dI) vwCl [(cA, .int)] (wfX h0 hd hp cA d N w nw sz) (va_A [oX_ h0 hd hp d N w nw sz u kr dn lf dw, ar_ hd cA (2 * sz) F, ar_ hp cA sz G] s.heap.size)) (va_A [oX_ h0 hd hp d N w nw sz u kr dn lf dw, ar_ hd cA (2 * sz) F, ar_ hp cA sz G] s.heap.size)) ([.ref h0, .int (nI o)] : List Value).toArray s 0 0 (va_A [oX_ h0 hd hp d N w nw sz u kr dn lf dw, ar_ hd cA (2 * sz) F, ar_ hp cA sz G] s.heap.size)) (F0 m 2 ls []) := by
    intro n
    induction n with
    | zero =>
      intro i F1 lf1 dn1 dw1 H locs ls hi he hP hD hS hl
      refine lv_iload_n hx hb dX0_carryOutPlan_2 rfl (lv_at hl 0 rfl) ?_
      refine lv_aload_n hx hb dX0_carryOutPlan_3 rfl (lv_at hl 1 rfl) ?_
      refine va_get (D := (dC, dI)) (ci := 0) (v := .int (nI nw)) (C := RX0) (T := TX0) (N := 12) hx hb hts (by decide +kernel) hown hK hP 0 rfl rfl 3 (by decide) (hts (.fieldLink RX0 28 "HashedStore" "areaWords" "I") (by decide +kernel)) (fun _ h9 => h9) rfl dX0_carryOutPlan_4 ?_
      refine hs_cge (tgt := 27) hx hb (by omega) (by omega) dX0_carryOutPlan_7 (by decide) (fun c1 => ?_) (fun c1 => ?_)
      · refine lv_aload_n hx hb dX0_carryOutPlan_27 rfl (lv_at hl 1 rfl) ?_
        refine va_get (D := (dC, dI)) (ci := 0) (v := .int (nI sz)) (C := RX0) (T := TX0) (N := 12) hx hb hts (by decide +kernel) hown hK hP 0 rfl rfl 4 (by decide) (hts (.fieldLink RX0 31 "HashedStore" "areaCells" "I") (by decide +kernel)) (fun _ h9 => h9) rfl dX0_carryOutPlan_28 ?_
        refine lv_iconst (v := nI 1) hx hb dX0_carryOutPlan_31 (by decide) ?_
        refine hs_subN hx hb (by omega) dX0_carryOutPlan_32 ?_
        refine lv_istore_n (lv' := [(2, .int (nI (sz - 1))), (0, .ref h0), (1, .int (nI o))]) hx hb dX0_carryOutPlan_33 rfl hl (by decide) rfl (fun ls hl => ?_)
        exact loop2 (2 * N - 1) (sz - 1) F1 lf1 dn1 dw1 H locs ls (by omega) (Nat.le_refl _) he hP hD hS (lv_sub hl [0, 1, 2] rfl)
      · exact absurd c1 (by omega)
    | succ n ih =>
      intro i F1 lf1 dn1 dw1 H locs ls hi he hP hD hS hl
      refine lv_iload_n hx hb dX0_carryOutPlan_2 rfl (lv_at hl 0 rfl) ?_
      refine lv_aload_n hx hb dX0_carryOutPlan_3 rfl (lv_at hl 1 rfl) ?_
      refine va_get (D := (dC, dI)) (ci := 0) (v := .int (nI nw)) (C := RX0) (T := TX0) (N := 12) hx hb hts (by decide +kernel) hown hK hP 0 rfl rfl 3 (by decide) (hts (.fieldLink RX0 28 "HashedStore" "areaWords" "I") (by decide +kernel)) (fun _ h9 => h9) rfl dX0_carryOutPlan_4 ?_
      refine hs_cge (tgt := 27) hx hb (by omega) (by omega) dX0_carryOutPlan_7 (by decide) (fun c1 => ?_) (fun c1 => ?_)
      · exact absurd c1 (by omega)
      · refine lv_aload_n hx hb dX0_carryOutPlan_10 rfl (lv_at hl 1 rfl) ?_
        refine lv_iload_n hx hb dX0_carryOutPlan_11 rfl (lv_at hl 2 rfl) ?_
        refine lv_iload_n hx hb dX0_carryOutPlan_12 rfl (lv_at hl 0 rfl) ?_
        refine hs_ci (va_runV (As := [.int (nI o), .int (nI i)]) (rest := []) ⟨hx, hb, hml, hown, hts⟩ (kX0_bringToPlan l dC dI h0 hd hp cA d N w nw sz u F1 G kr dn1 lf1 dw1 ok _ o i (by omega) (by omega)) (cwV 2 hts gX0_carryOutPlan_X0_bringToPlan rfl rfl rfl (by decide +kernel) ⟨(Nat.le_of_ble_eq_true rfl), (Nat.le_of_ble_eq_true rfl)⟩) (hs_preM (q := (RX0, TX0, 12)) (ci := 0) hK hP hD rfl rfl) rfl rfl hl.1 rfl (lv_room (Nat.le_of_ble_eq_true rfl)) dX0_carryOutPlan_13 ⟨Nat.zero_le _, Nat.zero_le _⟩) hS hD hA (fun rv v H locs hv hP hD hS => ?_)
        obtain ⟨rfl, rfl⟩ := hv
        have hP : va_P (dC, dI) vwCl [oX_ h0 hd hp d N w nw sz u kr ((hs_put o G i (F1, lf1, dn1, dw1)).1.2.2.1) ((hs_put o G i (F1, lf1, dn1, dw1)).1.2.1) ((hs_put o G i (F1, lf1, dn1, dw1)).1.2.2.2), ar_ hd cA (2 * sz) ((hs_put o G i (F1, lf1, dn1, dw1)).1.1), ar_ hp cA sz G] H := hP
        have hD : va_D (va_A [oX_ h0 hd hp d N w nw sz u kr dn lf dw, ar_ hd cA (2 * sz) F, ar_ hp cA sz G] s.heap.size) [oX_ h0 hd hp d N w nw sz u kr ((hs_put o G i (F1, lf1, dn1, dw1)).1.2.2.1) ((hs_put o G i (F1, lf1, dn1, dw1)).1.2.1) ((hs_put o G i (F1, lf1, dn1, dw1)).1.2.2.2), ar_ hd cA (2 * sz) ((hs_put o G i (F1, lf1, dn1, dw1)).1.1), ar_ hp cA sz G] := hD
        refine hs_bne (tgt := 21) hx hb dX0_carryOutPlan_16 (by decide) (fun c2 => ?_) (fun c2 => ?_)
        · refine lv_iinc (v := nI (i + 1)) (lv' := [(2, .int (nI (i + 1))), (0, .ref h0), (1, .int (nI o))]) hx hb dX0_carryOutPlan_21 hl (k := 0) rfl (nI_1 _) (by decide) rfl (fun ls hl => ?_)
          refine lv_goto (tgt := 2) hx hb dX0_carryOutPlan_24 (by decide) ?_
          exact ih (i + 1) _ _ _ _ H locs ls (by omega) ((hs_psp c2).symm.trans he) hP hD hS (lv_sub hl [0, 1, 2] rfl)
        · refine lv_iconst (v := nI 0) hx hb dX0_carryOutPlan_19 (by decide) ?_
          exact W.zret (v := nI 0) hx hb hr rfl (fun t ht hW => ⟨⟨nI 0, (((hs_put o G i (F1, lf1, dn1, dw1)).1.1, u, kr, (hs_put o G i (F1, lf1, dn1, dw1)).1.2.2.1, (hs_put o G i (F1, lf1, dn1, dw1)).1.2.1, (hs_put o G i (F1, lf1, dn1, dw1)).1.2.2.2), G), rfl, (by rw [← ((hs_psn c2).symm.trans he)]; exact ⟨by rw [c2]; rfl, rfl⟩), by rw [ht]; exact hP, va_K.moved hW.alike hK, hD⟩, hS.F ht⟩) hS.2.2 dX0_carryOutPlan_20
  exact loop1 nw 0 F lf dn dw _ _ ls (by omega) rfl hP hD hS (lv_sub hl [0, 1, 2] rfl)
set_option maxHeartbeats 4000000 in
set_option maxRecDepth 100000 in
theorem kX0_planWord (l : Launch) (dC : Nat → ClassId) (dI : Nat → Nat → Nat) (h0 hd hp : Nat) (cA : ClassId) (d N w nw sz u : Nat) (F G : Nat → Int32) (kr dn lf : Int32) (dw : Bool) (ok : hs_ok d N w nw sz) (zz : Nat) (j i : Nat) (p3 : Int32) (hj : j < N) (hi : i < w) (hu : u < 2) : Met l yX0_planWord wsX0_planWord ({ frames := 2, cells := 0, slots := 0, locals := 47 }) (va_Pc [.ref h0, .int (nI j), .int (nI i), .int p3] (hs_pm (dC, dI) vwCl [(cA, .int)] [oX_ h0 hd hp d N w nw sz u kr dn lf dw, ar_ hd cA (2 * sz) F, ar_ hp cA sz G] zz)) (va_Qv (S := hs_S × (Nat → Int32)) (fun uu => uu = ((F, u, kr, dn, lf, dw), (hs_pl d N w nw (hs_vw sz F u) j i p3).1)) (hs_B (dC, dI) vwCl [(cA, .int)] (wfX h0 hd hp cA d N w nw sz) (va_A [oX_ h0 hd hp d N w nw sz u kr dn lf dw, ar_ hd cA (2 * sz) F, ar_ hp cA sz G] zz)) (va_A [oX_ h0 hd hp d N w nw sz u kr dn lf dw, ar_ hd cA (2 * sz) F, ar_ hp cA sz G] zz)) 0 0 (va_A [oX_ h0 hd hp d N w nw sz u kr dn lf dw, ar_ hd cA (2 * sz) F, ar_ hp cA sz G] zz) := by
  refine Met.ofW (cc := cX0_planWord) (maxL := 6) (ret := none) (by decide) rfl ?_
  intro p e s m args below meth c s₁ B hml hv
  obtain ⟨rfl, hzz, hP, hK, hD0⟩ := hv
  have hx := B.exec
  have hb := B.bytes
  have hr := B.returns
  have hts := atoms_spec (ws := wsX0_planWord) B.pre
  have hown : s.vm.findClass RX0 = some m.cls := findClass_of_methodNamed B.named
  have hlocks := B.notSynchronized
  obtain ⟨hd5, hN1, hN2, hw1, hw2, hn1, hn2, hsz, hsz2⟩ := hs_okf ok
  have hnw : nw = N * w := ok.2.2.2.2.1
  subst hzz
  have hD := hD0.self (sz := s.heap.size)
  have hS : va_S (va_A [oX_ h0 hd hp d N w nw sz u kr dn lf dw, ar_ hd cA (2 * sz) F, ar_ hp cA sz G] s.heap.size) s.heap s.heap [] := va_S.rf
  have hA : ∀ q : Nat, s.heap.size ≤ q → va_A [oX_ h0 hd hp d N w nw sz u kr dn lf dw, ar_ hd cA (2 * sz) F, ar_ hp cA sz G] s.heap.size q := fun q h => Or.inr h
  have hl := lv_entry ([.ref h0, .int (nI j), .int (nI i), .int p3]) (n := 6) (Nat.le_of_ble_eq_true rfl)
  rw [lg_entry_eq]
  generalize (lg_sl ([.ref h0, .int (nI j), .int (nI i), .int p3]) ++ List.replicate (6 - (lg_sl ([.ref h0, .int (nI j), .int (nI i), .int p3])).length) Slot.unset).toArray = ls at hl ⊢
  have hl : lv_has ls 6 [(0, .ref h0), (1, .int (nI j)), (2, .int (nI i)), (3, .int p3)] := hl
  have hus : u * sz + sz ≤ 2 * sz := hs_us2 hu
  have hrow := hs_row ok hj
  refine lv_aload_n hx hb dX0_planWord_0 rfl (lv_at hl 0 rfl) ?_
  refine va_get (D := (dC, dI)) (ci := 0) (v := .ref hd) (C := RX0) (T := TX0) (N := 12) hx hb hts (by decide +kernel) hown hK hP 0 rfl rfl 5 (by decide) (hts (.fieldLink RX0 34 "HashedStore" "disk" "[I") (by decide +kernel)) (fun _ h9 => h9) rfl dX0_planWord_1 ?_
  refine lv_aload_n hx hb dX0_planWord_4 rfl (lv_at hl 0 rfl) ?_
  refine lv_aload_n hx hb dX0_planWord_5 rfl (lv_at hl 0 rfl) ?_
  refine va_get (D := (dC, dI)) (ci := 0) (v := .int (nI u)) (C := RX0) (T := TX0) (N := 12) hx hb hts (by decide +kernel) hown hK hP 0 rfl rfl 7 (by decide) (hts (.fieldLink RX0 60 "HashedStore" "areaInUse" "I") (by decide +kernel)) (fun _ h9 => h9) rfl dX0_planWord_6 ?_
  refine hs_pe (v := nI (u * sz)) (va_runV (As := [.int (nI u)]) (rest := [.ref hd]) ⟨hx, hb, hml, hown, hts⟩ (kX0_areaStart l dC dI h0 hd hp cA d N w nw sz u F G kr dn lf dw ok u) (cwV 1 hts gX0_planWord_X0_areaStart rfl rfl rfl (by decide +kernel) ⟨(Nat.le_of_ble_eq_true rfl), (Nat.le_of_ble_eq_true rfl)⟩) (hs_preV (q := (RX0, TX0, 12)) (ci := 0) hK (hP.sub [0] rfl) rfl rfl) rfl rfl hl.1 rfl (lv_room (Nat.le_of_ble_eq_true rfl)) dX0_planWord_9 ⟨Nat.zero_le _, Nat.zero_le _⟩) hS hP (fun H locs hP hS => ?_)
  refine lv_aload_n hx hb dX0_planWord_12 rfl (lv_at hl 0 rfl) ?_
  refine va_get (D := (dC, dI)) (ci := 0) (v := .ref hp) (C := RX0) (T := TX0) (N := 12) hx hb hts (by decide +kernel) hown hK hP 0 rfl rfl 6 (by decide) (hts (.fieldLink RX0 38 "HashedStore" "plan" "[I") (by decide +kernel)) (fun _ h9 => h9) rfl dX0_planWord_13 ?_
  refine lv_iconst (v := nI 0) hx hb dX0_planWord_16 (by decide) ?_
  refine lv_aload_n hx hb dX0_planWord_17 rfl (lv_at hl 0 rfl) ?_
  refine va_get (D := (dC, dI)) (ci := 0) (v := .int (nI sz)) (C := RX0) (T := TX0) (N := 12) hx hb hts (by decide +kernel) hown hK hP 0 rfl rfl 4 (by decide) (hts (.fieldLink RX0 31 "HashedStore" "areaCells" "I") (by decide +kernel)) (fun _ h9 => h9) rfl dX0_planWord_18 ?_
  refine va_copyi hx hb (hml.trans hl.1.symm) hown (hts (.methodLink RX0 127 arraycopyName) (by decide +kernel)) (hts (.native arraycopyName) (by decide +kernel)) (hts (.static arraycopyName) (by decide +kernel)) (hts (.initialized "java/lang/System") (by decide +kernel)) hK hP hD hS 1 2 0 0 rfl rfl rfl rfl rfl (sp := nI (u * sz)) (dp := nI 0) (n := nI sz) (nI_pos (by omega)) (nI_pos (by omega)) (nI_pos (by omega)) (by rw [nI_clamp (by omega), nI_clamp (by omega)]; omega) (by rw [nI_clamp (by omega), nI_clamp (by omega)]; omega) (fun _ _ => rfl) (Nat.le_of_ble_eq_true rfl) (Nat.le_of_ble_eq_true rfl) dX0_planWord_21 (fun H locs hP hD hS => ?_)
  rw [nI_clamp (n := u * sz) (by omega), nI_clamp (n := 0) (by omega), nI_clamp (n := sz) (by omega)] at hP hD
  obtain ⟨hP, hD⟩ := hs_repP (q0 := 2) (g := hs_vw sz F u) hP hD rfl (fun j hj => (pk_cpy_in (Nat.zero_le j) (by omega)).trans rfl)
  have hP : va_P (dC, dI) vwCl [oX_ h0 hd hp d N w nw sz u kr dn lf dw, ar_ hd cA (2 * sz) F, ar_ hp cA sz (hs_vw sz F u)] H := hP
  have hD : va_D (va_A [oX_ h0 hd hp d N w nw sz u kr dn lf dw, ar_ hd cA (2 * sz) F, ar_ hp cA sz G] s.heap.size) [oX_ h0 hd hp d N w nw sz u kr dn lf dw, ar_ hd cA (2 * sz) F, ar_ hp cA sz (hs_vw sz F u)] := hD
  refine lv_aload_n hx hb dX0_planWord_24 rfl (lv_at hl 0 rfl) ?_
  refine va_get (D := (dC, dI)) (ci := 0) (v := .ref hp) (C := RX0) (T := TX0) (N := 12) hx hb hts (by decide +kernel) hown hK hP 0 rfl rfl 6 (by decide) (hts (.fieldLink RX0 38 "HashedStore" "plan" "[I") (by decide +kernel)) (fun _ h9 => h9) rfl dX0_planWord_25 ?_
  refine lv_aload_n hx hb dX0_planWord_28 rfl (lv_at hl 0 rfl) ?_
  refine lv_iload_n hx hb dX0_planWord_29 rfl (lv_at hl 1 rfl) ?_
  refine lv_iload_n hx hb dX0_planWord_30 rfl (lv_at hl 2 rfl) ?_
  refine hs_pe (v := nI (j * w + i)) (va_runV (As := [.int (nI j), .int (nI i)]) (rest := [.ref hp]) ⟨hx, hb, hml, hown, hts⟩ (kX0_wordCell l dC dI h0 hd hp cA d N w nw sz u F (hs_vw sz F u) kr dn lf dw ok j i) (cwV 2 hts gX0_planWord_X0_wordCell rfl rfl rfl (by decide +kernel) ⟨(Nat.le_of_ble_eq_true rfl), (Nat.le_of_ble_eq_true rfl)⟩) (hs_preV (q := (RX0, TX0, 12)) (ci := 0) hK (hP.sub [0] rfl) rfl rfl) rfl rfl hl.1 rfl (lv_room (Nat.le_of_ble_eq_true rfl)) dX0_planWord_31 ⟨Nat.zero_le _, Nat.zero_le _⟩) hS hP (fun H locs hP hS => ?_)
  refine lv_iload_n hx hb dX0_planWord_34 rfl (lv_at hl 3 rfl) ?_
  refine hs_ast hx hb hK hP hD hS 2 0 rfl rfl (k := j * w + i) (by omega) (by omega) dX0_planWord_35 (fun H locs hP hD hS => ?_)
  have hP : va_P (dC, dI) vwCl [oX_ h0 hd hp d N w nw sz u kr dn lf dw, ar_ hd cA (2 * sz) F, ar_ hp cA sz (upd (hs_vw sz F u) (j * w + i) p3)] H := hP
  have hD : va_D (va_A [oX_ h0 hd hp d N w nw sz u kr dn lf dw, ar_ hd cA (2 * sz) F, ar_ hp cA sz G] s.heap.size) [oX_ h0 hd hp d N w nw sz u kr dn lf dw, ar_ hd cA (2 * sz) F, ar_ hp cA sz (upd (hs_vw sz F u) (j * w + i) p3)] := hD
  refine lv_aload_n hx hb dX0_planWord_36 rfl (lv_at hl 0 rfl) ?_
  refine lv_iload_n hx hb dX0_planWord_37 rfl (lv_at hl 1 rfl) ?_
  refine hs_pe (v := nI (N + j)) (va_runV (As := [.int (nI j)]) (rest := []) ⟨hx, hb, hml, hown, hts⟩ (kX0_leafOf l dC dI h0 hd hp cA d N w nw sz u F (upd (hs_vw sz F u) (j * w + i) p3) kr dn lf dw ok j) (cwV 1 hts gX0_planWord_X0_leafOf rfl rfl rfl (by decide +kernel) ⟨(Nat.le_of_ble_eq_true rfl), (Nat.le_of_ble_eq_true rfl)⟩) (hs_preV (q := (RX0, TX0, 12)) (ci := 0) hK (hP.sub [0] rfl) rfl rfl) rfl rfl hl.1 rfl (lv_room (Nat.le_of_ble_eq_true rfl)) dX0_planWord_38 ⟨Nat.zero_le _, Nat.zero_le _⟩) hS hP (fun H locs hP hS => ?_)
  refine lv_istore (lv' := [(4, .int (nI (N + j))), (0, .ref h0), (1, .int (nI j)), (2, .int (nI i)), (3, .int p3)]) hx hb dX0_planWord_41 hl (by decide) rfl (fun ls hl => ?_)
  refine lv_aload_n hx hb dX0_planWord_43 rfl (lv_at hl 1 rfl) ?_
  refine va_get (D := (dC, dI)) (ci := 0) (v := .ref hp) (C := RX0) (T := TX0) (N := 12) hx hb hts (by decide +kernel) hown hK hP 0 rfl rfl 6 (by decide) (hts (.fieldLink RX0 38 "HashedStore" "plan" "[I") (by decide +kernel)) (fun _ h9 => h9) rfl dX0_planWord_44 ?_
  refine lv_aload_n hx hb dX0_planWord_47 rfl (lv_at hl 1 rfl) ?_
  refine lv_iload hx hb dX0_planWord_48 (lv_at hl 0 rfl) ?_
  refine hs_pe (v := nI (nw + (N + j) - 1)) (va_runV (As := [.int (nI (N + j))]) (rest := [.ref hp]) ⟨hx, hb, hml, hown, hts⟩ (kX0_nodeCell l dC dI h0 hd hp cA d N w nw sz u F (upd (hs_vw sz F u) (j * w + i) p3) kr dn lf dw ok (N + j)) (cwV 1 hts gX0_planWord_X0_nodeCell rfl rfl rfl (by decide +kernel) ⟨(Nat.le_of_ble_eq_true rfl), (Nat.le_of_ble_eq_true rfl)⟩) (hs_preV (q := (RX0, TX0, 12)) (ci := 0) hK (hP.sub [0] rfl) rfl rfl) rfl rfl hl.1 rfl (lv_room (Nat.le_of_ble_eq_true rfl)) dX0_planWord_50 ⟨Nat.zero_le _, Nat.zero_le _⟩) hS hP (fun H locs hP hS => ?_)
  refine lv_aload_n hx hb dX0_planWord_53 rfl (lv_at hl 1 rfl) ?_
  refine lv_aload_n hx hb dX0_planWord_54 rfl (lv_at hl 1 rfl) ?_
  refine va_get (D := (dC, dI)) (ci := 0) (v := .ref hp) (C := RX0) (T := TX0) (N := 12) hx hb hts (by decide +kernel) hown hK hP 0 rfl rfl 6 (by decide) (hts (.fieldLink RX0 38 "HashedStore" "plan" "[I") (by decide +kernel)) (fun _ h9 => h9) rfl dX0_planWord_55 ?_
  refine lv_iconst (v := nI 0) hx hb dX0_planWord_58 (by decide) ?_
  refine lv_iload_n hx hb dX0_planWord_59 rfl (lv_at hl 2 rfl) ?_
  refine hs_pe (v := hs_bl (fun x => (upd (hs_vw sz F u) (j * w + i) p3) (0 + x)) w (j * w) (nI j)) (va_runV (As := [.ref hp, .int (nI 0), .int (nI j)]) (rest := [.int (nI (nw + (N + j) - 1)), .ref hp]) ⟨hx, hb, hml, hown, hts⟩ (kX0_blockHash l dC dI h0 hd hp cA d N w nw sz u F (upd (hs_vw sz F u) (j * w + i) p3) kr dn lf dw ok hp sz (upd (hs_vw sz F u) (j * w + i) p3) 0 j hj (by omega) (by omega)) (cwV 3 hts gX0_planWord_X0_blockHash rfl rfl rfl (by decide +kernel) ⟨(Nat.le_of_ble_eq_true rfl), (Nat.le_of_ble_eq_true rfl)⟩) (hs_preV (q := (RX0, TX0, 12)) (ci := 0) hK (hP.sub [0, 2] rfl) rfl rfl) rfl rfl hl.1 rfl (lv_room (Nat.le_of_ble_eq_true rfl)) dX0_planWord_60 ⟨Nat.zero_le _, Nat.zero_le _⟩) hS hP (fun H locs hP hS => ?_)
  refine lv_topi (fun h eh => ?_)
  rw [hs_z0] at eh
  refine hs_ast hx hb hK hP hD hS 2 0 rfl rfl (k := nw + (N + j) - 1) (by omega) (by omega) dX0_planWord_63 (fun H locs hP hD hS => ?_)
  have hP : va_P (dC, dI) vwCl [oX_ h0 hd hp d N w nw sz u kr dn lf dw, ar_ hd cA (2 * sz) F, ar_ hp cA sz (upd (upd (hs_vw sz F u) (j * w + i) p3) (nw + (N + j) - 1) h)] H := hP
  have hD : va_D (va_A [oX_ h0 hd hp d N w nw sz u kr dn lf dw, ar_ hd cA (2 * sz) F, ar_ hp cA sz G] s.heap.size) [oX_ h0 hd hp d N w nw sz u kr dn lf dw, ar_ hd cA (2 * sz) F, ar_ hp cA sz (upd (upd (hs_vw sz F u) (j * w + i) p3) (nw + (N + j) - 1) h)] := hD
  refine lv_iconst (v := nI 0) hx hb dX0_planWord_64 (by decide) ?_
  refine lv_istore (lv' := [(5, .int (nI 0)), (4, .int (nI (N + j))), (0, .ref h0), (1, .int (nI j)), (2, .int (nI i)), (3, .int p3)]) hx hb dX0_planWord_65 hl (by decide) rfl (fun ls hl => ?_)
  have loop : ∀ (n : Nat) (y kk : Nat) (g : Nat → Int32) (H : Heap) (locs : List Loc) (ls : Array Slot), (y + n = d) → (hs_lv n kk) → (kk < 2 * N) → (hs_px nw n kk g = (hs_pl d N w nw (hs_vw sz F u) j i p3).1) → va_P (dC, dI) vwCl [oX_ h0 hd hp d N w nw sz u kr dn lf dw, ar_ hd cA (2 * sz) F, ar_ hp cA sz g] H → va_D (va_A [oX_ h0 hd hp d N w nw sz u kr dn lf dw, ar_ hd cA (2 * sz) F, ar_ hp cA sz G] s.heap.size) [oX_ h0 hd hp d N w nw sz u kr dn lf dw, ar_ hd cA (2 * sz) F, ar_ hp cA sz g] → va_S (va_A [oX_ h0 hd hp d N w nw sz u kr dn lf dw, ar_ hd cA (2 * sz) F, ar_ hp cA sz G] s.heap.size) s.heap H locs → lv_has ls 6 [(5, .int (nI y)), (4, .int (nI kk)), (0, .ref h0), (1, .int (nI j)), (2, .int (nI i)), (3, .int p3)] → W p l e (headSpec wsX0_planWord ({ frames := 2, cells := 0, slots := 0, locals := 47 })).room s m ([.ref h0, .int (nI j), .int (nI i), .int p3] : List Value).toArray below meth c H locs 0 0 (MQ below (va_Qv (S := hs_S × (Nat → Int32)) (fun uu => uu = ((F, u, kr, dn, lf, dw), (hs_pl d N w nw (hs_vw sz F u) j i p3).1)) (hs_B (dC, dI) vwCl [(cA, .int)] (wfX h0 hd hp cA d N w nw sz) (va_A [oX_ h0 hd hp d N w nw sz u kr dn lf dw, ar_ hd cA (2 * sz) F, ar_ hp cA sz G] s.heap.size)) (va_A [oX_ h0 hd hp d N w nw sz u kr dn lf dw, ar_ hd cA (2 * sz) F, ar_ hp cA sz G] s.heap.size)) ([.ref h0, .int (nI j), .int (nI i), .int p3] : List Value).toArray s 0 0 (va_A [oX_ h0 hd hp d N w nw sz u kr dn lf dw, ar_ hd cA (2 * sz) F, ar_ hp cA sz G] s.heap.size)) (F0 m 67 ls []) := by
    intro n
    induction n with
    | zero =>
      intro y kk g H locs ls hi2 hlv hk2 he hP hD hS hl
      refine lv_iload hx hb dX0_planWord_67 (lv_at hl 0 rfl) ?_
      refine lv_aload_n hx hb dX0_planWord_69 rfl (lv_at hl 2 rfl) ?_
      refine va_get (D := (dC, dI)) (ci := 0) (v := .int (nI d)) (C := RX0) (T := TX0) (N := 12) hx hb hts (by decide +kernel) hown hK hP 0 rfl rfl 0 (by decide) (hts (.fieldLink RX0 18 "HashedStore" "treeDepth" "I") (by decide +kernel)) (fun _ h9 => h9) rfl dX0_planWord_70 ?_
      refine hs_cge (tgt := 109) hx hb (by omega) (by omega) dX0_planWord_73 (by decide) (fun c1 => ?_) (fun c1 => ?_)
      · exact W.vret hx hb hr (fun t ht hW => ⟨⟨((F, u, kr, dn, lf, dw), g), rfl, (by rw [show g = (hs_pl d N w nw (hs_vw sz F u) j i p3).1 from he]), by rw [ht]; exact hP, va_K.moved hW.alike hK, hD⟩, hS.F ht⟩) hS.2.2 dX0_planWord_109
      · exact absurd c1 (by omega)
    | succ n ih =>
      intro y kk g H locs ls hi2 hlv hk2 he hP hD hS hl
      obtain ⟨hlv1, hk1⟩ := hs_lv_s hlv
      refine lv_iload hx hb dX0_planWord_67 (lv_at hl 0 rfl) ?_
      refine lv_aload_n hx hb dX0_planWord_69 rfl (lv_at hl 2 rfl) ?_
      refine va_get (D := (dC, dI)) (ci := 0) (v := .int (nI d)) (C := RX0) (T := TX0) (N := 12) hx hb hts (by decide +kernel) hown hK hP 0 rfl rfl 0 (by decide) (hts (.fieldLink RX0 18 "HashedStore" "treeDepth" "I") (by decide +kernel)) (fun _ h9 => h9) rfl dX0_planWord_70 ?_
      refine hs_cge (tgt := 109) hx hb (by omega) (by omega) dX0_planWord_73 (by decide) (fun c1 => ?_) (fun c1 => ?_)
      · exact absurd c1 (by omega)
      · refine lv_iload hx hb dX0_planWord_76 (lv_at hl 1 rfl) ?_
        refine lv_iconst (v := nI 2) hx hb dX0_planWord_78 (by decide) ?_
        refine hs_divN hx hb (by omega) (by omega) (by omega) dX0_planWord_79 ?_
        refine lv_istore (lv' := [(4, .int (nI (kk / 2))), (5, .int (nI y)), (0, .ref h0), (1, .int (nI j)), (2, .int (nI i)), (3, .int p3)]) hx hb dX0_planWord_80 hl (by decide) rfl (fun ls hl => ?_)
        refine lv_aload_n hx hb dX0_planWord_82 rfl (lv_at hl 2 rfl) ?_
        refine va_get (D := (dC, dI)) (ci := 0) (v := .ref hp) (C := RX0) (T := TX0) (N := 12) hx hb hts (by decide +kernel) hown hK hP 0 rfl rfl 6 (by decide) (hts (.fieldLink RX0 38 "HashedStore" "plan" "[I") (by decide +kernel)) (fun _ h9 => h9) rfl dX0_planWord_83 ?_
        refine lv_aload_n hx hb dX0_planWord_86 rfl (lv_at hl 2 rfl) ?_
        refine lv_iload hx hb dX0_planWord_87 (lv_at hl 0 rfl) ?_
        refine hs_pe (v := nI (nw + kk / 2 - 1)) (va_runV (As := [.int (nI (kk / 2))]) (rest := [.ref hp]) ⟨hx, hb, hml, hown, hts⟩ (kX0_nodeCell l dC dI h0 hd hp cA d N w nw sz u F g kr dn lf dw ok (kk / 2)) (cwV 1 hts gX0_planWord_X0_nodeCell rfl rfl rfl (by decide +kernel) ⟨(Nat.le_of_ble_eq_true rfl), (Nat.le_of_ble_eq_true rfl)⟩) (hs_preV (q := (RX0, TX0, 12)) (ci := 0) hK (hP.sub [0] rfl) rfl rfl) rfl rfl hl.1 rfl (lv_room (Nat.le_of_ble_eq_true rfl)) dX0_planWord_89 ⟨Nat.zero_le _, Nat.zero_le _⟩) hS hP (fun H locs hP hS => ?_)
        refine lv_aload_n hx hb dX0_planWord_92 rfl (lv_at hl 2 rfl) ?_
        refine lv_aload_n hx hb dX0_planWord_93 rfl (lv_at hl 2 rfl) ?_
        refine va_get (D := (dC, dI)) (ci := 0) (v := .ref hp) (C := RX0) (T := TX0) (N := 12) hx hb hts (by decide +kernel) hown hK hP 0 rfl rfl 6 (by decide) (hts (.fieldLink RX0 38 "HashedStore" "plan" "[I") (by decide +kernel)) (fun _ h9 => h9) rfl dX0_planWord_94 ?_
        refine lv_iload hx hb dX0_planWord_97 (lv_at hl 0 rfl) ?_
        refine hs_pe (v := hs_mx (g (nw + 2 * (kk / 2) - 1)) (g (nw + (2 * (kk / 2) + 1) - 1))) (va_runV (As := [.ref hp, .int (nI (kk / 2))]) (rest := [.int (nI (nw + kk / 2 - 1)), .ref hp]) ⟨hx, hb, hml, hown, hts⟩ (kX0_hashOfSons l dC dI h0 hd hp cA d N w nw sz u F g kr dn lf dw ok hp sz g (kk / 2) (by omega) (by omega)) (cwV 2 hts gX0_planWord_X0_hashOfSons rfl rfl rfl (by decide +kernel) ⟨(Nat.le_of_ble_eq_true rfl), (Nat.le_of_ble_eq_true rfl)⟩) (hs_preV (q := (RX0, TX0, 12)) (ci := 0) hK (hP.sub [0, 2] rfl) rfl rfl) rfl rfl hl.1 rfl (lv_room (Nat.le_of_ble_eq_true rfl)) dX0_planWord_99 ⟨Nat.zero_le _, Nat.zero_le _⟩) hS hP (fun H locs hP hS => ?_)
        refine hs_ast hx hb hK hP hD hS 2 0 rfl rfl (k := nw + kk / 2 - 1) (by omega) (by omega) dX0_planWord_102 (fun H locs hP hD hS => ?_)
        have hP : va_P (dC, dI) vwCl [oX_ h0 hd hp d N w nw sz u kr dn lf dw, ar_ hd cA (2 * sz) F, ar_ hp cA sz (upd g (nw + kk / 2 - 1) (hs_mx (g (nw + 2 * (kk / 2) - 1)) (g (nw + (2 * (kk / 2) + 1) - 1))))] H := hP
        have hD : va_D (va_A [oX_ h0 hd hp d N w nw sz u kr dn lf dw, ar_ hd cA (2 * sz) F, ar_ hp cA sz G] s.heap.size) [oX_ h0 hd hp d N w nw sz u kr dn lf dw, ar_ hd cA (2 * sz) F, ar_ hp cA sz (upd g (nw + kk / 2 - 1) (hs_mx (g (nw + 2 * (kk / 2) - 1)) (g (nw + (2 * (kk / 2) + 1) - 1))))] := hD
        refine lv_iinc (v := nI (y + 1)) (lv' := [(5, .int (nI (y + 1))), (4, .int (nI (kk / 2))), (0, .ref h0), (1, .int (nI j)), (2, .int (nI i)), (3, .int p3)]) hx hb dX0_planWord_103 hl (k := 1) rfl (nI_1 _) (by decide) rfl (fun ls hl => ?_)
        refine lv_goto (tgt := 67) hx hb dX0_planWord_106 (by decide) ?_
        exact ih (y + 1) (kk / 2) _ H locs ls (by omega) hlv1 (by omega) he hP hD hS (lv_sub hl [0, 1, 2, 3, 4, 5] rfl)
  exact loop d 0 (N + j) _ _ _ ls (by omega) (hs_lv_b ok hj) (by omega) (by rw [eh]; exact hs_px_pw hn1 d (N + j) _ _ (hs_lv_b ok hj)) hP hD hS (lv_sub hl [0, 1, 2, 3, 4, 5] rfl)
set_option maxHeartbeats 4000000 in
set_option maxRecDepth 100000 in
theorem kX0_makeAllNodesOfFirstArea (l : Launch) (dC : Nat → ClassId) (dI : Nat → Nat → Nat) (h0 hd hp : Nat) (cA : ClassId) (d N w nw sz u : Nat) (F G : Nat → Int32) (kr dn lf : Int32) (dw : Bool) (ok : hs_ok d N w nw sz) (zz : Nat) (hF : ∀ j, F j = 0) : Met l yX0_makeAllNodesOfFirstArea wsX0_makeAllNodesOfFirstArea ({ frames := 2, cells := 0, slots := 0, locals := 47 }) (va_Pc [.ref h0] (hs_pm (dC, dI) vwCl [(cA, .int)] [oX_ h0 hd hp d N w nw sz u kr dn lf dw, ar_ hd cA (2 * sz) F, ar_ hp cA sz G] zz)) (va_Qv (S := hs_S × (Nat → Int32)) (fun uu => ∃ F9, uu = ((F9, u, kr, dn, lf, dw), G) ∧ hs_E N w nw sz F9) (hs_B (dC, dI) vwCl [(cA, .int)] (wfX h0 hd hp cA d N w nw sz) (va_A [oX_ h0 hd hp d N w nw sz u kr dn lf dw, ar_ hd cA (2 * sz) F, ar_ hp cA sz G] zz)) (va_A [oX_ h0 hd hp d N w nw sz u kr dn lf dw, ar_ hd cA (2 * sz) F, ar_ hp cA sz G] zz)) 0 0 (va_A [oX_ h0 hd hp d N w nw sz u kr dn lf dw, ar_ hd cA (2 * sz) F, ar_ hp cA sz G] zz) := by
  refine Met.ofW (cc := cX0_makeAllNodesOfFirstArea) (maxL := 2) (ret := none) (by decide) rfl ?_
  intro p e s m args below meth c s₁ B hml hv
  obtain ⟨rfl, hzz, hP, hK, hD0⟩ := hv
  have hx := B.exec
  have hb := B.bytes
  have hr := B.returns
  have hts := atoms_spec (ws := wsX0_makeAllNodesOfFirstArea) B.pre
  have hown : s.vm.findClass RX0 = some m.cls := findClass_of_methodNamed B.named
  have hlocks := B.notSynchronized
  obtain ⟨hd5, hN1, hN2, hw1, hw2, hn1, hn2, hsz, hsz2⟩ := hs_okf ok
  have hnw : nw = N * w := ok.2.2.2.2.1
  subst hzz
  have hD := hD0.self (sz := s.heap.size)
  have hS : va_S (va_A [oX_ h0 hd hp d N w nw sz u kr dn lf dw, ar_ hd cA (2 * sz) F, ar_ hp cA sz G] s.heap.size) s.heap s.heap [] := va_S.rf
  have hA : ∀ q : Nat, s.heap.size ≤ q → va_A [oX_ h0 hd hp d N w nw sz u kr dn lf dw, ar_ hd cA (2 * sz) F, ar_ hp cA sz G] s.heap.size q := fun q h => Or.inr h
  have hl := lv_entry ([.ref h0]) (n := 2) (Nat.le_of_ble_eq_true rfl)
  rw [lg_entry_eq]
  generalize (lg_sl ([.ref h0]) ++ List.replicate (2 - (lg_sl ([.ref h0])).length) Slot.unset).toArray = ls at hl ⊢
  have hl : lv_has ls 2 [(0, .ref h0)] := hl
  have loop2 : ∀ (n : Nat) (F1 : Nat → Int32) (H : Heap) (locs : List Loc) (ls : Array Slot), (n < N) → (hs_I N w nw n F1) → (∀ j, sz ≤ j → F1 j = 0) → va_P (dC, dI) vwCl [oX_ h0 hd hp d N w nw sz u kr dn lf dw, ar_ hd cA (2 * sz) F1, ar_ hp cA sz G] H → va_D (va_A [oX_ h0 hd hp d N w nw sz u kr dn lf dw, ar_ hd cA (2 * sz) F, ar_ hp cA sz G] s.heap.size) [oX_ h0 hd hp d N w nw sz u kr dn lf dw, ar_ hd cA (2 * sz) F1, ar_ hp cA sz G] → va_S (va_A [oX_ h0 hd hp d N w nw sz u kr dn lf dw, ar_ hd cA (2 * sz) F, ar_ hp cA sz G] s.heap.size) s.heap H locs → lv_has ls 2 [(1, .int (nI n)), (0, .ref h0)] → W p l e (headSpec wsX0_makeAllNodesOfFirstArea ({ frames := 2, cells := 0, slots := 0, locals := 47 })).room s m ([.ref h0] : List Value).toArray below meth c H locs 0 0 (MQ below (va_Qv (S := hs_S × (Nat → Int32)) (fun uu => ∃ F9, uu = ((F9, u, kr, dn, lf, dw), G) ∧ hs_E N w nw sz F9) (hs_B (dC, dI) vwCl [(cA, .int)] (wfX h0 hd hp cA d N w nw sz) (va_A [oX_ h0 hd hp d N w nw sz u kr dn lf dw, ar_ hd cA (2 * sz) F, ar_ hp cA sz G] s.heap.size)) (va_A [oX_ h0 hd hp d N w nw sz u kr dn lf dw, ar_ hd cA (2 * sz) F, ar_ hp cA sz G] s.heap.size)) ([.ref h0] : List Value).toArray s 0 0 (va_A [oX_ h0 hd hp d N w nw sz u kr dn lf dw, ar_ hd cA (2 * sz) F, ar_ hp cA sz G] s.heap.size)) (F0 m 47 ls []) := by
    intro n
    induction n with
    | zero =>
      intro F1 H locs ls hnN hI hz hP hD hS hl
      refine lv_iload_n hx hb dX0_makeAllNodesOfFirstArea_47 rfl (lv_at hl 0 rfl) ?_
      refine lv_iconst (v := nI 1) hx hb dX0_makeAllNodesOfFirstArea_48 (by decide) ?_
      refine hs_clt (tgt := 77) hx hb (by omega) (by omega) dX0_makeAllNodesOfFirstArea_49 (by decide) (fun c1 => ?_) (fun c1 => ?_)
      · exact W.vret hx hb hr (fun t ht hW => ⟨⟨((F1, u, kr, dn, lf, dw), G), rfl, ⟨F1, rfl, hs_I_E ok hI hz⟩, by rw [ht]; exact hP, va_K.moved hW.alike hK, hD⟩, hS.F ht⟩) hS.2.2 dX0_makeAllNodesOfFirstArea_77
      · exact absurd c1 (by omega)
    | succ n ih =>
      intro F1 H locs ls hnN hI hz hP hD hS hl
      refine lv_iload_n hx hb dX0_makeAllNodesOfFirstArea_47 rfl (lv_at hl 0 rfl) ?_
      refine lv_iconst (v := nI 1) hx hb dX0_makeAllNodesOfFirstArea_48 (by decide) ?_
      refine hs_clt (tgt := 77) hx hb (by omega) (by omega) dX0_makeAllNodesOfFirstArea_49 (by decide) (fun c1 => ?_) (fun c1 => ?_)
      · exact absurd c1 (by omega)
      · refine lv_aload_n hx hb dX0_makeAllNodesOfFirstArea_52 rfl (lv_at hl 1 rfl) ?_
        refine va_get (D := (dC, dI)) (ci := 0) (v := .ref hd) (C := RX0) (T := TX0) (N := 12) hx hb hts (by decide +kernel) hown hK hP 0 rfl rfl 5 (by decide) (hts (.fieldLink RX0 34 "HashedStore" "disk" "[I") (by decide +kernel)) (fun _ h9 => h9) rfl dX0_makeAllNodesOfFirstArea_53 ?_
        refine lv_aload_n hx hb dX0_makeAllNodesOfFirstArea_56 rfl (lv_at hl 1 rfl) ?_
        refine lv_iload_n hx hb dX0_makeAllNodesOfFirstArea_57 rfl (lv_at hl 0 rfl) ?_
        refine hs_pe (v := nI (nw + (n + 1) - 1)) (va_runV (As := [.int (nI (n + 1))]) (rest := [.ref hd]) ⟨hx, hb, hml, hown, hts⟩ (kX0_nodeCell l dC dI h0 hd hp cA d N w nw sz u F1 G kr dn lf dw ok (n + 1)) (cwV 1 hts gX0_makeAllNodesOfFirstArea_X0_nodeCell rfl rfl rfl (by decide +kernel) ⟨(Nat.le_of_ble_eq_true rfl), (Nat.le_of_ble_eq_true rfl)⟩) (hs_preV (q := (RX0, TX0, 12)) (ci := 0) hK (hP.sub [0] rfl) rfl rfl) rfl rfl hl.1 rfl (lv_room (Nat.le_of_ble_eq_true rfl)) dX0_makeAllNodesOfFirstArea_58 ⟨Nat.zero_le _, Nat.zero_le _⟩) hS hP (fun H locs hP hS => ?_)
        refine lv_aload_n hx hb dX0_makeAllNodesOfFirstArea_61 rfl (lv_at hl 1 rfl) ?_
        refine lv_aload_n hx hb dX0_makeAllNodesOfFirstArea_62 rfl (lv_at hl 1 rfl) ?_
        refine va_get (D := (dC, dI)) (ci := 0) (v := .ref hd) (C := RX0) (T := TX0) (N := 12) hx hb hts (by decide +kernel) hown hK hP 0 rfl rfl 5 (by decide) (hts (.fieldLink RX0 34 "HashedStore" "disk" "[I") (by decide +kernel)) (fun _ h9 => h9) rfl dX0_makeAllNodesOfFirstArea_63 ?_
        refine lv_iload_n hx hb dX0_makeAllNodesOfFirstArea_66 rfl (lv_at hl 0 rfl) ?_
        refine hs_pe (v := hs_mx (F1 (nw + 2 * (n + 1) - 1)) (F1 (nw + (2 * (n + 1) + 1) - 1))) (va_runV (As := [.ref hd, .int (nI (n + 1))]) (rest := [.int (nI (nw + (n + 1) - 1)), .ref hd]) ⟨hx, hb, hml, hown, hts⟩ (kX0_hashOfSons l dC dI h0 hd hp cA d N w nw sz u F1 G kr dn lf dw ok hd (2 * sz) F1 (n + 1) (by omega) (by omega)) (cwV 2 hts gX0_makeAllNodesOfFirstArea_X0_hashOfSons rfl rfl rfl (by decide +kernel) ⟨(Nat.le_of_ble_eq_true rfl), (Nat.le_of_ble_eq_true rfl)⟩) (hs_preV (q := (RX0, TX0, 12)) (ci := 0) hK (hP.sub [0, 1] rfl) rfl rfl) rfl rfl hl.1 rfl (lv_room (Nat.le_of_ble_eq_true rfl)) dX0_makeAllNodesOfFirstArea_67 ⟨Nat.zero_le _, Nat.zero_le _⟩) hS hP (fun H locs hP hS => ?_)
        refine hs_ast hx hb hK hP hD hS 1 0 rfl rfl (k := nw + (n + 1) - 1) (by omega) (by omega) dX0_makeAllNodesOfFirstArea_70 (fun H locs hP hD hS => ?_)
        have hP : va_P (dC, dI) vwCl [oX_ h0 hd hp d N w nw sz u kr dn lf dw, ar_ hd cA (2 * sz) (upd F1 (nw + (n + 1) - 1) (hs_mx (F1 (nw + 2 * (n + 1) - 1)) (F1 (nw + (2 * (n + 1) + 1) - 1)))), ar_ hp cA sz G] H := hP
        have hD : va_D (va_A [oX_ h0 hd hp d N w nw sz u kr dn lf dw, ar_ hd cA (2 * sz) F, ar_ hp cA sz G] s.heap.size) [oX_ h0 hd hp d N w nw sz u kr dn lf dw, ar_ hd cA (2 * sz) (upd F1 (nw + (n + 1) - 1) (hs_mx (F1 (nw + 2 * (n + 1) - 1)) (F1 (nw + (2 * (n + 1) + 1) - 1)))), ar_ hp cA sz G] := hD
        refine lv_iinc (v := nI n) (lv' := [(1, .int (nI n)), (0, .ref h0)]) hx hb dX0_makeAllNodesOfFirstArea_71 hl (k := 0) rfl (pk_m1 _) (by decide) rfl (fun ls hl => ?_)
        refine lv_goto (tgt := 47) hx hb dX0_makeAllNodesOfFirstArea_74 (by decide) ?_
        exact ih _ H locs ls (by omega) (hs_I_s ok hI (by omega) (fun b hb => by omega) (fun _ => rfl)) (fun j hj => (pk_un (by omega)).trans (hz j hj)) hP hD hS (lv_sub hl [0, 1] rfl)
  refine lv_iconst (v := nI 0) hx hb dX0_makeAllNodesOfFirstArea_0 (by decide) ?_
  refine lv_istore_n (lv' := [(1, .int (nI 0)), (0, .ref h0)]) hx hb dX0_makeAllNodesOfFirstArea_1 rfl hl (by decide) rfl (fun ls hl => ?_)
  have loop1 : ∀ (n : Nat) (i : Nat) (F1 : Nat → Int32) (H : Heap) (locs : List Loc) (ls : Array Slot), (i + n = N) → (hs_J N w nw i F1) → (∀ j, sz ≤ j → F1 j = 0) → va_P (dC, dI) vwCl [oX_ h0 hd hp d N w nw sz u kr dn lf dw, ar_ hd cA (2 * sz) F1, ar_ hp cA sz G] H → va_D (va_A [oX_ h0 hd hp d N w nw sz u kr dn lf dw, ar_ hd cA (2 * sz) F, ar_ hp cA sz G] s.heap.size) [oX_ h0 hd hp d N w nw sz u kr dn lf dw, ar_ hd cA (2 * sz) F1, ar_ hp cA sz G] → va_S (va_A [oX_ h0 hd hp d N w nw sz u kr dn lf dw, ar_ hd cA (2 * sz) F, ar_ hp cA sz G] s.heap.size) s.heap H locs → lv_has ls 2 [(1, .int (nI i)), (0, .ref h0)] → W p l e (headSpec wsX0_makeAllNodesOfFirstArea ({ frames := 2, cells := 0, slots := 0, locals := 47 })).room s m ([.ref h0] : List Value).toArray below meth c H locs 0 0 (MQ below (va_Qv (S := hs_S × (Nat → Int32)) (fun uu => ∃ F9, uu = ((F9, u, kr, dn, lf, dw), G) ∧ hs_E N w nw sz F9) (hs_B (dC, dI) vwCl [(cA, .int)] (wfX h0 hd hp cA d N w nw sz) (va_A [oX_ h0 hd hp d N w nw sz u kr dn lf dw, ar_ hd cA (2 * sz) F, ar_ hp cA sz G] s.heap.size)) (va_A [oX_ h0 hd hp d N w nw sz u kr dn lf dw, ar_ hd cA (2 * sz) F, ar_ hp cA sz G] s.heap.size)) ([.ref h0] : List Value).toArray s 0 0 (va_A [oX_ h0 hd hp d N w nw sz u kr dn lf dw, ar_ hd cA (2 * sz) F, ar_ hp cA sz G] s.heap.size)) (F0 m 2 ls []) := by
    intro n
    induction n with
    | zero =>
      intro i F1 H locs ls hi hJ hz hP hD hS hl
      refine lv_iload_n hx hb dX0_makeAllNodesOfFirstArea_2 rfl (lv_at hl 0 rfl) ?_
      refine lv_aload_n hx hb dX0_makeAllNodesOfFirstArea_3 rfl (lv_at hl 1 rfl) ?_
      refine va_get (D := (dC, dI)) (ci := 0) (v := .int (nI N)) (C := RX0) (T := TX0) (N := 12) hx hb hts (by decide +kernel) hown hK hP 0 rfl rfl 1 (by decide) (hts (.fieldLink RX0 25 "HashedStore" "blockCount" "I") (by decide +kernel)) (fun _ h9 => h9) rfl dX0_makeAllNodesOfFirstArea_4 ?_
      refine hs_cge (tgt := 40) hx hb (by omega) (by omega) dX0_makeAllNodesOfFirstArea_7 (by decide) (fun c1 => ?_) (fun c1 => ?_)
      · refine lv_aload_n hx hb dX0_makeAllNodesOfFirstArea_40 rfl (lv_at hl 1 rfl) ?_
        refine va_get (D := (dC, dI)) (ci := 0) (v := .int (nI N)) (C := RX0) (T := TX0) (N := 12) hx hb hts (by decide +kernel) hown hK hP 0 rfl rfl 1 (by decide) (hts (.fieldLink RX0 25 "HashedStore" "blockCount" "I") (by decide +kernel)) (fun _ h9 => h9) rfl dX0_makeAllNodesOfFirstArea_41 ?_
        refine lv_iconst (v := nI 1) hx hb dX0_makeAllNodesOfFirstArea_44 (by decide) ?_
        refine hs_subN hx hb (by omega) dX0_makeAllNodesOfFirstArea_45 ?_
        refine lv_istore_n (lv' := [(1, .int (nI (N - 1))), (0, .ref h0)]) hx hb dX0_makeAllNodesOfFirstArea_46 rfl hl (by decide) rfl (fun ls hl => ?_)
        have hiN : i = N := by omega
        rw [hiN] at hJ
        exact loop2 (N - 1) F1 H locs ls (by omega) (hs_J_I hJ) hz hP hD hS (lv_sub hl [0, 1] rfl)
      · exact absurd c1 (by omega)
    | succ n ih =>
      intro i F1 H locs ls hi hJ hz hP hD hS hl
      refine lv_iload_n hx hb dX0_makeAllNodesOfFirstArea_2 rfl (lv_at hl 0 rfl) ?_
      refine lv_aload_n hx hb dX0_makeAllNodesOfFirstArea_3 rfl (lv_at hl 1 rfl) ?_
      refine va_get (D := (dC, dI)) (ci := 0) (v := .int (nI N)) (C := RX0) (T := TX0) (N := 12) hx hb hts (by decide +kernel) hown hK hP 0 rfl rfl 1 (by decide) (hts (.fieldLink RX0 25 "HashedStore" "blockCount" "I") (by decide +kernel)) (fun _ h9 => h9) rfl dX0_makeAllNodesOfFirstArea_4 ?_
      refine hs_cge (tgt := 40) hx hb (by omega) (by omega) dX0_makeAllNodesOfFirstArea_7 (by decide) (fun c1 => ?_) (fun c1 => ?_)
      · exact absurd c1 (by omega)
      · have hrow := hs_row ok (b := i) (by omega)
        refine lv_aload_n hx hb dX0_makeAllNodesOfFirstArea_10 rfl (lv_at hl 1 rfl) ?_
        refine va_get (D := (dC, dI)) (ci := 0) (v := .ref hd) (C := RX0) (T := TX0) (N := 12) hx hb hts (by decide +kernel) hown hK hP 0 rfl rfl 5 (by decide) (hts (.fieldLink RX0 34 "HashedStore" "disk" "[I") (by decide +kernel)) (fun _ h9 => h9) rfl dX0_makeAllNodesOfFirstArea_11 ?_
        refine lv_aload_n hx hb dX0_makeAllNodesOfFirstArea_14 rfl (lv_at hl 1 rfl) ?_
        refine lv_aload_n hx hb dX0_makeAllNodesOfFirstArea_15 rfl (lv_at hl 1 rfl) ?_
        refine lv_iload_n hx hb dX0_makeAllNodesOfFirstArea_16 rfl (lv_at hl 0 rfl) ?_
        refine hs_pe (v := nI (N + i)) (va_runV (As := [.int (nI i)]) (rest := [.ref h0, .ref hd]) ⟨hx, hb, hml, hown, hts⟩ (kX0_leafOf l dC dI h0 hd hp cA d N w nw sz u F1 G kr dn lf dw ok i) (cwV 1 hts gX0_makeAllNodesOfFirstArea_X0_leafOf rfl rfl rfl (by decide +kernel) ⟨(Nat.le_of_ble_eq_true rfl), (Nat.le_of_ble_eq_true rfl)⟩) (hs_preV (q := (RX0, TX0, 12)) (ci := 0) hK (hP.sub [0] rfl) rfl rfl) rfl rfl hl.1 rfl (lv_room (Nat.le_of_ble_eq_true rfl)) dX0_makeAllNodesOfFirstArea_17 ⟨Nat.zero_le _, Nat.zero_le _⟩) hS hP (fun H locs hP hS => ?_)
        refine hs_pe (v := nI (nw + (N + i) - 1)) (va_runV (As := [.int (nI (N + i))]) (rest := [.ref hd]) ⟨hx, hb, hml, hown, hts⟩ (kX0_nodeCell l dC dI h0 hd hp cA d N w nw sz u F1 G kr dn lf dw ok (N + i)) (cwV 1 hts gX0_makeAllNodesOfFirstArea_X0_nodeCell rfl rfl rfl (by decide +kernel) ⟨(Nat.le_of_ble_eq_true rfl), (Nat.le_of_ble_eq_true rfl)⟩) (hs_preV (q := (RX0, TX0, 12)) (ci := 0) hK (hP.sub [0] rfl) rfl rfl) rfl rfl hl.1 rfl (lv_room (Nat.le_of_ble_eq_true rfl)) dX0_makeAllNodesOfFirstArea_20 ⟨Nat.zero_le _, Nat.zero_le _⟩) hS hP (fun H locs hP hS => ?_)
        refine lv_aload_n hx hb dX0_makeAllNodesOfFirstArea_23 rfl (lv_at hl 1 rfl) ?_
        refine lv_aload_n hx hb dX0_makeAllNodesOfFirstArea_24 rfl (lv_at hl 1 rfl) ?_
        refine va_get (D := (dC, dI)) (ci := 0) (v := .ref hd) (C := RX0) (T := TX0) (N := 12) hx hb hts (by decide +kernel) hown hK hP 0 rfl rfl 5 (by decide) (hts (.fieldLink RX0 34 "HashedStore" "disk" "[I") (by decide +kernel)) (fun _ h9 => h9) rfl dX0_makeAllNodesOfFirstArea_25 ?_
        refine lv_iconst (v := nI 0) hx hb dX0_makeAllNodesOfFirstArea_28 (by decide) ?_
        refine lv_iload_n hx hb dX0_makeAllNodesOfFirstArea_29 rfl (lv_at hl 0 rfl) ?_
        refine hs_pe (v := hs_bl (fun x => F1 (0 + x)) w (i * w) (nI i)) (va_runV (As := [.ref hd, .int (nI 0), .int (nI i)]) (rest := [.int (nI (nw + (N + i) - 1)), .ref hd]) ⟨hx, hb, hml, hown, hts⟩ (kX0_blockHash l dC dI h0 hd hp cA d N w nw sz u F1 G kr dn lf dw ok hd (2 * sz) F1 0 i (by omega) (by omega) (by omega)) (cwV 3 hts gX0_makeAllNodesOfFirstArea_X0_blockHash rfl rfl rfl (by decide +kernel) ⟨(Nat.le_of_ble_eq_true rfl), (Nat.le_of_ble_eq_true rfl)⟩) (hs_preV (q := (RX0, TX0, 12)) (ci := 0) hK (hP.sub [0, 1] rfl) rfl rfl) rfl rfl hl.1 rfl (lv_room (Nat.le_of_ble_eq_true rfl)) dX0_makeAllNodesOfFirstArea_30 ⟨Nat.zero_le _, Nat.zero_le _⟩) hS hP (fun H locs hP hS => ?_)
        refine lv_topi (fun h eh => ?_)
        rw [hs_z0] at eh
        refine hs_ast hx hb hK hP hD hS 1 0 rfl rfl (k := nw + (N + i) - 1) (by omega) (by omega) dX0_makeAllNodesOfFirstArea_33 (fun H locs hP hD hS => ?_)
        have hP : va_P (dC, dI) vwCl [oX_ h0 hd hp d N w nw sz u kr dn lf dw, ar_ hd cA (2 * sz) (upd F1 (nw + (N + i) - 1) h), ar_ hp cA sz G] H := hP
        have hD : va_D (va_A [oX_ h0 hd hp d N w nw sz u kr dn lf dw, ar_ hd cA (2 * sz) F, ar_ hp cA sz G] s.heap.size) [oX_ h0 hd hp d N w nw sz u kr dn lf dw, ar_ hd cA (2 * sz) (upd F1 (nw + (N + i) - 1) h), ar_ hp cA sz G] := hD
        refine lv_iinc (v := nI (i + 1)) (lv' := [(1, .int (nI (i + 1))), (0, .ref h0)]) hx hb dX0_makeAllNodesOfFirstArea_34 hl (k := 0) rfl (nI_1 _) (by decide) rfl (fun ls hl => ?_)
        refine lv_goto (tgt := 2) hx hb dX0_makeAllNodesOfFirstArea_37 (by decide) ?_
        exact ih (i + 1) _ H locs ls (by omega) (by rw [eh]; exact hs_J_s ok hJ (by omega)) (fun j hj => (pk_un (by omega)).trans (hz j hj)) hP hD hS (lv_sub hl [0, 1] rfl)
  exact loop1 N 0 F _ _ ls (by omega) ⟨fun j _ => hF j, fun b hb => absurd hb (Nat.not_lt_zero b)⟩ (fun j _ => hF j) hP hD hS (lv_sub hl [0, 1] rfl)
