set_option maxHeartbeats 4000000 in
set_option maxRecDepth 100000 in
theorem kX1_read (l : Launch) (dC : Nat → ClassId) (dI : Nat → Nat → Nat) (h0 hd hp : Nat) (cA : ClassId) (d N w nw sz u : Nat) (F G : Nat → Int32) (kr dn lf : Int32) (dw : Bool) (ok : hs_ok d N w nw sz) (zz : Nat) (p1 p2 : Int32) (hu : u < 2) : Met l yX1_read wsX1_read ({ frames := 4, cells := 0, slots := 0, locals := 92 }) (va_Pc [.ref h0, .int p1, .int p2] (hs_pm (dC, dI) vwCl [(cA, .int)] [oM_ h0 hd hp d N w nw sz u kr dn lf dw, ar_ hd cA 600 F, ar_ hp cA 300 G] zz)) (va_Qi (S := hs_S × (Nat → Int32)) (fun r uu => r = hs_rd d N w nw sz p1 p2 (F, u, kr, dn, lf, dw) ∧ ∃ g, uu = ((F, u, kr, dn, lf, dw), g)) (hs_B (dC, dI) vwCl [(cA, .int)] (wfM h0 hd hp cA d N w nw sz) (va_A [oM_ h0 hd hp d N w nw sz u kr dn lf dw, ar_ hd cA 600 F, ar_ hp cA 300 G] zz)) (va_A [oM_ h0 hd hp d N w nw sz u kr dn lf dw, ar_ hd cA 600 F, ar_ hp cA 300 G] zz)) 0 0 (va_A [oM_ h0 hd hp d N w nw sz u kr dn lf dw, ar_ hd cA 600 F, ar_ hp cA 300 G] zz) := by
  refine Met.ofW (cc := cX1_read) (maxL := 3) (ret := (some .int)) (by decide) rfl ?_
  intro p e s m args below meth c s₁ B hml hv
  obtain ⟨rfl, hzz, hP, hK, hD0⟩ := hv
  have hx := B.exec
  have hb := B.bytes
  have hr := B.returns
  have hts := atoms_spec (ws := wsX1_read) B.pre
  have hown : s.vm.findClass RX1 = some m.cls := findClass_of_methodNamed B.named
  have hlocks := B.notSynchronized
  obtain ⟨hd5, hN1, hN2, hw1, hw2, hn1, hn2, hsz, hsz2⟩ := hs_okf ok
  have hnw : nw = N * w := ok.2.2.2.2.1
  subst hzz
  have hD := hD0.self (sz := s.heap.size)
  have hS : va_S (va_A [oM_ h0 hd hp d N w nw sz u kr dn lf dw, ar_ hd cA 600 F, ar_ hp cA 300 G] s.heap.size) s.heap s.heap [] := va_S.rf
  have hA : ∀ q : Nat, s.heap.size ≤ q → va_A [oM_ h0 hd hp d N w nw sz u kr dn lf dw, ar_ hd cA 600 F, ar_ hp cA 300 G] s.heap.size q := fun q h => Or.inr h
  have hl := lv_entry ([.ref h0, .int p1, .int p2]) (n := 3) (Nat.le_of_ble_eq_true rfl)
  rw [lg_entry_eq]
  generalize (lg_sl ([.ref h0, .int p1, .int p2]) ++ List.replicate (3 - (lg_sl ([.ref h0, .int p1, .int p2])).length) Slot.unset).toArray = ls at hl ⊢
  have hl : lv_has ls 3 [(0, .ref h0), (1, .int p1), (2, .int p2)] := hl
  refine lv_aload_n hx hb dX1_read_0 rfl (lv_at hl 0 rfl) ?_
  refine lv_iload_n hx hb dX1_read_1 rfl (lv_at hl 1 rfl) ?_
  refine hs_pe (v := hs_b (hs_hb N p1)) (va_runV (As := [.int p1]) (rest := []) ⟨hx, hb, hml, hown, hts⟩ (kX1_isBlock l dC dI h0 hd hp cA d N w nw sz u F G kr dn lf dw ok p1) (cwV 1 hts gX1_read_X1_isBlock rfl rfl rfl (by decide +kernel) ⟨(Nat.le_of_ble_eq_true rfl), (Nat.le_of_ble_eq_true rfl)⟩) (hs_preV (q := (RX1, TX1, 11)) (ci := 1) hK (hP.sub [0] rfl) rfl rfl) rfl rfl hl.1 rfl (lv_room (Nat.le_of_ble_eq_true rfl)) dX1_read_2 ⟨Nat.zero_le _, Nat.zero_le _⟩) hS hP (fun H locs hP hS => ?_)
  refine hs_beq (tgt := 20) hx hb dX1_read_5 (by decide) (fun c1 => ?_) (fun c1 => ?_)
  · refine lv_bipush (v := (-2)) hx hb dX1_read_20 (by decide) ?_
    exact W.iret (v := (-2)) hx hb hr (fun t ht hW => ⟨⟨(-2), ((F, u, kr, dn, lf, dw), G), rfl, ⟨hs_rd_1 (hs_af c1), _, rfl⟩, by rw [ht]; exact hP, va_K.moved hW.alike hK, hD⟩, hS.F ht⟩) hS.2.2 dX1_read_22
  · refine lv_iload_n hx hb dX1_read_8 rfl (lv_at hl 2 rfl) ?_
    refine lv_if_lt (tgt := 20) hx hb dX1_read_9 (by decide) (fun c2 => ?_) (fun c2 => ?_)
    · refine lv_bipush (v := (-2)) hx hb dX1_read_20 (by decide) ?_
      exact W.iret (v := (-2)) hx hb hr (fun t ht hW => ⟨⟨(-2), ((F, u, kr, dn, lf, dw), G), rfl, ⟨hs_rd_1 (hs_ag (hs_hb_n c2)), _, rfl⟩, by rw [ht]; exact hP, va_K.moved hW.alike hK, hD⟩, hS.F ht⟩) hS.2.2 dX1_read_22
    · refine lv_iload_n hx hb dX1_read_12 rfl (lv_at hl 2 rfl) ?_
      refine lv_aload_n hx hb dX1_read_13 rfl (lv_at hl 0 rfl) ?_
      refine va_get (D := (dC, dI)) (ci := 1) (v := .int (nI w)) (C := RX1) (T := TX1) (N := 11) hx hb hts (by decide +kernel) hown hK hP 0 rfl rfl 2 (by decide) (hts (.fieldLink RX1 26 "HashedStoreModel" "words" "I") (by decide +kernel)) (fun _ h9 => h9) rfl dX1_read_14 ?_
      refine lv_icmp_lt (tgt := 23) hx hb dX1_read_17 (by decide) (fun c3 => ?_) (fun c3 => ?_)
      · obtain ⟨⟨j, hj, rfl⟩, ⟨i, hi, rfl⟩⟩ := hs_and_t (hs_at c1 (hs_hb_o c2 c3)) (by omega) (by omega)
        have hrow := hs_row ok hj
        refine lv_aload_n hx hb dX1_read_23 rfl (lv_at hl 0 rfl) ?_
        refine va_get (D := (dC, dI)) (ci := 1) (v := .int (hs_b dw)) (C := RX1) (T := TX1) (N := 11) hx hb hts (by decide +kernel) hown hK hP 0 rfl rfl 10 (by decide) (hts (.fieldLink RX1 58 "HashedStoreModel" "isDown" "Z") (by decide +kernel)) (fun _ h9 => h9) rfl dX1_read_24 ?_
        refine hs_beq (tgt := 35) hx hb dX1_read_27 (by decide) (fun c4 => ?_) (fun c4 => ?_)
        · refine lv_aload_n hx hb dX1_read_35 rfl (lv_at hl 0 rfl) ?_
          refine lv_iload_n hx hb dX1_read_36 rfl (lv_at hl 1 rfl) ?_
          refine hs_ci (va_runV (As := [.int (nI j)]) (rest := []) ⟨hx, hb, hml, hown, hts⟩ (kX1_isRight l dC dI h0 hd hp cA d N w nw sz u F G kr dn lf dw ok _ j hj hu) (cwV 1 hts gX1_read_X1_isRight rfl rfl rfl (by decide +kernel) ⟨(Nat.le_of_ble_eq_true rfl), (Nat.le_of_ble_eq_true rfl)⟩) (hs_preM (q := (RX1, TX1, 11)) (ci := 1) hK hP hD rfl rfl) rfl rfl hl.1 rfl (lv_room (Nat.le_of_ble_eq_true rfl)) dX1_read_37 ⟨Nat.zero_le _, Nat.zero_le _⟩) hS hD hA (fun rv v H locs hv hP hD hS => ?_)
          obtain ⟨rfl, g, rfl, hg⟩ := hv
          have hP : va_P (dC, dI) vwCl [oM_ h0 hd hp d N w nw sz u kr dn lf dw, ar_ hd cA 600 F, ar_ hp cA 300 g] H := hP
          have hD : va_D (va_A [oM_ h0 hd hp d N w nw sz u kr dn lf dw, ar_ hd cA 600 F, ar_ hp cA 300 G] s.heap.size) [oM_ h0 hd hp d N w nw sz u kr dn lf dw, ar_ hd cA 600 F, ar_ hp cA 300 g] := hD
          refine hs_beq (tgt := 59) hx hb dX1_read_40 (by decide) (fun c5 => ?_) (fun c5 => ?_)
          · refine lv_bipush (v := (-3)) hx hb dX1_read_59 (by decide) ?_
            exact W.iret (v := (-3)) hx hb hr (fun t ht hW => ⟨⟨(-3), ((F, u, kr, dn, lf, dw), g), rfl, ⟨hs_rd_3 hj hi (by omega) (by omega) c4 c5, _, rfl⟩, by rw [ht]; exact hP, va_K.moved hW.alike hK, hD⟩, hS.F ht⟩) hS.2.2 dX1_read_61
          · refine lv_aload_n hx hb dX1_read_43 rfl (lv_at hl 0 rfl) ?_
            refine va_get (D := (dC, dI)) (ci := 1) (v := .ref hp) (C := RX1) (T := TX1) (N := 11) hx hb hts (by decide +kernel) hown hK hP 0 rfl rfl 5 (by decide) (hts (.fieldLink RX1 13 "HashedStoreModel" "goal" "[I") (by decide +kernel)) (fun _ h9 => h9) rfl dX1_read_44 ?_
            refine lv_iload_n hx hb dX1_read_47 rfl (lv_at hl 1 rfl) ?_
            refine lv_aload_n hx hb dX1_read_48 rfl (lv_at hl 0 rfl) ?_
            refine va_get (D := (dC, dI)) (ci := 1) (v := .int (nI w)) (C := RX1) (T := TX1) (N := 11) hx hb hts (by decide +kernel) hown hK hP 0 rfl rfl 2 (by decide) (hts (.fieldLink RX1 26 "HashedStoreModel" "words" "I") (by decide +kernel)) (fun _ h9 => h9) rfl dX1_read_49 ?_
            refine hs_mulN hx hb dX1_read_52 ?_
            refine lv_iload_n hx hb dX1_read_53 rfl (lv_at hl 2 rfl) ?_
            refine hs_addN hx hb dX1_read_54 ?_
            refine hs_ald hx hb hK hP 2 0 rfl rfl (k := (j * w) + i) (by omega) (by omega) dX1_read_55 ?_
            refine lv_goto (tgt := 61) hx hb dX1_read_56 (by decide) ?_
            exact W.iret (v := g ((j * w) + i)) hx hb hr (fun t ht hW => ⟨⟨g ((j * w) + i), ((F, u, kr, dn, lf, dw), g), rfl, ⟨(hg _ (by omega)).trans (hs_rd_4 hj hi (by omega) (by omega) c4 c5), _, rfl⟩, by rw [ht]; exact hP, va_K.moved hW.alike hK, hD⟩, hS.F ht⟩) hS.2.2 dX1_read_61
        · refine lv_bipush (v := (-4)) hx hb dX1_read_30 (by decide) ?_
          refine lv_goto (tgt := 61) hx hb dX1_read_32 (by decide) ?_
          exact W.iret (v := (-4)) hx hb hr (fun t ht hW => ⟨⟨(-4), ((F, u, kr, dn, lf, dw), G), rfl, ⟨hs_rd_2 hj hi (by omega) (by omega) c4, _, rfl⟩, by rw [ht]; exact hP, va_K.moved hW.alike hK, hD⟩, hS.F ht⟩) hS.2.2 dX1_read_61
      · refine lv_bipush (v := (-2)) hx hb dX1_read_20 (by decide) ?_
        exact W.iret (v := (-2)) hx hb hr (fun t ht hW => ⟨⟨(-2), ((F, u, kr, dn, lf, dw), G), rfl, ⟨hs_rd_1 (hs_ag (hs_hb_g (Int32.not_lt.mp c3))), _, rfl⟩, by rw [ht]; exact hP, va_K.moved hW.alike hK, hD⟩, hS.F ht⟩) hS.2.2 dX1_read_22
set_option maxHeartbeats 4000000 in
set_option maxRecDepth 100000 in
theorem kX1_verify (l : Launch) (dC : Nat → ClassId) (dI : Nat → Nat → Nat) (h0 hd hp : Nat) (cA : ClassId) (d N w nw sz u : Nat) (F G : Nat → Int32) (kr dn lf : Int32) (dw : Bool) (ok : hs_ok d N w nw sz) (zz : Nat) (p1 : Int32) (hu : u < 2) : Met l yX1_verify wsX1_verify ({ frames := 4, cells := 0, slots := 0, locals := 92 }) (va_Pc [.ref h0, .int p1] (hs_pm (dC, dI) vwCl [(cA, .int)] [oM_ h0 hd hp d N w nw sz u kr dn lf dw, ar_ hd cA 600 F, ar_ hp cA 300 G] zz)) (va_Qi (S := hs_S × (Nat → Int32)) (fun r uu => r = hs_b (hs_vf d N w nw sz p1 (F, u, kr, dn, lf, dw)) ∧ ∃ g, uu = ((F, u, kr, dn, lf, dw), g)) (hs_B (dC, dI) vwCl [(cA, .int)] (wfM h0 hd hp cA d N w nw sz) (va_A [oM_ h0 hd hp d N w nw sz u kr dn lf dw, ar_ hd cA 600 F, ar_ hp cA 300 G] zz)) (va_A [oM_ h0 hd hp d N w nw sz u kr dn lf dw, ar_ hd cA 600 F, ar_ hp cA 300 G] zz)) 0 0 (va_A [oM_ h0 hd hp d N w nw sz u kr dn lf dw, ar_ hd cA 600 F, ar_ hp cA 300 G] zz) := by
  refine Met.ofW (cc := cX1_verify) (maxL := 2) (ret := (some .boolean)) (by decide) rfl ?_
  intro p e s m args below meth c s₁ B hml hv
  obtain ⟨rfl, hzz, hP, hK, hD0⟩ := hv
  have hx := B.exec
  have hb := B.bytes
  have hr := B.returns
  have hts := atoms_spec (ws := wsX1_verify) B.pre
  have hown : s.vm.findClass RX1 = some m.cls := findClass_of_methodNamed B.named
  have hlocks := B.notSynchronized
  obtain ⟨hd5, hN1, hN2, hw1, hw2, hn1, hn2, hsz, hsz2⟩ := hs_okf ok
  have hnw : nw = N * w := ok.2.2.2.2.1
  subst hzz
  have hD := hD0.self (sz := s.heap.size)
  have hS : va_S (va_A [oM_ h0 hd hp d N w nw sz u kr dn lf dw, ar_ hd cA 600 F, ar_ hp cA 300 G] s.heap.size) s.heap s.heap [] := va_S.rf
  have hA : ∀ q : Nat, s.heap.size ≤ q → va_A [oM_ h0 hd hp d N w nw sz u kr dn lf dw, ar_ hd cA 600 F, ar_ hp cA 300 G] s.heap.size q := fun q h => Or.inr h
  have hl := lv_entry ([.ref h0, .int p1]) (n := 2) (Nat.le_of_ble_eq_true rfl)
  rw [lg_entry_eq]
  generalize (lg_sl ([.ref h0, .int p1]) ++ List.replicate (2 - (lg_sl ([.ref h0, .int p1])).length) Slot.unset).toArray = ls at hl ⊢
  have hl : lv_has ls 2 [(0, .ref h0), (1, .int p1)] := hl
  refine lv_aload_n hx hb dX1_verify_0 rfl (lv_at hl 0 rfl) ?_
  refine lv_iload_n hx hb dX1_verify_1 rfl (lv_at hl 1 rfl) ?_
  refine hs_pe (v := hs_b (hs_hb N p1)) (va_runV (As := [.int p1]) (rest := []) ⟨hx, hb, hml, hown, hts⟩ (kX1_isBlock l dC dI h0 hd hp cA d N w nw sz u F G kr dn lf dw ok p1) (cwV 1 hts gX1_verify_X1_isBlock rfl rfl rfl (by decide +kernel) ⟨(Nat.le_of_ble_eq_true rfl), (Nat.le_of_ble_eq_true rfl)⟩) (hs_preV (q := (RX1, TX1, 11)) (ci := 1) hK (hP.sub [0] rfl) rfl rfl) rfl rfl hl.1 rfl (lv_room (Nat.le_of_ble_eq_true rfl)) dX1_verify_2 ⟨Nat.zero_le _, Nat.zero_le _⟩) hS hP (fun H locs hP hS => ?_)
  refine hs_beq (tgt := 27) hx hb dX1_verify_5 (by decide) (fun c1 => ?_) (fun c1 => ?_)
  · refine lv_iconst (v := nI 0) hx hb dX1_verify_27 (by decide) ?_
    exact W.zret (v := nI 0) hx hb hr rfl (fun t ht hW => ⟨⟨nI 0, ((F, u, kr, dn, lf, dw), G), rfl, ⟨by rw [← hs_vf_1 c1]; rfl, _, rfl⟩, by rw [ht]; exact hP, va_K.moved hW.alike hK, hD⟩, hS.F ht⟩) hS.2.2 dX1_verify_28
  · obtain ⟨j, hj, rfl⟩ := hs_hb_t (by omega) c1
    refine lv_aload_n hx hb dX1_verify_8 rfl (lv_at hl 0 rfl) ?_
    refine va_get (D := (dC, dI)) (ci := 1) (v := .int (hs_b dw)) (C := RX1) (T := TX1) (N := 11) hx hb hts (by decide +kernel) hown hK hP 0 rfl rfl 10 (by decide) (hts (.fieldLink RX1 58 "HashedStoreModel" "isDown" "Z") (by decide +kernel)) (fun _ h9 => h9) rfl dX1_verify_9 ?_
    refine hs_bne (tgt := 27) hx hb dX1_verify_12 (by decide) (fun c2 => ?_) (fun c2 => ?_)
    · refine lv_iconst (v := nI 0) hx hb dX1_verify_27 (by decide) ?_
      exact W.zret (v := nI 0) hx hb hr rfl (fun t ht hW => ⟨⟨nI 0, ((F, u, kr, dn, lf, dw), G), rfl, ⟨by rw [← hs_vf_2 hj (by omega) c2]; rfl, _, rfl⟩, by rw [ht]; exact hP, va_K.moved hW.alike hK, hD⟩, hS.F ht⟩) hS.2.2 dX1_verify_28
    · refine lv_aload_n hx hb dX1_verify_15 rfl (lv_at hl 0 rfl) ?_
      refine lv_iload_n hx hb dX1_verify_16 rfl (lv_at hl 1 rfl) ?_
      refine hs_ci (va_runV (As := [.int (nI j)]) (rest := []) ⟨hx, hb, hml, hown, hts⟩ (kX1_isRight l dC dI h0 hd hp cA d N w nw sz u F G kr dn lf dw ok _ j hj hu) (cwV 1 hts gX1_verify_X1_isRight rfl rfl rfl (by decide +kernel) ⟨(Nat.le_of_ble_eq_true rfl), (Nat.le_of_ble_eq_true rfl)⟩) (hs_preM (q := (RX1, TX1, 11)) (ci := 1) hK hP hD rfl rfl) rfl rfl hl.1 rfl (lv_room (Nat.le_of_ble_eq_true rfl)) dX1_verify_17 ⟨Nat.zero_le _, Nat.zero_le _⟩) hS hD hA (fun rv v H locs hv hP hD hS => ?_)
      obtain ⟨rfl, g, rfl, hg⟩ := hv
      have hP : va_P (dC, dI) vwCl [oM_ h0 hd hp d N w nw sz u kr dn lf dw, ar_ hd cA 600 F, ar_ hp cA 300 g] H := hP
      have hD : va_D (va_A [oM_ h0 hd hp d N w nw sz u kr dn lf dw, ar_ hd cA 600 F, ar_ hp cA 300 G] s.heap.size) [oM_ h0 hd hp d N w nw sz u kr dn lf dw, ar_ hd cA 600 F, ar_ hp cA 300 g] := hD
      refine hs_beq (tgt := 27) hx hb dX1_verify_20 (by decide) (fun c3 => ?_) (fun c3 => ?_)
      · refine lv_iconst (v := nI 0) hx hb dX1_verify_27 (by decide) ?_
        exact W.zret (v := nI 0) hx hb hr rfl (fun t ht hW => ⟨⟨nI 0, ((F, u, kr, dn, lf, dw), g), rfl, ⟨by rw [← hs_vf_3 hj (by omega) c2, c3]; rfl, _, rfl⟩, by rw [ht]; exact hP, va_K.moved hW.alike hK, hD⟩, hS.F ht⟩) hS.2.2 dX1_verify_28
      · refine lv_iconst (v := nI 1) hx hb dX1_verify_23 (by decide) ?_
        refine lv_goto (tgt := 28) hx hb dX1_verify_24 (by decide) ?_
        exact W.zret (v := nI 1) hx hb hr rfl (fun t ht hW => ⟨⟨nI 1, ((F, u, kr, dn, lf, dw), g), rfl, ⟨by rw [← hs_vf_3 hj (by omega) c2, c3]; rfl, _, rfl⟩, by rw [ht]; exact hP, va_K.moved hW.alike hK, hD⟩, hS.F ht⟩) hS.2.2 dX1_verify_28
set_option maxHeartbeats 4000000 in
set_option maxRecDepth 100000 in
theorem kX1_audit (l : Launch) (dC : Nat → ClassId) (dI : Nat → Nat → Nat) (h0 hd hp : Nat) (cA : ClassId) (d N w nw sz u : Nat) (F G : Nat → Int32) (kr dn lf : Int32) (dw : Bool) (ok : hs_ok d N w nw sz) (zz : Nat) (hu : u < 2) : Met l yX1_audit wsX1_audit ({ frames := 4, cells := 0, slots := 0, locals := 92 }) (va_Pc [.ref h0] (hs_pm (dC, dI) vwCl [(cA, .int)] [oM_ h0 hd hp d N w nw sz u kr dn lf dw, ar_ hd cA 600 F, ar_ hp cA 300 G] zz)) (va_Qi (S := hs_S × (Nat → Int32)) (fun r uu => r = hs_ad d N w nw sz (F, u, kr, dn, lf, dw) ∧ ∃ g, uu = ((F, u, kr, dn, lf, dw), g)) (hs_B (dC, dI) vwCl [(cA, .int)] (wfM h0 hd hp cA d N w nw sz) (va_A [oM_ h0 hd hp d N w nw sz u kr dn lf dw, ar_ hd cA 600 F, ar_ hp cA 300 G] zz)) (va_A [oM_ h0 hd hp d N w nw sz u kr dn lf dw, ar_ hd cA 600 F, ar_ hp cA 300 G] zz)) 0 0 (va_A [oM_ h0 hd hp d N w nw sz u kr dn lf dw, ar_ hd cA 600 F, ar_ hp cA 300 G] zz) := by
  refine Met.ofW (cc := cX1_audit) (maxL := 2) (ret := (some .int)) (by decide) rfl ?_
  intro p e s m args below meth c s₁ B hml hv
  obtain ⟨rfl, hzz, hP, hK, hD0⟩ := hv
  have hx := B.exec
  have hb := B.bytes
  have hr := B.returns
  have hts := atoms_spec (ws := wsX1_audit) B.pre
  have hown : s.vm.findClass RX1 = some m.cls := findClass_of_methodNamed B.named
  have hlocks := B.notSynchronized
  obtain ⟨hd5, hN1, hN2, hw1, hw2, hn1, hn2, hsz, hsz2⟩ := hs_okf ok
  have hnw : nw = N * w := ok.2.2.2.2.1
  subst hzz
  have hD := hD0.self (sz := s.heap.size)
  have hS : va_S (va_A [oM_ h0 hd hp d N w nw sz u kr dn lf dw, ar_ hd cA 600 F, ar_ hp cA 300 G] s.heap.size) s.heap s.heap [] := va_S.rf
  have hA : ∀ q : Nat, s.heap.size ≤ q → va_A [oM_ h0 hd hp d N w nw sz u kr dn lf dw, ar_ hd cA 600 F, ar_ hp cA 300 G] s.heap.size q := fun q h => Or.inr h
  have hl := lv_entry ([.ref h0]) (n := 2) (Nat.le_of_ble_eq_true rfl)
  rw [lg_entry_eq]
  generalize (lg_sl ([.ref h0]) ++ List.replicate (2 - (lg_sl ([.ref h0])).length) Slot.unset).toArray = ls at hl ⊢
  have hl : lv_has ls 2 [(0, .ref h0)] := hl
  refine lv_aload_n hx hb dX1_audit_0 rfl (lv_at hl 0 rfl) ?_
  refine va_get (D := (dC, dI)) (ci := 1) (v := .int (hs_b dw)) (C := RX1) (T := TX1) (N := 11) hx hb hts (by decide +kernel) hown hK hP 0 rfl rfl 10 (by decide) (hts (.fieldLink RX1 58 "HashedStoreModel" "isDown" "Z") (by decide +kernel)) (fun _ h9 => h9) rfl dX1_audit_1 ?_
  refine hs_beq (tgt := 10) hx hb dX1_audit_4 (by decide) (fun c1 => ?_) (fun c1 => ?_)
  · refine lv_iconst (v := nI 0) hx hb dX1_audit_10 (by decide) ?_
    refine lv_istore_n (lv' := [(1, .int (nI 0)), (0, .ref h0)]) hx hb dX1_audit_11 rfl hl (by decide) rfl (fun ls hl => ?_)
    have loop : ∀ (n : Nat) (i : Nat) (g : Nat → Int32) (H : Heap) (locs : List Loc) (ls : Array Slot), (i + n = N) → (hs_au (hs_rg d N w nw (hs_vw sz F u) kr) n i = hs_au (hs_rg d N w nw (hs_vw sz F u) kr) N 0) → va_P (dC, dI) vwCl [oM_ h0 hd hp d N w nw sz u kr dn lf dw, ar_ hd cA 600 F, ar_ hp cA 300 g] H → va_D (va_A [oM_ h0 hd hp d N w nw sz u kr dn lf dw, ar_ hd cA 600 F, ar_ hp cA 300 G] s.heap.size) [oM_ h0 hd hp d N w nw sz u kr dn lf dw, ar_ hd cA 600 F, ar_ hp cA 300 g] → va_S (va_A [oM_ h0 hd hp d N w nw sz u kr dn lf dw, ar_ hd cA 600 F, ar_ hp cA 300 G] s.heap.size) s.heap H locs → lv_has ls 2 [(1, .int (nI i)), (0, .ref h0)] → W p l e (headSpec wsX1_audit ({ frames := 4, cells := 0, slots := 0, locals := 92 })).room s m ([.ref h0] : List Value).toArray below meth c H locs 0 0 (MQ below (va_Qi (S := hs_S × (Nat → Int32)) (fun r uu => r = hs_ad d N w nw sz (F, u, kr, dn, lf, dw) ∧ ∃ g, uu = ((F, u, kr, dn, lf, dw), g)) (hs_B (dC, dI) vwCl [(cA, .int)] (wfM h0 hd hp cA d N w nw sz) (va_A [oM_ h0 hd hp d N w nw sz u kr dn lf dw, ar_ hd cA 600 F, ar_ hp cA 300 G] s.heap.size)) (va_A [oM_ h0 hd hp d N w nw sz u kr dn lf dw, ar_ hd cA 600 F, ar_ hp cA 300 G] s.heap.size)) ([.ref h0] : List Value).toArray s 0 0 (va_A [oM_ h0 hd hp d N w nw sz u kr dn lf dw, ar_ hd cA 600 F, ar_ hp cA 300 G] s.heap.size)) (F0 m 12 ls []) := by
      intro n
      induction n with
      | zero =>
        intro i g H locs ls hi he hP hD hS hl
        refine lv_iload_n hx hb dX1_audit_12 rfl (lv_at hl 0 rfl) ?_
        refine lv_aload_n hx hb dX1_audit_13 rfl (lv_at hl 1 rfl) ?_
        refine va_get (D := (dC, dI)) (ci := 1) (v := .int (nI N)) (C := RX1) (T := TX1) (N := 11) hx hb hts (by decide +kernel) hown hK hP 0 rfl rfl 1 (by decide) (hts (.fieldLink RX1 23 "HashedStoreModel" "blocks" "I") (by decide +kernel)) (fun _ h9 => h9) rfl dX1_audit_14 ?_
        refine hs_cge (tgt := 36) hx hb (by omega) (by omega) dX1_audit_17 (by decide) (fun c2 => ?_) (fun c2 => ?_)
        · refine lv_iconst (v := (-1)) hx hb dX1_audit_36 (by decide) ?_
          exact W.iret (v := (-1)) hx hb hr (fun t ht hW => ⟨⟨(-1), ((F, u, kr, dn, lf, dw), g), rfl, ⟨by rw [← hs_ad_2 c1, ← he]; rfl, _, rfl⟩, by rw [ht]; exact hP, va_K.moved hW.alike hK, hD⟩, hS.F ht⟩) hS.2.2 dX1_audit_37
        · exact absurd c2 (by omega)
      | succ n ih =>
        intro i g H locs ls hi he hP hD hS hl
        refine lv_iload_n hx hb dX1_audit_12 rfl (lv_at hl 0 rfl) ?_
        refine lv_aload_n hx hb dX1_audit_13 rfl (lv_at hl 1 rfl) ?_
        refine va_get (D := (dC, dI)) (ci := 1) (v := .int (nI N)) (C := RX1) (T := TX1) (N := 11) hx hb hts (by decide +kernel) hown hK hP 0 rfl rfl 1 (by decide) (hts (.fieldLink RX1 23 "HashedStoreModel" "blocks" "I") (by decide +kernel)) (fun _ h9 => h9) rfl dX1_audit_14 ?_
        refine hs_cge (tgt := 36) hx hb (by omega) (by omega) dX1_audit_17 (by decide) (fun c2 => ?_) (fun c2 => ?_)
        · exact absurd c2 (by omega)
        · refine lv_aload_n hx hb dX1_audit_20 rfl (lv_at hl 1 rfl) ?_
          refine lv_iload_n hx hb dX1_audit_21 rfl (lv_at hl 0 rfl) ?_
          refine hs_ci (va_runV (As := [.int (nI i)]) (rest := []) ⟨hx, hb, hml, hown, hts⟩ (kX1_isRight l dC dI h0 hd hp cA d N w nw sz u F g kr dn lf dw ok _ i (by omega) hu) (cwV 1 hts gX1_audit_X1_isRight rfl rfl rfl (by decide +kernel) ⟨(Nat.le_of_ble_eq_true rfl), (Nat.le_of_ble_eq_true rfl)⟩) (hs_preM (q := (RX1, TX1, 11)) (ci := 1) hK hP hD rfl rfl) rfl rfl hl.1 rfl (lv_room (Nat.le_of_ble_eq_true rfl)) dX1_audit_22 ⟨Nat.zero_le _, Nat.zero_le _⟩) hS hD hA (fun rv v H locs hv hP hD hS => ?_)
          obtain ⟨rfl, g1, rfl, hg⟩ := hv
          have hP : va_P (dC, dI) vwCl [oM_ h0 hd hp d N w nw sz u kr dn lf dw, ar_ hd cA 600 F, ar_ hp cA 300 g1] H := hP
          have hD : va_D (va_A [oM_ h0 hd hp d N w nw sz u kr dn lf dw, ar_ hd cA 600 F, ar_ hp cA 300 G] s.heap.size) [oM_ h0 hd hp d N w nw sz u kr dn lf dw, ar_ hd cA 600 F, ar_ hp cA 300 g1] := hD
          refine hs_bne (tgt := 30) hx hb dX1_audit_25 (by decide) (fun c3 => ?_) (fun c3 => ?_)
          · refine lv_iinc (v := nI (i + 1)) (lv' := [(1, .int (nI (i + 1))), (0, .ref h0)]) hx hb dX1_audit_30 hl (k := 0) rfl (nI_1 _) (by decide) rfl (fun ls hl => ?_)
            refine lv_goto (tgt := 12) hx hb dX1_audit_33 (by decide) ?_
            exact ih (i + 1) g1 H locs ls (by omega) ((if_pos c3).symm.trans he) hP hD hS (lv_sub hl [0, 1] rfl)
          · refine lv_iload_n hx hb dX1_audit_28 rfl (lv_at hl 0 rfl) ?_
            exact W.iret (v := nI i) hx hb hr (fun t ht hW => ⟨⟨nI i, ((F, u, kr, dn, lf, dw), g1), rfl, ⟨by rw [← hs_ad_2 c1, ← he]; exact (if_neg (hs_ff c3)).symm, _, rfl⟩, by rw [ht]; exact hP, va_K.moved hW.alike hK, hD⟩, hS.F ht⟩) hS.2.2 dX1_audit_29
    exact loop N 0 G _ _ ls (by omega) rfl hP hD hS (lv_sub hl [0, 1] rfl)
  · refine lv_bipush (v := (-4)) hx hb dX1_audit_7 (by decide) ?_
    exact W.iret (v := (-4)) hx hb hr (fun t ht hW => ⟨⟨(-4), ((F, u, kr, dn, lf, dw), G), rfl, ⟨hs_ad_1 c1, _, rfl⟩, by rw [ht]; exact hP, va_K.moved hW.alike hK, hD⟩, hS.F ht⟩) hS.2.2 dX1_audit_9
set_option maxHeartbeats 4000000 in
set_option maxRecDepth 100000 in
theorem kX1_write (l : Launch) (dC : Nat → ClassId) (dI : Nat → Nat → Nat) (h0 hd hp : Nat) (cA : ClassId) (d N w nw sz u : Nat) (F G : Nat → Int32) (kr dn lf : Int32) (dw : Bool) (ok : hs_ok d N w nw sz) (zz : Nat) (p1 p2 p3 : Int32) (hu : u < 2) (hlo : hs_lo lf) : Met l yX1_write wsX1_write ({ frames := 4, cells := 0, slots := 0, locals := 92 }) (va_Pc [.ref h0, .int p1, .int p2, .int p3] (hs_pm (dC, dI) vwCl [(cA, .int)] [oM_ h0 hd hp d N w nw sz u kr dn lf dw, ar_ hd cA 600 F, ar_ hp cA 300 G] zz)) (va_Qi (S := hs_S × (Nat → Int32)) (fun r uu => (r, uu.1) = hs_wr d N w nw sz p1 p2 p3 (F, u, kr, dn, lf, dw)) (hs_B (dC, dI) vwCl [(cA, .int)] (wfM h0 hd hp cA d N w nw sz) (va_A [oM_ h0 hd hp d N w nw sz u kr dn lf dw, ar_ hd cA 600 F, ar_ hp cA 300 G] zz)) (va_A [oM_ h0 hd hp d N w nw sz u kr dn lf dw, ar_ hd cA 600 F, ar_ hp cA 300 G] zz)) 0 0 (va_A [oM_ h0 hd hp d N w nw sz u kr dn lf dw, ar_ hd cA 600 F, ar_ hp cA 300 G] zz) := by
  refine Met.ofW (cc := cX1_write) (maxL := 6) (ret := (some .int)) (by decide) rfl ?_
  intro p e s m args below meth c s₁ B hml hv
  obtain ⟨rfl, hzz, hP, hK, hD0⟩ := hv
  have hx := B.exec
  have hb := B.bytes
  have hr := B.returns
  have hts := atoms_spec (ws := wsX1_write) B.pre
  have hown : s.vm.findClass RX1 = some m.cls := findClass_of_methodNamed B.named
  have hlocks := B.notSynchronized
  obtain ⟨hd5, hN1, hN2, hw1, hw2, hn1, hn2, hsz, hsz2⟩ := hs_okf ok
  have hnw : nw = N * w := ok.2.2.2.2.1
  subst hzz
  have hD := hD0.self (sz := s.heap.size)
  have hS : va_S (va_A [oM_ h0 hd hp d N w nw sz u kr dn lf dw, ar_ hd cA 600 F, ar_ hp cA 300 G] s.heap.size) s.heap s.heap [] := va_S.rf
  have hA : ∀ q : Nat, s.heap.size ≤ q → va_A [oM_ h0 hd hp d N w nw sz u kr dn lf dw, ar_ hd cA 600 F, ar_ hp cA 300 G] s.heap.size q := fun q h => Or.inr h
  have hl := lv_entry ([.ref h0, .int p1, .int p2, .int p3]) (n := 6) (Nat.le_of_ble_eq_true rfl)
  rw [lg_entry_eq]
  generalize (lg_sl ([.ref h0, .int p1, .int p2, .int p3]) ++ List.replicate (6 - (lg_sl ([.ref h0, .int p1, .int p2, .int p3])).length) Slot.unset).toArray = ls at hl ⊢
  have hl : lv_has ls 6 [(0, .ref h0), (1, .int p1), (2, .int p2), (3, .int p3)] := hl
  refine lv_aload_n hx hb dX1_write_0 rfl (lv_at hl 0 rfl) ?_
  refine lv_iload_n hx hb dX1_write_1 rfl (lv_at hl 1 rfl) ?_
  refine hs_pe (v := hs_b (hs_hb N p1)) (va_runV (As := [.int p1]) (rest := []) ⟨hx, hb, hml, hown, hts⟩ (kX1_isBlock l dC dI h0 hd hp cA d N w nw sz u F G kr dn lf dw ok p1) (cwV 1 hts gX1_write_X1_isBlock rfl rfl rfl (by decide +kernel) ⟨(Nat.le_of_ble_eq_true rfl), (Nat.le_of_ble_eq_true rfl)⟩) (hs_preV (q := (RX1, TX1, 11)) (ci := 1) hK (hP.sub [0] rfl) rfl rfl) rfl rfl hl.1 rfl (lv_room (Nat.le_of_ble_eq_true rfl)) dX1_write_2 ⟨Nat.zero_le _, Nat.zero_le _⟩) hS hP (fun H locs hP hS => ?_)
  refine hs_beq (tgt := 24) hx hb dX1_write_5 (by decide) (fun c1 => ?_) (fun c1 => ?_)
  · refine lv_bipush (v := (-2)) hx hb dX1_write_24 (by decide) ?_
    exact W.iret (v := (-2)) hx hb hr (fun t ht hW => ⟨⟨(-2), ((F, u, kr, dn, lf, dw), G), rfl, (by rw [hs_wr_1 (hs_af c1)]), by rw [ht]; exact hP, va_K.moved hW.alike hK, hD⟩, hS.F ht⟩) hS.2.2 dX1_write_26
  · refine lv_iload_n hx hb dX1_write_8 rfl (lv_at hl 2 rfl) ?_
    refine lv_if_lt (tgt := 24) hx hb dX1_write_9 (by decide) (fun c2 => ?_) (fun c2 => ?_)
    · refine lv_bipush (v := (-2)) hx hb dX1_write_24 (by decide) ?_
      exact W.iret (v := (-2)) hx hb hr (fun t ht hW => ⟨⟨(-2), ((F, u, kr, dn, lf, dw), G), rfl, (by rw [hs_wr_1 (hs_ag (hs_hb_n c2))]), by rw [ht]; exact hP, va_K.moved hW.alike hK, hD⟩, hS.F ht⟩) hS.2.2 dX1_write_26
    · refine lv_iload_n hx hb dX1_write_12 rfl (lv_at hl 2 rfl) ?_
      refine lv_aload_n hx hb dX1_write_13 rfl (lv_at hl 0 rfl) ?_
      refine va_get (D := (dC, dI)) (ci := 1) (v := .int (nI w)) (C := RX1) (T := TX1) (N := 11) hx hb hts (by decide +kernel) hown hK hP 0 rfl rfl 2 (by decide) (hts (.fieldLink RX1 26 "HashedStoreModel" "words" "I") (by decide +kernel)) (fun _ h9 => h9) rfl dX1_write_14 ?_
      refine lv_icmp_ge (tgt := 24) hx hb dX1_write_17 (by decide) (fun c3 => ?_) (fun c3 => ?_)
      · refine lv_bipush (v := (-2)) hx hb dX1_write_24 (by decide) ?_
        exact W.iret (v := (-2)) hx hb hr (fun t ht hW => ⟨⟨(-2), ((F, u, kr, dn, lf, dw), G), rfl, (by rw [hs_wr_1 (hs_ag (hs_hb_g c3))]), by rw [ht]; exact hP, va_K.moved hW.alike hK, hD⟩, hS.F ht⟩) hS.2.2 dX1_write_26
      · refine lv_iload_n hx hb dX1_write_20 rfl (lv_at hl 3 rfl) ?_
        refine lv_if_ge (tgt := 27) hx hb dX1_write_21 (by decide) (fun c4 => ?_) (fun c4 => ?_)
        · obtain ⟨⟨j, hj, rfl⟩, ⟨i, hi, rfl⟩⟩ := hs_and_t (hs_at c1 (hs_hb_o c2 (Int32.not_le.mp c3))) (by omega) (by omega)
          have hrow := hs_row ok hj
          have c0 := Int32.not_lt.mpr c4
          refine lv_aload_n hx hb dX1_write_27 rfl (lv_at hl 0 rfl) ?_
          refine va_get (D := (dC, dI)) (ci := 1) (v := .int (hs_b dw)) (C := RX1) (T := TX1) (N := 11) hx hb hts (by decide +kernel) hown hK hP 0 rfl rfl 10 (by decide) (hts (.fieldLink RX1 58 "HashedStoreModel" "isDown" "Z") (by decide +kernel)) (fun _ h9 => h9) rfl dX1_write_28 ?_
          refine hs_beq (tgt := 37) hx hb dX1_write_31 (by decide) (fun c5 => ?_) (fun c5 => ?_)
          · refine lv_aload_n hx hb dX1_write_37 rfl (lv_at hl 0 rfl) ?_
            refine lv_iload_n hx hb dX1_write_38 rfl (lv_at hl 1 rfl) ?_
            refine hs_ci (va_runV (As := [.int (nI j)]) (rest := []) ⟨hx, hb, hml, hown, hts⟩ (kX1_isRight l dC dI h0 hd hp cA d N w nw sz u F G kr dn lf dw ok _ j hj hu) (cwV 1 hts gX1_write_X1_isRight rfl rfl rfl (by decide +kernel) ⟨(Nat.le_of_ble_eq_true rfl), (Nat.le_of_ble_eq_true rfl)⟩) (hs_preM (q := (RX1, TX1, 11)) (ci := 1) hK hP hD rfl rfl) rfl rfl hl.1 rfl (lv_room (Nat.le_of_ble_eq_true rfl)) dX1_write_39 ⟨Nat.zero_le _, Nat.zero_le _⟩) hS hD hA (fun rv v H locs hv hP hD hS => ?_)
            obtain ⟨rfl, g, rfl, hg⟩ := hv
            have hP : va_P (dC, dI) vwCl [oM_ h0 hd hp d N w nw sz u kr dn lf dw, ar_ hd cA 600 F, ar_ hp cA 300 g] H := hP
            have hD : va_D (va_A [oM_ h0 hd hp d N w nw sz u kr dn lf dw, ar_ hd cA 600 F, ar_ hp cA 300 G] s.heap.size) [oM_ h0 hd hp d N w nw sz u kr dn lf dw, ar_ hd cA 600 F, ar_ hp cA 300 g] := hD
            refine hs_bne (tgt := 48) hx hb dX1_write_42 (by decide) (fun c6 => ?_) (fun c6 => ?_)
            · refine lv_aload_n hx hb dX1_write_48 rfl (lv_at hl 0 rfl) ?_
              refine va_get (D := (dC, dI)) (ci := 1) (v := .ref hp) (C := RX1) (T := TX1) (N := 11) hx hb hts (by decide +kernel) hown hK hP 0 rfl rfl 5 (by decide) (hts (.fieldLink RX1 13 "HashedStoreModel" "goal" "[I") (by decide +kernel)) (fun _ h9 => h9) rfl dX1_write_49 ?_
              refine lv_iload_n hx hb dX1_write_52 rfl (lv_at hl 1 rfl) ?_
              refine lv_aload_n hx hb dX1_write_53 rfl (lv_at hl 0 rfl) ?_
              refine va_get (D := (dC, dI)) (ci := 1) (v := .int (nI w)) (C := RX1) (T := TX1) (N := 11) hx hb hts (by decide +kernel) hown hK hP 0 rfl rfl 2 (by decide) (hts (.fieldLink RX1 26 "HashedStoreModel" "words" "I") (by decide +kernel)) (fun _ h9 => h9) rfl dX1_write_54 ?_
              refine hs_mulN hx hb dX1_write_57 ?_
              refine lv_iload_n hx hb dX1_write_58 rfl (lv_at hl 2 rfl) ?_
              refine hs_addN hx hb dX1_write_59 ?_
              refine lv_iload_n hx hb dX1_write_60 rfl (lv_at hl 3 rfl) ?_
              refine hs_ast hx hb hK hP hD hS 2 0 rfl rfl (k := (j * w) + i) (by omega) (by omega) dX1_write_61 (fun H locs hP hD hS => ?_)
              have hP : va_P (dC, dI) vwCl [oM_ h0 hd hp d N w nw sz u kr dn lf dw, ar_ hd cA 600 F, ar_ hp cA 300 (upd g ((j * w) + i) p3)] H := hP
              have hD : va_D (va_A [oM_ h0 hd hp d N w nw sz u kr dn lf dw, ar_ hd cA 600 F, ar_ hp cA 300 G] s.heap.size) [oM_ h0 hd hp d N w nw sz u kr dn lf dw, ar_ hd cA 600 F, ar_ hp cA 300 (upd g ((j * w) + i) p3)] := hD
              refine lv_aload_n hx hb dX1_write_62 rfl (lv_at hl 0 rfl) ?_
              refine lv_iload_n hx hb dX1_write_63 rfl (lv_at hl 1 rfl) ?_
              refine lv_iconst (v := hs_b true) hx hb dX1_write_64 (by decide) ?_
              refine hs_ci (va_runV (As := [.int (nI j), .int (hs_b true)]) (rest := []) ⟨hx, hb, hml, hown, hts⟩ (kX1_way_t l dC dI h0 hd hp cA d N w nw sz u F (upd g ((j * w) + i) p3) kr dn lf dw ok _ j hj) (cwV 2 hts gX1_write_X1_way rfl rfl rfl (by decide +kernel) ⟨(Nat.le_of_ble_eq_true rfl), (Nat.le_of_ble_eq_true rfl)⟩) (hs_preM (q := (RX1, TX1, 11)) (ci := 1) hK hP hD rfl rfl) rfl rfl hl.1 rfl (lv_room (Nat.le_of_ble_eq_true rfl)) dX1_write_65 ⟨Nat.zero_le _, Nat.zero_le _⟩) hS hD hA (fun rv v H locs hv hP hD hS => ?_)
              obtain ⟨rfl, rfl⟩ := hv
              obtain ⟨hpl1, hpl2⟩ := hs_pl_c (i := i) ok hj hg p3
              have hP : va_P (dC, dI) vwCl [oM_ h0 hd hp d N w nw sz u kr dn lf dw, ar_ hd cA 600 F, ar_ hp cA 300 ((hs_pw nw d (N + j) (hs_bl (upd g (j * w + i) p3) w (j * w) (nI j)) (upd g (j * w + i) p3)).1)] H := hP
              have hD : va_D (va_A [oM_ h0 hd hp d N w nw sz u kr dn lf dw, ar_ hd cA 600 F, ar_ hp cA 300 G] s.heap.size) [oM_ h0 hd hp d N w nw sz u kr dn lf dw, ar_ hd cA 600 F, ar_ hp cA 300 ((hs_pw nw d (N + j) (hs_bl (upd g (j * w + i) p3) w (j * w) (nI j)) (upd g (j * w + i) p3)).1)] := hD
              obtain ⟨g2, rt, hg2⟩ : ∃ g2 rt, hs_pl d N w nw g j i p3 = (g2, rt) := ⟨_, _, rfl⟩
              obtain ⟨gv, rv, hgv⟩ : ∃ g2 rt, hs_pl d N w nw (hs_vw sz F u) j i p3 = (g2, rt) := ⟨_, _, rfl⟩
              rw [hg2, hgv] at hpl1 hpl2
              have hpl2 : rt = rv := hpl2
              rw [show (hs_pw nw d (N + j) (hs_bl (upd g (j * w + i) p3) w (j * w) (nI j)) (upd g (j * w + i) p3)) = (g2, rt) from hg2] at hP hD ⊢
              have hP : va_P (dC, dI) vwCl [oM_ h0 hd hp d N w nw sz u kr dn lf dw, ar_ hd cA 600 F, ar_ hp cA 300 g2] H := hP
              have hD : va_D (va_A [oM_ h0 hd hp d N w nw sz u kr dn lf dw, ar_ hd cA 600 F, ar_ hp cA 300 G] s.heap.size) [oM_ h0 hd hp d N w nw sz u kr dn lf dw, ar_ hd cA 600 F, ar_ hp cA 300 g2] := hD
              have hgc : hs_ps ((1 - u) * sz) g2 (hs_cs N nw) (F, lf, dn, dw) = hs_ps ((1 - u) * sz) gv (hs_cs N nw) (F, lf, dn, dw) := hs_ps_c _ _ (fun k hk => hpl1 k (hs_cs_lt hN1 hsz k hk))
              refine lv_istore (lv' := [(4, .int rt), (0, .ref h0), (1, .int (nI j)), (2, .int (nI i)), (3, .int p3)]) hx hb dX1_write_68 hl (by decide) rfl (fun ls hl => ?_)
              refine lv_iconst (v := nI 0) hx hb dX1_write_70 (by decide) ?_
              refine lv_istore (lv' := [(5, .int (nI 0)), (4, .int rt), (0, .ref h0), (1, .int (nI j)), (2, .int (nI i)), (3, .int p3)]) hx hb dX1_write_71 hl (by decide) rfl (fun ls hl => ?_)
              have loop2 : ∀ (n : Nat) (F1 : Nat → Int32) (lf1 : Int32) (dn1 : Int32) (dw1 : Bool) (H : Heap) (locs : List Loc) (ls : Array Slot), (n ≤ 2 * N - 1) → (hs_lo lf1) → (hs_ps ((1 - u) * sz) g2 (hs_ds nw n) (F1, lf1, dn1, dw1) = hs_ps ((1 - u) * sz) g2 (hs_cs N nw) (F, lf, dn, dw)) → va_P (dC, dI) vwCl [oM_ h0 hd hp d N w nw sz u kr dn1 lf1 dw1, ar_ hd cA 600 F1, ar_ hp cA 300 g2] H → va_D (va_A [oM_ h0 hd hp d N w nw sz u kr dn lf dw, ar_ hd cA 600 F, ar_ hp cA 300 G] s.heap.size) [oM_ h0 hd hp d N w nw sz u kr dn1 lf1 dw1, ar_ hd cA 600 F1, ar_ hp cA 300 g2] → va_S (va_A [oM_ h0 hd hp d N w nw sz u kr dn lf dw, ar_ hd cA 600 F, ar_ hp cA 300 G] s.heap.size) s.heap H locs → lv_has ls 6 [(5, .int (nI n)), (4, .int rt), (0, .ref h0), (1, .int (nI j)), (2, .int (nI i)), (3, .int p3)] → W p l e (headSpec wsX1_write ({ frames := 4, cells := 0, slots := 0, locals := 92 })).room s m ([.ref h0, .int (nI j), .int (nI i), .int p3] : List Value).toArray below meth c H locs 0 0 (MQ below (va_Qi (S := hs_S × (Nat → Int32)) (fun r uu => (r, uu.1) = hs_wr d N w nw sz (nI j) (nI i) p3 (F, u, kr, dn, lf, dw)) (hs_B (dC, dI) vwCl [(cA, .int)] (wfM h0 hd hp cA d N w nw sz) (va_A [oM_ h0 hd hp d N w nw sz u kr dn lf dw, ar_ hd cA 600 F, ar_ hp cA 300 G] s.heap.size)) (va_A [oM_ h0 hd hp d N w nw sz u kr dn lf dw, ar_ hd cA 600 F, ar_ hp cA 300 G] s.heap.size)) ([.ref h0, .int (nI j), .int (nI i), .int p3] : List Value).toArray s 0 0 (va_A [oM_ h0 hd hp d N w nw sz u kr dn lf dw, ar_ hd cA 600 F, ar_ hp cA 300 G] s.heap.size)) (F0 m 115 ls []) := by
                intro n
                induction n with
                | zero =>
                  intro F1 lf1 dn1 dw1 H locs ls hn3 hlo1 he hP hD hS hl
                  refine lv_iload hx hb dX1_write_115 (lv_at hl 0 rfl) ?_
                  refine hs_zle (tgt := 142) hx hb (by omega) dX1_write_117 (by decide) (fun c8 => ?_) (fun c8 => ?_)
                  · have e9 : hs_ps ((1 - u) * sz) gv (hs_cs N nw) (F, lf, dn, dw) = ((F1, lf1, dn1, dw1), true) := by rw [← hgc, ← he]; rfl
                    refine lv_aload_n hx hb dX1_write_142 rfl (lv_at hl 2 rfl) ?_
                    refine lv_iconst (v := nI 1) hx hb dX1_write_143 (by decide) ?_
                    refine lv_aload_n hx hb dX1_write_144 rfl (lv_at hl 2 rfl) ?_
                    refine va_get (D := (dC, dI)) (ci := 1) (v := .int (nI u)) (C := RX1) (T := TX1) (N := 11) hx hb hts (by decide +kernel) hown hK hP 0 rfl rfl 6 (by decide) (hts (.fieldLink RX1 42 "HashedStoreModel" "used" "I") (by decide +kernel)) (fun _ h9 => h9) rfl dX1_write_145 ?_
                    refine hs_subN hx hb (by omega) dX1_write_148 ?_
                    refine va_put (D := (dC, dI)) (ci := 1) (v := .int (nI (1 - u))) (ty := .int) (C := RX1) (T := TX1) (N := 11) hx hb hts (by decide +kernel) tyX1 tyX1_ok nmX1 hown hK hP hD hS 0 rfl rfl 6 (by decide) (hts (.fieldLink RX1 42 "HashedStoreModel" "used" "I") (by decide +kernel)) (fun _ h9 => h9) rfl (by decide +kernel) rfl rfl (Nat.le_of_ble_eq_true rfl) dX1_write_149 (fun H locs hP hD hS => ?_)
                    have hP : va_P (dC, dI) vwCl [oM_ h0 hd hp d N w nw sz (1 - u) kr dn1 lf1 dw1, ar_ hd cA 600 F1, ar_ hp cA 300 g2] H := hP
                    have hD : va_D (va_A [oM_ h0 hd hp d N w nw sz u kr dn lf dw, ar_ hd cA 600 F, ar_ hp cA 300 G] s.heap.size) [oM_ h0 hd hp d N w nw sz (1 - u) kr dn1 lf1 dw1, ar_ hd cA 600 F1, ar_ hp cA 300 g2] := hD
                    refine lv_aload_n hx hb dX1_write_152 rfl (lv_at hl 2 rfl) ?_
                    refine lv_iload hx hb dX1_write_153 (lv_at hl 1 rfl) ?_
                    refine va_put (D := (dC, dI)) (ci := 1) (v := .int rt) (ty := .int) (C := RX1) (T := TX1) (N := 11) hx hb hts (by decide +kernel) tyX1 tyX1_ok nmX1 hown hK hP hD hS 0 rfl rfl 7 (by decide) (hts (.fieldLink RX1 52 "HashedStoreModel" "kept" "I") (by decide +kernel)) (fun _ h9 => h9) rfl (by decide +kernel) rfl rfl (Nat.le_of_ble_eq_true rfl) dX1_write_155 (fun H locs hP hD hS => ?_)
                    have hP : va_P (dC, dI) vwCl [oM_ h0 hd hp d N w nw sz (1 - u) rt dn1 lf1 dw1, ar_ hd cA 600 F1, ar_ hp cA 300 g2] H := hP
                    have hD : va_D (va_A [oM_ h0 hd hp d N w nw sz u kr dn lf dw, ar_ hd cA 600 F, ar_ hp cA 300 G] s.heap.size) [oM_ h0 hd hp d N w nw sz (1 - u) rt dn1 lf1 dw1, ar_ hd cA 600 F1, ar_ hp cA 300 g2] := hD
                    refine lv_iconst (v := nI 0) hx hb dX1_write_158 (by decide) ?_
                    exact W.iret (v := nI 0) hx hb hr (fun t ht hW => ⟨⟨nI 0, ((F1, 1 - u, rt, dn1, lf1, dw1), g2), rfl, (by rw [hs_wr_6 hj hi (by omega) (by omega) c0 c5 c6 hgv e9, hpl2]; rfl), by rw [ht]; exact hP, va_K.moved hW.alike hK, hD⟩, hS.F ht⟩) hS.2.2 dX1_write_159
                  · exact absurd c8 (by omega)
                | succ n ih =>
                  intro F1 lf1 dn1 dw1 H locs ls hn3 hlo1 he hP hD hS hl
                  refine lv_iload hx hb dX1_write_115 (lv_at hl 0 rfl) ?_
                  refine hs_zle (tgt := 142) hx hb (by omega) dX1_write_117 (by decide) (fun c8 => ?_) (fun c8 => ?_)
                  · exact absurd c8 (by omega)
                  · refine lv_aload_n hx hb dX1_write_120 rfl (lv_at hl 2 rfl) ?_
                    refine lv_aload_n hx hb dX1_write_121 rfl (lv_at hl 2 rfl) ?_
                    refine lv_iload hx hb dX1_write_122 (lv_at hl 0 rfl) ?_
                    refine hs_pe (v := nI (nw + (n + 1) - 1)) (va_runV (As := [.int (nI (n + 1))]) (rest := [.ref h0]) ⟨hx, hb, hml, hown, hts⟩ (kX1_node l dC dI h0 hd hp cA d N w nw sz u F1 g2 kr dn1 lf1 dw1 ok (n + 1)) (cwV 1 hts gX1_write_X1_node rfl rfl rfl (by decide +kernel) ⟨(Nat.le_of_ble_eq_true rfl), (Nat.le_of_ble_eq_true rfl)⟩) (hs_preV (q := (RX1, TX1, 11)) (ci := 1) hK (hP.sub [0] rfl) rfl rfl) rfl rfl hl.1 rfl (lv_room (Nat.le_of_ble_eq_true rfl)) dX1_write_124 ⟨Nat.zero_le _, Nat.zero_le _⟩) hS hP (fun H locs hP hS => ?_)
                    refine hs_ci (va_runV (As := [.int (nI (nw + (n + 1) - 1))]) (rest := []) ⟨hx, hb, hml, hown, hts⟩ (kX1_put l dC dI h0 hd hp cA d N w nw sz u F1 g2 kr dn1 lf1 dw1 ok _ (nw + (n + 1) - 1) (by omega) hu hlo1) (cwV 1 hts gX1_write_X1_put rfl rfl rfl (by decide +kernel) ⟨(Nat.le_of_ble_eq_true rfl), (Nat.le_of_ble_eq_true rfl)⟩) (hs_preM (q := (RX1, TX1, 11)) (ci := 1) hK hP hD rfl rfl) rfl rfl hl.1 rfl (lv_room (Nat.le_of_ble_eq_true rfl)) dX1_write_127 ⟨Nat.zero_le _, Nat.zero_le _⟩) hS hD hA (fun rv v H locs hv hP hD hS => ?_)
                    obtain ⟨rfl, rfl⟩ := hv
                    have hP : va_P (dC, dI) vwCl [oM_ h0 hd hp d N w nw sz u kr ((hs_put ((1 - u) * sz) g2 (nw + (n + 1) - 1) (F1, lf1, dn1, dw1)).1.2.2.1) ((hs_put ((1 - u) * sz) g2 (nw + (n + 1) - 1) (F1, lf1, dn1, dw1)).1.2.1) ((hs_put ((1 - u) * sz) g2 (nw + (n + 1) - 1) (F1, lf1, dn1, dw1)).1.2.2.2), ar_ hd cA 600 ((hs_put ((1 - u) * sz) g2 (nw + (n + 1) - 1) (F1, lf1, dn1, dw1)).1.1), ar_ hp cA 300 g2] H := hP
                    have hD : va_D (va_A [oM_ h0 hd hp d N w nw sz u kr dn lf dw, ar_ hd cA 600 F, ar_ hp cA 300 G] s.heap.size) [oM_ h0 hd hp d N w nw sz u kr ((hs_put ((1 - u) * sz) g2 (nw + (n + 1) - 1) (F1, lf1, dn1, dw1)).1.2.2.1) ((hs_put ((1 - u) * sz) g2 (nw + (n + 1) - 1) (F1, lf1, dn1, dw1)).1.2.1) ((hs_put ((1 - u) * sz) g2 (nw + (n + 1) - 1) (F1, lf1, dn1, dw1)).1.2.2.2), ar_ hd cA 600 ((hs_put ((1 - u) * sz) g2 (nw + (n + 1) - 1) (F1, lf1, dn1, dw1)).1.1), ar_ hp cA 300 g2] := hD
                    refine hs_bne (tgt := 136) hx hb dX1_write_130 (by decide) (fun c7 => ?_) (fun c7 => ?_)
                    · refine lv_iinc (v := nI n) (lv' := [(5, .int (nI n)), (4, .int rt), (0, .ref h0), (1, .int (nI j)), (2, .int (nI i)), (3, .int p3)]) hx hb dX1_write_136 hl (k := 0) rfl (pk_m1 _) (by decide) rfl (fun ls hl => ?_)
                      refine lv_goto (tgt := 115) hx hb dX1_write_139 (by decide) ?_
                      exact ih _ _ _ _ H locs ls (by omega) (hs_put_lo hlo1) ((hs_psp c7).symm.trans he) hP hD hS (lv_sub hl [0, 1, 2, 3, 4, 5] rfl)
                    · have e9 : hs_ps ((1 - u) * sz) gv (hs_cs N nw) (F, lf, dn, dw) = (((hs_put ((1 - u) * sz) g2 (nw + (n + 1) - 1) (F1, lf1, dn1, dw1)).1.1, (hs_put ((1 - u) * sz) g2 (nw + (n + 1) - 1) (F1, lf1, dn1, dw1)).1.2.1, (hs_put ((1 - u) * sz) g2 (nw + (n + 1) - 1) (F1, lf1, dn1, dw1)).1.2.2.1, (hs_put ((1 - u) * sz) g2 (nw + (n + 1) - 1) (F1, lf1, dn1, dw1)).1.2.2.2), false) := by rw [← hgc, ← he]; exact (hs_psn c7).trans (Prod.ext rfl c7)
                      refine lv_bipush (v := (-4)) hx hb dX1_write_133 (by decide) ?_
                      exact W.iret (v := (-4)) hx hb hr (fun t ht hW => ⟨⟨(-4), (((hs_put ((1 - u) * sz) g2 (nw + (n + 1) - 1) (F1, lf1, dn1, dw1)).1.1, u, kr, (hs_put ((1 - u) * sz) g2 (nw + (n + 1) - 1) (F1, lf1, dn1, dw1)).1.2.2.1, (hs_put ((1 - u) * sz) g2 (nw + (n + 1) - 1) (F1, lf1, dn1, dw1)).1.2.1, (hs_put ((1 - u) * sz) g2 (nw + (n + 1) - 1) (F1, lf1, dn1, dw1)).1.2.2.2), g2), rfl, (by rw [hs_wr_5 hj hi (by omega) (by omega) c0 c5 c6 hgv e9]), by rw [ht]; exact hP, va_K.moved hW.alike hK, hD⟩, hS.F ht⟩) hS.2.2 dX1_write_135
              have loop1 : ∀ (n : Nat) (y : Nat) (F1 : Nat → Int32) (lf1 : Int32) (dn1 : Int32) (dw1 : Bool) (H : Heap) (locs : List Loc) (ls : Array Slot), (y + n = nw) → (hs_lo lf1) → (hs_ps ((1 - u) * sz) g2 (hs_us n y ++ hs_ds nw (2 * N - 1)) (F1, lf1, dn1, dw1) = hs_ps ((1 - u) * sz) g2 (hs_cs N nw) (F, lf, dn, dw)) → va_P (dC, dI) vwCl [oM_ h0 hd hp d N w nw sz u kr dn1 lf1 dw1, ar_ hd cA 600 F1, ar_ hp cA 300 g2] H → va_D (va_A [oM_ h0 hd hp d N w nw sz u kr dn lf dw, ar_ hd cA 600 F, ar_ hp cA 300 G] s.heap.size) [oM_ h0 hd hp d N w nw sz u kr dn1 lf1 dw1, ar_ hd cA 600 F1, ar_ hp cA 300 g2] → va_S (va_A [oM_ h0 hd hp d N w nw sz u kr dn lf dw, ar_ hd cA 600 F, ar_ hp cA 300 G] s.heap.size) s.heap H locs → lv_has ls 6 [(5, .int (nI y)), (4, .int rt), (0, .ref h0), (1, .int (nI j)), (2, .int (nI i)), (3, .int p3)] → W p l e (headSpec wsX1_write ({ frames := 4, cells := 0, slots := 0, locals := 92 })).room s m ([.ref h0, .int (nI j), .int (nI i), .int p3] : List Value).toArray below meth c H locs 0 0 (MQ below (va_Qi (S := hs_S × (Nat → Int32)) (fun r uu => (r, uu.1) = hs_wr d N w nw sz (nI j) (nI i) p3 (F, u, kr, dn, lf, dw)) (hs_B (dC, dI) vwCl [(cA, .int)] (wfM h0 hd hp cA d N w nw sz) (va_A [oM_ h0 hd hp d N w nw sz u kr dn lf dw, ar_ hd cA 600 F, ar_ hp cA 300 G] s.heap.size)) (va_A [oM_ h0 hd hp d N w nw sz u kr dn lf dw, ar_ hd cA 600 F, ar_ hp cA 300 G] s.heap.size)) ([.ref h0, .int (nI j), .int (nI i), .int p3] : List Value).toArray s 0 0 (va_A [oM_ h0 hd hp d N w nw sz u kr dn lf dw, ar_ hd cA 600 F, ar_ hp cA 300 G] s.heap.size)) (F0 m 73 ls []) := by
                intro n
                induction n with
                | zero =>
                  intro y F1 lf1 dn1 dw1 H locs ls hy hlo1 he hP hD hS hl
                  refine lv_iload hx hb dX1_write_73 (lv_at hl 0 rfl) ?_
                  refine lv_aload_n hx hb dX1_write_75 rfl (lv_at hl 2 rfl) ?_
                  refine va_get (D := (dC, dI)) (ci := 1) (v := .int (nI N)) (C := RX1) (T := TX1) (N := 11) hx hb hts (by decide +kernel) hown hK hP 0 rfl rfl 1 (by decide) (hts (.fieldLink RX1 23 "HashedStoreModel" "blocks" "I") (by decide +kernel)) (fun _ h9 => h9) rfl dX1_write_76 ?_
                  refine lv_aload_n hx hb dX1_write_79 rfl (lv_at hl 2 rfl) ?_
                  refine va_get (D := (dC, dI)) (ci := 1) (v := .int (nI w)) (C := RX1) (T := TX1) (N := 11) hx hb hts (by decide +kernel) hown hK hP 0 rfl rfl 2 (by decide) (hts (.fieldLink RX1 26 "HashedStoreModel" "words" "I") (by decide +kernel)) (fun _ h9 => h9) rfl dX1_write_80 ?_
                  refine hs_mulN hx hb dX1_write_83 ?_
                  refine hs_cge (tgt := 105) hx hb (by omega) (by omega) dX1_write_84 (by decide) (fun c8 => ?_) (fun c8 => ?_)
                  · refine lv_iconst (v := nI 2) hx hb dX1_write_105 (by decide) ?_
                    refine lv_aload_n hx hb dX1_write_106 rfl (lv_at hl 2 rfl) ?_
                    refine va_get (D := (dC, dI)) (ci := 1) (v := .int (nI N)) (C := RX1) (T := TX1) (N := 11) hx hb hts (by decide +kernel) hown hK hP 0 rfl rfl 1 (by decide) (hts (.fieldLink RX1 23 "HashedStoreModel" "blocks" "I") (by decide +kernel)) (fun _ h9 => h9) rfl dX1_write_107 ?_
                    refine hs_mulN hx hb dX1_write_110 ?_
                    refine lv_iconst (v := nI 1) hx hb dX1_write_111 (by decide) ?_
                    refine hs_subN hx hb (by omega) dX1_write_112 ?_
                    refine lv_istore (lv' := [(5, .int (nI ((2 * N) - 1))), (4, .int rt), (0, .ref h0), (1, .int (nI j)), (2, .int (nI i)), (3, .int p3)]) hx hb dX1_write_113 hl (by decide) rfl (fun ls hl => ?_)
                    exact loop2 (2 * N - 1) F1 lf1 dn1 dw1 H locs ls (Nat.le_refl _) hlo1 he hP hD hS (lv_sub hl [0, 1, 2, 3, 4, 5] rfl)
                  · exact absurd c8 (by omega)
                | succ n ih =>
                  intro y F1 lf1 dn1 dw1 H locs ls hy hlo1 he hP hD hS hl
                  refine lv_iload hx hb dX1_write_73 (lv_at hl 0 rfl) ?_
                  refine lv_aload_n hx hb dX1_write_75 rfl (lv_at hl 2 rfl) ?_
                  refine va_get (D := (dC, dI)) (ci := 1) (v := .int (nI N)) (C := RX1) (T := TX1) (N := 11) hx hb hts (by decide +kernel) hown hK hP 0 rfl rfl 1 (by decide) (hts (.fieldLink RX1 23 "HashedStoreModel" "blocks" "I") (by decide +kernel)) (fun _ h9 => h9) rfl dX1_write_76 ?_
                  refine lv_aload_n hx hb dX1_write_79 rfl (lv_at hl 2 rfl) ?_
                  refine va_get (D := (dC, dI)) (ci := 1) (v := .int (nI w)) (C := RX1) (T := TX1) (N := 11) hx hb hts (by decide +kernel) hown hK hP 0 rfl rfl 2 (by decide) (hts (.fieldLink RX1 26 "HashedStoreModel" "words" "I") (by decide +kernel)) (fun _ h9 => h9) rfl dX1_write_80 ?_
                  refine hs_mulN hx hb dX1_write_83 ?_
                  refine hs_cge (tgt := 105) hx hb (by omega) (by omega) dX1_write_84 (by decide) (fun c8 => ?_) (fun c8 => ?_)
                  · exact absurd c8 (by omega)
                  · refine lv_aload_n hx hb dX1_write_87 rfl (lv_at hl 2 rfl) ?_
                    refine lv_iload hx hb dX1_write_88 (lv_at hl 0 rfl) ?_
                    refine hs_ci (va_runV (As := [.int (nI y)]) (rest := []) ⟨hx, hb, hml, hown, hts⟩ (kX1_put l dC dI h0 hd hp cA d N w nw sz u F1 g2 kr dn1 lf1 dw1 ok _ y (by omega) hu hlo1) (cwV 1 hts gX1_write_X1_put rfl rfl rfl (by decide +kernel) ⟨(Nat.le_of_ble_eq_true rfl), (Nat.le_of_ble_eq_true rfl)⟩) (hs_preM (q := (RX1, TX1, 11)) (ci := 1) hK hP hD rfl rfl) rfl rfl hl.1 rfl (lv_room (Nat.le_of_ble_eq_true rfl)) dX1_write_90 ⟨Nat.zero_le _, Nat.zero_le _⟩) hS hD hA (fun rv v H locs hv hP hD hS => ?_)
                    obtain ⟨rfl, rfl⟩ := hv
                    have hP : va_P (dC, dI) vwCl [oM_ h0 hd hp d N w nw sz u kr ((hs_put ((1 - u) * sz) g2 y (F1, lf1, dn1, dw1)).1.2.2.1) ((hs_put ((1 - u) * sz) g2 y (F1, lf1, dn1, dw1)).1.2.1) ((hs_put ((1 - u) * sz) g2 y (F1, lf1, dn1, dw1)).1.2.2.2), ar_ hd cA 600 ((hs_put ((1 - u) * sz) g2 y (F1, lf1, dn1, dw1)).1.1), ar_ hp cA 300 g2] H := hP
                    have hD : va_D (va_A [oM_ h0 hd hp d N w nw sz u kr dn lf dw, ar_ hd cA 600 F, ar_ hp cA 300 G] s.heap.size) [oM_ h0 hd hp d N w nw sz u kr ((hs_put ((1 - u) * sz) g2 y (F1, lf1, dn1, dw1)).1.2.2.1) ((hs_put ((1 - u) * sz) g2 y (F1, lf1, dn1, dw1)).1.2.1) ((hs_put ((1 - u) * sz) g2 y (F1, lf1, dn1, dw1)).1.2.2.2), ar_ hd cA 600 ((hs_put ((1 - u) * sz) g2 y (F1, lf1, dn1, dw1)).1.1), ar_ hp cA 300 g2] := hD
                    refine hs_bne (tgt := 99) hx hb dX1_write_93 (by decide) (fun c7 => ?_) (fun c7 => ?_)
                    · refine lv_iinc (v := nI (y + 1)) (lv' := [(5, .int (nI (y + 1))), (4, .int rt), (0, .ref h0), (1, .int (nI j)), (2, .int (nI i)), (3, .int p3)]) hx hb dX1_write_99 hl (k := 0) rfl (nI_1 _) (by decide) rfl (fun ls hl => ?_)
                      refine lv_goto (tgt := 73) hx hb dX1_write_102 (by decide) ?_
                      exact ih (y + 1) _ _ _ _ H locs ls (by omega) (hs_put_lo hlo1) ((hs_psp c7).symm.trans he) hP hD hS (lv_sub hl [0, 1, 2, 3, 4, 5] rfl)
                    · have e9 : hs_ps ((1 - u) * sz) gv (hs_cs N nw) (F, lf, dn, dw) = (((hs_put ((1 - u) * sz) g2 y (F1, lf1, dn1, dw1)).1.1, (hs_put ((1 - u) * sz) g2 y (F1, lf1, dn1, dw1)).1.2.1, (hs_put ((1 - u) * sz) g2 y (F1, lf1, dn1, dw1)).1.2.2.1, (hs_put ((1 - u) * sz) g2 y (F1, lf1, dn1, dw1)).1.2.2.2), false) := by rw [← hgc, ← he]; exact (hs_psn c7).trans (Prod.ext rfl c7)
                      refine lv_bipush (v := (-4)) hx hb dX1_write_96 (by decide) ?_
                      exact W.iret (v := (-4)) hx hb hr (fun t ht hW => ⟨⟨(-4), (((hs_put ((1 - u) * sz) g2 y (F1, lf1, dn1, dw1)).1.1, u, kr, (hs_put ((1 - u) * sz) g2 y (F1, lf1, dn1, dw1)).1.2.2.1, (hs_put ((1 - u) * sz) g2 y (F1, lf1, dn1, dw1)).1.2.1, (hs_put ((1 - u) * sz) g2 y (F1, lf1, dn1, dw1)).1.2.2.2), g2), rfl, (by rw [hs_wr_5 hj hi (by omega) (by omega) c0 c5 c6 hgv e9]), by rw [ht]; exact hP, va_K.moved hW.alike hK, hD⟩, hS.F ht⟩) hS.2.2 dX1_write_98
              exact loop1 nw 0 F lf dn dw _ _ ls (by omega) hlo rfl hP hD hS (lv_sub hl [0, 1, 2, 3, 4, 5] rfl)
            · refine lv_bipush (v := (-3)) hx hb dX1_write_45 (by decide) ?_
              exact W.iret (v := (-3)) hx hb hr (fun t ht hW => ⟨⟨(-3), ((F, u, kr, dn, lf, dw), g), rfl, (by rw [hs_wr_4 hj hi (by omega) (by omega) c0 c5 c6]), by rw [ht]; exact hP, va_K.moved hW.alike hK, hD⟩, hS.F ht⟩) hS.2.2 dX1_write_47
          · refine lv_bipush (v := (-4)) hx hb dX1_write_34 (by decide) ?_
            exact W.iret (v := (-4)) hx hb hr (fun t ht hW => ⟨⟨(-4), ((F, u, kr, dn, lf, dw), G), rfl, (by rw [hs_wr_3 hj hi (by omega) (by omega) c0 c5]), by rw [ht]; exact hP, va_K.moved hW.alike hK, hD⟩, hS.F ht⟩) hS.2.2 dX1_write_36
        · refine lv_bipush (v := (-2)) hx hb dX1_write_24 (by decide) ?_
          exact W.iret (v := (-2)) hx hb hr (fun t ht hW => ⟨⟨(-2), ((F, u, kr, dn, lf, dw), G), rfl, (by rw [hs_wr_2 (Int32.not_le.mp c4)]), by rw [ht]; exact hP, va_K.moved hW.alike hK, hD⟩, hS.F ht⟩) hS.2.2 dX1_write_26
set_option maxHeartbeats 4000000 in
set_option maxRecDepth 100000 in
theorem kX1_tamper (l : Launch) (dC : Nat → ClassId) (dI : Nat → Nat → Nat) (h0 hd hp : Nat) (cA : ClassId) (d N w nw sz u : Nat) (F G : Nat → Int32) (kr dn lf : Int32) (dw : Bool) (ok : hs_ok d N w nw sz) (zz : Nat) (p1 p2 : Int32) : Met l yX1_tamper wsX1_tamper ({ frames := 0, cells := 0, slots := 0, locals := 0 }) (va_Pc [.ref h0, .int p1, .int p2] (hs_pm (dC, dI) vwCl [(cA, .int)] [oM_ h0 hd hp d N w nw sz u kr dn lf dw, ar_ hd cA 600 F, ar_ hp cA 300 G] zz)) (va_Qv (S := hs_S × (Nat → Int32)) (fun uu => uu = (hs_tm sz p1 p2 (F, u, kr, dn, lf, dw), G)) (hs_B (dC, dI) vwCl [(cA, .int)] (wfM h0 hd hp cA d N w nw sz) (va_A [oM_ h0 hd hp d N w nw sz u kr dn lf dw, ar_ hd cA 600 F, ar_ hp cA 300 G] zz)) (va_A [oM_ h0 hd hp d N w nw sz u kr dn lf dw, ar_ hd cA 600 F, ar_ hp cA 300 G] zz)) 0 0 (va_A [oM_ h0 hd hp d N w nw sz u kr dn lf dw, ar_ hd cA 600 F, ar_ hp cA 300 G] zz) := by
  refine Met.ofW (cc := cX1_tamper) (maxL := 3) (ret := none) (by decide) rfl ?_
  intro p e s m args below meth c s₁ B hml hv
  obtain ⟨rfl, hzz, hP, hK, hD0⟩ := hv
  have hx := B.exec
  have hb := B.bytes
  have hr := B.returns
  have hts := atoms_spec (ws := wsX1_tamper) B.pre
  have hown : s.vm.findClass RX1 = some m.cls := findClass_of_methodNamed B.named
  have hlocks := B.notSynchronized
  obtain ⟨hd5, hN1, hN2, hw1, hw2, hn1, hn2, hsz, hsz2⟩ := hs_okf ok
  have hnw : nw = N * w := ok.2.2.2.2.1
  subst hzz
  have hD := hD0.self (sz := s.heap.size)
  have hS : va_S (va_A [oM_ h0 hd hp d N w nw sz u kr dn lf dw, ar_ hd cA 600 F, ar_ hp cA 300 G] s.heap.size) s.heap s.heap [] := va_S.rf
  have hA : ∀ q : Nat, s.heap.size ≤ q → va_A [oM_ h0 hd hp d N w nw sz u kr dn lf dw, ar_ hd cA 600 F, ar_ hp cA 300 G] s.heap.size q := fun q h => Or.inr h
  have hl := lv_entry ([.ref h0, .int p1, .int p2]) (n := 3) (Nat.le_of_ble_eq_true rfl)
  rw [lg_entry_eq]
  generalize (lg_sl ([.ref h0, .int p1, .int p2]) ++ List.replicate (3 - (lg_sl ([.ref h0, .int p1, .int p2])).length) Slot.unset).toArray = ls at hl ⊢
  have hl : lv_has ls 3 [(0, .ref h0), (1, .int p1), (2, .int p2)] := hl
  refine lv_iload_n hx hb dX1_tamper_0 rfl (lv_at hl 1 rfl) ?_
  refine lv_if_lt (tgt := 21) hx hb dX1_tamper_1 (by decide) (fun c1 => ?_) (fun c1 => ?_)
  · exact W.vret hx hb hr (fun t ht hW => ⟨⟨((F, u, kr, dn, lf, dw), G), rfl, (by rw [hs_tm_1 (hs_hb_n c1)]), by rw [ht]; exact hP, va_K.moved hW.alike hK, hD⟩, hS.F ht⟩) hS.2.2 dX1_tamper_21
  · refine lv_iload_n hx hb dX1_tamper_4 rfl (lv_at hl 1 rfl) ?_
    refine lv_iconst (v := nI 2) hx hb dX1_tamper_5 (by decide) ?_
    refine lv_aload_n hx hb dX1_tamper_6 rfl (lv_at hl 0 rfl) ?_
    refine va_get (D := (dC, dI)) (ci := 1) (v := .int (nI sz)) (C := RX1) (T := TX1) (N := 11) hx hb hts (by decide +kernel) hown hK hP 0 rfl rfl 3 (by decide) (hts (.fieldLink RX1 29 "HashedStoreModel" "size" "I") (by decide +kernel)) (fun _ h9 => h9) rfl dX1_tamper_7 ?_
    refine hs_mulN hx hb dX1_tamper_10 ?_
    refine lv_icmp_ge (tgt := 21) hx hb dX1_tamper_11 (by decide) (fun c2 => ?_) (fun c2 => ?_)
    · exact W.vret hx hb hr (fun t ht hW => ⟨⟨((F, u, kr, dn, lf, dw), G), rfl, (by rw [hs_tm_1 (hs_hb_g c2)]), by rw [ht]; exact hP, va_K.moved hW.alike hK, hD⟩, hS.F ht⟩) hS.2.2 dX1_tamper_21
    · obtain ⟨j, hj, rfl⟩ := hs_hb_t (by omega) (hs_hb_o c1 (Int32.not_le.mp c2))
      refine lv_aload_n hx hb dX1_tamper_14 rfl (lv_at hl 0 rfl) ?_
      refine va_get (D := (dC, dI)) (ci := 1) (v := .ref hd) (C := RX1) (T := TX1) (N := 11) hx hb hts (by decide +kernel) hown hK hP 0 rfl rfl 4 (by decide) (hts (.fieldLink RX1 7 "HashedStoreModel" "disk" "[I") (by decide +kernel)) (fun _ h9 => h9) rfl dX1_tamper_15 ?_
      refine lv_iload_n hx hb dX1_tamper_18 rfl (lv_at hl 1 rfl) ?_
      refine lv_iload_n hx hb dX1_tamper_19 rfl (lv_at hl 2 rfl) ?_
      refine hs_ast hx hb hK hP hD hS 1 0 rfl rfl (k := j) (by omega) (by omega) dX1_tamper_20 (fun H locs hP hD hS => ?_)
      have hP : va_P (dC, dI) vwCl [oM_ h0 hd hp d N w nw sz u kr dn lf dw, ar_ hd cA 600 (upd F j p2), ar_ hp cA 300 G] H := hP
      have hD : va_D (va_A [oM_ h0 hd hp d N w nw sz u kr dn lf dw, ar_ hd cA 600 F, ar_ hp cA 300 G] s.heap.size) [oM_ h0 hd hp d N w nw sz u kr dn lf dw, ar_ hd cA 600 (upd F j p2), ar_ hp cA 300 G] := hD
      exact W.vret hx hb hr (fun t ht hW => ⟨⟨((upd F j p2, u, kr, dn, lf, dw), G), rfl, (by rw [hs_tm_2 hj (by omega)]), by rw [ht]; exact hP, va_K.moved hW.alike hK, hD⟩, hS.F ht⟩) hS.2.2 dX1_tamper_21
set_option maxHeartbeats 4000000 in
set_option maxRecDepth 100000 in
theorem kX1_peek (l : Launch) (dC : Nat → ClassId) (dI : Nat → Nat → Nat) (h0 hd hp : Nat) (cA : ClassId) (d N w nw sz u : Nat) (F G : Nat → Int32) (kr dn lf : Int32) (dw : Bool) (ok : hs_ok d N w nw sz) (p1 : Int32) : Met l yX1_peek wsX1_peek ({ frames := 0, cells := 0, slots := 0, locals := 0 }) (va_Pc [.ref h0, .int p1] (hs_pr (dC, dI) vwCl [(cA, .int)] [oM_ h0 hd hp d N w nw sz u kr dn lf dw, ar_ hd cA 600 F])) (hs_Qp (fun r => r = hs_pk sz F p1)) 0 0 (fun _ => False) := by
  refine Met.ofW (cc := cX1_peek) (maxL := 2) (ret := (some .int)) (by decide) rfl ?_
  intro p e s m args below meth c s₁ B hml hv
  obtain ⟨rfl, hP, hK⟩ := hv
  have hx := B.exec
  have hb := B.bytes
  have hr := B.returns
  have hts := atoms_spec (ws := wsX1_peek) B.pre
  have hown : s.vm.findClass RX1 = some m.cls := findClass_of_methodNamed B.named
  have hlocks := B.notSynchronized
  obtain ⟨hd5, hN1, hN2, hw1, hw2, hn1, hn2, hsz, hsz2⟩ := hs_okf ok
  have hnw : nw = N * w := ok.2.2.2.2.1
  have hS : va_S (fun _ => False) s.heap s.heap [] := va_S.rf
  have hl := lv_entry ([.ref h0, .int p1]) (n := 2) (Nat.le_of_ble_eq_true rfl)
  rw [lg_entry_eq]
  generalize (lg_sl ([.ref h0, .int p1]) ++ List.replicate (2 - (lg_sl ([.ref h0, .int p1])).length) Slot.unset).toArray = ls at hl ⊢
  have hl : lv_has ls 2 [(0, .ref h0), (1, .int p1)] := hl
  refine lv_iload_n hx hb dX1_peek_0 rfl (lv_at hl 1 rfl) ?_
  refine lv_if_lt (tgt := 14) hx hb dX1_peek_1 (by decide) (fun c1 => ?_) (fun c1 => ?_)
  · refine lv_iconst (v := nI 0) hx hb dX1_peek_14 (by decide) ?_
    refine lv_goto (tgt := 24) hx hb dX1_peek_15 (by decide) ?_
    exact W.iret (v := nI 0) hx hb hr (fun t ht hW => ⟨⟨nI 0, (), rfl, (hs_pk_1 (hs_hb_n c1)), trivial⟩, hS.F ht⟩) hS.2.2 dX1_peek_24
  · refine lv_iload_n hx hb dX1_peek_4 rfl (lv_at hl 1 rfl) ?_
    refine lv_iconst (v := nI 2) hx hb dX1_peek_5 (by decide) ?_
    refine lv_aload_n hx hb dX1_peek_6 rfl (lv_at hl 0 rfl) ?_
    refine va_get (D := (dC, dI)) (ci := 1) (v := .int (nI sz)) (C := RX1) (T := TX1) (N := 11) hx hb hts (by decide +kernel) hown hK hP 0 rfl rfl 3 (by decide) (hts (.fieldLink RX1 29 "HashedStoreModel" "size" "I") (by decide +kernel)) (fun _ h9 => h9) rfl dX1_peek_7 ?_
    refine hs_mulN hx hb dX1_peek_10 ?_
    refine lv_icmp_lt (tgt := 18) hx hb dX1_peek_11 (by decide) (fun c2 => ?_) (fun c2 => ?_)
    · obtain ⟨j, hj, rfl⟩ := hs_hb_t (by omega) (hs_hb_o c1 c2)
      refine lv_aload_n hx hb dX1_peek_18 rfl (lv_at hl 0 rfl) ?_
      refine va_get (D := (dC, dI)) (ci := 1) (v := .ref hd) (C := RX1) (T := TX1) (N := 11) hx hb hts (by decide +kernel) hown hK hP 0 rfl rfl 4 (by decide) (hts (.fieldLink RX1 7 "HashedStoreModel" "disk" "[I") (by decide +kernel)) (fun _ h9 => h9) rfl dX1_peek_19 ?_
      refine lv_iload_n hx hb dX1_peek_22 rfl (lv_at hl 1 rfl) ?_
      refine hs_ald hx hb hK hP 1 0 rfl rfl (k := j) (by omega) (by omega) dX1_peek_23 ?_
      exact W.iret (v := F j) hx hb hr (fun t ht hW => ⟨⟨F j, (), rfl, (hs_pk_2 hj (by omega)), trivial⟩, hS.F ht⟩) hS.2.2 dX1_peek_24
    · refine lv_iconst (v := nI 0) hx hb dX1_peek_14 (by decide) ?_
      refine lv_goto (tgt := 24) hx hb dX1_peek_15 (by decide) ?_
      exact W.iret (v := nI 0) hx hb hr (fun t ht hW => ⟨⟨nI 0, (), rfl, (hs_pk_1 (hs_hb_g (Int32.not_lt.mp c2))), trivial⟩, hS.F ht⟩) hS.2.2 dX1_peek_24
set_option maxHeartbeats 4000000 in
set_option maxRecDepth 100000 in
theorem kX1_crashAfter (l : Launch) (dC : Nat → ClassId) (dI : Nat → Nat → Nat) (h0 hd hp : Nat) (cA : ClassId) (d N w nw sz u : Nat) (F G : Nat → Int32) (kr dn lf : Int32) (dw : Bool) (ok : hs_ok d N w nw sz) (zz : Nat) (p1 : Int32) : Met l yX1_crashAfter wsX1_crashAfter ({ frames := 0, cells := 0, slots := 0, locals := 0 }) (va_Pc [.ref h0, .int p1] (hs_pm (dC, dI) vwCl [(cA, .int)] [oM_ h0 hd hp d N w nw sz u kr dn lf dw, ar_ hd cA 600 F, ar_ hp cA 300 G] zz)) (va_Qv (S := hs_S × (Nat → Int32)) (fun uu => uu = (hs_cr p1 (F, u, kr, dn, lf, dw), G)) (hs_B (dC, dI) vwCl [(cA, .int)] (wfM h0 hd hp cA d N w nw sz) (va_A [oM_ h0 hd hp d N w nw sz u kr dn lf dw, ar_ hd cA 600 F, ar_ hp cA 300 G] zz)) (va_A [oM_ h0 hd hp d N w nw sz u kr dn lf dw, ar_ hd cA 600 F, ar_ hp cA 300 G] zz)) 0 0 (va_A [oM_ h0 hd hp d N w nw sz u kr dn lf dw, ar_ hd cA 600 F, ar_ hp cA 300 G] zz) := by
  refine Met.ofW (cc := cX1_crashAfter) (maxL := 2) (ret := none) (by decide) rfl ?_
  intro p e s m args below meth c s₁ B hml hv
  obtain ⟨rfl, hzz, hP, hK, hD0⟩ := hv
  have hx := B.exec
  have hb := B.bytes
  have hr := B.returns
  have hts := atoms_spec (ws := wsX1_crashAfter) B.pre
  have hown : s.vm.findClass RX1 = some m.cls := findClass_of_methodNamed B.named
  have hlocks := B.notSynchronized
  obtain ⟨hd5, hN1, hN2, hw1, hw2, hn1, hn2, hsz, hsz2⟩ := hs_okf ok
  have hnw : nw = N * w := ok.2.2.2.2.1
  subst hzz
  have hD := hD0.self (sz := s.heap.size)
  have hS : va_S (va_A [oM_ h0 hd hp d N w nw sz u kr dn lf dw, ar_ hd cA 600 F, ar_ hp cA 300 G] s.heap.size) s.heap s.heap [] := va_S.rf
  have hA : ∀ q : Nat, s.heap.size ≤ q → va_A [oM_ h0 hd hp d N w nw sz u kr dn lf dw, ar_ hd cA 600 F, ar_ hp cA 300 G] s.heap.size q := fun q h => Or.inr h
  have hl := lv_entry ([.ref h0, .int p1]) (n := 2) (Nat.le_of_ble_eq_true rfl)
  rw [lg_entry_eq]
  generalize (lg_sl ([.ref h0, .int p1]) ++ List.replicate (2 - (lg_sl ([.ref h0, .int p1])).length) Slot.unset).toArray = ls at hl ⊢
  have hl : lv_has ls 2 [(0, .ref h0), (1, .int p1)] := hl
  refine lv_iload_n hx hb dX1_crashAfter_0 rfl (lv_at hl 1 rfl) ?_
  refine lv_if_lt (tgt := 16) hx hb dX1_crashAfter_1 (by decide) (fun c1 => ?_) (fun c1 => ?_)
  · exact W.vret hx hb hr (fun t ht hW => ⟨⟨((F, u, kr, dn, lf, dw), G), rfl, (by rw [hs_cr_1 c1]), by rw [ht]; exact hP, va_K.moved hW.alike hK, hD⟩, hS.F ht⟩) hS.2.2 dX1_crashAfter_16
  · refine lv_aload_n hx hb dX1_crashAfter_4 rfl (lv_at hl 0 rfl) ?_
    refine va_get (D := (dC, dI)) (ci := 1) (v := .int (hs_b dw)) (C := RX1) (T := TX1) (N := 11) hx hb hts (by decide +kernel) hown hK hP 0 rfl rfl 10 (by decide) (hts (.fieldLink RX1 58 "HashedStoreModel" "isDown" "Z") (by decide +kernel)) (fun _ h9 => h9) rfl dX1_crashAfter_5 ?_
    refine hs_bne (tgt := 16) hx hb dX1_crashAfter_8 (by decide) (fun c2 => ?_) (fun c2 => ?_)
    · exact W.vret hx hb hr (fun t ht hW => ⟨⟨((F, u, kr, dn, lf, dw), G), rfl, (by rw [hs_cr_2 c2]), by rw [ht]; exact hP, va_K.moved hW.alike hK, hD⟩, hS.F ht⟩) hS.2.2 dX1_crashAfter_16
    · refine lv_aload_n hx hb dX1_crashAfter_11 rfl (lv_at hl 0 rfl) ?_
      refine lv_iload_n hx hb dX1_crashAfter_12 rfl (lv_at hl 1 rfl) ?_
      refine va_put (D := (dC, dI)) (ci := 1) (v := .int p1) (ty := .int) (C := RX1) (T := TX1) (N := 11) hx hb hts (by decide +kernel) tyX1 tyX1_ok nmX1 hown hK hP hD hS 0 rfl rfl 9 (by decide) (hts (.fieldLink RX1 16 "HashedStoreModel" "left" "I") (by decide +kernel)) (fun _ h9 => h9) rfl (by decide +kernel) rfl rfl (Nat.le_of_ble_eq_true rfl) dX1_crashAfter_13 (fun H locs hP hD hS => ?_)
      have hP : va_P (dC, dI) vwCl [oM_ h0 hd hp d N w nw sz u kr dn p1 dw, ar_ hd cA 600 F, ar_ hp cA 300 G] H := hP
      have hD : va_D (va_A [oM_ h0 hd hp d N w nw sz u kr dn lf dw, ar_ hd cA 600 F, ar_ hp cA 300 G] s.heap.size) [oM_ h0 hd hp d N w nw sz u kr dn p1 dw, ar_ hd cA 600 F, ar_ hp cA 300 G] := hD
      exact W.vret hx hb hr (fun t ht hW => ⟨⟨((F, u, kr, dn, p1, dw), G), rfl, (by rw [hs_cr_3 c1 c2]), by rw [ht]; exact hP, va_K.moved hW.alike hK, hD⟩, hS.F ht⟩) hS.2.2 dX1_crashAfter_16
set_option maxHeartbeats 4000000 in
set_option maxRecDepth 100000 in
theorem kX1_recover (l : Launch) (dC : Nat → ClassId) (dI : Nat → Nat → Nat) (h0 hd hp : Nat) (cA : ClassId) (d N w nw sz u : Nat) (F G : Nat → Int32) (kr dn lf : Int32) (dw : Bool) (ok : hs_ok d N w nw sz) (zz : Nat) (p1 : Int32) : Met l yX1_recover wsX1_recover ({ frames := 1, cells := 0, slots := 0, locals := 21 }) (va_Pc [.ref h0, .int p1] (hs_pm (dC, dI) vwCl [(cA, .int)] [oM_ h0 hd hp d N w nw sz u kr dn lf dw, ar_ hd cA 600 F, ar_ hp cA 300 G] zz)) (va_Qi (S := hs_S × (Nat → Int32)) (fun r uu => (r, uu.1) = hs_rc nw sz p1 (F, u, kr, dn, lf, dw)) (hs_B (dC, dI) vwCl [(cA, .int)] (wfM h0 hd hp cA d N w nw sz) (va_A [oM_ h0 hd hp d N w nw sz u kr dn lf dw, ar_ hd cA 600 F, ar_ hp cA 300 G] zz)) (va_A [oM_ h0 hd hp d N w nw sz u kr dn lf dw, ar_ hd cA 600 F, ar_ hp cA 300 G] zz)) 0 0 (va_A [oM_ h0 hd hp d N w nw sz u kr dn lf dw, ar_ hd cA 600 F, ar_ hp cA 300 G] zz) := by
  refine Met.ofW (cc := cX1_recover) (maxL := 3) (ret := (some .int)) (by decide) rfl ?_
  intro p e s m args below meth c s₁ B hml hv
  obtain ⟨rfl, hzz, hP, hK, hD0⟩ := hv
  have hx := B.exec
  have hb := B.bytes
  have hr := B.returns
  have hts := atoms_spec (ws := wsX1_recover) B.pre
  have hown : s.vm.findClass RX1 = some m.cls := findClass_of_methodNamed B.named
  have hlocks := B.notSynchronized
  obtain ⟨hd5, hN1, hN2, hw1, hw2, hn1, hn2, hsz, hsz2⟩ := hs_okf ok
  have hnw : nw = N * w := ok.2.2.2.2.1
  subst hzz
  have hD := hD0.self (sz := s.heap.size)
  have hS : va_S (va_A [oM_ h0 hd hp d N w nw sz u kr dn lf dw, ar_ hd cA 600 F, ar_ hp cA 300 G] s.heap.size) s.heap s.heap [] := va_S.rf
  have hA : ∀ q : Nat, s.heap.size ≤ q → va_A [oM_ h0 hd hp d N w nw sz u kr dn lf dw, ar_ hd cA 600 F, ar_ hp cA 300 G] s.heap.size q := fun q h => Or.inr h
  have hl := lv_entry ([.ref h0, .int p1]) (n := 3) (Nat.le_of_ble_eq_true rfl)
  rw [lg_entry_eq]
  generalize (lg_sl ([.ref h0, .int p1]) ++ List.replicate (3 - (lg_sl ([.ref h0, .int p1])).length) Slot.unset).toArray = ls at hl ⊢
  have hl : lv_has ls 3 [(0, .ref h0), (1, .int p1)] := hl
  refine lv_aload_n hx hb dX1_recover_0 rfl (lv_at hl 0 rfl) ?_
  refine va_get (D := (dC, dI)) (ci := 1) (v := .int (hs_b dw)) (C := RX1) (T := TX1) (N := 11) hx hb hts (by decide +kernel) hown hK hP 0 rfl rfl 10 (by decide) (hts (.fieldLink RX1 58 "HashedStoreModel" "isDown" "Z") (by decide +kernel)) (fun _ h9 => h9) rfl dX1_recover_1 ?_
  refine hs_bne (tgt := 10) hx hb dX1_recover_4 (by decide) (fun c1 => ?_) (fun c1 => ?_)
  · refine lv_iconst (v := nI 0) hx hb dX1_recover_10 (by decide) ?_
    refine lv_istore_n (lv' := [(2, .int (nI 0)), (0, .ref h0), (1, .int p1)]) hx hb dX1_recover_11 rfl hl (by decide) rfl (fun ls hl => ?_)
    refine lv_iload_n hx hb dX1_recover_12 rfl (lv_at hl 0 rfl) ?_
    refine lv_iconst (v := nI 2) hx hb dX1_recover_13 (by decide) ?_
    refine hs_cge (tgt := 66) hx hb (by omega) (by omega) dX1_recover_14 (by decide) (fun a1 => ?_) (fun a1 => ?_)
    · exact absurd a1 (by omega)
    · refine lv_aload_n hx hb dX1_recover_17 rfl (lv_at hl 1 rfl) ?_
      refine va_get (D := (dC, dI)) (ci := 1) (v := .ref hd) (C := RX1) (T := TX1) (N := 11) hx hb hts (by decide +kernel) hown hK hP 0 rfl rfl 4 (by decide) (hts (.fieldLink RX1 7 "HashedStoreModel" "disk" "[I") (by decide +kernel)) (fun _ h9 => h9) rfl dX1_recover_18 ?_
      refine lv_aload_n hx hb dX1_recover_21 rfl (lv_at hl 1 rfl) ?_
      refine va_get (D := (dC, dI)) (ci := 1) (v := .int (nI sz)) (C := RX1) (T := TX1) (N := 11) hx hb hts (by decide +kernel) hown hK hP 0 rfl rfl 3 (by decide) (hts (.fieldLink RX1 29 "HashedStoreModel" "size" "I") (by decide +kernel)) (fun _ h9 => h9) rfl dX1_recover_22 ?_
      refine lv_iload_n hx hb dX1_recover_25 rfl (lv_at hl 0 rfl) ?_
      refine hs_mulN hx hb dX1_recover_26 ?_
      refine lv_aload_n hx hb dX1_recover_27 rfl (lv_at hl 1 rfl) ?_
      refine lv_iconst (v := nI 1) hx hb dX1_recover_28 (by decide) ?_
      refine hs_pe (v := nI (nw + 1 - 1)) (va_runV (As := [.int (nI 1)]) (rest := [.int (nI (sz * 0)), .ref hd]) ⟨hx, hb, hml, hown, hts⟩ (kX1_node l dC dI h0 hd hp cA d N w nw sz u F G kr dn lf dw ok 1) (cwV 1 hts gX1_recover_X1_node rfl rfl rfl (by decide +kernel) ⟨(Nat.le_of_ble_eq_true rfl), (Nat.le_of_ble_eq_true rfl)⟩) (hs_preV (q := (RX1, TX1, 11)) (ci := 1) hK (hP.sub [0] rfl) rfl rfl) rfl rfl hl.1 rfl (lv_room (Nat.le_of_ble_eq_true rfl)) dX1_recover_29 ⟨Nat.zero_le _, Nat.zero_le _⟩) hS hP (fun H locs hP hS => ?_)
      refine hs_addN hx hb dX1_recover_32 ?_
      refine hs_ald hx hb hK hP 1 0 rfl rfl (k := (sz * 0) + (nw + 1 - 1)) (by omega) (by omega) dX1_recover_33 ?_
      rw [Nat.mul_comm sz 0]
      refine lv_iload_n hx hb dX1_recover_34 rfl (lv_at hl 2 rfl) ?_
      refine lv_icmp_ne (tgt := 60) hx hb dX1_recover_35 (by decide) (fun e1 => ?_) (fun e1 => ?_)
      · refine lv_iinc (v := nI (0 + 1)) (lv' := [(2, .int (nI (0 + 1))), (0, .ref h0), (1, .int p1)]) hx hb dX1_recover_60 hl (k := 0) rfl (nI_1 _) (by decide) rfl (fun ls hl => ?_)
        refine lv_goto (tgt := 12) hx hb dX1_recover_63 (by decide) ?_
        refine lv_iload_n hx hb dX1_recover_12 rfl (lv_at hl 0 rfl) ?_
        refine lv_iconst (v := nI 2) hx hb dX1_recover_13 (by decide) ?_
        refine hs_cge (tgt := 66) hx hb (by omega) (by omega) dX1_recover_14 (by decide) (fun a2 => ?_) (fun a2 => ?_)
        · exact absurd a2 (by omega)
        · refine lv_aload_n hx hb dX1_recover_17 rfl (lv_at hl 1 rfl) ?_
          refine va_get (D := (dC, dI)) (ci := 1) (v := .ref hd) (C := RX1) (T := TX1) (N := 11) hx hb hts (by decide +kernel) hown hK hP 0 rfl rfl 4 (by decide) (hts (.fieldLink RX1 7 "HashedStoreModel" "disk" "[I") (by decide +kernel)) (fun _ h9 => h9) rfl dX1_recover_18 ?_
          refine lv_aload_n hx hb dX1_recover_21 rfl (lv_at hl 1 rfl) ?_
          refine va_get (D := (dC, dI)) (ci := 1) (v := .int (nI sz)) (C := RX1) (T := TX1) (N := 11) hx hb hts (by decide +kernel) hown hK hP 0 rfl rfl 3 (by decide) (hts (.fieldLink RX1 29 "HashedStoreModel" "size" "I") (by decide +kernel)) (fun _ h9 => h9) rfl dX1_recover_22 ?_
          refine lv_iload_n hx hb dX1_recover_25 rfl (lv_at hl 0 rfl) ?_
          refine hs_mulN hx hb dX1_recover_26 ?_
          refine lv_aload_n hx hb dX1_recover_27 rfl (lv_at hl 1 rfl) ?_
          refine lv_iconst (v := nI 1) hx hb dX1_recover_28 (by decide) ?_
          refine hs_pe (v := nI (nw + 1 - 1)) (va_runV (As := [.int (nI 1)]) (rest := [.int (nI (sz * (0 + 1))), .ref hd]) ⟨hx, hb, hml, hown, hts⟩ (kX1_node l dC dI h0 hd hp cA d N w nw sz u F G kr dn lf dw ok 1) (cwV 1 hts gX1_recover_X1_node rfl rfl rfl (by decide +kernel) ⟨(Nat.le_of_ble_eq_true rfl), (Nat.le_of_ble_eq_true rfl)⟩) (hs_preV (q := (RX1, TX1, 11)) (ci := 1) hK (hP.sub [0] rfl) rfl rfl) rfl rfl hl.1 rfl (lv_room (Nat.le_of_ble_eq_true rfl)) dX1_recover_29 ⟨Nat.zero_le _, Nat.zero_le _⟩) hS hP (fun H locs hP hS => ?_)
          refine hs_addN hx hb dX1_recover_32 ?_
          refine hs_ald hx hb hK hP 1 0 rfl rfl (k := (sz * (0 + 1)) + (nw + 1 - 1)) (by omega) (by omega) dX1_recover_33 ?_
          rw [Nat.mul_comm sz (0 + 1)]
          refine lv_iload_n hx hb dX1_recover_34 rfl (lv_at hl 2 rfl) ?_
          refine lv_icmp_ne (tgt := 60) hx hb dX1_recover_35 (by decide) (fun e2 => ?_) (fun e2 => ?_)
          · refine lv_iinc (v := nI ((0 + 1) + 1)) (lv' := [(2, .int (nI ((0 + 1) + 1))), (0, .ref h0), (1, .int p1)]) hx hb dX1_recover_60 hl (k := 0) rfl (nI_1 _) (by decide) rfl (fun ls hl => ?_)
            refine lv_goto (tgt := 12) hx hb dX1_recover_63 (by decide) ?_
            refine lv_iload_n hx hb dX1_recover_12 rfl (lv_at hl 0 rfl) ?_
            refine lv_iconst (v := nI 2) hx hb dX1_recover_13 (by decide) ?_
            refine hs_cge (tgt := 66) hx hb (by omega) (by omega) dX1_recover_14 (by decide) (fun a3 => ?_) (fun a3 => ?_)
            · refine lv_bipush (v := (-5)) hx hb dX1_recover_66 (by decide) ?_
              exact W.iret (v := (-5)) hx hb hr (fun t ht hW => ⟨⟨(-5), ((F, u, kr, dn, lf, dw), G), rfl, (by rw [hs_rc_4 c1 e1 e2]), by rw [ht]; exact hP, va_K.moved hW.alike hK, hD⟩, hS.F ht⟩) hS.2.2 dX1_recover_68
            · exact absurd a3 (by omega)
          · refine lv_aload_n hx hb dX1_recover_38 rfl (lv_at hl 1 rfl) ?_
            refine lv_iload_n hx hb dX1_recover_39 rfl (lv_at hl 0 rfl) ?_
            refine va_put (D := (dC, dI)) (ci := 1) (v := .int (nI (0 + 1))) (ty := .int) (C := RX1) (T := TX1) (N := 11) hx hb hts (by decide +kernel) tyX1 tyX1_ok nmX1 hown hK hP hD hS 0 rfl rfl 6 (by decide) (hts (.fieldLink RX1 42 "HashedStoreModel" "used" "I") (by decide +kernel)) (fun _ h9 => h9) rfl (by decide +kernel) rfl rfl (Nat.le_of_ble_eq_true rfl) dX1_recover_40 (fun H locs hP hD hS => ?_)
            have hP : va_P (dC, dI) vwCl [oM_ h0 hd hp d N w nw sz (0 + 1) kr dn lf dw, ar_ hd cA 600 F, ar_ hp cA 300 G] H := hP
            have hD : va_D (va_A [oM_ h0 hd hp d N w nw sz u kr dn lf dw, ar_ hd cA 600 F, ar_ hp cA 300 G] s.heap.size) [oM_ h0 hd hp d N w nw sz (0 + 1) kr dn lf dw, ar_ hd cA 600 F, ar_ hp cA 300 G] := hD
            refine lv_aload_n hx hb dX1_recover_43 rfl (lv_at hl 1 rfl) ?_
            refine lv_iload_n hx hb dX1_recover_44 rfl (lv_at hl 2 rfl) ?_
            refine va_put (D := (dC, dI)) (ci := 1) (v := .int p1) (ty := .int) (C := RX1) (T := TX1) (N := 11) hx hb hts (by decide +kernel) tyX1 tyX1_ok nmX1 hown hK hP hD hS 0 rfl rfl 7 (by decide) (hts (.fieldLink RX1 52 "HashedStoreModel" "kept" "I") (by decide +kernel)) (fun _ h9 => h9) rfl (by decide +kernel) rfl rfl (Nat.le_of_ble_eq_true rfl) dX1_recover_45 (fun H locs hP hD hS => ?_)
            have hP : va_P (dC, dI) vwCl [oM_ h0 hd hp d N w nw sz (0 + 1) p1 dn lf dw, ar_ hd cA 600 F, ar_ hp cA 300 G] H := hP
            have hD : va_D (va_A [oM_ h0 hd hp d N w nw sz u kr dn lf dw, ar_ hd cA 600 F, ar_ hp cA 300 G] s.heap.size) [oM_ h0 hd hp d N w nw sz (0 + 1) p1 dn lf dw, ar_ hd cA 600 F, ar_ hp cA 300 G] := hD
            refine lv_aload_n hx hb dX1_recover_48 rfl (lv_at hl 1 rfl) ?_
            refine lv_iconst (v := hs_b false) hx hb dX1_recover_49 (by decide) ?_
            refine va_put (D := (dC, dI)) (ci := 1) (v := .int (hs_b false)) (ty := .boolean) (C := RX1) (T := TX1) (N := 11) hx hb hts (by decide +kernel) tyX1 tyX1_ok nmX1 hown hK hP hD hS 0 rfl rfl 10 (by decide) (hts (.fieldLink RX1 58 "HashedStoreModel" "isDown" "Z") (by decide +kernel)) (fun _ h9 => h9) rfl (by decide +kernel) rfl rfl (Nat.le_of_ble_eq_true rfl) dX1_recover_50 (fun H locs hP hD hS => ?_)
            have hP : va_P (dC, dI) vwCl [oM_ h0 hd hp d N w nw sz (0 + 1) p1 dn lf false, ar_ hd cA 600 F, ar_ hp cA 300 G] H := hP
            have hD : va_D (va_A [oM_ h0 hd hp d N w nw sz u kr dn lf dw, ar_ hd cA 600 F, ar_ hp cA 300 G] s.heap.size) [oM_ h0 hd hp d N w nw sz (0 + 1) p1 dn lf false, ar_ hd cA 600 F, ar_ hp cA 300 G] := hD
            refine lv_aload_n hx hb dX1_recover_53 rfl (lv_at hl 1 rfl) ?_
            refine lv_iconst (v := (-1)) hx hb dX1_recover_54 (by decide) ?_
            refine va_put (D := (dC, dI)) (ci := 1) (v := .int (-1)) (ty := .int) (C := RX1) (T := TX1) (N := 11) hx hb hts (by decide +kernel) tyX1 tyX1_ok nmX1 hown hK hP hD hS 0 rfl rfl 9 (by decide) (hts (.fieldLink RX1 16 "HashedStoreModel" "left" "I") (by decide +kernel)) (fun _ h9 => h9) rfl (by decide +kernel) rfl rfl (Nat.le_of_ble_eq_true rfl) dX1_recover_55 (fun H locs hP hD hS => ?_)
            have hP : va_P (dC, dI) vwCl [oM_ h0 hd hp d N w nw sz (0 + 1) p1 dn (-1) false, ar_ hd cA 600 F, ar_ hp cA 300 G] H := hP
            have hD : va_D (va_A [oM_ h0 hd hp d N w nw sz u kr dn lf dw, ar_ hd cA 600 F, ar_ hp cA 300 G] s.heap.size) [oM_ h0 hd hp d N w nw sz (0 + 1) p1 dn (-1) false, ar_ hd cA 600 F, ar_ hp cA 300 G] := hD
            refine lv_iconst (v := nI 0) hx hb dX1_recover_58 (by decide) ?_
            exact W.iret (v := nI 0) hx hb hr (fun t ht hW => ⟨⟨nI 0, ((F, 0 + 1, p1, dn, (-1), false), G), rfl, (by rw [hs_rc_3 c1 e1 e2]; rfl), by rw [ht]; exact hP, va_K.moved hW.alike hK, hD⟩, hS.F ht⟩) hS.2.2 dX1_recover_59
      · refine lv_aload_n hx hb dX1_recover_38 rfl (lv_at hl 1 rfl) ?_
        refine lv_iload_n hx hb dX1_recover_39 rfl (lv_at hl 0 rfl) ?_
        refine va_put (D := (dC, dI)) (ci := 1) (v := .int (nI 0)) (ty := .int) (C := RX1) (T := TX1) (N := 11) hx hb hts (by decide +kernel) tyX1 tyX1_ok nmX1 hown hK hP hD hS 0 rfl rfl 6 (by decide) (hts (.fieldLink RX1 42 "HashedStoreModel" "used" "I") (by decide +kernel)) (fun _ h9 => h9) rfl (by decide +kernel) rfl rfl (Nat.le_of_ble_eq_true rfl) dX1_recover_40 (fun H locs hP hD hS => ?_)
        have hP : va_P (dC, dI) vwCl [oM_ h0 hd hp d N w nw sz 0 kr dn lf dw, ar_ hd cA 600 F, ar_ hp cA 300 G] H := hP
        have hD : va_D (va_A [oM_ h0 hd hp d N w nw sz u kr dn lf dw, ar_ hd cA 600 F, ar_ hp cA 300 G] s.heap.size) [oM_ h0 hd hp d N w nw sz 0 kr dn lf dw, ar_ hd cA 600 F, ar_ hp cA 300 G] := hD
        refine lv_aload_n hx hb dX1_recover_43 rfl (lv_at hl 1 rfl) ?_
        refine lv_iload_n hx hb dX1_recover_44 rfl (lv_at hl 2 rfl) ?_
        refine va_put (D := (dC, dI)) (ci := 1) (v := .int p1) (ty := .int) (C := RX1) (T := TX1) (N := 11) hx hb hts (by decide +kernel) tyX1 tyX1_ok nmX1 hown hK hP hD hS 0 rfl rfl 7 (by decide) (hts (.fieldLink RX1 52 "HashedStoreModel" "kept" "I") (by decide +kernel)) (fun _ h9 => h9) rfl (by decide +kernel) rfl rfl (Nat.le_of_ble_eq_true rfl) dX1_recover_45 (fun H locs hP hD hS => ?_)
        have hP : va_P (dC, dI) vwCl [oM_ h0 hd hp d N w nw sz 0 p1 dn lf dw, ar_ hd cA 600 F, ar_ hp cA 300 G] H := hP
        have hD : va_D (va_A [oM_ h0 hd hp d N w nw sz u kr dn lf dw, ar_ hd cA 600 F, ar_ hp cA 300 G] s.heap.size) [oM_ h0 hd hp d N w nw sz 0 p1 dn lf dw, ar_ hd cA 600 F, ar_ hp cA 300 G] := hD
        refine lv_aload_n hx hb dX1_recover_48 rfl (lv_at hl 1 rfl) ?_
        refine lv_iconst (v := hs_b false) hx hb dX1_recover_49 (by decide) ?_
        refine va_put (D := (dC, dI)) (ci := 1) (v := .int (hs_b false)) (ty := .boolean) (C := RX1) (T := TX1) (N := 11) hx hb hts (by decide +kernel) tyX1 tyX1_ok nmX1 hown hK hP hD hS 0 rfl rfl 10 (by decide) (hts (.fieldLink RX1 58 "HashedStoreModel" "isDown" "Z") (by decide +kernel)) (fun _ h9 => h9) rfl (by decide +kernel) rfl rfl (Nat.le_of_ble_eq_true rfl) dX1_recover_50 (fun H locs hP hD hS => ?_)
        have hP : va_P (dC, dI) vwCl [oM_ h0 hd hp d N w nw sz 0 p1 dn lf false, ar_ hd cA 600 F, ar_ hp cA 300 G] H := hP
        have hD : va_D (va_A [oM_ h0 hd hp d N w nw sz u kr dn lf dw, ar_ hd cA 600 F, ar_ hp cA 300 G] s.heap.size) [oM_ h0 hd hp d N w nw sz 0 p1 dn lf false, ar_ hd cA 600 F, ar_ hp cA 300 G] := hD
        refine lv_aload_n hx hb dX1_recover_53 rfl (lv_at hl 1 rfl) ?_
        refine lv_iconst (v := (-1)) hx hb dX1_recover_54 (by decide) ?_
        refine va_put (D := (dC, dI)) (ci := 1) (v := .int (-1)) (ty := .int) (C := RX1) (T := TX1) (N := 11) hx hb hts (by decide +kernel) tyX1 tyX1_ok nmX1 hown hK hP hD hS 0 rfl rfl 9 (by decide) (hts (.fieldLink RX1 16 "HashedStoreModel" "left" "I") (by decide +kernel)) (fun _ h9 => h9) rfl (by decide +kernel) rfl rfl (Nat.le_of_ble_eq_true rfl) dX1_recover_55 (fun H locs hP hD hS => ?_)
        have hP : va_P (dC, dI) vwCl [oM_ h0 hd hp d N w nw sz 0 p1 dn (-1) false, ar_ hd cA 600 F, ar_ hp cA 300 G] H := hP
        have hD : va_D (va_A [oM_ h0 hd hp d N w nw sz u kr dn lf dw, ar_ hd cA 600 F, ar_ hp cA 300 G] s.heap.size) [oM_ h0 hd hp d N w nw sz 0 p1 dn (-1) false, ar_ hd cA 600 F, ar_ hp cA 300 G] := hD
        refine lv_iconst (v := nI 0) hx hb dX1_recover_58 (by decide) ?_
        exact W.iret (v := nI 0) hx hb hr (fun t ht hW => ⟨⟨nI 0, ((F, 0, p1, dn, (-1), false), G), rfl, (by rw [hs_rc_2 c1 e1]; rfl), by rw [ht]; exact hP, va_K.moved hW.alike hK, hD⟩, hS.F ht⟩) hS.2.2 dX1_recover_59
  · refine lv_bipush (v := (-2)) hx hb dX1_recover_7 (by decide) ?_
    exact W.iret (v := (-2)) hx hb hr (fun t ht hW => ⟨⟨(-2), ((F, u, kr, dn, lf, dw), G), rfl, (by rw [hs_rc_1 c1]), by rw [ht]; exact hP, va_K.moved hW.alike hK, hD⟩, hS.F ht⟩) hS.2.2 dX1_recover_9
set_option maxHeartbeats 4000000 in
set_option maxRecDepth 100000 in
theorem kX1_format (l : Launch) (dC : Nat → ClassId) (dI : Nat → Nat → Nat) (h0 hd hp : Nat) (cA : ClassId) (d N w nw sz u : Nat) (F G : Nat → Int32) (kr dn lf : Int32) (dw : Bool) (ok : hs_ok d N w nw sz) (zz : Nat)  : Met l yX1_format wsX1_format ({ frames := 2, cells := 0, slots := 0, locals := 45 }) (va_Pc [.ref h0] (hs_pm (dC, dI) vwCl [(cA, .int)] [oM_ h0 hd hp d N w nw sz u kr dn lf dw, ar_ hd cA 600 F, ar_ hp cA 300 G] zz)) (va_Qi (S := hs_S × (Nat → Int32)) (fun r uu => r = 0 ∧ ∃ F9 g, uu = ((F9, 0, F9 (nw + 1 - 1), 0, -1, false), g) ∧ hs_E N w nw sz F9) (hs_B (dC, dI) vwCl [(cA, .int)] (wfM h0 hd hp cA d N w nw sz) (va_A [oM_ h0 hd hp d N w nw sz u kr dn lf dw, ar_ hd cA 600 F, ar_ hp cA 300 G] zz)) (va_A [oM_ h0 hd hp d N w nw sz u kr dn lf dw, ar_ hd cA 600 F, ar_ hp cA 300 G] zz)) 0 0 (va_A [oM_ h0 hd hp d N w nw sz u kr dn lf dw, ar_ hd cA 600 F, ar_ hp cA 300 G] zz) := by
  refine Met.ofW (cc := cX1_format) (maxL := 2) (ret := (some .int)) (by decide) rfl ?_
  intro p e s m args below meth c s₁ B hml hv
  obtain ⟨rfl, hzz, hP, hK, hD0⟩ := hv
  have hx := B.exec
  have hb := B.bytes
  have hr := B.returns
  have hts := atoms_spec (ws := wsX1_format) B.pre
  have hown : s.vm.findClass RX1 = some m.cls := findClass_of_methodNamed B.named
  have hlocks := B.notSynchronized
  obtain ⟨hd5, hN1, hN2, hw1, hw2, hn1, hn2, hsz, hsz2⟩ := hs_okf ok
  have hnw : nw = N * w := ok.2.2.2.2.1
  subst hzz
  have hD := hD0.self (sz := s.heap.size)
  have hS : va_S (va_A [oM_ h0 hd hp d N w nw sz u kr dn lf dw, ar_ hd cA 600 F, ar_ hp cA 300 G] s.heap.size) s.heap s.heap [] := va_S.rf
  have hA : ∀ q : Nat, s.heap.size ≤ q → va_A [oM_ h0 hd hp d N w nw sz u kr dn lf dw, ar_ hd cA 600 F, ar_ hp cA 300 G] s.heap.size q := fun q h => Or.inr h
  have hl := lv_entry ([.ref h0]) (n := 2) (Nat.le_of_ble_eq_true rfl)
  rw [lg_entry_eq]
  generalize (lg_sl ([.ref h0]) ++ List.replicate (2 - (lg_sl ([.ref h0])).length) Slot.unset).toArray = ls at hl ⊢
  have hl : lv_has ls 2 [(0, .ref h0)] := hl
  have loopD : ∀ (n : Nat) (i : Nat) (F1 : Nat → Int32) (g : Nat → Int32) (H : Heap) (locs : List Loc) (ls : Array Slot), (i + n = sz) → (hs_I N w nw 0 g) → (∀ x, x < i → F1 x = g x) → (∀ x, x < 600 → sz ≤ x → F1 x = 0) → va_P (dC, dI) vwCl [oM_ h0 hd hp d N w nw sz u kr dn lf dw, ar_ hd cA 600 F1, ar_ hp cA 300 g] H → va_D (va_A [oM_ h0 hd hp d N w nw sz u kr dn lf dw, ar_ hd cA 600 F, ar_ hp cA 300 G] s.heap.size) [oM_ h0 hd hp d N w nw sz u kr dn lf dw, ar_ hd cA 600 F1, ar_ hp cA 300 g] → va_S (va_A [oM_ h0 hd hp d N w nw sz u kr dn lf dw, ar_ hd cA 600 F, ar_ hp cA 300 G] s.heap.size) s.heap H locs → lv_has ls 2 [(1, .int (nI i)), (0, .ref h0)] → W p l e (headSpec wsX1_format ({ frames := 2, cells := 0, slots := 0, locals := 45 })).room s m ([.ref h0] : List Value).toArray below meth c H locs 0 0 (MQ below (va_Qi (S := hs_S × (Nat → Int32)) (fun r uu => r = 0 ∧ ∃ F9 g, uu = ((F9, 0, F9 (nw + 1 - 1), 0, -1, false), g) ∧ hs_E N w nw sz F9) (hs_B (dC, dI) vwCl [(cA, .int)] (wfM h0 hd hp cA d N w nw sz) (va_A [oM_ h0 hd hp d N w nw sz u kr dn lf dw, ar_ hd cA 600 F, ar_ hp cA 300 G] s.heap.size)) (va_A [oM_ h0 hd hp d N w nw sz u kr dn lf dw, ar_ hd cA 600 F, ar_ hp cA 300 G] s.heap.size)) ([.ref h0] : List Value).toArray s 0 0 (va_A [oM_ h0 hd hp d N w nw sz u kr dn lf dw, ar_ hd cA 600 F, ar_ hp cA 300 G] s.heap.size)) (F0 m 126 ls []) := by
    intro n
    induction n with
    | zero =>
      intro i F1 g H locs ls hi hI hA1 hA2 hP hD hS hl
      refine lv_iload_n hx hb dX1_format_126 rfl (lv_at hl 0 rfl) ?_
      refine lv_aload_n hx hb dX1_format_127 rfl (lv_at hl 1 rfl) ?_
      refine va_get (D := (dC, dI)) (ci := 1) (v := .int (nI sz)) (C := RX1) (T := TX1) (N := 11) hx hb hts (by decide +kernel) hown hK hP 0 rfl rfl 3 (by decide) (hts (.fieldLink RX1 29 "HashedStoreModel" "size" "I") (by decide +kernel)) (fun _ h9 => h9) rfl dX1_format_128 ?_
      refine hs_cge (tgt := 152) hx hb (by omega) (by omega) dX1_format_131 (by decide) (fun c1 => ?_) (fun c1 => ?_)
      · obtain ⟨hP, hD⟩ := hs_repP (q0 := 1) (g := fun x => if x < sz then g x else 0) hP hD rfl (fun x hx9 => by
          by_cases e : x < sz
          · rw [if_pos e]; exact hA1 x (by omega)
          · rw [if_neg e]; exact hA2 x hx9 (by omega))
        have hP : va_P (dC, dI) vwCl [oM_ h0 hd hp d N w nw sz u kr dn lf dw, ar_ hd cA 600 (fun x => if x < sz then g x else 0), ar_ hp cA 300 g] H := hP
        have hD : va_D (va_A [oM_ h0 hd hp d N w nw sz u kr dn lf dw, ar_ hd cA 600 F, ar_ hp cA 300 G] s.heap.size) [oM_ h0 hd hp d N w nw sz u kr dn lf dw, ar_ hd cA 600 (fun x => if x < sz then g x else 0), ar_ hp cA 300 g] := hD
        refine lv_aload_n hx hb dX1_format_152 rfl (lv_at hl 1 rfl) ?_
        refine lv_iconst (v := nI 0) hx hb dX1_format_153 (by decide) ?_
        refine va_put (D := (dC, dI)) (ci := 1) (v := .int (nI 0)) (ty := .int) (C := RX1) (T := TX1) (N := 11) hx hb hts (by decide +kernel) tyX1 tyX1_ok nmX1 hown hK hP hD hS 0 rfl rfl 6 (by decide) (hts (.fieldLink RX1 42 "HashedStoreModel" "used" "I") (by decide +kernel)) (fun _ h9 => h9) rfl (by decide +kernel) rfl rfl (Nat.le_of_ble_eq_true rfl) dX1_format_154 (fun H locs hP hD hS => ?_)
        have hP : va_P (dC, dI) vwCl [oM_ h0 hd hp d N w nw sz 0 kr dn lf dw, ar_ hd cA 600 (fun x => if x < sz then g x else 0), ar_ hp cA 300 g] H := hP
        have hD : va_D (va_A [oM_ h0 hd hp d N w nw sz u kr dn lf dw, ar_ hd cA 600 F, ar_ hp cA 300 G] s.heap.size) [oM_ h0 hd hp d N w nw sz 0 kr dn lf dw, ar_ hd cA 600 (fun x => if x < sz then g x else 0), ar_ hp cA 300 g] := hD
        refine lv_aload_n hx hb dX1_format_157 rfl (lv_at hl 1 rfl) ?_
        refine lv_aload_n hx hb dX1_format_158 rfl (lv_at hl 1 rfl) ?_
        refine va_get (D := (dC, dI)) (ci := 1) (v := .ref hp) (C := RX1) (T := TX1) (N := 11) hx hb hts (by decide +kernel) hown hK hP 0 rfl rfl 5 (by decide) (hts (.fieldLink RX1 13 "HashedStoreModel" "goal" "[I") (by decide +kernel)) (fun _ h9 => h9) rfl dX1_format_159 ?_
        refine lv_aload_n hx hb dX1_format_162 rfl (lv_at hl 1 rfl) ?_
        refine lv_iconst (v := nI 1) hx hb dX1_format_163 (by decide) ?_
        refine hs_pe (v := nI (nw + 1 - 1)) (va_runV (As := [.int (nI 1)]) (rest := [.ref hp, .ref h0]) ⟨hx, hb, hml, hown, hts⟩ (kX1_node l dC dI h0 hd hp cA d N w nw sz 0 (fun x => if x < sz then g x else 0) g kr dn lf dw ok 1) (cwV 1 hts gX1_format_X1_node rfl rfl rfl (by decide +kernel) ⟨(Nat.le_of_ble_eq_true rfl), (Nat.le_of_ble_eq_true rfl)⟩) (hs_preV (q := (RX1, TX1, 11)) (ci := 1) hK (hP.sub [0] rfl) rfl rfl) rfl rfl hl.1 rfl (lv_room (Nat.le_of_ble_eq_true rfl)) dX1_format_164 ⟨Nat.zero_le _, Nat.zero_le _⟩) hS hP (fun H locs hP hS => ?_)
        refine hs_ald hx hb hK hP 2 0 rfl rfl (k := nw + 1 - 1) (by omega) (by omega) dX1_format_167 ?_
        refine va_put (D := (dC, dI)) (ci := 1) (v := .int (g (nw + 1 - 1))) (ty := .int) (C := RX1) (T := TX1) (N := 11) hx hb hts (by decide +kernel) tyX1 tyX1_ok nmX1 hown hK hP hD hS 0 rfl rfl 7 (by decide) (hts (.fieldLink RX1 52 "HashedStoreModel" "kept" "I") (by decide +kernel)) (fun _ h9 => h9) rfl (by decide +kernel) rfl rfl (Nat.le_of_ble_eq_true rfl) dX1_format_168 (fun H locs hP hD hS => ?_)
        have hP : va_P (dC, dI) vwCl [oM_ h0 hd hp d N w nw sz 0 (g (nw + 1 - 1)) dn lf dw, ar_ hd cA 600 (fun x => if x < sz then g x else 0), ar_ hp cA 300 g] H := hP
        have hD : va_D (va_A [oM_ h0 hd hp d N w nw sz u kr dn lf dw, ar_ hd cA 600 F, ar_ hp cA 300 G] s.heap.size) [oM_ h0 hd hp d N w nw sz 0 (g (nw + 1 - 1)) dn lf dw, ar_ hd cA 600 (fun x => if x < sz then g x else 0), ar_ hp cA 300 g] := hD
        refine lv_aload_n hx hb dX1_format_171 rfl (lv_at hl 1 rfl) ?_
        refine lv_iconst (v := 0) hx hb dX1_format_172 (by decide) ?_
        refine va_put (D := (dC, dI)) (ci := 1) (v := .int 0) (ty := .int) (C := RX1) (T := TX1) (N := 11) hx hb hts (by decide +kernel) tyX1 tyX1_ok nmX1 hown hK hP hD hS 0 rfl rfl 8 (by decide) (hts (.fieldLink RX1 55 "HashedStoreModel" "done" "I") (by decide +kernel)) (fun _ h9 => h9) rfl (by decide +kernel) rfl rfl (Nat.le_of_ble_eq_true rfl) dX1_format_173 (fun H locs hP hD hS => ?_)
        have hP : va_P (dC, dI) vwCl [oM_ h0 hd hp d N w nw sz 0 (g (nw + 1 - 1)) 0 lf dw, ar_ hd cA 600 (fun x => if x < sz then g x else 0), ar_ hp cA 300 g] H := hP
        have hD : va_D (va_A [oM_ h0 hd hp d N w nw sz u kr dn lf dw, ar_ hd cA 600 F, ar_ hp cA 300 G] s.heap.size) [oM_ h0 hd hp d N w nw sz 0 (g (nw + 1 - 1)) 0 lf dw, ar_ hd cA 600 (fun x => if x < sz then g x else 0), ar_ hp cA 300 g] := hD
        refine lv_aload_n hx hb dX1_format_176 rfl (lv_at hl 1 rfl) ?_
        refine lv_iconst (v := (-1)) hx hb dX1_format_177 (by decide) ?_
        refine va_put (D := (dC, dI)) (ci := 1) (v := .int (-1)) (ty := .int) (C := RX1) (T := TX1) (N := 11) hx hb hts (by decide +kernel) tyX1 tyX1_ok nmX1 hown hK hP hD hS 0 rfl rfl 9 (by decide) (hts (.fieldLink RX1 16 "HashedStoreModel" "left" "I") (by decide +kernel)) (fun _ h9 => h9) rfl (by decide +kernel) rfl rfl (Nat.le_of_ble_eq_true rfl) dX1_format_178 (fun H locs hP hD hS => ?_)
        have hP : va_P (dC, dI) vwCl [oM_ h0 hd hp d N w nw sz 0 (g (nw + 1 - 1)) 0 (-1) dw, ar_ hd cA 600 (fun x => if x < sz then g x else 0), ar_ hp cA 300 g] H := hP
        have hD : va_D (va_A [oM_ h0 hd hp d N w nw sz u kr dn lf dw, ar_ hd cA 600 F, ar_ hp cA 300 G] s.heap.size) [oM_ h0 hd hp d N w nw sz 0 (g (nw + 1 - 1)) 0 (-1) dw, ar_ hd cA 600 (fun x => if x < sz then g x else 0), ar_ hp cA 300 g] := hD
        refine lv_aload_n hx hb dX1_format_181 rfl (lv_at hl 1 rfl) ?_
        refine lv_iconst (v := hs_b false) hx hb dX1_format_182 (by decide) ?_
        refine va_put (D := (dC, dI)) (ci := 1) (v := .int (hs_b false)) (ty := .boolean) (C := RX1) (T := TX1) (N := 11) hx hb hts (by decide +kernel) tyX1 tyX1_ok nmX1 hown hK hP hD hS 0 rfl rfl 10 (by decide) (hts (.fieldLink RX1 58 "HashedStoreModel" "isDown" "Z") (by decide +kernel)) (fun _ h9 => h9) rfl (by decide +kernel) rfl rfl (Nat.le_of_ble_eq_true rfl) dX1_format_183 (fun H locs hP hD hS => ?_)
        have hP : va_P (dC, dI) vwCl [oM_ h0 hd hp d N w nw sz 0 (g (nw + 1 - 1)) 0 (-1) false, ar_ hd cA 600 (fun x => if x < sz then g x else 0), ar_ hp cA 300 g] H := hP
        have hD : va_D (va_A [oM_ h0 hd hp d N w nw sz u kr dn lf dw, ar_ hd cA 600 F, ar_ hp cA 300 G] s.heap.size) [oM_ h0 hd hp d N w nw sz 0 (g (nw + 1 - 1)) 0 (-1) false, ar_ hd cA 600 (fun x => if x < sz then g x else 0), ar_ hp cA 300 g] := hD
        refine lv_iconst (v := nI 0) hx hb dX1_format_186 (by decide) ?_
        exact W.iret (v := nI 0) hx hb hr (fun t ht hW => ⟨⟨nI 0, (((fun x => if x < sz then g x else 0), 0, (g (nw + 1 - 1)), 0, (-1), false), g), rfl, ⟨rfl, _, g, by rw [if_pos (show nw + 1 - 1 < sz by omega)], hs_E_of ok hI⟩, by rw [ht]; exact hP, va_K.moved hW.alike hK, hD⟩, hS.F ht⟩) hS.2.2 dX1_format_187
      · exact absurd c1 (by omega)
    | succ n ih =>
      intro i F1 g H locs ls hi hI hA1 hA2 hP hD hS hl
      refine lv_iload_n hx hb dX1_format_126 rfl (lv_at hl 0 rfl) ?_
      refine lv_aload_n hx hb dX1_format_127 rfl (lv_at hl 1 rfl) ?_
      refine va_get (D := (dC, dI)) (ci := 1) (v := .int (nI sz)) (C := RX1) (T := TX1) (N := 11) hx hb hts (by decide +kernel) hown hK hP 0 rfl rfl 3 (by decide) (hts (.fieldLink RX1 29 "HashedStoreModel" "size" "I") (by decide +kernel)) (fun _ h9 => h9) rfl dX1_format_128 ?_
      refine hs_cge (tgt := 152) hx hb (by omega) (by omega) dX1_format_131 (by decide) (fun c1 => ?_) (fun c1 => ?_)
      · exact absurd c1 (by omega)
      · refine lv_aload_n hx hb dX1_format_134 rfl (lv_at hl 1 rfl) ?_
        refine va_get (D := (dC, dI)) (ci := 1) (v := .ref hd) (C := RX1) (T := TX1) (N := 11) hx hb hts (by decide +kernel) hown hK hP 0 rfl rfl 4 (by decide) (hts (.fieldLink RX1 7 "HashedStoreModel" "disk" "[I") (by decide +kernel)) (fun _ h9 => h9) rfl dX1_format_135 ?_
        refine lv_iload_n hx hb dX1_format_138 rfl (lv_at hl 0 rfl) ?_
        refine lv_aload_n hx hb dX1_format_139 rfl (lv_at hl 1 rfl) ?_
        refine va_get (D := (dC, dI)) (ci := 1) (v := .ref hp) (C := RX1) (T := TX1) (N := 11) hx hb hts (by decide +kernel) hown hK hP 0 rfl rfl 5 (by decide) (hts (.fieldLink RX1 13 "HashedStoreModel" "goal" "[I") (by decide +kernel)) (fun _ h9 => h9) rfl dX1_format_140 ?_
        refine lv_iload_n hx hb dX1_format_143 rfl (lv_at hl 0 rfl) ?_
        refine hs_ald hx hb hK hP 2 0 rfl rfl (k := i) (by omega) (by omega) dX1_format_144 ?_
        refine hs_ast hx hb hK hP hD hS 1 0 rfl rfl (k := i) (by omega) (by omega) dX1_format_145 (fun H locs hP hD hS => ?_)
        have hP : va_P (dC, dI) vwCl [oM_ h0 hd hp d N w nw sz u kr dn lf dw, ar_ hd cA 600 (upd F1 i (g i)), ar_ hp cA 300 g] H := hP
        have hD : va_D (va_A [oM_ h0 hd hp d N w nw sz u kr dn lf dw, ar_ hd cA 600 F, ar_ hp cA 300 G] s.heap.size) [oM_ h0 hd hp d N w nw sz u kr dn lf dw, ar_ hd cA 600 (upd F1 i (g i)), ar_ hp cA 300 g] := hD
        refine lv_iinc (v := nI (i + 1)) (lv' := [(1, .int (nI (i + 1))), (0, .ref h0)]) hx hb dX1_format_146 hl (k := 0) rfl (nI_1 _) (by decide) rfl (fun ls hl => ?_)
        refine lv_goto (tgt := 126) hx hb dX1_format_149 (by decide) ?_
        exact ih (i + 1) _ _ H locs ls (by omega) hI (fun x hx9 => by
          by_cases e : x = i
          · subst e; exact pk_us
          · exact (pk_un e).trans (hA1 x (by omega))) (fun x hx9 h9 => (pk_un (by omega)).trans (hA2 x hx9 h9)) hP hD hS (lv_sub hl [0, 1] rfl)
  have loopC : ∀ (n : Nat) (F1 : Nat → Int32) (g : Nat → Int32) (H : Heap) (locs : List Loc) (ls : Array Slot), (n < 2 * N) → (hs_I N w nw n g) → (∀ x, x < 600 → sz ≤ x → F1 x = 0) → va_P (dC, dI) vwCl [oM_ h0 hd hp d N w nw sz u kr dn lf dw, ar_ hd cA 600 F1, ar_ hp cA 300 g] H → va_D (va_A [oM_ h0 hd hp d N w nw sz u kr dn lf dw, ar_ hd cA 600 F, ar_ hp cA 300 G] s.heap.size) [oM_ h0 hd hp d N w nw sz u kr dn lf dw, ar_ hd cA 600 F1, ar_ hp cA 300 g] → va_S (va_A [oM_ h0 hd hp d N w nw sz u kr dn lf dw, ar_ hd cA 600 F, ar_ hp cA 300 G] s.heap.size) s.heap H locs → lv_has ls 2 [(1, .int (nI n)), (0, .ref h0)] → W p l e (headSpec wsX1_format ({ frames := 2, cells := 0, slots := 0, locals := 45 })).room s m ([.ref h0] : List Value).toArray below meth c H locs 0 0 (MQ below (va_Qi (S := hs_S × (Nat → Int32)) (fun r uu => r = 0 ∧ ∃ F9 g, uu = ((F9, 0, F9 (nw + 1 - 1), 0, -1, false), g) ∧ hs_E N w nw sz F9) (hs_B (dC, dI) vwCl [(cA, .int)] (wfM h0 hd hp cA d N w nw sz) (va_A [oM_ h0 hd hp d N w nw sz u kr dn lf dw, ar_ hd cA 600 F, ar_ hp cA 300 G] s.heap.size)) (va_A [oM_ h0 hd hp d N w nw sz u kr dn lf dw, ar_ hd cA 600 F, ar_ hp cA 300 G] s.heap.size)) ([.ref h0] : List Value).toArray s 0 0 (va_A [oM_ h0 hd hp d N w nw sz u kr dn lf dw, ar_ hd cA 600 F, ar_ hp cA 300 G] s.heap.size)) (F0 m 54 ls []) := by
    intro n
    induction n with
    | zero =>
      intro F1 g H locs ls hn3 hI hA2 hP hD hS hl
      refine lv_iload_n hx hb dX1_format_54 rfl (lv_at hl 0 rfl) ?_
      refine hs_zle (tgt := 124) hx hb (by omega) dX1_format_55 (by decide) (fun c1 => ?_) (fun c1 => ?_)
      · refine lv_iconst (v := nI 0) hx hb dX1_format_124 (by decide) ?_
        refine lv_istore_n (lv' := [(1, .int (nI 0)), (0, .ref h0)]) hx hb dX1_format_125 rfl hl (by decide) rfl (fun ls hl => ?_)
        exact loopD sz 0 F1 g H locs ls (by omega) hI (fun x hx9 => absurd hx9 (Nat.not_lt_zero x)) hA2 hP hD hS (lv_sub hl [0, 1] rfl)
      · exact absurd c1 (by omega)
    | succ n ih =>
      intro F1 g H locs ls hn3 hI hA2 hP hD hS hl
      refine lv_iload_n hx hb dX1_format_54 rfl (lv_at hl 0 rfl) ?_
      refine hs_zle (tgt := 124) hx hb (by omega) dX1_format_55 (by decide) (fun c1 => ?_) (fun c1 => ?_)
      · exact absurd c1 (by omega)
      · refine lv_aload_n hx hb dX1_format_58 rfl (lv_at hl 1 rfl) ?_
        refine va_get (D := (dC, dI)) (ci := 1) (v := .ref hp) (C := RX1) (T := TX1) (N := 11) hx hb hts (by decide +kernel) hown hK hP 0 rfl rfl 5 (by decide) (hts (.fieldLink RX1 13 "HashedStoreModel" "goal" "[I") (by decide +kernel)) (fun _ h9 => h9) rfl dX1_format_59 ?_
        refine lv_aload_n hx hb dX1_format_62 rfl (lv_at hl 1 rfl) ?_
        refine lv_iload_n hx hb dX1_format_63 rfl (lv_at hl 0 rfl) ?_
        refine hs_pe (v := nI (nw + (n + 1) - 1)) (va_runV (As := [.int (nI (n + 1))]) (rest := [.ref hp]) ⟨hx, hb, hml, hown, hts⟩ (kX1_node l dC dI h0 hd hp cA d N w nw sz u F1 g kr dn lf dw ok (n + 1)) (cwV 1 hts gX1_format_X1_node rfl rfl rfl (by decide +kernel) ⟨(Nat.le_of_ble_eq_true rfl), (Nat.le_of_ble_eq_true rfl)⟩) (hs_preV (q := (RX1, TX1, 11)) (ci := 1) hK (hP.sub [0] rfl) rfl rfl) rfl rfl hl.1 rfl (lv_room (Nat.le_of_ble_eq_true rfl)) dX1_format_64 ⟨Nat.zero_le _, Nat.zero_le _⟩) hS hP (fun H locs hP hS => ?_)
        refine lv_iload_n hx hb dX1_format_67 rfl (lv_at hl 0 rfl) ?_
        refine lv_aload_n hx hb dX1_format_68 rfl (lv_at hl 1 rfl) ?_
        refine va_get (D := (dC, dI)) (ci := 1) (v := .int (nI N)) (C := RX1) (T := TX1) (N := 11) hx hb hts (by decide +kernel) hown hK hP 0 rfl rfl 1 (by decide) (hts (.fieldLink RX1 23 "HashedStoreModel" "blocks" "I") (by decide +kernel)) (fun _ h9 => h9) rfl dX1_format_69 ?_
        refine hs_clt (tgt := 88) hx hb (by omega) (by omega) dX1_format_72 (by decide) (fun c2 => ?_) (fun c2 => ?_)
        · refine lv_aload_n hx hb dX1_format_88 rfl (lv_at hl 1 rfl) ?_
          refine va_get (D := (dC, dI)) (ci := 1) (v := .ref hp) (C := RX1) (T := TX1) (N := 11) hx hb hts (by decide +kernel) hown hK hP 0 rfl rfl 5 (by decide) (hts (.fieldLink RX1 13 "HashedStoreModel" "goal" "[I") (by decide +kernel)) (fun _ h9 => h9) rfl dX1_format_89 ?_
          refine lv_aload_n hx hb dX1_format_92 rfl (lv_at hl 1 rfl) ?_
          refine lv_iconst (v := nI 2) hx hb dX1_format_93 (by decide) ?_
          refine lv_iload_n hx hb dX1_format_94 rfl (lv_at hl 0 rfl) ?_
          refine hs_mulN hx hb dX1_format_95 ?_
          refine hs_pe (v := nI (nw + 2 * (n + 1) - 1)) (va_runV (As := [.int (nI (2 * (n + 1)))]) (rest := [.ref hp, .int (nI (nw + (n + 1) - 1)), .ref hp]) ⟨hx, hb, hml, hown, hts⟩ (kX1_node l dC dI h0 hd hp cA d N w nw sz u F1 g kr dn lf dw ok (2 * (n + 1))) (cwV 1 hts gX1_format_X1_node rfl rfl rfl (by decide +kernel) ⟨(Nat.le_of_ble_eq_true rfl), (Nat.le_of_ble_eq_true rfl)⟩) (hs_preV (q := (RX1, TX1, 11)) (ci := 1) hK (hP.sub [0] rfl) rfl rfl) rfl rfl hl.1 rfl (lv_room (Nat.le_of_ble_eq_true rfl)) dX1_format_96 ⟨Nat.zero_le _, Nat.zero_le _⟩) hS hP (fun H locs hP hS => ?_)
          refine hs_ald hx hb hK hP 2 0 rfl rfl (k := nw + 2 * (n + 1) - 1) (by omega) (by omega) dX1_format_99 ?_
          refine lv_aload_n hx hb dX1_format_100 rfl (lv_at hl 1 rfl) ?_
          refine va_get (D := (dC, dI)) (ci := 1) (v := .ref hp) (C := RX1) (T := TX1) (N := 11) hx hb hts (by decide +kernel) hown hK hP 0 rfl rfl 5 (by decide) (hts (.fieldLink RX1 13 "HashedStoreModel" "goal" "[I") (by decide +kernel)) (fun _ h9 => h9) rfl dX1_format_101 ?_
          refine lv_aload_n hx hb dX1_format_104 rfl (lv_at hl 1 rfl) ?_
          refine lv_iconst (v := nI 2) hx hb dX1_format_105 (by decide) ?_
          refine lv_iload_n hx hb dX1_format_106 rfl (lv_at hl 0 rfl) ?_
          refine hs_mulN hx hb dX1_format_107 ?_
          refine lv_iconst (v := nI 1) hx hb dX1_format_108 (by decide) ?_
          refine hs_addN hx hb dX1_format_109 ?_
          refine hs_pe (v := nI (nw + (2 * (n + 1) + 1) - 1)) (va_runV (As := [.int (nI ((2 * (n + 1)) + 1))]) (rest := [.ref hp, .int (g (nw + 2 * (n + 1) - 1)), .int (nI (nw + (n + 1) - 1)), .ref hp]) ⟨hx, hb, hml, hown, hts⟩ (kX1_node l dC dI h0 hd hp cA d N w nw sz u F1 g kr dn lf dw ok (2 * (n + 1) + 1)) (cwV 1 hts gX1_format_X1_node rfl rfl rfl (by decide +kernel) ⟨(Nat.le_of_ble_eq_true rfl), (Nat.le_of_ble_eq_true rfl)⟩) (hs_preV (q := (RX1, TX1, 11)) (ci := 1) hK (hP.sub [0] rfl) rfl rfl) rfl rfl hl.1 rfl (lv_room (Nat.le_of_ble_eq_true rfl)) dX1_format_110 ⟨Nat.zero_le _, Nat.zero_le _⟩) hS hP (fun H locs hP hS => ?_)
          refine hs_ald hx hb hK hP 2 0 rfl rfl (k := nw + (2 * (n + 1) + 1) - 1) (by omega) (by omega) dX1_format_113 ?_
          refine hs_pe (v := hs_mx (g (nw + 2 * (n + 1) - 1)) (g (nw + (2 * (n + 1) + 1) - 1))) (va_runS (As := [.int (g (nw + 2 * (n + 1) - 1)), .int (g (nw + (2 * (n + 1) + 1) - 1))]) (rest := [.int (nI (nw + (n + 1) - 1)), .ref hp]) ⟨hx, hb, hml, hown, hts⟩ (kX1_mix l _ _) (va_cwS 2 hts gX1_format_X1_mix rfl rfl rfl (by decide +kernel) ⟨(Nat.le_of_ble_eq_true rfl), (Nat.le_of_ble_eq_true rfl)⟩) hs_preT rfl rfl hl.1 rfl (lv_room (Nat.le_of_ble_eq_true rfl)) dX1_format_114 ⟨Nat.zero_le _, Nat.zero_le _⟩) hS hP (fun H locs hP hS => ?_)
          refine hs_ast hx hb hK hP hD hS 2 0 rfl rfl (k := nw + (n + 1) - 1) (by omega) (by omega) dX1_format_117 (fun H locs hP hD hS => ?_)
          have hP : va_P (dC, dI) vwCl [oM_ h0 hd hp d N w nw sz u kr dn lf dw, ar_ hd cA 600 F1, ar_ hp cA 300 (upd g (nw + (n + 1) - 1) (hs_mx (g (nw + 2 * (n + 1) - 1)) (g (nw + (2 * (n + 1) + 1) - 1))))] H := hP
          have hD : va_D (va_A [oM_ h0 hd hp d N w nw sz u kr dn lf dw, ar_ hd cA 600 F, ar_ hp cA 300 G] s.heap.size) [oM_ h0 hd hp d N w nw sz u kr dn lf dw, ar_ hd cA 600 F1, ar_ hp cA 300 (upd g (nw + (n + 1) - 1) (hs_mx (g (nw + 2 * (n + 1) - 1)) (g (nw + (2 * (n + 1) + 1) - 1))))] := hD
          refine lv_iinc (v := nI n) (lv' := [(1, .int (nI n)), (0, .ref h0)]) hx hb dX1_format_118 hl (k := 0) rfl (pk_m1 _) (by decide) rfl (fun ls hl => ?_)
          refine lv_goto (tgt := 54) hx hb dX1_format_121 (by decide) ?_
          exact ih _ _ H locs ls (by omega) (hs_I_s ok hI (by omega) (fun b hb => by omega) (fun _ => rfl)) hA2 hP hD hS (lv_sub hl [0, 1] rfl)
        · refine lv_aload_n hx hb dX1_format_75 rfl (lv_at hl 1 rfl) ?_
          refine lv_iload_n hx hb dX1_format_76 rfl (lv_at hl 0 rfl) ?_
          refine lv_aload_n hx hb dX1_format_77 rfl (lv_at hl 1 rfl) ?_
          refine va_get (D := (dC, dI)) (ci := 1) (v := .int (nI N)) (C := RX1) (T := TX1) (N := 11) hx hb hts (by decide +kernel) hown hK hP 0 rfl rfl 1 (by decide) (hts (.fieldLink RX1 23 "HashedStoreModel" "blocks" "I") (by decide +kernel)) (fun _ h9 => h9) rfl dX1_format_78 ?_
          refine hs_subN hx hb (by omega) dX1_format_81 ?_
          refine hs_pe (v := hs_bl g w ((n + 1 - N) * w) (nI (n + 1 - N))) (va_runV (As := [.int (nI ((n + 1) - N))]) (rest := [.int (nI (nw + (n + 1) - 1)), .ref hp]) ⟨hx, hb, hml, hown, hts⟩ (kX1_hash l dC dI h0 hd hp cA d N w nw sz u F1 g kr dn lf dw ok (n + 1 - N) (by omega)) (cwV 1 hts gX1_format_X1_hash rfl rfl rfl (by decide +kernel) ⟨(Nat.le_of_ble_eq_true rfl), (Nat.le_of_ble_eq_true rfl)⟩) (hs_preV (q := (RX1, TX1, 11)) (ci := 1) hK (hP.sub [0, 2] rfl) rfl rfl) rfl rfl hl.1 rfl (lv_room (Nat.le_of_ble_eq_true rfl)) dX1_format_82 ⟨Nat.zero_le _, Nat.zero_le _⟩) hS hP (fun H locs hP hS => ?_)
          refine lv_goto (tgt := 117) hx hb dX1_format_85 (by decide) ?_
          refine hs_ast hx hb hK hP hD hS 2 0 rfl rfl (k := nw + (n + 1) - 1) (by omega) (by omega) dX1_format_117 (fun H locs hP hD hS => ?_)
          have hP : va_P (dC, dI) vwCl [oM_ h0 hd hp d N w nw sz u kr dn lf dw, ar_ hd cA 600 F1, ar_ hp cA 300 (upd g (nw + (n + 1) - 1) (hs_bl g w ((n + 1 - N) * w) (nI (n + 1 - N))))] H := hP
          have hD : va_D (va_A [oM_ h0 hd hp d N w nw sz u kr dn lf dw, ar_ hd cA 600 F, ar_ hp cA 300 G] s.heap.size) [oM_ h0 hd hp d N w nw sz u kr dn lf dw, ar_ hd cA 600 F1, ar_ hp cA 300 (upd g (nw + (n + 1) - 1) (hs_bl g w ((n + 1 - N) * w) (nI (n + 1 - N))))] := hD
          refine lv_iinc (v := nI n) (lv' := [(1, .int (nI n)), (0, .ref h0)]) hx hb dX1_format_118 hl (k := 0) rfl (pk_m1 _) (by decide) rfl (fun ls hl => ?_)
          refine lv_goto (tgt := 54) hx hb dX1_format_121 (by decide) ?_
          exact ih _ _ H locs ls (by omega) (hs_I_s ok hI (by omega) (fun b hb => by rw [show n + 1 - N = b by omega]) (fun h9 => absurd h9 (by omega))) hA2 hP hD hS (lv_sub hl [0, 1] rfl)
  have loopB : ∀ (n : Nat) (i : Nat) (F1 : Nat → Int32) (g : Nat → Int32) (H : Heap) (locs : List Loc) (ls : Array Slot), (i + n = sz) → (∀ x, x < i → g x = 0) → (∀ x, x < 600 → sz ≤ x → F1 x = 0) → va_P (dC, dI) vwCl [oM_ h0 hd hp d N w nw sz u kr dn lf dw, ar_ hd cA 600 F1, ar_ hp cA 300 g] H → va_D (va_A [oM_ h0 hd hp d N w nw sz u kr dn lf dw, ar_ hd cA 600 F, ar_ hp cA 300 G] s.heap.size) [oM_ h0 hd hp d N w nw sz u kr dn lf dw, ar_ hd cA 600 F1, ar_ hp cA 300 g] → va_S (va_A [oM_ h0 hd hp d N w nw sz u kr dn lf dw, ar_ hd cA 600 F, ar_ hp cA 300 G] s.heap.size) s.heap H locs → lv_has ls 2 [(1, .int (nI i)), (0, .ref h0)] → W p l e (headSpec wsX1_format ({ frames := 2, cells := 0, slots := 0, locals := 45 })).room s m ([.ref h0] : List Value).toArray below meth c H locs 0 0 (MQ below (va_Qi (S := hs_S × (Nat → Int32)) (fun r uu => r = 0 ∧ ∃ F9 g, uu = ((F9, 0, F9 (nw + 1 - 1), 0, -1, false), g) ∧ hs_E N w nw sz F9) (hs_B (dC, dI) vwCl [(cA, .int)] (wfM h0 hd hp cA d N w nw sz) (va_A [oM_ h0 hd hp d N w nw sz u kr dn lf dw, ar_ hd cA 600 F, ar_ hp cA 300 G] s.heap.size)) (va_A [oM_ h0 hd hp d N w nw sz u kr dn lf dw, ar_ hd cA 600 F, ar_ hp cA 300 G] s.heap.size)) ([.ref h0] : List Value).toArray s 0 0 (va_A [oM_ h0 hd hp d N w nw sz u kr dn lf dw, ar_ hd cA 600 F, ar_ hp cA 300 G] s.heap.size)) (F0 m 24 ls []) := by
    intro n
    induction n with
    | zero =>
      intro i F1 g H locs ls hi hg hA2 hP hD hS hl
      refine lv_iload_n hx hb dX1_format_24 rfl (lv_at hl 0 rfl) ?_
      refine lv_aload_n hx hb dX1_format_25 rfl (lv_at hl 1 rfl) ?_
      refine va_get (D := (dC, dI)) (ci := 1) (v := .int (nI sz)) (C := RX1) (T := TX1) (N := 11) hx hb hts (by decide +kernel) hown hK hP 0 rfl rfl 3 (by decide) (hts (.fieldLink RX1 29 "HashedStoreModel" "size" "I") (by decide +kernel)) (fun _ h9 => h9) rfl dX1_format_26 ?_
      refine hs_cge (tgt := 45) hx hb (by omega) (by omega) dX1_format_29 (by decide) (fun c1 => ?_) (fun c1 => ?_)
      · refine lv_iconst (v := nI 2) hx hb dX1_format_45 (by decide) ?_
        refine lv_aload_n hx hb dX1_format_46 rfl (lv_at hl 1 rfl) ?_
        refine va_get (D := (dC, dI)) (ci := 1) (v := .int (nI N)) (C := RX1) (T := TX1) (N := 11) hx hb hts (by decide +kernel) hown hK hP 0 rfl rfl 1 (by decide) (hts (.fieldLink RX1 23 "HashedStoreModel" "blocks" "I") (by decide +kernel)) (fun _ h9 => h9) rfl dX1_format_47 ?_
        refine hs_mulN hx hb dX1_format_50 ?_
        refine lv_iconst (v := nI 1) hx hb dX1_format_51 (by decide) ?_
        refine hs_subN hx hb (by omega) dX1_format_52 ?_
        refine lv_istore_n (lv' := [(1, .int (nI ((2 * N) - 1))), (0, .ref h0)]) hx hb dX1_format_53 rfl hl (by decide) rfl (fun ls hl => ?_)
        exact loopC (2 * N - 1) F1 g H locs ls (by omega) ⟨fun x hx9 => hg x (by omega), fun b hb h9 => by omega, fun k h1 h2 h3 => by omega⟩ hA2 hP hD hS (lv_sub hl [0, 1] rfl)
      · exact absurd c1 (by omega)
    | succ n ih =>
      intro i F1 g H locs ls hi hg hA2 hP hD hS hl
      refine lv_iload_n hx hb dX1_format_24 rfl (lv_at hl 0 rfl) ?_
      refine lv_aload_n hx hb dX1_format_25 rfl (lv_at hl 1 rfl) ?_
      refine va_get (D := (dC, dI)) (ci := 1) (v := .int (nI sz)) (C := RX1) (T := TX1) (N := 11) hx hb hts (by decide +kernel) hown hK hP 0 rfl rfl 3 (by decide) (hts (.fieldLink RX1 29 "HashedStoreModel" "size" "I") (by decide +kernel)) (fun _ h9 => h9) rfl dX1_format_26 ?_
      refine hs_cge (tgt := 45) hx hb (by omega) (by omega) dX1_format_29 (by decide) (fun c1 => ?_) (fun c1 => ?_)
      · exact absurd c1 (by omega)
      · refine lv_aload_n hx hb dX1_format_32 rfl (lv_at hl 1 rfl) ?_
        refine va_get (D := (dC, dI)) (ci := 1) (v := .ref hp) (C := RX1) (T := TX1) (N := 11) hx hb hts (by decide +kernel) hown hK hP 0 rfl rfl 5 (by decide) (hts (.fieldLink RX1 13 "HashedStoreModel" "goal" "[I") (by decide +kernel)) (fun _ h9 => h9) rfl dX1_format_33 ?_
        refine lv_iload_n hx hb dX1_format_36 rfl (lv_at hl 0 rfl) ?_
        refine lv_iconst (v := nI 0) hx hb dX1_format_37 (by decide) ?_
        refine hs_ast hx hb hK hP hD hS 2 0 rfl rfl (k := i) (by omega) (by omega) dX1_format_38 (fun H locs hP hD hS => ?_)
        have hP : va_P (dC, dI) vwCl [oM_ h0 hd hp d N w nw sz u kr dn lf dw, ar_ hd cA 600 F1, ar_ hp cA 300 (upd g i (nI 0))] H := hP
        have hD : va_D (va_A [oM_ h0 hd hp d N w nw sz u kr dn lf dw, ar_ hd cA 600 F, ar_ hp cA 300 G] s.heap.size) [oM_ h0 hd hp d N w nw sz u kr dn lf dw, ar_ hd cA 600 F1, ar_ hp cA 300 (upd g i (nI 0))] := hD
        refine lv_iinc (v := nI (i + 1)) (lv' := [(1, .int (nI (i + 1))), (0, .ref h0)]) hx hb dX1_format_39 hl (k := 0) rfl (nI_1 _) (by decide) rfl (fun ls hl => ?_)
        refine lv_goto (tgt := 24) hx hb dX1_format_42 (by decide) ?_
        exact ih (i + 1) _ _ H locs ls (by omega) (fun x hx9 => by
          by_cases e : x = i
          · subst e; exact pk_us.trans nI_0
          · exact (pk_un e).trans (hg x (by omega))) hA2 hP hD hS (lv_sub hl [0, 1] rfl)
  refine lv_iconst (v := nI 0) hx hb dX1_format_0 (by decide) ?_
  refine lv_istore_n (lv' := [(1, .int (nI 0)), (0, .ref h0)]) hx hb dX1_format_1 rfl hl (by decide) rfl (fun ls hl => ?_)
  have loopA : ∀ (n : Nat) (i : Nat) (F1 : Nat → Int32) (H : Heap) (locs : List Loc) (ls : Array Slot), (i + n = 600) → (∀ x, x < i → F1 x = 0) → va_P (dC, dI) vwCl [oM_ h0 hd hp d N w nw sz u kr dn lf dw, ar_ hd cA 600 F1, ar_ hp cA 300 G] H → va_D (va_A [oM_ h0 hd hp d N w nw sz u kr dn lf dw, ar_ hd cA 600 F, ar_ hp cA 300 G] s.heap.size) [oM_ h0 hd hp d N w nw sz u kr dn lf dw, ar_ hd cA 600 F1, ar_ hp cA 300 G] → va_S (va_A [oM_ h0 hd hp d N w nw sz u kr dn lf dw, ar_ hd cA 600 F, ar_ hp cA 300 G] s.heap.size) s.heap H locs → lv_has ls 2 [(1, .int (nI i)), (0, .ref h0)] → W p l e (headSpec wsX1_format ({ frames := 2, cells := 0, slots := 0, locals := 45 })).room s m ([.ref h0] : List Value).toArray below meth c H locs 0 0 (MQ below (va_Qi (S := hs_S × (Nat → Int32)) (fun r uu => r = 0 ∧ ∃ F9 g, uu = ((F9, 0, F9 (nw + 1 - 1), 0, -1, false), g) ∧ hs_E N w nw sz F9) (hs_B (dC, dI) vwCl [(cA, .int)] (wfM h0 hd hp cA d N w nw sz) (va_A [oM_ h0 hd hp d N w nw sz u kr dn lf dw, ar_ hd cA 600 F, ar_ hp cA 300 G] s.heap.size)) (va_A [oM_ h0 hd hp d N w nw sz u kr dn lf dw, ar_ hd cA 600 F, ar_ hp cA 300 G] s.heap.size)) ([.ref h0] : List Value).toArray s 0 0 (va_A [oM_ h0 hd hp d N w nw sz u kr dn lf dw, ar_ hd cA 600 F, ar_ hp cA 300 G] s.heap.size)) (F0 m 2 ls []) := by
    intro n
    induction n with
    | zero =>
      intro i F1 H locs ls hi hg hP hD hS hl
      refine lv_iload_n hx hb dX1_format_2 rfl (lv_at hl 0 rfl) ?_
      refine lv_sipush (v := nI 600) hx hb dX1_format_3 (by decide) ?_
      refine hs_cge (tgt := 22) hx hb (by omega) (by omega) dX1_format_6 (by decide) (fun c1 => ?_) (fun c1 => ?_)
      · refine lv_iconst (v := nI 0) hx hb dX1_format_22 (by decide) ?_
        refine lv_istore_n (lv' := [(1, .int (nI 0)), (0, .ref h0)]) hx hb dX1_format_23 rfl hl (by decide) rfl (fun ls hl => ?_)
        exact loopB sz 0 F1 G H locs ls (by omega) (fun x hx9 => absurd hx9 (Nat.not_lt_zero x)) (fun x hx9 _ => hg x (by omega)) hP hD hS (lv_sub hl [0, 1] rfl)
      · exact absurd c1 (by omega)
    | succ n ih =>
      intro i F1 H locs ls hi hg hP hD hS hl
      refine lv_iload_n hx hb dX1_format_2 rfl (lv_at hl 0 rfl) ?_
      refine lv_sipush (v := nI 600) hx hb dX1_format_3 (by decide) ?_
      refine hs_cge (tgt := 22) hx hb (by omega) (by omega) dX1_format_6 (by decide) (fun c1 => ?_) (fun c1 => ?_)
      · exact absurd c1 (by omega)
      · refine lv_aload_n hx hb dX1_format_9 rfl (lv_at hl 1 rfl) ?_
        refine va_get (D := (dC, dI)) (ci := 1) (v := .ref hd) (C := RX1) (T := TX1) (N := 11) hx hb hts (by decide +kernel) hown hK hP 0 rfl rfl 4 (by decide) (hts (.fieldLink RX1 7 "HashedStoreModel" "disk" "[I") (by decide +kernel)) (fun _ h9 => h9) rfl dX1_format_10 ?_
        refine lv_iload_n hx hb dX1_format_13 rfl (lv_at hl 0 rfl) ?_
        refine lv_iconst (v := nI 0) hx hb dX1_format_14 (by decide) ?_
        refine hs_ast hx hb hK hP hD hS 1 0 rfl rfl (k := i) (by omega) (by omega) dX1_format_15 (fun H locs hP hD hS => ?_)
        have hP : va_P (dC, dI) vwCl [oM_ h0 hd hp d N w nw sz u kr dn lf dw, ar_ hd cA 600 (upd F1 i (nI 0)), ar_ hp cA 300 G] H := hP
        have hD : va_D (va_A [oM_ h0 hd hp d N w nw sz u kr dn lf dw, ar_ hd cA 600 F, ar_ hp cA 300 G] s.heap.size) [oM_ h0 hd hp d N w nw sz u kr dn lf dw, ar_ hd cA 600 (upd F1 i (nI 0)), ar_ hp cA 300 G] := hD
        refine lv_iinc (v := nI (i + 1)) (lv' := [(1, .int (nI (i + 1))), (0, .ref h0)]) hx hb dX1_format_16 hl (k := 0) rfl (nI_1 _) (by decide) rfl (fun ls hl => ?_)
        refine lv_goto (tgt := 2) hx hb dX1_format_19 (by decide) ?_
        exact ih (i + 1) _ H locs ls (by omega) (fun x hx9 => by
          by_cases e : x = i
          · subst e; exact pk_us.trans nI_0
          · exact (pk_un e).trans (hg x (by omega))) hP hD hS (lv_sub hl [0, 1] rfl)
  exact loopA 600 0 F _ _ ls (by omega) (fun x hx9 => absurd hx9 (Nat.not_lt_zero x)) hP hD hS (lv_sub hl [0, 1] rfl)
