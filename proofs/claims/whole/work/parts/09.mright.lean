set_option maxHeartbeats 4000000 in
set_option maxRecDepth 100000 in
theorem kX1_way_f (l : Launch) (dC : Nat → ClassId) (dI : Nat → Nat → Nat) (h0 hd hp : Nat) (cA : ClassId) (d N w nw sz u : Nat) (F G : Nat → Int32) (kr dn lf : Int32) (dw : Bool) (ok : hs_ok d N w nw sz) (j : Nat) (hj : j < N) : Met l yX1_way wsX1_way ({ frames := 2, cells := 0, slots := 0, locals := 45 }) (va_Pc [.ref h0, .int (nI j), .int (hs_b false)] (hs_pr (dC, dI) vwCl [(cA, .int)] [oM_ h0 hd hp d N w nw sz u kr dn lf dw, ar_ hp cA 300 G])) (hs_Qp (fun r => r = hs_up nw G d (N + j) (hs_bl G w (j * w) (nI j)))) 0 0 (fun _ => False) := by
  refine Met.ofW (cc := cX1_way) (maxL := 6) (ret := (some .int)) (by decide) rfl ?_
  intro p e s m args below meth c s₁ B hml hv
  obtain ⟨rfl, hP, hK⟩ := hv
  have hx := B.exec
  have hb := B.bytes
  have hr := B.returns
  have hts := atoms_spec (ws := wsX1_way) B.pre
  have hown : s.vm.findClass RX1 = some m.cls := findClass_of_methodNamed B.named
  have hlocks := B.notSynchronized
  obtain ⟨hd5, hN1, hN2, hw1, hw2, hn1, hn2, hsz, hsz2⟩ := hs_okf ok
  have hnw : nw = N * w := ok.2.2.2.2.1
  have hS : va_S (fun _ => False) s.heap s.heap [] := va_S.rf
  have hl := lv_entry ([.ref h0, .int (nI j), .int (hs_b false)]) (n := 6) (Nat.le_of_ble_eq_true rfl)
  rw [lg_entry_eq]
  generalize (lg_sl ([.ref h0, .int (nI j), .int (hs_b false)]) ++ List.replicate (6 - (lg_sl ([.ref h0, .int (nI j), .int (hs_b false)])).length) Slot.unset).toArray = ls at hl ⊢
  have hl : lv_has ls 6 [(0, .ref h0), (1, .int (nI j)), (2, .int (hs_b false))] := hl
  have hrow := hs_row ok hj
  refine lv_aload_n hx hb dX1_way_0 rfl (lv_at hl 0 rfl) ?_
  refine lv_iload_n hx hb dX1_way_1 rfl (lv_at hl 1 rfl) ?_
  refine hs_pe (v := hs_bl G w (j * w) (nI j)) (va_runV (As := [.int (nI j)]) (rest := []) ⟨hx, hb, hml, hown, hts⟩ (kX1_hash l dC dI h0 hd hp cA d N w nw sz u F G kr dn lf dw ok j hj) (cwV 1 hts gX1_way_X1_hash rfl rfl rfl (by decide +kernel) ⟨(Nat.le_of_ble_eq_true rfl), (Nat.le_of_ble_eq_true rfl)⟩) (hs_preV (q := (RX1, TX1, 11)) (ci := 1) hK hP rfl rfl) rfl rfl hl.1 rfl (lv_room (Nat.le_of_ble_eq_true rfl)) dX1_way_2 ⟨Nat.zero_le _, Nat.zero_le _⟩) hS hP (fun H locs hP hS => ?_)
  refine lv_istore_n (lv' := [(3, .int (hs_bl G w (j * w) (nI j))), (0, .ref h0), (1, .int (nI j)), (2, .int (hs_b false))]) hx hb dX1_way_5 rfl hl (by decide) rfl (fun ls hl => ?_)
  refine lv_aload_n hx hb dX1_way_6 rfl (lv_at hl 1 rfl) ?_
  refine va_get (D := (dC, dI)) (ci := 1) (v := .int (nI N)) (C := RX1) (T := TX1) (N := 11) hx hb hts (by decide +kernel) hown hK hP 0 rfl rfl 1 (by decide) (hts (.fieldLink RX1 23 "HashedStoreModel" "blocks" "I") (by decide +kernel)) (fun _ h9 => h9) rfl dX1_way_7 ?_
  refine lv_iload_n hx hb dX1_way_10 rfl (lv_at hl 2 rfl) ?_
  refine hs_addN hx hb dX1_way_11 ?_
  refine lv_istore (lv' := [(4, .int (nI (N + j))), (3, .int (hs_bl G w (j * w) (nI j))), (0, .ref h0), (1, .int (nI j)), (2, .int (hs_b false))]) hx hb dX1_way_12 hl (by decide) rfl (fun ls hl => ?_)
  have loop : ∀ (n : Nat) (kk : Nat) (h : Int32) (H : Heap) (locs : List Loc) (ls : Array Slot), (hs_lv n kk) → (kk < 2 * N) → (hs_up nw G n kk h = hs_up nw G d (N + j) (hs_bl G w (j * w) (nI j))) → va_P (dC, dI) vwCl [oM_ h0 hd hp d N w nw sz u kr dn lf dw, ar_ hp cA 300 G] H → va_S (fun _ => False) s.heap H locs → lv_has ls 6 [(4, .int (nI kk)), (3, .int h), (0, .ref h0), (1, .int (nI j)), (2, .int (hs_b false))] → W p l e (headSpec wsX1_way ({ frames := 2, cells := 0, slots := 0, locals := 45 })).room s m ([.ref h0, .int (nI j), .int (hs_b false)] : List Value).toArray below meth c H locs 0 0 (MQ below (hs_Qp (fun r => r = hs_up nw G d (N + j) (hs_bl G w (j * w) (nI j)))) ([.ref h0, .int (nI j), .int (hs_b false)] : List Value).toArray s 0 0 (fun _ => False)) (F0 m 14 ls []) := by
    intro n
    induction n with
    | zero =>
      intro kk h H locs ls hlv hk2 he hP hS hl
      have hk1 := hs_lv_0 hlv
      subst hk1
      refine lv_iload hx hb dX1_way_14 (lv_at hl 0 rfl) ?_
      refine hs_zle (tgt := 102) hx hb (by omega) dX1_way_16 (by decide) (fun c1 => ?_) (fun c1 => ?_)
      · exact absurd c1 (by omega)
      · refine lv_iload_n hx hb dX1_way_19 rfl (lv_at hl 4 rfl) ?_
        refine hs_beq (tgt := 35) hx hb dX1_way_20 (by decide) (fun c2 => ?_) (fun c2 => ?_)
        · refine lv_iload hx hb dX1_way_35 (lv_at hl 0 rfl) ?_
          refine lv_iconst (v := nI 1) hx hb dX1_way_37 (by decide) ?_
          refine hs_cle (tgt := 93) hx hb (by omega) (by omega) dX1_way_38 (by decide) (fun c3 => ?_) (fun c3 => ?_)
          · refine lv_iload hx hb dX1_way_93 (lv_at hl 0 rfl) ?_
            refine lv_iconst (v := nI 2) hx hb dX1_way_95 (by decide) ?_
            refine hs_divN hx hb (by omega) (by omega) (by omega) dX1_way_96 ?_
            refine lv_istore (lv' := [(4, .int (nI (1 / 2))), (3, .int h), (0, .ref h0), (1, .int (nI j)), (2, .int (hs_b false))]) hx hb dX1_way_97 hl (by decide) rfl (fun ls hl => ?_)
            refine lv_goto (tgt := 14) hx hb dX1_way_99 (by decide) ?_
            refine lv_iload hx hb dX1_way_14 (lv_at hl 0 rfl) ?_
            refine hs_zle (tgt := 102) hx hb (by omega) dX1_way_16 (by decide) (fun c4 => ?_) (fun c4 => ?_)
            · refine lv_iload_n hx hb dX1_way_102 rfl (lv_at hl 1 rfl) ?_
              exact W.iret (v := h) hx hb hr (fun t ht hW => ⟨⟨h, (), rfl, he, trivial⟩, hS.F ht⟩) hS.2.2 dX1_way_103
            · exact absurd c4 (by omega)
          · exact absurd c3 (by omega)
        · exact absurd c2 (by decide)
    | succ n ih =>
      intro kk h H locs ls hlv hk2 he hP hS hl
      obtain ⟨hlv1, hk1⟩ := hs_lv_s hlv
      refine lv_iload hx hb dX1_way_14 (lv_at hl 0 rfl) ?_
      refine hs_zle (tgt := 102) hx hb (by omega) dX1_way_16 (by decide) (fun c1 => ?_) (fun c1 => ?_)
      · exact absurd c1 (by omega)
      · refine lv_iload_n hx hb dX1_way_19 rfl (lv_at hl 4 rfl) ?_
        refine hs_beq (tgt := 35) hx hb dX1_way_20 (by decide) (fun c2 => ?_) (fun c2 => ?_)
        · refine lv_iload hx hb dX1_way_35 (lv_at hl 0 rfl) ?_
          refine lv_iconst (v := nI 1) hx hb dX1_way_37 (by decide) ?_
          refine hs_cle (tgt := 93) hx hb (by omega) (by omega) dX1_way_38 (by decide) (fun c3 => ?_) (fun c3 => ?_)
          · exact absurd c3 (by omega)
          · refine lv_aload_n hx hb dX1_way_41 rfl (lv_at hl 2 rfl) ?_
            refine va_get (D := (dC, dI)) (ci := 1) (v := .ref hp) (C := RX1) (T := TX1) (N := 11) hx hb hts (by decide +kernel) hown hK hP 0 rfl rfl 5 (by decide) (hts (.fieldLink RX1 13 "HashedStoreModel" "goal" "[I") (by decide +kernel)) (fun _ h9 => h9) rfl dX1_way_42 ?_
            refine lv_aload_n hx hb dX1_way_45 rfl (lv_at hl 2 rfl) ?_
            refine lv_iload hx hb dX1_way_46 (lv_at hl 0 rfl) ?_
            refine lv_iconst (v := nI 2) hx hb dX1_way_48 (by decide) ?_
            refine hs_remN hx hb (by omega) (by omega) (by omega) dX1_way_49 ?_
            refine hs_zne (tgt := 60) hx hb (by omega) dX1_way_50 (by decide) (fun c4 => ?_) (fun c4 => ?_)
            · refine lv_iload hx hb dX1_way_60 (lv_at hl 0 rfl) ?_
              refine lv_iconst (v := nI 1) hx hb dX1_way_62 (by decide) ?_
              refine hs_subN hx hb (by omega) dX1_way_63 ?_
              refine hs_pe (v := nI (nw + (kk - 1) - 1)) (va_runV (As := [.int (nI (kk - 1))]) (rest := [.ref hp]) ⟨hx, hb, hml, hown, hts⟩ (kX1_node l dC dI h0 hd hp cA d N w nw sz u F G kr dn lf dw ok (kk - 1)) (cwV 1 hts gX1_way_X1_node rfl rfl rfl (by decide +kernel) ⟨(Nat.le_of_ble_eq_true rfl), (Nat.le_of_ble_eq_true rfl)⟩) (hs_preV (q := (RX1, TX1, 11)) (ci := 1) hK (hP.sub [0] rfl) rfl rfl) rfl rfl hl.1 rfl (lv_room (Nat.le_of_ble_eq_true rfl)) dX1_way_64 ⟨Nat.zero_le _, Nat.zero_le _⟩) hS hP (fun H locs hP hS => ?_)
              refine hs_ald hx hb hK hP 1 0 rfl rfl (k := nw + (kk - 1) - 1) (by omega) (by omega) dX1_way_67 ?_
              refine lv_istore (lv' := [(5, .int (G (nw + (kk - 1) - 1))), (4, .int (nI kk)), (3, .int h), (0, .ref h0), (1, .int (nI j)), (2, .int (hs_b false))]) hx hb dX1_way_68 hl (by decide) rfl (fun ls hl => ?_)
              refine lv_iload hx hb dX1_way_70 (lv_at hl 1 rfl) ?_
              refine lv_iconst (v := nI 2) hx hb dX1_way_72 (by decide) ?_
              refine hs_remN hx hb (by omega) (by omega) (by omega) dX1_way_73 ?_
              refine hs_zne (tgt := 86) hx hb (by omega) dX1_way_74 (by decide) (fun c5 => ?_) (fun c5 => ?_)
              · refine lv_iload hx hb dX1_way_86 (lv_at hl 0 rfl) ?_
                refine lv_iload_n hx hb dX1_way_88 rfl (lv_at hl 2 rfl) ?_
                refine hs_pe (v := hs_mx (G (nw + (kk - 1) - 1)) h) (va_runS (As := [.int (G (nw + (kk - 1) - 1)), .int h]) (rest := []) ⟨hx, hb, hml, hown, hts⟩ (kX1_mix l _ _) (va_cwS 2 hts gX1_way_X1_mix rfl rfl rfl (by decide +kernel) ⟨(Nat.le_of_ble_eq_true rfl), (Nat.le_of_ble_eq_true rfl)⟩) hs_preT rfl rfl hl.1 rfl (lv_room (Nat.le_of_ble_eq_true rfl)) dX1_way_89 ⟨Nat.zero_le _, Nat.zero_le _⟩) hS hP (fun H locs hP hS => ?_)
                refine lv_istore_n (lv' := [(3, .int (hs_mx (G (nw + (kk - 1) - 1)) h)), (5, .int (G (nw + (kk - 1) - 1))), (4, .int (nI kk)), (0, .ref h0), (1, .int (nI j)), (2, .int (hs_b false))]) hx hb dX1_way_92 rfl hl (by decide) rfl (fun ls hl => ?_)
                refine lv_iload hx hb dX1_way_93 (lv_at hl 2 rfl) ?_
                refine lv_iconst (v := nI 2) hx hb dX1_way_95 (by decide) ?_
                refine hs_divN hx hb (by omega) (by omega) (by omega) dX1_way_96 ?_
                refine lv_istore (lv' := [(4, .int (nI (kk / 2))), (3, .int (hs_mx (G (nw + (kk - 1) - 1)) h)), (5, .int (G (nw + (kk - 1) - 1))), (0, .ref h0), (1, .int (nI j)), (2, .int (hs_b false))]) hx hb dX1_way_97 hl (by decide) rfl (fun ls hl => ?_)
                refine lv_goto (tgt := 14) hx hb dX1_way_99 (by decide) ?_
                exact ih (kk / 2) _ H locs ls hlv1 (by omega) (by rw [← he]; show _ = hs_up nw _ n (kk / 2) (hs_st nw _ kk h); unfold hs_st; rw [if_neg c4]) hP hS (lv_sub hl [0, 1, 3, 4, 5] rfl)
              · exact absurd c5 c4
            · refine lv_iload hx hb dX1_way_53 (lv_at hl 0 rfl) ?_
              refine lv_iconst (v := nI 1) hx hb dX1_way_55 (by decide) ?_
              refine hs_addN hx hb dX1_way_56 ?_
              refine lv_goto (tgt := 64) hx hb dX1_way_57 (by decide) ?_
              refine hs_pe (v := nI (nw + (kk + 1) - 1)) (va_runV (As := [.int (nI (kk + 1))]) (rest := [.ref hp]) ⟨hx, hb, hml, hown, hts⟩ (kX1_node l dC dI h0 hd hp cA d N w nw sz u F G kr dn lf dw ok (kk + 1)) (cwV 1 hts gX1_way_X1_node rfl rfl rfl (by decide +kernel) ⟨(Nat.le_of_ble_eq_true rfl), (Nat.le_of_ble_eq_true rfl)⟩) (hs_preV (q := (RX1, TX1, 11)) (ci := 1) hK (hP.sub [0] rfl) rfl rfl) rfl rfl hl.1 rfl (lv_room (Nat.le_of_ble_eq_true rfl)) dX1_way_64 ⟨Nat.zero_le _, Nat.zero_le _⟩) hS hP (fun H locs hP hS => ?_)
              refine hs_ald hx hb hK hP 1 0 rfl rfl (k := nw + (kk + 1) - 1) (by omega) (by omega) dX1_way_67 ?_
              refine lv_istore (lv' := [(5, .int (G (nw + (kk + 1) - 1))), (4, .int (nI kk)), (3, .int h), (0, .ref h0), (1, .int (nI j)), (2, .int (hs_b false))]) hx hb dX1_way_68 hl (by decide) rfl (fun ls hl => ?_)
              refine lv_iload hx hb dX1_way_70 (lv_at hl 1 rfl) ?_
              refine lv_iconst (v := nI 2) hx hb dX1_way_72 (by decide) ?_
              refine hs_remN hx hb (by omega) (by omega) (by omega) dX1_way_73 ?_
              refine hs_zne (tgt := 86) hx hb (by omega) dX1_way_74 (by decide) (fun c5 => ?_) (fun c5 => ?_)
              · exact absurd c4 c5
              · refine lv_iload_n hx hb dX1_way_77 rfl (lv_at hl 2 rfl) ?_
                refine lv_iload hx hb dX1_way_78 (lv_at hl 0 rfl) ?_
                refine hs_pe (v := hs_mx h (G (nw + (kk + 1) - 1))) (va_runS (As := [.int h, .int (G (nw + (kk + 1) - 1))]) (rest := []) ⟨hx, hb, hml, hown, hts⟩ (kX1_mix l _ _) (va_cwS 2 hts gX1_way_X1_mix rfl rfl rfl (by decide +kernel) ⟨(Nat.le_of_ble_eq_true rfl), (Nat.le_of_ble_eq_true rfl)⟩) hs_preT rfl rfl hl.1 rfl (lv_room (Nat.le_of_ble_eq_true rfl)) dX1_way_80 ⟨Nat.zero_le _, Nat.zero_le _⟩) hS hP (fun H locs hP hS => ?_)
                refine lv_goto (tgt := 92) hx hb dX1_way_83 (by decide) ?_
                refine lv_istore_n (lv' := [(3, .int (hs_mx h (G (nw + (kk + 1) - 1)))), (5, .int (G (nw + (kk + 1) - 1))), (4, .int (nI kk)), (0, .ref h0), (1, .int (nI j)), (2, .int (hs_b false))]) hx hb dX1_way_92 rfl hl (by decide) rfl (fun ls hl => ?_)
                refine lv_iload hx hb dX1_way_93 (lv_at hl 2 rfl) ?_
                refine lv_iconst (v := nI 2) hx hb dX1_way_95 (by decide) ?_
                refine hs_divN hx hb (by omega) (by omega) (by omega) dX1_way_96 ?_
                refine lv_istore (lv' := [(4, .int (nI (kk / 2))), (3, .int (hs_mx h (G (nw + (kk + 1) - 1)))), (5, .int (G (nw + (kk + 1) - 1))), (0, .ref h0), (1, .int (nI j)), (2, .int (hs_b false))]) hx hb dX1_way_97 hl (by decide) rfl (fun ls hl => ?_)
                refine lv_goto (tgt := 14) hx hb dX1_way_99 (by decide) ?_
                exact ih (kk / 2) _ H locs ls hlv1 (by omega) (by rw [← he]; show _ = hs_up nw _ n (kk / 2) (hs_st nw _ kk h); unfold hs_st; rw [if_pos c4]) hP hS (lv_sub hl [0, 1, 3, 4, 5] rfl)
        · exact absurd c2 (by decide)
  exact loop d (N + j) _ _ _ ls (hs_lv_b ok hj) (by omega) rfl hP hS (lv_sub hl [0, 1, 2, 3, 4] rfl)
set_option maxHeartbeats 4000000 in
set_option maxRecDepth 100000 in
theorem kX1_way_t (l : Launch) (dC : Nat → ClassId) (dI : Nat → Nat → Nat) (h0 hd hp : Nat) (cA : ClassId) (d N w nw sz u : Nat) (F G : Nat → Int32) (kr dn lf : Int32) (dw : Bool) (ok : hs_ok d N w nw sz) (zz : Nat) (j : Nat) (hj : j < N) : Met l yX1_way wsX1_way ({ frames := 2, cells := 0, slots := 0, locals := 45 }) (va_Pc [.ref h0, .int (nI j), .int (hs_b true)] (hs_pm (dC, dI) vwCl [(cA, .int)] [oM_ h0 hd hp d N w nw sz u kr dn lf dw, ar_ hd cA 600 F, ar_ hp cA 300 G] zz)) (va_Qi (S := hs_S × (Nat → Int32)) (fun r uu => r = (hs_pw nw d (N + j) (hs_bl G w (j * w) (nI j)) G).2 ∧ uu = ((F, u, kr, dn, lf, dw), (hs_pw nw d (N + j) (hs_bl G w (j * w) (nI j)) G).1)) (hs_B (dC, dI) vwCl [(cA, .int)] (wfM h0 hd hp cA d N w nw sz) (va_A [oM_ h0 hd hp d N w nw sz u kr dn lf dw, ar_ hd cA 600 F, ar_ hp cA 300 G] zz)) (va_A [oM_ h0 hd hp d N w nw sz u kr dn lf dw, ar_ hd cA 600 F, ar_ hp cA 300 G] zz)) 0 0 (va_A [oM_ h0 hd hp d N w nw sz u kr dn lf dw, ar_ hd cA 600 F, ar_ hp cA 300 G] zz) := by
  refine Met.ofW (cc := cX1_way) (maxL := 6) (ret := (some .int)) (by decide) rfl ?_
  intro p e s m args below meth c s₁ B hml hv
  obtain ⟨rfl, hzz, hP, hK, hD0⟩ := hv
  have hx := B.exec
  have hb := B.bytes
  have hr := B.returns
  have hts := atoms_spec (ws := wsX1_way) B.pre
  have hown : s.vm.findClass RX1 = some m.cls := findClass_of_methodNamed B.named
  have hlocks := B.notSynchronized
  obtain ⟨hd5, hN1, hN2, hw1, hw2, hn1, hn2, hsz, hsz2⟩ := hs_okf ok
  have hnw : nw = N * w := ok.2.2.2.2.1
  subst hzz
  have hD := hD0.self (sz := s.heap.size)
  have hS : va_S (va_A [oM_ h0 hd hp d N w nw sz u kr dn lf dw, ar_ hd cA 600 F, ar_ hp cA 300 G] s.heap.size) s.heap s.heap [] := va_S.rf
  have hA : ∀ q : Nat, s.heap.size ≤ q → va_A [oM_ h0 hd hp d N w nw sz u kr dn lf dw, ar_ hd cA 600 F, ar_ hp cA 300 G] s.heap.size q := fun q h => Or.inr h
  have hl := lv_entry ([.ref h0, .int (nI j), .int (hs_b true)]) (n := 6) (Nat.le_of_ble_eq_true rfl)
  rw [lg_entry_eq]
  generalize (lg_sl ([.ref h0, .int (nI j), .int (hs_b true)]) ++ List.replicate (6 - (lg_sl ([.ref h0, .int (nI j), .int (hs_b true)])).length) Slot.unset).toArray = ls at hl ⊢
  have hl : lv_has ls 6 [(0, .ref h0), (1, .int (nI j)), (2, .int (hs_b true))] := hl
  have hrow := hs_row ok hj
  refine lv_aload_n hx hb dX1_way_0 rfl (lv_at hl 0 rfl) ?_
  refine lv_iload_n hx hb dX1_way_1 rfl (lv_at hl 1 rfl) ?_
  refine hs_pe (v := hs_bl G w (j * w) (nI j)) (va_runV (As := [.int (nI j)]) (rest := []) ⟨hx, hb, hml, hown, hts⟩ (kX1_hash l dC dI h0 hd hp cA d N w nw sz u F G kr dn lf dw ok j hj) (cwV 1 hts gX1_way_X1_hash rfl rfl rfl (by decide +kernel) ⟨(Nat.le_of_ble_eq_true rfl), (Nat.le_of_ble_eq_true rfl)⟩) (hs_preV (q := (RX1, TX1, 11)) (ci := 1) hK (hP.sub [0, 2] rfl) rfl rfl) rfl rfl hl.1 rfl (lv_room (Nat.le_of_ble_eq_true rfl)) dX1_way_2 ⟨Nat.zero_le _, Nat.zero_le _⟩) hS hP (fun H locs hP hS => ?_)
  refine lv_istore_n (lv' := [(3, .int (hs_bl G w (j * w) (nI j))), (0, .ref h0), (1, .int (nI j)), (2, .int (hs_b true))]) hx hb dX1_way_5 rfl hl (by decide) rfl (fun ls hl => ?_)
  refine lv_aload_n hx hb dX1_way_6 rfl (lv_at hl 1 rfl) ?_
  refine va_get (D := (dC, dI)) (ci := 1) (v := .int (nI N)) (C := RX1) (T := TX1) (N := 11) hx hb hts (by decide +kernel) hown hK hP 0 rfl rfl 1 (by decide) (hts (.fieldLink RX1 23 "HashedStoreModel" "blocks" "I") (by decide +kernel)) (fun _ h9 => h9) rfl dX1_way_7 ?_
  refine lv_iload_n hx hb dX1_way_10 rfl (lv_at hl 2 rfl) ?_
  refine hs_addN hx hb dX1_way_11 ?_
  refine lv_istore (lv' := [(4, .int (nI (N + j))), (3, .int (hs_bl G w (j * w) (nI j))), (0, .ref h0), (1, .int (nI j)), (2, .int (hs_b true))]) hx hb dX1_way_12 hl (by decide) rfl (fun ls hl => ?_)
  have loop : ∀ (n : Nat) (kk : Nat) (h : Int32) (g : Nat → Int32) (H : Heap) (locs : List Loc) (ls : Array Slot), (hs_lv n kk) → (kk < 2 * N) → (hs_pw nw n kk h g = (hs_pw nw d (N + j) (hs_bl G w (j * w) (nI j)) G)) → va_P (dC, dI) vwCl [oM_ h0 hd hp d N w nw sz u kr dn lf dw, ar_ hd cA 600 F, ar_ hp cA 300 g] H → va_D (va_A [oM_ h0 hd hp d N w nw sz u kr dn lf dw, ar_ hd cA 600 F, ar_ hp cA 300 G] s.heap.size) [oM_ h0 hd hp d N w nw sz u kr dn lf dw, ar_ hd cA 600 F, ar_ hp cA 300 g] → va_S (va_A [oM_ h0 hd hp d N w nw sz u kr dn lf dw, ar_ hd cA 600 F, ar_ hp cA 300 G] s.heap.size) s.heap H locs → lv_has ls 6 [(4, .int (nI kk)), (3, .int h), (0, .ref h0), (1, .int (nI j)), (2, .int (hs_b true))] → W p l e (headSpec wsX1_way ({ frames := 2, cells := 0, slots := 0, locals := 45 })).room s m ([.ref h0, .int (nI j), .int (hs_b true)] : List Value).toArray below meth c H locs 0 0 (MQ below (va_Qi (S := hs_S × (Nat → Int32)) (fun r uu => r = (hs_pw nw d (N + j) (hs_bl G w (j * w) (nI j)) G).2 ∧ uu = ((F, u, kr, dn, lf, dw), (hs_pw nw d (N + j) (hs_bl G w (j * w) (nI j)) G).1)) (hs_B (dC, dI) vwCl [(cA, .int)] (wfM h0 hd hp cA d N w nw sz) (va_A [oM_ h0 hd hp d N w nw sz u kr dn lf dw, ar_ hd cA 600 F, ar_ hp cA 300 G] s.heap.size)) (va_A [oM_ h0 hd hp d N w nw sz u kr dn lf dw, ar_ hd cA 600 F, ar_ hp cA 300 G] s.heap.size)) ([.ref h0, .int (nI j), .int (hs_b true)] : List Value).toArray s 0 0 (va_A [oM_ h0 hd hp d N w nw sz u kr dn lf dw, ar_ hd cA 600 F, ar_ hp cA 300 G] s.heap.size)) (F0 m 14 ls []) := by
    intro n
    induction n with
    | zero =>
      intro kk h g H locs ls hlv hk2 he hP hD hS hl
      have hk1 := hs_lv_0 hlv
      subst hk1
      refine lv_iload hx hb dX1_way_14 (lv_at hl 0 rfl) ?_
      refine hs_zle (tgt := 102) hx hb (by omega) dX1_way_16 (by decide) (fun c1 => ?_) (fun c1 => ?_)
      · exact absurd c1 (by omega)
      · refine lv_iload_n hx hb dX1_way_19 rfl (lv_at hl 4 rfl) ?_
        refine hs_beq (tgt := 35) hx hb dX1_way_20 (by decide) (fun c2 => ?_) (fun c2 => ?_)
        · exact absurd c2 (by decide)
        · refine lv_aload_n hx hb dX1_way_23 rfl (lv_at hl 2 rfl) ?_
          refine va_get (D := (dC, dI)) (ci := 1) (v := .ref hp) (C := RX1) (T := TX1) (N := 11) hx hb hts (by decide +kernel) hown hK hP 0 rfl rfl 5 (by decide) (hts (.fieldLink RX1 13 "HashedStoreModel" "goal" "[I") (by decide +kernel)) (fun _ h9 => h9) rfl dX1_way_24 ?_
          refine lv_aload_n hx hb dX1_way_27 rfl (lv_at hl 2 rfl) ?_
          refine lv_iload hx hb dX1_way_28 (lv_at hl 0 rfl) ?_
          refine hs_pe (v := nI (nw + 1 - 1)) (va_runV (As := [.int (nI 1)]) (rest := [.ref hp]) ⟨hx, hb, hml, hown, hts⟩ (kX1_node l dC dI h0 hd hp cA d N w nw sz u F g kr dn lf dw ok 1) (cwV 1 hts gX1_way_X1_node rfl rfl rfl (by decide +kernel) ⟨(Nat.le_of_ble_eq_true rfl), (Nat.le_of_ble_eq_true rfl)⟩) (hs_preV (q := (RX1, TX1, 11)) (ci := 1) hK (hP.sub [0] rfl) rfl rfl) rfl rfl hl.1 rfl (lv_room (Nat.le_of_ble_eq_true rfl)) dX1_way_30 ⟨Nat.zero_le _, Nat.zero_le _⟩) hS hP (fun H locs hP hS => ?_)
          refine lv_iload_n hx hb dX1_way_33 rfl (lv_at hl 1 rfl) ?_
          refine hs_ast hx hb hK hP hD hS 2 0 rfl rfl (k := nw + 1 - 1) (by omega) (by omega) dX1_way_34 (fun H locs hP hD hS => ?_)
          have hP : va_P (dC, dI) vwCl [oM_ h0 hd hp d N w nw sz u kr dn lf dw, ar_ hd cA 600 F, ar_ hp cA 300 (upd g (nw + 1 - 1) h)] H := hP
          have hD : va_D (va_A [oM_ h0 hd hp d N w nw sz u kr dn lf dw, ar_ hd cA 600 F, ar_ hp cA 300 G] s.heap.size) [oM_ h0 hd hp d N w nw sz u kr dn lf dw, ar_ hd cA 600 F, ar_ hp cA 300 (upd g (nw + 1 - 1) h)] := hD
          refine lv_iload hx hb dX1_way_35 (lv_at hl 0 rfl) ?_
          refine lv_iconst (v := nI 1) hx hb dX1_way_37 (by decide) ?_
          refine hs_cle (tgt := 93) hx hb (by omega) (by omega) dX1_way_38 (by decide) (fun c3 => ?_) (fun c3 => ?_)
          · refine lv_iload hx hb dX1_way_93 (lv_at hl 0 rfl) ?_
            refine lv_iconst (v := nI 2) hx hb dX1_way_95 (by decide) ?_
            refine hs_divN hx hb (by omega) (by omega) (by omega) dX1_way_96 ?_
            refine lv_istore (lv' := [(4, .int (nI (1 / 2))), (3, .int h), (0, .ref h0), (1, .int (nI j)), (2, .int (hs_b true))]) hx hb dX1_way_97 hl (by decide) rfl (fun ls hl => ?_)
            refine lv_goto (tgt := 14) hx hb dX1_way_99 (by decide) ?_
            refine lv_iload hx hb dX1_way_14 (lv_at hl 0 rfl) ?_
            refine hs_zle (tgt := 102) hx hb (by omega) dX1_way_16 (by decide) (fun c4 => ?_) (fun c4 => ?_)
            · refine lv_iload_n hx hb dX1_way_102 rfl (lv_at hl 1 rfl) ?_
              exact W.iret (v := h) hx hb hr (fun t ht hW => ⟨⟨h, ((F, u, kr, dn, lf, dw), upd g (nw + 1 - 1) h), rfl, (by rw [← he]; exact ⟨rfl, rfl⟩), by rw [ht]; exact hP, va_K.moved hW.alike hK, hD⟩, hS.F ht⟩) hS.2.2 dX1_way_103
            · exact absurd c4 (by omega)
          · exact absurd c3 (by omega)
    | succ n ih =>
      intro kk h g H locs ls hlv hk2 he hP hD hS hl
      obtain ⟨hlv1, hk1⟩ := hs_lv_s hlv
      refine lv_iload hx hb dX1_way_14 (lv_at hl 0 rfl) ?_
      refine hs_zle (tgt := 102) hx hb (by omega) dX1_way_16 (by decide) (fun c1 => ?_) (fun c1 => ?_)
      · exact absurd c1 (by omega)
      · refine lv_iload_n hx hb dX1_way_19 rfl (lv_at hl 4 rfl) ?_
        refine hs_beq (tgt := 35) hx hb dX1_way_20 (by decide) (fun c2 => ?_) (fun c2 => ?_)
        · exact absurd c2 (by decide)
        · refine lv_aload_n hx hb dX1_way_23 rfl (lv_at hl 2 rfl) ?_
          refine va_get (D := (dC, dI)) (ci := 1) (v := .ref hp) (C := RX1) (T := TX1) (N := 11) hx hb hts (by decide +kernel) hown hK hP 0 rfl rfl 5 (by decide) (hts (.fieldLink RX1 13 "HashedStoreModel" "goal" "[I") (by decide +kernel)) (fun _ h9 => h9) rfl dX1_way_24 ?_
          refine lv_aload_n hx hb dX1_way_27 rfl (lv_at hl 2 rfl) ?_
          refine lv_iload hx hb dX1_way_28 (lv_at hl 0 rfl) ?_
          refine hs_pe (v := nI (nw + kk - 1)) (va_runV (As := [.int (nI kk)]) (rest := [.ref hp]) ⟨hx, hb, hml, hown, hts⟩ (kX1_node l dC dI h0 hd hp cA d N w nw sz u F g kr dn lf dw ok kk) (cwV 1 hts gX1_way_X1_node rfl rfl rfl (by decide +kernel) ⟨(Nat.le_of_ble_eq_true rfl), (Nat.le_of_ble_eq_true rfl)⟩) (hs_preV (q := (RX1, TX1, 11)) (ci := 1) hK (hP.sub [0] rfl) rfl rfl) rfl rfl hl.1 rfl (lv_room (Nat.le_of_ble_eq_true rfl)) dX1_way_30 ⟨Nat.zero_le _, Nat.zero_le _⟩) hS hP (fun H locs hP hS => ?_)
          refine lv_iload_n hx hb dX1_way_33 rfl (lv_at hl 1 rfl) ?_
          refine hs_ast hx hb hK hP hD hS 2 0 rfl rfl (k := nw + kk - 1) (by omega) (by omega) dX1_way_34 (fun H locs hP hD hS => ?_)
          have hP : va_P (dC, dI) vwCl [oM_ h0 hd hp d N w nw sz u kr dn lf dw, ar_ hd cA 600 F, ar_ hp cA 300 (upd g (nw + kk - 1) h)] H := hP
          have hD : va_D (va_A [oM_ h0 hd hp d N w nw sz u kr dn lf dw, ar_ hd cA 600 F, ar_ hp cA 300 G] s.heap.size) [oM_ h0 hd hp d N w nw sz u kr dn lf dw, ar_ hd cA 600 F, ar_ hp cA 300 (upd g (nw + kk - 1) h)] := hD
          refine lv_iload hx hb dX1_way_35 (lv_at hl 0 rfl) ?_
          refine lv_iconst (v := nI 1) hx hb dX1_way_37 (by decide) ?_
          refine hs_cle (tgt := 93) hx hb (by omega) (by omega) dX1_way_38 (by decide) (fun c3 => ?_) (fun c3 => ?_)
          · exact absurd c3 (by omega)
          · refine lv_aload_n hx hb dX1_way_41 rfl (lv_at hl 2 rfl) ?_
            refine va_get (D := (dC, dI)) (ci := 1) (v := .ref hp) (C := RX1) (T := TX1) (N := 11) hx hb hts (by decide +kernel) hown hK hP 0 rfl rfl 5 (by decide) (hts (.fieldLink RX1 13 "HashedStoreModel" "goal" "[I") (by decide +kernel)) (fun _ h9 => h9) rfl dX1_way_42 ?_
            refine lv_aload_n hx hb dX1_way_45 rfl (lv_at hl 2 rfl) ?_
            refine lv_iload hx hb dX1_way_46 (lv_at hl 0 rfl) ?_
            refine lv_iconst (v := nI 2) hx hb dX1_way_48 (by decide) ?_
            refine hs_remN hx hb (by omega) (by omega) (by omega) dX1_way_49 ?_
            refine hs_zne (tgt := 60) hx hb (by omega) dX1_way_50 (by decide) (fun c4 => ?_) (fun c4 => ?_)
            · refine lv_iload hx hb dX1_way_60 (lv_at hl 0 rfl) ?_
              refine lv_iconst (v := nI 1) hx hb dX1_way_62 (by decide) ?_
              refine hs_subN hx hb (by omega) dX1_way_63 ?_
              refine hs_pe (v := nI (nw + (kk - 1) - 1)) (va_runV (As := [.int (nI (kk - 1))]) (rest := [.ref hp]) ⟨hx, hb, hml, hown, hts⟩ (kX1_node l dC dI h0 hd hp cA d N w nw sz u F (upd g (nw + kk - 1) h) kr dn lf dw ok (kk - 1)) (cwV 1 hts gX1_way_X1_node rfl rfl rfl (by decide +kernel) ⟨(Nat.le_of_ble_eq_true rfl), (Nat.le_of_ble_eq_true rfl)⟩) (hs_preV (q := (RX1, TX1, 11)) (ci := 1) hK (hP.sub [0] rfl) rfl rfl) rfl rfl hl.1 rfl (lv_room (Nat.le_of_ble_eq_true rfl)) dX1_way_64 ⟨Nat.zero_le _, Nat.zero_le _⟩) hS hP (fun H locs hP hS => ?_)
              refine hs_ald hx hb hK hP 2 0 rfl rfl (k := nw + (kk - 1) - 1) (by omega) (by omega) dX1_way_67 ?_
              refine lv_istore (lv' := [(5, .int ((upd g (nw + kk - 1) h) (nw + (kk - 1) - 1))), (4, .int (nI kk)), (3, .int h), (0, .ref h0), (1, .int (nI j)), (2, .int (hs_b true))]) hx hb dX1_way_68 hl (by decide) rfl (fun ls hl => ?_)
              refine lv_iload hx hb dX1_way_70 (lv_at hl 1 rfl) ?_
              refine lv_iconst (v := nI 2) hx hb dX1_way_72 (by decide) ?_
              refine hs_remN hx hb (by omega) (by omega) (by omega) dX1_way_73 ?_
              refine hs_zne (tgt := 86) hx hb (by omega) dX1_way_74 (by decide) (fun c5 => ?_) (fun c5 => ?_)
              · refine lv_iload hx hb dX1_way_86 (lv_at hl 0 rfl) ?_
                refine lv_iload_n hx hb dX1_way_88 rfl (lv_at hl 2 rfl) ?_
                refine hs_pe (v := hs_mx ((upd g (nw + kk - 1) h) (nw + (kk - 1) - 1)) h) (va_runS (As := [.int ((upd g (nw + kk - 1) h) (nw + (kk - 1) - 1)), .int h]) (rest := []) ⟨hx, hb, hml, hown, hts⟩ (kX1_mix l _ _) (va_cwS 2 hts gX1_way_X1_mix rfl rfl rfl (by decide +kernel) ⟨(Nat.le_of_ble_eq_true rfl), (Nat.le_of_ble_eq_true rfl)⟩) hs_preT rfl rfl hl.1 rfl (lv_room (Nat.le_of_ble_eq_true rfl)) dX1_way_89 ⟨Nat.zero_le _, Nat.zero_le _⟩) hS hP (fun H locs hP hS => ?_)
                refine lv_istore_n (lv' := [(3, .int (hs_mx ((upd g (nw + kk - 1) h) (nw + (kk - 1) - 1)) h)), (5, .int ((upd g (nw + kk - 1) h) (nw + (kk - 1) - 1))), (4, .int (nI kk)), (0, .ref h0), (1, .int (nI j)), (2, .int (hs_b true))]) hx hb dX1_way_92 rfl hl (by decide) rfl (fun ls hl => ?_)
                refine lv_iload hx hb dX1_way_93 (lv_at hl 2 rfl) ?_
                refine lv_iconst (v := nI 2) hx hb dX1_way_95 (by decide) ?_
                refine hs_divN hx hb (by omega) (by omega) (by omega) dX1_way_96 ?_
                refine lv_istore (lv' := [(4, .int (nI (kk / 2))), (3, .int (hs_mx ((upd g (nw + kk - 1) h) (nw + (kk - 1) - 1)) h)), (5, .int ((upd g (nw + kk - 1) h) (nw + (kk - 1) - 1))), (0, .ref h0), (1, .int (nI j)), (2, .int (hs_b true))]) hx hb dX1_way_97 hl (by decide) rfl (fun ls hl => ?_)
                refine lv_goto (tgt := 14) hx hb dX1_way_99 (by decide) ?_
                exact ih (kk / 2) _ _ H locs ls hlv1 (by omega) (by rw [← he]; show _ = hs_pw nw n (kk / 2) (hs_st nw _ kk h) _; unfold hs_st; rw [if_neg c4]) hP hD hS (lv_sub hl [0, 1, 3, 4, 5] rfl)
              · exact absurd c5 c4
            · refine lv_iload hx hb dX1_way_53 (lv_at hl 0 rfl) ?_
              refine lv_iconst (v := nI 1) hx hb dX1_way_55 (by decide) ?_
              refine hs_addN hx hb dX1_way_56 ?_
              refine lv_goto (tgt := 64) hx hb dX1_way_57 (by decide) ?_
              refine hs_pe (v := nI (nw + (kk + 1) - 1)) (va_runV (As := [.int (nI (kk + 1))]) (rest := [.ref hp]) ⟨hx, hb, hml, hown, hts⟩ (kX1_node l dC dI h0 hd hp cA d N w nw sz u F (upd g (nw + kk - 1) h) kr dn lf dw ok (kk + 1)) (cwV 1 hts gX1_way_X1_node rfl rfl rfl (by decide +kernel) ⟨(Nat.le_of_ble_eq_true rfl), (Nat.le_of_ble_eq_true rfl)⟩) (hs_preV (q := (RX1, TX1, 11)) (ci := 1) hK (hP.sub [0] rfl) rfl rfl) rfl rfl hl.1 rfl (lv_room (Nat.le_of_ble_eq_true rfl)) dX1_way_64 ⟨Nat.zero_le _, Nat.zero_le _⟩) hS hP (fun H locs hP hS => ?_)
              refine hs_ald hx hb hK hP 2 0 rfl rfl (k := nw + (kk + 1) - 1) (by omega) (by omega) dX1_way_67 ?_
              refine lv_istore (lv' := [(5, .int ((upd g (nw + kk - 1) h) (nw + (kk + 1) - 1))), (4, .int (nI kk)), (3, .int h), (0, .ref h0), (1, .int (nI j)), (2, .int (hs_b true))]) hx hb dX1_way_68 hl (by decide) rfl (fun ls hl => ?_)
              refine lv_iload hx hb dX1_way_70 (lv_at hl 1 rfl) ?_
              refine lv_iconst (v := nI 2) hx hb dX1_way_72 (by decide) ?_
              refine hs_remN hx hb (by omega) (by omega) (by omega) dX1_way_73 ?_
              refine hs_zne (tgt := 86) hx hb (by omega) dX1_way_74 (by decide) (fun c5 => ?_) (fun c5 => ?_)
              · exact absurd c4 c5
              · refine lv_iload_n hx hb dX1_way_77 rfl (lv_at hl 2 rfl) ?_
                refine lv_iload hx hb dX1_way_78 (lv_at hl 0 rfl) ?_
                refine hs_pe (v := hs_mx h ((upd g (nw + kk - 1) h) (nw + (kk + 1) - 1))) (va_runS (As := [.int h, .int ((upd g (nw + kk - 1) h) (nw + (kk + 1) - 1))]) (rest := []) ⟨hx, hb, hml, hown, hts⟩ (kX1_mix l _ _) (va_cwS 2 hts gX1_way_X1_mix rfl rfl rfl (by decide +kernel) ⟨(Nat.le_of_ble_eq_true rfl), (Nat.le_of_ble_eq_true rfl)⟩) hs_preT rfl rfl hl.1 rfl (lv_room (Nat.le_of_ble_eq_true rfl)) dX1_way_80 ⟨Nat.zero_le _, Nat.zero_le _⟩) hS hP (fun H locs hP hS => ?_)
                refine lv_goto (tgt := 92) hx hb dX1_way_83 (by decide) ?_
                refine lv_istore_n (lv' := [(3, .int (hs_mx h ((upd g (nw + kk - 1) h) (nw + (kk + 1) - 1)))), (5, .int ((upd g (nw + kk - 1) h) (nw + (kk + 1) - 1))), (4, .int (nI kk)), (0, .ref h0), (1, .int (nI j)), (2, .int (hs_b true))]) hx hb dX1_way_92 rfl hl (by decide) rfl (fun ls hl => ?_)
                refine lv_iload hx hb dX1_way_93 (lv_at hl 2 rfl) ?_
                refine lv_iconst (v := nI 2) hx hb dX1_way_95 (by decide) ?_
                refine hs_divN hx hb (by omega) (by omega) (by omega) dX1_way_96 ?_
                refine lv_istore (lv' := [(4, .int (nI (kk / 2))), (3, .int (hs_mx h ((upd g (nw + kk - 1) h) (nw + (kk + 1) - 1)))), (5, .int ((upd g (nw + kk - 1) h) (nw + (kk + 1) - 1))), (0, .ref h0), (1, .int (nI j)), (2, .int (hs_b true))]) hx hb dX1_way_97 hl (by decide) rfl (fun ls hl => ?_)
                refine lv_goto (tgt := 14) hx hb dX1_way_99 (by decide) ?_
                exact ih (kk / 2) _ _ H locs ls hlv1 (by omega) (by rw [← he]; show _ = hs_pw nw n (kk / 2) (hs_st nw _ kk h) _; unfold hs_st; rw [if_pos c4]) hP hD hS (lv_sub hl [0, 1, 3, 4, 5] rfl)
  exact loop d (N + j) _ G _ _ ls (hs_lv_b ok hj) (by omega) rfl hP hD hS (lv_sub hl [0, 1, 2, 3, 4] rfl)
set_option maxHeartbeats 4000000 in
set_option maxRecDepth 100000 in
theorem kX1_isRight (l : Launch) (dC : Nat → ClassId) (dI : Nat → Nat → Nat) (h0 hd hp : Nat) (cA : ClassId) (d N w nw sz u : Nat) (F G : Nat → Int32) (kr dn lf : Int32) (dw : Bool) (ok : hs_ok d N w nw sz) (zz : Nat) (j : Nat) (hj : j < N) (hu : u < 2) : Met l yX1_isRight wsX1_isRight ({ frames := 3, cells := 0, slots := 0, locals := 70 }) (va_Pc [.ref h0, .int (nI j)] (hs_pm (dC, dI) vwCl [(cA, .int)] [oM_ h0 hd hp d N w nw sz u kr dn lf dw, ar_ hd cA 600 F, ar_ hp cA 300 G] zz)) (va_Qi (S := hs_S × (Nat → Int32)) (fun r uu => r = hs_b (hs_rg d N w nw (hs_vw sz F u) kr j) ∧ ∃ g, uu = ((F, u, kr, dn, lf, dw), g) ∧ ∀ x, x < sz → g x = hs_vw sz F u x) (hs_B (dC, dI) vwCl [(cA, .int)] (wfM h0 hd hp cA d N w nw sz) (va_A [oM_ h0 hd hp d N w nw sz u kr dn lf dw, ar_ hd cA 600 F, ar_ hp cA 300 G] zz)) (va_A [oM_ h0 hd hp d N w nw sz u kr dn lf dw, ar_ hd cA 600 F, ar_ hp cA 300 G] zz)) 0 0 (va_A [oM_ h0 hd hp d N w nw sz u kr dn lf dw, ar_ hd cA 600 F, ar_ hp cA 300 G] zz) := by
  refine Met.ofW (cc := cX1_isRight) (maxL := 3) (ret := (some .boolean)) (by decide) rfl ?_
  intro p e s m args below meth c s₁ B hml hv
  obtain ⟨rfl, hzz, hP, hK, hD0⟩ := hv
  have hx := B.exec
  have hb := B.bytes
  have hr := B.returns
  have hts := atoms_spec (ws := wsX1_isRight) B.pre
  have hown : s.vm.findClass RX1 = some m.cls := findClass_of_methodNamed B.named
  have hlocks := B.notSynchronized
  obtain ⟨hd5, hN1, hN2, hw1, hw2, hn1, hn2, hsz, hsz2⟩ := hs_okf ok
  have hnw : nw = N * w := ok.2.2.2.2.1
  subst hzz
  have hD := hD0.self (sz := s.heap.size)
  have hS : va_S (va_A [oM_ h0 hd hp d N w nw sz u kr dn lf dw, ar_ hd cA 600 F, ar_ hp cA 300 G] s.heap.size) s.heap s.heap [] := va_S.rf
  have hA : ∀ q : Nat, s.heap.size ≤ q → va_A [oM_ h0 hd hp d N w nw sz u kr dn lf dw, ar_ hd cA 600 F, ar_ hp cA 300 G] s.heap.size q := fun q h => Or.inr h
  have hl := lv_entry ([.ref h0, .int (nI j)]) (n := 3) (Nat.le_of_ble_eq_true rfl)
  rw [lg_entry_eq]
  generalize (lg_sl ([.ref h0, .int (nI j)]) ++ List.replicate (3 - (lg_sl ([.ref h0, .int (nI j)])).length) Slot.unset).toArray = ls at hl ⊢
  have hl : lv_has ls 3 [(0, .ref h0), (1, .int (nI j))] := hl
  have hrow := hs_row ok hj
  refine lv_aload_n hx hb dX1_isRight_0 rfl (lv_at hl 0 rfl) ?_
  refine hs_cv (va_runV (As := []) (rest := []) ⟨hx, hb, hml, hown, hts⟩ (kX1_toGoal l dC dI h0 hd hp cA d N w nw sz u F G kr dn lf dw ok _ hu) (cwV 0 hts gX1_isRight_X1_toGoal rfl rfl rfl (by decide +kernel) ⟨(Nat.le_of_ble_eq_true rfl), (Nat.le_of_ble_eq_true rfl)⟩) (hs_preM (q := (RX1, TX1, 11)) (ci := 1) hK hP hD rfl rfl) rfl rfl hl.1 rfl (lv_room (Nat.le_of_ble_eq_true rfl)) dX1_isRight_1 ⟨Nat.zero_le _, Nat.zero_le _⟩) hS hD hA (fun v H locs hv hP hD hS => ?_)
  obtain ⟨g, rfl, hg⟩ := hv
  have hP : va_P (dC, dI) vwCl [oM_ h0 hd hp d N w nw sz u kr dn lf dw, ar_ hd cA 600 F, ar_ hp cA 300 g] H := hP
  have hD : va_D (va_A [oM_ h0 hd hp d N w nw sz u kr dn lf dw, ar_ hd cA 600 F, ar_ hp cA 300 G] s.heap.size) [oM_ h0 hd hp d N w nw sz u kr dn lf dw, ar_ hd cA 600 F, ar_ hp cA 300 g] := hD
  refine lv_iconst (v := nI 0) hx hb dX1_isRight_4 (by decide) ?_
  refine lv_istore_n (lv' := [(2, .int (nI 0)), (0, .ref h0), (1, .int (nI j))]) hx hb dX1_isRight_5 rfl hl (by decide) rfl (fun ls hl => ?_)
  have loop : ∀ (n : Nat) (i : Nat) (H : Heap) (locs : List Loc) (ls : Array Slot), (i + n = w) → (hs_ng g n (j * w + i) = hs_ng g w (j * w)) → va_P (dC, dI) vwCl [oM_ h0 hd hp d N w nw sz u kr dn lf dw, ar_ hd cA 600 F, ar_ hp cA 300 g] H → va_D (va_A [oM_ h0 hd hp d N w nw sz u kr dn lf dw, ar_ hd cA 600 F, ar_ hp cA 300 G] s.heap.size) [oM_ h0 hd hp d N w nw sz u kr dn lf dw, ar_ hd cA 600 F, ar_ hp cA 300 g] → va_S (va_A [oM_ h0 hd hp d N w nw sz u kr dn lf dw, ar_ hd cA 600 F, ar_ hp cA 300 G] s.heap.size) s.heap H locs → lv_has ls 3 [(2, .int (nI i)), (0, .ref h0), (1, .int (nI j))] → W p l e (headSpec wsX1_isRight ({ frames := 3, cells := 0, slots := 0, locals := 70 })).room s m ([.ref h0, .int (nI j)] : List Value).toArray below meth c H locs 0 0 (MQ below (va_Qi (S := hs_S × (Nat → Int32)) (fun r uu => r = hs_b (hs_rg d N w nw (hs_vw sz F u) kr j) ∧ ∃ g, uu = ((F, u, kr, dn, lf, dw), g) ∧ ∀ x, x < sz → g x = hs_vw sz F u x) (hs_B (dC, dI) vwCl [(cA, .int)] (wfM h0 hd hp cA d N w nw sz) (va_A [oM_ h0 hd hp d N w nw sz u kr dn lf dw, ar_ hd cA 600 F, ar_ hp cA 300 G] s.heap.size)) (va_A [oM_ h0 hd hp d N w nw sz u kr dn lf dw, ar_ hd cA 600 F, ar_ hp cA 300 G] s.heap.size)) ([.ref h0, .int (nI j)] : List Value).toArray s 0 0 (va_A [oM_ h0 hd hp d N w nw sz u kr dn lf dw, ar_ hd cA 600 F, ar_ hp cA 300 G] s.heap.size)) (F0 m 6 ls []) := by
    intro n
    induction n with
    | zero =>
      intro i H locs ls hi he hP hD hS hl
      refine lv_iload_n hx hb dX1_isRight_6 rfl (lv_at hl 0 rfl) ?_
      refine lv_aload_n hx hb dX1_isRight_7 rfl (lv_at hl 1 rfl) ?_
      refine va_get (D := (dC, dI)) (ci := 1) (v := .int (nI w)) (C := RX1) (T := TX1) (N := 11) hx hb hts (by decide +kernel) hown hK hP 0 rfl rfl 2 (by decide) (hts (.fieldLink RX1 26 "HashedStoreModel" "words" "I") (by decide +kernel)) (fun _ h9 => h9) rfl dX1_isRight_8 ?_
      refine hs_cge (tgt := 38) hx hb (by omega) (by omega) dX1_isRight_11 (by decide) (fun c1 => ?_) (fun c1 => ?_)
      · have hq : hs_ng g w (j * w) = false := he.symm
        refine lv_aload_n hx hb dX1_isRight_38 rfl (lv_at hl 1 rfl) ?_
        refine lv_iload_n hx hb dX1_isRight_39 rfl (lv_at hl 2 rfl) ?_
        refine lv_iconst (v := hs_b false) hx hb dX1_isRight_40 (by decide) ?_
        refine hs_pe (v := hs_rt d N w nw g j) (va_runV (As := [.int (nI j), .int (hs_b false)]) (rest := []) ⟨hx, hb, hml, hown, hts⟩ (kX1_way_f l dC dI h0 hd hp cA d N w nw sz u F g kr dn lf dw ok j hj) (cwV 2 hts gX1_isRight_X1_way rfl rfl rfl (by decide +kernel) ⟨(Nat.le_of_ble_eq_true rfl), (Nat.le_of_ble_eq_true rfl)⟩) (hs_preV (q := (RX1, TX1, 11)) (ci := 1) hK (hP.sub [0, 2] rfl) rfl rfl) rfl rfl hl.1 rfl (lv_room (Nat.le_of_ble_eq_true rfl)) dX1_isRight_41 ⟨Nat.zero_le _, Nat.zero_le _⟩) hS hP (fun H locs hP hS => ?_)
        refine lv_aload_n hx hb dX1_isRight_44 rfl (lv_at hl 1 rfl) ?_
        refine va_get (D := (dC, dI)) (ci := 1) (v := .int kr) (C := RX1) (T := TX1) (N := 11) hx hb hts (by decide +kernel) hown hK hP 0 rfl rfl 7 (by decide) (hts (.fieldLink RX1 52 "HashedStoreModel" "kept" "I") (by decide +kernel)) (fun _ h9 => h9) rfl dX1_isRight_45 ?_
        refine lv_icmp_ne (tgt := 55) hx hb dX1_isRight_48 (by decide) (fun c2 => ?_) (fun c2 => ?_)
        · refine lv_iconst (v := nI 0) hx hb dX1_isRight_55 (by decide) ?_
          exact W.zret (v := nI 0) hx hb hr rfl (fun t ht hW => ⟨⟨nI 0, ((F, u, kr, dn, lf, dw), g), rfl, ⟨by rw [← hs_rg_c ok hj hg]; unfold hs_rg; rw [if_neg (hs_ff hq), decide_eq_false c2]; rfl, g, rfl, hg⟩, by rw [ht]; exact hP, va_K.moved hW.alike hK, hD⟩, hS.F ht⟩) hS.2.2 dX1_isRight_56
        · refine lv_iconst (v := nI 1) hx hb dX1_isRight_51 (by decide) ?_
          refine lv_goto (tgt := 56) hx hb dX1_isRight_52 (by decide) ?_
          exact W.zret (v := nI 1) hx hb hr rfl (fun t ht hW => ⟨⟨nI 1, ((F, u, kr, dn, lf, dw), g), rfl, ⟨by rw [← hs_rg_c ok hj hg]; unfold hs_rg; rw [if_neg (hs_ff hq), decide_eq_true c2]; rfl, g, rfl, hg⟩, by rw [ht]; exact hP, va_K.moved hW.alike hK, hD⟩, hS.F ht⟩) hS.2.2 dX1_isRight_56
      · exact absurd c1 (by omega)
    | succ n ih =>
      intro i H locs ls hi he hP hD hS hl
      refine lv_iload_n hx hb dX1_isRight_6 rfl (lv_at hl 0 rfl) ?_
      refine lv_aload_n hx hb dX1_isRight_7 rfl (lv_at hl 1 rfl) ?_
      refine va_get (D := (dC, dI)) (ci := 1) (v := .int (nI w)) (C := RX1) (T := TX1) (N := 11) hx hb hts (by decide +kernel) hown hK hP 0 rfl rfl 2 (by decide) (hts (.fieldLink RX1 26 "HashedStoreModel" "words" "I") (by decide +kernel)) (fun _ h9 => h9) rfl dX1_isRight_8 ?_
      refine hs_cge (tgt := 38) hx hb (by omega) (by omega) dX1_isRight_11 (by decide) (fun c1 => ?_) (fun c1 => ?_)
      · exact absurd c1 (by omega)
      · refine lv_aload_n hx hb dX1_isRight_14 rfl (lv_at hl 1 rfl) ?_
        refine va_get (D := (dC, dI)) (ci := 1) (v := .ref hp) (C := RX1) (T := TX1) (N := 11) hx hb hts (by decide +kernel) hown hK hP 0 rfl rfl 5 (by decide) (hts (.fieldLink RX1 13 "HashedStoreModel" "goal" "[I") (by decide +kernel)) (fun _ h9 => h9) rfl dX1_isRight_15 ?_
        refine lv_iload_n hx hb dX1_isRight_18 rfl (lv_at hl 2 rfl) ?_
        refine lv_aload_n hx hb dX1_isRight_19 rfl (lv_at hl 1 rfl) ?_
        refine va_get (D := (dC, dI)) (ci := 1) (v := .int (nI w)) (C := RX1) (T := TX1) (N := 11) hx hb hts (by decide +kernel) hown hK hP 0 rfl rfl 2 (by decide) (hts (.fieldLink RX1 26 "HashedStoreModel" "words" "I") (by decide +kernel)) (fun _ h9 => h9) rfl dX1_isRight_20 ?_
        refine hs_mulN hx hb dX1_isRight_23 ?_
        refine lv_iload_n hx hb dX1_isRight_24 rfl (lv_at hl 0 rfl) ?_
        refine hs_addN hx hb dX1_isRight_25 ?_
        refine hs_ald hx hb hK hP 2 0 rfl rfl (k := (j * w) + i) (by omega) (by omega) dX1_isRight_26 ?_
        refine lv_if_ge (tgt := 32) hx hb dX1_isRight_27 (by decide) (fun c2 => ?_) (fun c2 => ?_)
        · refine lv_iinc (v := nI (i + 1)) (lv' := [(2, .int (nI (i + 1))), (0, .ref h0), (1, .int (nI j))]) hx hb dX1_isRight_32 hl (k := 0) rfl (nI_1 _) (by decide) rfl (fun ls hl => ?_)
          refine lv_goto (tgt := 6) hx hb dX1_isRight_35 (by decide) ?_
          exact ih (i + 1) H locs ls (by omega) ((if_neg (Int32.not_lt.mpr c2)).symm.trans he) hP hD hS (lv_sub hl [0, 1, 2] rfl)
        · have hq : hs_ng g w (j * w) = true := he.symm.trans (if_pos (Int32.not_le.mp c2))
          refine lv_iconst (v := nI 0) hx hb dX1_isRight_30 (by decide) ?_
          exact W.zret (v := nI 0) hx hb hr rfl (fun t ht hW => ⟨⟨nI 0, ((F, u, kr, dn, lf, dw), g), rfl, ⟨by rw [← hs_rg_c ok hj hg]; unfold hs_rg; rw [if_pos hq]; rfl, g, rfl, hg⟩, by rw [ht]; exact hP, va_K.moved hW.alike hK, hD⟩, hS.F ht⟩) hS.2.2 dX1_isRight_31
  exact loop w 0 _ _ ls (by omega) rfl hP hD hS (lv_sub hl [0, 1, 2] rfl)
set_option maxHeartbeats 4000000 in
set_option maxRecDepth 100000 in
theorem kX1_put (l : Launch) (dC : Nat → ClassId) (dI : Nat → Nat → Nat) (h0 hd hp : Nat) (cA : ClassId) (d N w nw sz u : Nat) (F G : Nat → Int32) (kr dn lf : Int32) (dw : Bool) (ok : hs_ok d N w nw sz) (zz : Nat) (x : Nat) (hxs : x < sz) (hu : u < 2) (hlo : hs_lo lf) : Met l yX1_put wsX1_put ({ frames := 0, cells := 0, slots := 0, locals := 0 }) (va_Pc [.ref h0, .int (nI x)] (hs_pm (dC, dI) vwCl [(cA, .int)] [oM_ h0 hd hp d N w nw sz u kr dn lf dw, ar_ hd cA 600 F, ar_ hp cA 300 G] zz)) (va_Qi (S := hs_S × (Nat → Int32)) (fun r uu => r = hs_b (hs_put ((1 - u) * sz) G x (F, lf, dn, dw)).2 ∧ uu = (((hs_put ((1 - u) * sz) G x (F, lf, dn, dw)).1.1, u, kr, (hs_put ((1 - u) * sz) G x (F, lf, dn, dw)).1.2.2.1, (hs_put ((1 - u) * sz) G x (F, lf, dn, dw)).1.2.1, (hs_put ((1 - u) * sz) G x (F, lf, dn, dw)).1.2.2.2), G)) (hs_B (dC, dI) vwCl [(cA, .int)] (wfM h0 hd hp cA d N w nw sz) (va_A [oM_ h0 hd hp d N w nw sz u kr dn lf dw, ar_ hd cA 600 F, ar_ hp cA 300 G] zz)) (va_A [oM_ h0 hd hp d N w nw sz u kr dn lf dw, ar_ hd cA 600 F, ar_ hp cA 300 G] zz)) 0 0 (va_A [oM_ h0 hd hp d N w nw sz u kr dn lf dw, ar_ hd cA 600 F, ar_ hp cA 300 G] zz) := by
  refine Met.ofW (cc := cX1_put) (maxL := 3) (ret := (some .boolean)) (by decide) rfl ?_
  intro p e s m args below meth c s₁ B hml hv
  obtain ⟨rfl, hzz, hP, hK, hD0⟩ := hv
  have hx := B.exec
  have hb := B.bytes
  have hr := B.returns
  have hts := atoms_spec (ws := wsX1_put) B.pre
  have hown : s.vm.findClass RX1 = some m.cls := findClass_of_methodNamed B.named
  have hlocks := B.notSynchronized
  obtain ⟨hd5, hN1, hN2, hw1, hw2, hn1, hn2, hsz, hsz2⟩ := hs_okf ok
  have hnw : nw = N * w := ok.2.2.2.2.1
  subst hzz
  have hD := hD0.self (sz := s.heap.size)
  have hS : va_S (va_A [oM_ h0 hd hp d N w nw sz u kr dn lf dw, ar_ hd cA 600 F, ar_ hp cA 300 G] s.heap.size) s.heap s.heap [] := va_S.rf
  have hA : ∀ q : Nat, s.heap.size ≤ q → va_A [oM_ h0 hd hp d N w nw sz u kr dn lf dw, ar_ hd cA 600 F, ar_ hp cA 300 G] s.heap.size q := fun q h => Or.inr h
  have hl := lv_entry ([.ref h0, .int (nI x)]) (n := 3) (Nat.le_of_ble_eq_true rfl)
  rw [lg_entry_eq]
  generalize (lg_sl ([.ref h0, .int (nI x)]) ++ List.replicate (3 - (lg_sl ([.ref h0, .int (nI x)])).length) Slot.unset).toArray = ls at hl ⊢
  have hl : lv_has ls 3 [(0, .ref h0), (1, .int (nI x))] := hl
  have hus : (1 - u) * sz + sz ≤ 2 * sz := hs_us2 (by omega)
  have hcm : sz * (1 - u) = (1 - u) * sz := Nat.mul_comm _ _
  refine lv_aload_n hx hb dX1_put_0 rfl (lv_at hl 0 rfl) ?_
  refine va_get (D := (dC, dI)) (ci := 1) (v := .int (nI sz)) (C := RX1) (T := TX1) (N := 11) hx hb hts (by decide +kernel) hown hK hP 0 rfl rfl 3 (by decide) (hts (.fieldLink RX1 29 "HashedStoreModel" "size" "I") (by decide +kernel)) (fun _ h9 => h9) rfl dX1_put_1 ?_
  refine lv_iconst (v := nI 1) hx hb dX1_put_4 (by decide) ?_
  refine lv_aload_n hx hb dX1_put_5 rfl (lv_at hl 0 rfl) ?_
  refine va_get (D := (dC, dI)) (ci := 1) (v := .int (nI u)) (C := RX1) (T := TX1) (N := 11) hx hb hts (by decide +kernel) hown hK hP 0 rfl rfl 6 (by decide) (hts (.fieldLink RX1 42 "HashedStoreModel" "used" "I") (by decide +kernel)) (fun _ h9 => h9) rfl dX1_put_6 ?_
  refine hs_subN hx hb (by omega) dX1_put_9 ?_
  refine hs_mulN hx hb dX1_put_10 ?_
  refine lv_iload_n hx hb dX1_put_11 rfl (lv_at hl 1 rfl) ?_
  refine hs_addN hx hb dX1_put_12 ?_
  refine lv_istore_n (lv' := [(2, .int (nI ((sz * (1 - u)) + x))), (0, .ref h0), (1, .int (nI x))]) hx hb dX1_put_13 rfl hl (by decide) rfl (fun ls hl => ?_)
  rw [hcm] at hl
  refine lv_aload_n hx hb dX1_put_14 rfl (lv_at hl 1 rfl) ?_
  refine va_get (D := (dC, dI)) (ci := 1) (v := .ref hd) (C := RX1) (T := TX1) (N := 11) hx hb hts (by decide +kernel) hown hK hP 0 rfl rfl 4 (by decide) (hts (.fieldLink RX1 7 "HashedStoreModel" "disk" "[I") (by decide +kernel)) (fun _ h9 => h9) rfl dX1_put_15 ?_
  refine lv_iload_n hx hb dX1_put_18 rfl (lv_at hl 0 rfl) ?_
  refine hs_ald hx hb hK hP 1 0 rfl rfl (k := (1 - u) * sz + x) (by omega) (by omega) dX1_put_19 ?_
  refine lv_aload_n hx hb dX1_put_20 rfl (lv_at hl 1 rfl) ?_
  refine va_get (D := (dC, dI)) (ci := 1) (v := .ref hp) (C := RX1) (T := TX1) (N := 11) hx hb hts (by decide +kernel) hown hK hP 0 rfl rfl 5 (by decide) (hts (.fieldLink RX1 13 "HashedStoreModel" "goal" "[I") (by decide +kernel)) (fun _ h9 => h9) rfl dX1_put_21 ?_
  refine lv_iload_n hx hb dX1_put_24 rfl (lv_at hl 2 rfl) ?_
  refine hs_ald hx hb hK hP 2 0 rfl rfl (k := x) (by omega) (by omega) dX1_put_25 ?_
  refine lv_icmp_ne (tgt := 31) hx hb dX1_put_26 (by decide) (fun c1 => ?_) (fun c1 => ?_)
  · refine lv_aload_n hx hb dX1_put_31 rfl (lv_at hl 1 rfl) ?_
    refine va_get (D := (dC, dI)) (ci := 1) (v := .int lf) (C := RX1) (T := TX1) (N := 11) hx hb hts (by decide +kernel) hown hK hP 0 rfl rfl 9 (by decide) (hts (.fieldLink RX1 16 "HashedStoreModel" "left" "I") (by decide +kernel)) (fun _ h9 => h9) rfl dX1_put_32 ?_
    refine lv_if_ne (tgt := 45) hx hb dX1_put_35 (by decide) (fun c2 => ?_) (fun c2 => ?_)
    · refine lv_aload_n hx hb dX1_put_45 rfl (lv_at hl 1 rfl) ?_
      refine lv_aload_n hx hb dX1_put_46 rfl (lv_at hl 1 rfl) ?_
      refine va_get (D := (dC, dI)) (ci := 1) (v := .int lf) (C := RX1) (T := TX1) (N := 11) hx hb hts (by decide +kernel) hown hK hP 0 rfl rfl 9 (by decide) (hts (.fieldLink RX1 16 "HashedStoreModel" "left" "I") (by decide +kernel)) (fun _ h9 => h9) rfl dX1_put_47 ?_
      refine lv_if_le (tgt := 62) hx hb dX1_put_50 (by decide) (fun c3 => ?_) (fun c3 => ?_)
      · refine lv_aload_n hx hb dX1_put_62 rfl (lv_at hl 1 rfl) ?_
        refine va_get (D := (dC, dI)) (ci := 1) (v := .int lf) (C := RX1) (T := TX1) (N := 11) hx hb hts (by decide +kernel) hown hK hP 0 rfl rfl 9 (by decide) (hts (.fieldLink RX1 16 "HashedStoreModel" "left" "I") (by decide +kernel)) (fun _ h9 => h9) rfl dX1_put_63 ?_
        refine va_put (D := (dC, dI)) (ci := 1) (v := .int lf) (ty := .int) (C := RX1) (T := TX1) (N := 11) hx hb hts (by decide +kernel) tyX1 tyX1_ok nmX1 hown hK hP hD hS 0 rfl rfl 9 (by decide) (hts (.fieldLink RX1 16 "HashedStoreModel" "left" "I") (by decide +kernel)) (fun _ h9 => h9) rfl (by decide +kernel) rfl rfl (Nat.le_of_ble_eq_true rfl) dX1_put_66 (fun H locs hP hD hS => ?_)
        have hP : va_P (dC, dI) vwCl [oM_ h0 hd hp d N w nw sz u kr dn lf dw, ar_ hd cA 600 F, ar_ hp cA 300 G] H := hP
        have hD : va_D (va_A [oM_ h0 hd hp d N w nw sz u kr dn lf dw, ar_ hd cA 600 F, ar_ hp cA 300 G] s.heap.size) [oM_ h0 hd hp d N w nw sz u kr dn lf dw, ar_ hd cA 600 F, ar_ hp cA 300 G] := hD
        refine lv_aload_n hx hb dX1_put_69 rfl (lv_at hl 1 rfl) ?_
        refine va_get (D := (dC, dI)) (ci := 1) (v := .ref hd) (C := RX1) (T := TX1) (N := 11) hx hb hts (by decide +kernel) hown hK hP 0 rfl rfl 4 (by decide) (hts (.fieldLink RX1 7 "HashedStoreModel" "disk" "[I") (by decide +kernel)) (fun _ h9 => h9) rfl dX1_put_70 ?_
        refine lv_iload_n hx hb dX1_put_73 rfl (lv_at hl 0 rfl) ?_
        refine lv_aload_n hx hb dX1_put_74 rfl (lv_at hl 1 rfl) ?_
        refine va_get (D := (dC, dI)) (ci := 1) (v := .ref hp) (C := RX1) (T := TX1) (N := 11) hx hb hts (by decide +kernel) hown hK hP 0 rfl rfl 5 (by decide) (hts (.fieldLink RX1 13 "HashedStoreModel" "goal" "[I") (by decide +kernel)) (fun _ h9 => h9) rfl dX1_put_75 ?_
        refine lv_iload_n hx hb dX1_put_78 rfl (lv_at hl 2 rfl) ?_
        refine hs_ald hx hb hK hP 2 0 rfl rfl (k := x) (by omega) (by omega) dX1_put_79 ?_
        refine hs_ast hx hb hK hP hD hS 1 0 rfl rfl (k := (1 - u) * sz + x) (by omega) (by omega) dX1_put_80 (fun H locs hP hD hS => ?_)
        have hP : va_P (dC, dI) vwCl [oM_ h0 hd hp d N w nw sz u kr dn lf dw, ar_ hd cA 600 (upd F ((1 - u) * sz + x) (G x)), ar_ hp cA 300 G] H := hP
        have hD : va_D (va_A [oM_ h0 hd hp d N w nw sz u kr dn lf dw, ar_ hd cA 600 F, ar_ hp cA 300 G] s.heap.size) [oM_ h0 hd hp d N w nw sz u kr dn lf dw, ar_ hd cA 600 (upd F ((1 - u) * sz + x) (G x)), ar_ hp cA 300 G] := hD
        refine lv_aload_n hx hb dX1_put_81 rfl (lv_at hl 1 rfl) ?_
        refine lv_dup hx hb dX1_put_82 rfl ?_
        refine va_get (D := (dC, dI)) (ci := 1) (v := .int dn) (C := RX1) (T := TX1) (N := 11) hx hb hts (by decide +kernel) hown hK hP 0 rfl rfl 8 (by decide) (hts (.fieldLink RX1 55 "HashedStoreModel" "done" "I") (by decide +kernel)) (fun _ h9 => h9) rfl dX1_put_83 ?_
        refine lv_iconst (v := 1) hx hb dX1_put_86 (by decide) ?_
        refine lv_iadd hx hb dX1_put_87 ?_
        refine va_put (D := (dC, dI)) (ci := 1) (v := .int (dn + 1)) (ty := .int) (C := RX1) (T := TX1) (N := 11) hx hb hts (by decide +kernel) tyX1 tyX1_ok nmX1 hown hK hP hD hS 0 rfl rfl 8 (by decide) (hts (.fieldLink RX1 55 "HashedStoreModel" "done" "I") (by decide +kernel)) (fun _ h9 => h9) rfl (by decide +kernel) rfl rfl (Nat.le_of_ble_eq_true rfl) dX1_put_88 (fun H locs hP hD hS => ?_)
        have hP : va_P (dC, dI) vwCl [oM_ h0 hd hp d N w nw sz u kr (dn + 1) lf dw, ar_ hd cA 600 (upd F ((1 - u) * sz + x) (G x)), ar_ hp cA 300 G] H := hP
        have hD : va_D (va_A [oM_ h0 hd hp d N w nw sz u kr dn lf dw, ar_ hd cA 600 F, ar_ hp cA 300 G] s.heap.size) [oM_ h0 hd hp d N w nw sz u kr (dn + 1) lf dw, ar_ hd cA 600 (upd F ((1 - u) * sz + x) (G x)), ar_ hp cA 300 G] := hD
        refine lv_iconst (v := nI 1) hx hb dX1_put_91 (by decide) ?_
        exact W.zret (v := nI 1) hx hb hr rfl (fun t ht hW => ⟨⟨nI 1, ((upd F ((1 - u) * sz + x) (G x), u, kr, (dn + 1), lf, dw), G), rfl, (by rw [hs_put, if_neg c1, if_neg c2, hs_lf1 hlo c2 c3]; exact ⟨rfl, rfl⟩), by rw [ht]; exact hP, va_K.moved hW.alike hK, hD⟩, hS.F ht⟩) hS.2.2 dX1_put_92
      · refine lv_aload_n hx hb dX1_put_53 rfl (lv_at hl 1 rfl) ?_
        refine va_get (D := (dC, dI)) (ci := 1) (v := .int lf) (C := RX1) (T := TX1) (N := 11) hx hb hts (by decide +kernel) hown hK hP 0 rfl rfl 9 (by decide) (hts (.fieldLink RX1 16 "HashedStoreModel" "left" "I") (by decide +kernel)) (fun _ h9 => h9) rfl dX1_put_54 ?_
        refine lv_iconst (v := nI 1) hx hb dX1_put_57 (by decide) ?_
        refine lv_isub hx hb dX1_put_58 ?_
        refine lv_goto (tgt := 66) hx hb dX1_put_59 (by decide) ?_
        refine va_put (D := (dC, dI)) (ci := 1) (v := .int (lf - (nI 1))) (ty := .int) (C := RX1) (T := TX1) (N := 11) hx hb hts (by decide +kernel) tyX1 tyX1_ok nmX1 hown hK hP hD hS 0 rfl rfl 9 (by decide) (hts (.fieldLink RX1 16 "HashedStoreModel" "left" "I") (by decide +kernel)) (fun _ h9 => h9) rfl (by decide +kernel) rfl rfl (Nat.le_of_ble_eq_true rfl) dX1_put_66 (fun H locs hP hD hS => ?_)
        have hP : va_P (dC, dI) vwCl [oM_ h0 hd hp d N w nw sz u kr dn (lf - (nI 1)) dw, ar_ hd cA 600 F, ar_ hp cA 300 G] H := hP
        have hD : va_D (va_A [oM_ h0 hd hp d N w nw sz u kr dn lf dw, ar_ hd cA 600 F, ar_ hp cA 300 G] s.heap.size) [oM_ h0 hd hp d N w nw sz u kr dn (lf - (nI 1)) dw, ar_ hd cA 600 F, ar_ hp cA 300 G] := hD
        refine lv_aload_n hx hb dX1_put_69 rfl (lv_at hl 1 rfl) ?_
        refine va_get (D := (dC, dI)) (ci := 1) (v := .ref hd) (C := RX1) (T := TX1) (N := 11) hx hb hts (by decide +kernel) hown hK hP 0 rfl rfl 4 (by decide) (hts (.fieldLink RX1 7 "HashedStoreModel" "disk" "[I") (by decide +kernel)) (fun _ h9 => h9) rfl dX1_put_70 ?_
        refine lv_iload_n hx hb dX1_put_73 rfl (lv_at hl 0 rfl) ?_
        refine lv_aload_n hx hb dX1_put_74 rfl (lv_at hl 1 rfl) ?_
        refine va_get (D := (dC, dI)) (ci := 1) (v := .ref hp) (C := RX1) (T := TX1) (N := 11) hx hb hts (by decide +kernel) hown hK hP 0 rfl rfl 5 (by decide) (hts (.fieldLink RX1 13 "HashedStoreModel" "goal" "[I") (by decide +kernel)) (fun _ h9 => h9) rfl dX1_put_75 ?_
        refine lv_iload_n hx hb dX1_put_78 rfl (lv_at hl 2 rfl) ?_
        refine hs_ald hx hb hK hP 2 0 rfl rfl (k := x) (by omega) (by omega) dX1_put_79 ?_
        refine hs_ast hx hb hK hP hD hS 1 0 rfl rfl (k := (1 - u) * sz + x) (by omega) (by omega) dX1_put_80 (fun H locs hP hD hS => ?_)
        have hP : va_P (dC, dI) vwCl [oM_ h0 hd hp d N w nw sz u kr dn (lf - (nI 1)) dw, ar_ hd cA 600 (upd F ((1 - u) * sz + x) (G x)), ar_ hp cA 300 G] H := hP
        have hD : va_D (va_A [oM_ h0 hd hp d N w nw sz u kr dn lf dw, ar_ hd cA 600 F, ar_ hp cA 300 G] s.heap.size) [oM_ h0 hd hp d N w nw sz u kr dn (lf - (nI 1)) dw, ar_ hd cA 600 (upd F ((1 - u) * sz + x) (G x)), ar_ hp cA 300 G] := hD
        refine lv_aload_n hx hb dX1_put_81 rfl (lv_at hl 1 rfl) ?_
        refine lv_dup hx hb dX1_put_82 rfl ?_
        refine va_get (D := (dC, dI)) (ci := 1) (v := .int dn) (C := RX1) (T := TX1) (N := 11) hx hb hts (by decide +kernel) hown hK hP 0 rfl rfl 8 (by decide) (hts (.fieldLink RX1 55 "HashedStoreModel" "done" "I") (by decide +kernel)) (fun _ h9 => h9) rfl dX1_put_83 ?_
        refine lv_iconst (v := 1) hx hb dX1_put_86 (by decide) ?_
        refine lv_iadd hx hb dX1_put_87 ?_
        refine va_put (D := (dC, dI)) (ci := 1) (v := .int (dn + 1)) (ty := .int) (C := RX1) (T := TX1) (N := 11) hx hb hts (by decide +kernel) tyX1 tyX1_ok nmX1 hown hK hP hD hS 0 rfl rfl 8 (by decide) (hts (.fieldLink RX1 55 "HashedStoreModel" "done" "I") (by decide +kernel)) (fun _ h9 => h9) rfl (by decide +kernel) rfl rfl (Nat.le_of_ble_eq_true rfl) dX1_put_88 (fun H locs hP hD hS => ?_)
        have hP : va_P (dC, dI) vwCl [oM_ h0 hd hp d N w nw sz u kr (dn + 1) (lf - (nI 1)) dw, ar_ hd cA 600 (upd F ((1 - u) * sz + x) (G x)), ar_ hp cA 300 G] H := hP
        have hD : va_D (va_A [oM_ h0 hd hp d N w nw sz u kr dn lf dw, ar_ hd cA 600 F, ar_ hp cA 300 G] s.heap.size) [oM_ h0 hd hp d N w nw sz u kr (dn + 1) (lf - (nI 1)) dw, ar_ hd cA 600 (upd F ((1 - u) * sz + x) (G x)), ar_ hp cA 300 G] := hD
        refine lv_iconst (v := nI 1) hx hb dX1_put_91 (by decide) ?_
        exact W.zret (v := nI 1) hx hb hr rfl (fun t ht hW => ⟨⟨nI 1, ((upd F ((1 - u) * sz + x) (G x), u, kr, (dn + 1), (lf - (nI 1)), dw), G), rfl, (by rw [hs_put, if_neg c1, if_neg c2, hs_lf2 c3]; exact ⟨rfl, rfl⟩), by rw [ht]; exact hP, va_K.moved hW.alike hK, hD⟩, hS.F ht⟩) hS.2.2 dX1_put_92
    · refine lv_aload_n hx hb dX1_put_38 rfl (lv_at hl 1 rfl) ?_
      refine lv_iconst (v := hs_b true) hx hb dX1_put_39 (by decide) ?_
      refine va_put (D := (dC, dI)) (ci := 1) (v := .int (hs_b true)) (ty := .boolean) (C := RX1) (T := TX1) (N := 11) hx hb hts (by decide +kernel) tyX1 tyX1_ok nmX1 hown hK hP hD hS 0 rfl rfl 10 (by decide) (hts (.fieldLink RX1 58 "HashedStoreModel" "isDown" "Z") (by decide +kernel)) (fun _ h9 => h9) rfl (by decide +kernel) rfl rfl (Nat.le_of_ble_eq_true rfl) dX1_put_40 (fun H locs hP hD hS => ?_)
      have hP : va_P (dC, dI) vwCl [oM_ h0 hd hp d N w nw sz u kr dn lf true, ar_ hd cA 600 F, ar_ hp cA 300 G] H := hP
      have hD : va_D (va_A [oM_ h0 hd hp d N w nw sz u kr dn lf dw, ar_ hd cA 600 F, ar_ hp cA 300 G] s.heap.size) [oM_ h0 hd hp d N w nw sz u kr dn lf true, ar_ hd cA 600 F, ar_ hp cA 300 G] := hD
      refine lv_iconst (v := nI 0) hx hb dX1_put_43 (by decide) ?_
      exact W.zret (v := nI 0) hx hb hr rfl (fun t ht hW => ⟨⟨nI 0, ((F, u, kr, dn, lf, true), G), rfl, (by rw [hs_put, if_neg c1, if_pos c2]; exact ⟨rfl, rfl⟩), by rw [ht]; exact hP, va_K.moved hW.alike hK, hD⟩, hS.F ht⟩) hS.2.2 dX1_put_44
  · refine lv_iconst (v := nI 1) hx hb dX1_put_29 (by decide) ?_
    exact W.zret (v := nI 1) hx hb hr rfl (fun t ht hW => ⟨⟨nI 1, ((F, u, kr, dn, lf, dw), G), rfl, (by rw [hs_put, if_pos c1]; exact ⟨rfl, rfl⟩), by rw [ht]; exact hP, va_K.moved hW.alike hK, hD⟩, hS.F ht⟩) hS.2.2 dX1_put_30
