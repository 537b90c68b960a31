set_option maxHeartbeats 4000000 in
set_option maxRecDepth 100000 in
/-- MIX -/
theorem kX0_mix (l : Launch) (p0 p1 : Int32) : Met l yX0_mix wsX0_mix ({ frames := 0, cells := 0, slots := 0, locals := 0 }) (va_Pc [.int p0, .int p1] (fun _ => True)) (hs_Qp (fun r => r = hs_mx p0 p1)) 0 0 (fun _ => False) := by
  refine Met.ofW (cc := cX0_mix) (maxL := 3) (ret := (some .int)) (by decide) rfl ?_
  intro p e s m args below meth c s₁ B hml hv
  obtain ⟨rfl, -⟩ := hv
  have hx := B.exec
  have hb := B.bytes
  have hr := B.returns
  have hts := atoms_spec (ws := wsX0_mix) B.pre
  have hown : s.vm.findClass RX0 = some m.cls := findClass_of_methodNamed B.named
  have hlocks := B.notSynchronized
  have hS : va_S (fun _ => False) s.heap s.heap [] := va_S.rf
  have hP : va_P (fun _ => 0, fun _ _ => 0) vwCl [] s.heap := fun k q h => by simp at h
  have hl := lv_entry ([.int p0, .int p1]) (n := 3) (Nat.le_of_ble_eq_true rfl)
  rw [lg_entry_eq]
  generalize (lg_sl ([.int p0, .int p1]) ++ List.replicate (3 - (lg_sl ([.int p0, .int p1])).length) Slot.unset).toArray = ls at hl ⊢
  have hl : lv_has ls 3 [(0, .int p0), (1, .int p1)] := hl
  refine lv_iload_n hx hb dX0_mix_0 rfl (lv_at hl 0 rfl) ?_
  refine lv_iload_n hx hb dX0_mix_1 rfl (lv_at hl 1 rfl) ?_
  refine lv_bipush (v := 13) hx hb dX0_mix_2 (by decide) ?_
  refine lv_ishl hx hb dX0_mix_4 ?_
  refine lv_iload_n hx hb dX0_mix_5 rfl (lv_at hl 1 rfl) ?_
  refine lv_bipush (v := 19) hx hb dX0_mix_6 (by decide) ?_
  refine lv_iushr hx hb dX0_mix_8 rfl ?_
  refine lv_ior hx hb dX0_mix_9 ?_
  refine lv_ixor hx hb dX0_mix_10 ?_
  refine lv_ldc (v := 739982445) hx hb hown (hts (.constant RX0 139 739982445) (by decide +kernel)) dX0_mix_11 ?_
  refine lv_imul hx hb dX0_mix_13 ?_
  refine lv_topi (fun x1 ex1 => ?_)
  refine lv_istore_n (lv' := [(2, .int x1), (0, .int p0), (1, .int p1)]) hx hb dX0_mix_14 rfl hl (by decide) rfl (fun ls hl => ?_)
  refine lv_iload_n hx hb dX0_mix_15 rfl (lv_at hl 0 rfl) ?_
  refine lv_iload_n hx hb dX0_mix_16 rfl (lv_at hl 0 rfl) ?_
  refine lv_bipush (v := 15) hx hb dX0_mix_17 (by decide) ?_
  refine lv_iushr hx hb dX0_mix_19 rfl ?_
  refine lv_ixor hx hb dX0_mix_20 ?_
  refine lv_topi (fun x2 ex2 => ?_)
  refine lv_istore_n (lv' := [(2, .int x2), (0, .int p0), (1, .int p1)]) hx hb dX0_mix_21 rfl hl (by decide) rfl (fun ls hl => ?_)
  refine lv_iload_n hx hb dX0_mix_22 rfl (lv_at hl 0 rfl) ?_
  refine lv_iload_n hx hb dX0_mix_23 rfl (lv_at hl 2 rfl) ?_
  refine lv_iadd hx hb dX0_mix_24 ?_
  refine lv_ldc (v := 695872825) hx hb hown (hts (.constant RX0 140 695872825) (by decide +kernel)) dX0_mix_25 ?_
  refine lv_imul hx hb dX0_mix_27 ?_
  refine lv_topi (fun x3 ex3 => ?_)
  refine lv_istore_n (lv' := [(2, .int x3), (0, .int p0), (1, .int p1)]) hx hb dX0_mix_28 rfl hl (by decide) rfl (fun ls hl => ?_)
  refine lv_iload_n hx hb dX0_mix_29 rfl (lv_at hl 0 rfl) ?_
  refine lv_iload_n hx hb dX0_mix_30 rfl (lv_at hl 0 rfl) ?_
  refine lv_bipush (v := 14) hx hb dX0_mix_31 (by decide) ?_
  refine lv_iushr hx hb dX0_mix_33 rfl ?_
  refine lv_ixor hx hb dX0_mix_34 ?_
  exact W.iret (v := x3 ^^^ ((x3.toUInt32 >>> ((14 : Int32).toUInt32 &&& Int32.toUInt32 31)).toInt32)) hx hb hr (fun t ht hW => ⟨⟨x3 ^^^ ((x3.toUInt32 >>> ((14 : Int32).toUInt32 &&& Int32.toUInt32 31)).toInt32), (), rfl, (by rw [hs_mx_eq]; subst ex3; subst ex2; subst ex1; rfl), trivial⟩, hS.F ht⟩) hS.2.2 dX0_mix_35
set_option maxHeartbeats 4000000 in
set_option maxRecDepth 100000 in
theorem kX0_root (l : Launch) (dC : Nat → ClassId) (dI : Nat → Nat → Nat) (h0 hd hp : Nat) (cA : ClassId) (d N w nw sz u : Nat) (F G : Nat → Int32) (kr dn lf : Int32) (dw : Bool) (ok : hs_ok d N w nw sz)  : Met l yX0_root wsX0_root ({ frames := 0, cells := 0, slots := 0, locals := 0 }) (va_Pc [.ref h0] (hs_pr (dC, dI) vwCl [(cA, .int)] [oX_ h0 hd hp d N w nw sz u kr dn lf dw])) (hs_Qp (fun r => r = kr)) 0 0 (fun _ => False) := by
  refine Met.ofW (cc := cX0_root) (maxL := 1) (ret := (some .int)) (by decide) rfl ?_
  intro p e s m args below meth c s₁ B hml hv
  obtain ⟨rfl, hP, hK⟩ := hv
  have hx := B.exec
  have hb := B.bytes
  have hr := B.returns
  have hts := atoms_spec (ws := wsX0_root) B.pre
  have hown : s.vm.findClass RX0 = some m.cls := findClass_of_methodNamed B.named
  have hlocks := B.notSynchronized
  obtain ⟨hd5, hN1, hN2, hw1, hw2, hn1, hn2, hsz, hsz2⟩ := hs_okf ok
  have hnw : nw = N * w := ok.2.2.2.2.1
  have hS : va_S (fun _ => False) s.heap s.heap [] := va_S.rf
  have hl := lv_entry ([.ref h0]) (n := 1) (Nat.le_of_ble_eq_true rfl)
  rw [lg_entry_eq]
  generalize (lg_sl ([.ref h0]) ++ List.replicate (1 - (lg_sl ([.ref h0])).length) Slot.unset).toArray = ls at hl ⊢
  have hl : lv_has ls 1 [(0, .ref h0)] := hl
  refine lv_aload_n hx hb dX0_root_0 rfl (lv_at hl 0 rfl) ?_
  refine va_get (D := (dC, dI)) (ci := 0) (v := .int kr) (C := RX0) (T := TX0) (N := 12) hx hb hts (by decide +kernel) hown hK hP 0 rfl rfl 8 (by decide) (hts (.fieldLink RX0 83 "HashedStore" "keptRoot" "I") (by decide +kernel)) (fun _ h9 => h9) rfl dX0_root_1 ?_
  exact W.iret (v := kr) hx hb hr (fun t ht hW => ⟨⟨kr, (), rfl, rfl, trivial⟩, hS.F ht⟩) hS.2.2 dX0_root_4
set_option maxHeartbeats 4000000 in
set_option maxRecDepth 100000 in
theorem kX0_writes (l : Launch) (dC : Nat → ClassId) (dI : Nat → Nat → Nat) (h0 hd hp : Nat) (cA : ClassId) (d N w nw sz u : Nat) (F G : Nat → Int32) (kr dn lf : Int32) (dw : Bool) (ok : hs_ok d N w nw sz)  : Met l yX0_writes wsX0_writes ({ frames := 0, cells := 0, slots := 0, locals := 0 }) (va_Pc [.ref h0] (hs_pr (dC, dI) vwCl [(cA, .int)] [oX_ h0 hd hp d N w nw sz u kr dn lf dw])) (hs_Qp (fun r => r = dn)) 0 0 (fun _ => False) := by
  refine Met.ofW (cc := cX0_writes) (maxL := 1) (ret := (some .int)) (by decide) rfl ?_
  intro p e s m args below meth c s₁ B hml hv
  obtain ⟨rfl, hP, hK⟩ := hv
  have hx := B.exec
  have hb := B.bytes
  have hr := B.returns
  have hts := atoms_spec (ws := wsX0_writes) B.pre
  have hown : s.vm.findClass RX0 = some m.cls := findClass_of_methodNamed B.named
  have hlocks := B.notSynchronized
  obtain ⟨hd5, hN1, hN2, hw1, hw2, hn1, hn2, hsz, hsz2⟩ := hs_okf ok
  have hnw : nw = N * w := ok.2.2.2.2.1
  have hS : va_S (fun _ => False) s.heap s.heap [] := va_S.rf
  have hl := lv_entry ([.ref h0]) (n := 1) (Nat.le_of_ble_eq_true rfl)
  rw [lg_entry_eq]
  generalize (lg_sl ([.ref h0]) ++ List.replicate (1 - (lg_sl ([.ref h0])).length) Slot.unset).toArray = ls at hl ⊢
  have hl : lv_has ls 1 [(0, .ref h0)] := hl
  refine lv_aload_n hx hb dX0_writes_0 rfl (lv_at hl 0 rfl) ?_
  refine va_get (D := (dC, dI)) (ci := 0) (v := .int dn) (C := RX0) (T := TX0) (N := 12) hx hb hts (by decide +kernel) hown hK hP 0 rfl rfl 9 (by decide) (hts (.fieldLink RX0 95 "HashedStore" "writeCount" "I") (by decide +kernel)) (fun _ h9 => h9) rfl dX0_writes_1 ?_
  exact W.iret (v := dn) hx hb hr (fun t ht hW => ⟨⟨dn, (), rfl, rfl, trivial⟩, hS.F ht⟩) hS.2.2 dX0_writes_4
set_option maxHeartbeats 4000000 in
set_option maxRecDepth 100000 in
theorem kX0_slot (l : Launch) (dC : Nat → ClassId) (dI : Nat → Nat → Nat) (h0 hd hp : Nat) (cA : ClassId) (d N w nw sz u : Nat) (F G : Nat → Int32) (kr dn lf : Int32) (dw : Bool) (ok : hs_ok d N w nw sz)  : Met l yX0_slot wsX0_slot ({ frames := 0, cells := 0, slots := 0, locals := 0 }) (va_Pc [.ref h0] (hs_pr (dC, dI) vwCl [(cA, .int)] [oX_ h0 hd hp d N w nw sz u kr dn lf dw])) (hs_Qp (fun r => r = nI u)) 0 0 (fun _ => False) := by
  refine Met.ofW (cc := cX0_slot) (maxL := 1) (ret := (some .int)) (by decide) rfl ?_
  intro p e s m args below meth c s₁ B hml hv
  obtain ⟨rfl, hP, hK⟩ := hv
  have hx := B.exec
  have hb := B.bytes
  have hr := B.returns
  have hts := atoms_spec (ws := wsX0_slot) B.pre
  have hown : s.vm.findClass RX0 = some m.cls := findClass_of_methodNamed B.named
  have hlocks := B.notSynchronized
  obtain ⟨hd5, hN1, hN2, hw1, hw2, hn1, hn2, hsz, hsz2⟩ := hs_okf ok
  have hnw : nw = N * w := ok.2.2.2.2.1
  have hS : va_S (fun _ => False) s.heap s.heap [] := va_S.rf
  have hl := lv_entry ([.ref h0]) (n := 1) (Nat.le_of_ble_eq_true rfl)
  rw [lg_entry_eq]
  generalize (lg_sl ([.ref h0]) ++ List.replicate (1 - (lg_sl ([.ref h0])).length) Slot.unset).toArray = ls at hl ⊢
  have hl : lv_has ls 1 [(0, .ref h0)] := hl
  refine lv_aload_n hx hb dX0_slot_0 rfl (lv_at hl 0 rfl) ?_
  refine va_get (D := (dC, dI)) (ci := 0) (v := .int (nI u)) (C := RX0) (T := TX0) (N := 12) hx hb hts (by decide +kernel) hown hK hP 0 rfl rfl 7 (by decide) (hts (.fieldLink RX0 60 "HashedStore" "areaInUse" "I") (by decide +kernel)) (fun _ h9 => h9) rfl dX0_slot_1 ?_
  exact W.iret (v := nI u) hx hb hr (fun t ht hW => ⟨⟨nI u, (), rfl, rfl, trivial⟩, hS.F ht⟩) hS.2.2 dX0_slot_4
set_option maxHeartbeats 4000000 in
set_option maxRecDepth 100000 in
theorem kX0_down (l : Launch) (dC : Nat → ClassId) (dI : Nat → Nat → Nat) (h0 hd hp : Nat) (cA : ClassId) (d N w nw sz u : Nat) (F G : Nat → Int32) (kr dn lf : Int32) (dw : Bool) (ok : hs_ok d N w nw sz)  : Met l yX0_down wsX0_down ({ frames := 0, cells := 0, slots := 0, locals := 0 }) (va_Pc [.ref h0] (hs_pr (dC, dI) vwCl [(cA, .int)] [oX_ h0 hd hp d N w nw sz u kr dn lf dw])) (hs_Qp (fun r => r = hs_b dw)) 0 0 (fun _ => False) := by
  refine Met.ofW (cc := cX0_down) (maxL := 1) (ret := (some .boolean)) (by decide) rfl ?_
  intro p e s m args below meth c s₁ B hml hv
  obtain ⟨rfl, hP, hK⟩ := hv
  have hx := B.exec
  have hb := B.bytes
  have hr := B.returns
  have hts := atoms_spec (ws := wsX0_down) B.pre
  have hown : s.vm.findClass RX0 = some m.cls := findClass_of_methodNamed B.named
  have hlocks := B.notSynchronized
  obtain ⟨hd5, hN1, hN2, hw1, hw2, hn1, hn2, hsz, hsz2⟩ := hs_okf ok
  have hnw : nw = N * w := ok.2.2.2.2.1
  have hS : va_S (fun _ => False) s.heap s.heap [] := va_S.rf
  have hl := lv_entry ([.ref h0]) (n := 1) (Nat.le_of_ble_eq_true rfl)
  rw [lg_entry_eq]
  generalize (lg_sl ([.ref h0]) ++ List.replicate (1 - (lg_sl ([.ref h0])).length) Slot.unset).toArray = ls at hl ⊢
  have hl : lv_has ls 1 [(0, .ref h0)] := hl
  refine lv_aload_n hx hb dX0_down_0 rfl (lv_at hl 0 rfl) ?_
  refine va_get (D := (dC, dI)) (ci := 0) (v := .int (hs_b dw)) (C := RX0) (T := TX0) (N := 12) hx hb hts (by decide +kernel) hown hK hP 0 rfl rfl 11 (by decide) (hts (.fieldLink RX0 48 "HashedStore" "isDown" "Z") (by decide +kernel)) (fun _ h9 => h9) rfl dX0_down_1 ?_
  exact W.zret (v := hs_b dw) hx hb hr (hs_nb _) (fun t ht hW => ⟨⟨hs_b dw, (), rfl, rfl, trivial⟩, hS.F ht⟩) hS.2.2 dX0_down_4
set_option maxHeartbeats 4000000 in
set_option maxRecDepth 100000 in
theorem kX0_cells (l : Launch) (dC : Nat → ClassId) (dI : Nat → Nat → Nat) (h0 hd hp : Nat) (cA : ClassId) (d N w nw sz u : Nat) (F G : Nat → Int32) (kr dn lf : Int32) (dw : Bool) (ok : hs_ok d N w nw sz)  : Met l yX0_cells wsX0_cells ({ frames := 0, cells := 0, slots := 0, locals := 0 }) (va_Pc [.ref h0] (hs_pr (dC, dI) vwCl [(cA, .int)] [oX_ h0 hd hp d N w nw sz u kr dn lf dw, ar_ hd cA (2 * sz) F])) (hs_Qp (fun r => r = nI (2 * sz))) 0 0 (fun _ => False) := by
  refine Met.ofW (cc := cX0_cells) (maxL := 1) (ret := (some .int)) (by decide) rfl ?_
  intro p e s m args below meth c s₁ B hml hv
  obtain ⟨rfl, hP, hK⟩ := hv
  have hx := B.exec
  have hb := B.bytes
  have hr := B.returns
  have hts := atoms_spec (ws := wsX0_cells) B.pre
  have hown : s.vm.findClass RX0 = some m.cls := findClass_of_methodNamed B.named
  have hlocks := B.notSynchronized
  obtain ⟨hd5, hN1, hN2, hw1, hw2, hn1, hn2, hsz, hsz2⟩ := hs_okf ok
  have hnw : nw = N * w := ok.2.2.2.2.1
  have hS : va_S (fun _ => False) s.heap s.heap [] := va_S.rf
  have hl := lv_entry ([.ref h0]) (n := 1) (Nat.le_of_ble_eq_true rfl)
  rw [lg_entry_eq]
  generalize (lg_sl ([.ref h0]) ++ List.replicate (1 - (lg_sl ([.ref h0])).length) Slot.unset).toArray = ls at hl ⊢
  have hl : lv_has ls 1 [(0, .ref h0)] := hl
  refine lv_aload_n hx hb dX0_cells_0 rfl (lv_at hl 0 rfl) ?_
  refine va_get (D := (dC, dI)) (ci := 0) (v := .ref hd) (C := RX0) (T := TX0) (N := 12) hx hb hts (by decide +kernel) hown hK hP 0 rfl rfl 5 (by decide) (hts (.fieldLink RX0 34 "HashedStore" "disk" "[I") (by decide +kernel)) (fun _ h9 => h9) rfl dX0_cells_1 ?_
  refine va_alen hx hb hK hP 1 0 rfl rfl (v := nI (2 * sz)) rfl dX0_cells_4 ?_
  exact W.iret (v := nI (2 * sz)) hx hb hr (fun t ht hW => ⟨⟨nI (2 * sz), (), rfl, rfl, trivial⟩, hS.F ht⟩) hS.2.2 dX0_cells_5
set_option maxHeartbeats 4000000 in
set_option maxRecDepth 100000 in
theorem kX0_hasBlock (l : Launch) (dC : Nat → ClassId) (dI : Nat → Nat → Nat) (h0 hd hp : Nat) (cA : ClassId) (d N w nw sz u : Nat) (F G : Nat → Int32) (kr dn lf : Int32) (dw : Bool) (ok : hs_ok d N w nw sz) (p1 : Int32) : Met l yX0_hasBlock wsX0_hasBlock ({ frames := 0, cells := 0, slots := 0, locals := 0 }) (va_Pc [.ref h0, .int p1] (hs_pr (dC, dI) vwCl [(cA, .int)] [oX_ h0 hd hp d N w nw sz u kr dn lf dw])) (hs_Qp (fun r => r = hs_b (hs_hb N p1))) 0 0 (fun _ => False) := by
  refine Met.ofW (cc := cX0_hasBlock) (maxL := 2) (ret := (some .boolean)) (by decide) rfl ?_
  intro p e s m args below meth c s₁ B hml hv
  obtain ⟨rfl, hP, hK⟩ := hv
  have hx := B.exec
  have hb := B.bytes
  have hr := B.returns
  have hts := atoms_spec (ws := wsX0_hasBlock) B.pre
  have hown : s.vm.findClass RX0 = some m.cls := findClass_of_methodNamed B.named
  have hlocks := B.notSynchronized
  obtain ⟨hd5, hN1, hN2, hw1, hw2, hn1, hn2, hsz, hsz2⟩ := hs_okf ok
  have hnw : nw = N * w := ok.2.2.2.2.1
  have hS : va_S (fun _ => False) s.heap s.heap [] := va_S.rf
  have hl := lv_entry ([.ref h0, .int p1]) (n := 2) (Nat.le_of_ble_eq_true rfl)
  rw [lg_entry_eq]
  generalize (lg_sl ([.ref h0, .int p1]) ++ List.replicate (2 - (lg_sl ([.ref h0, .int p1])).length) Slot.unset).toArray = ls at hl ⊢
  have hl : lv_has ls 2 [(0, .ref h0), (1, .int p1)] := hl
  refine lv_iload_n hx hb dX0_hasBlock_0 rfl (lv_at hl 1 rfl) ?_
  refine lv_if_lt (tgt := 16) hx hb dX0_hasBlock_1 (by decide) (fun c2 => ?_) (fun c2 => ?_)
  · refine lv_iconst (v := nI 0) hx hb dX0_hasBlock_16 (by decide) ?_
    exact W.zret (v := nI 0) hx hb hr rfl (fun t ht hW => ⟨⟨nI 0, (), rfl, (by unfold hs_hb; rw [if_pos c2]; rfl), trivial⟩, hS.F ht⟩) hS.2.2 dX0_hasBlock_17
  · refine lv_iload_n hx hb dX0_hasBlock_4 rfl (lv_at hl 1 rfl) ?_
    refine lv_aload_n hx hb dX0_hasBlock_5 rfl (lv_at hl 0 rfl) ?_
    refine va_get (D := (dC, dI)) (ci := 0) (v := .int (nI N)) (C := RX0) (T := TX0) (N := 12) hx hb hts (by decide +kernel) hown hK hP 0 rfl rfl 1 (by decide) (hts (.fieldLink RX0 25 "HashedStore" "blockCount" "I") (by decide +kernel)) (fun _ h9 => h9) rfl dX0_hasBlock_6 ?_
    refine lv_icmp_ge (tgt := 16) hx hb dX0_hasBlock_9 (by decide) (fun c3 => ?_) (fun c3 => ?_)
    · refine lv_iconst (v := nI 0) hx hb dX0_hasBlock_16 (by decide) ?_
      exact W.zret (v := nI 0) hx hb hr rfl (fun t ht hW => ⟨⟨nI 0, (), rfl, (by unfold hs_hb; rw [if_neg c2, decide_eq_false (Int32.not_lt.mpr c3)]; rfl), trivial⟩, hS.F ht⟩) hS.2.2 dX0_hasBlock_17
    · refine lv_iconst (v := nI 1) hx hb dX0_hasBlock_12 (by decide) ?_
      refine lv_goto (tgt := 17) hx hb dX0_hasBlock_13 (by decide) ?_
      exact W.zret (v := nI 1) hx hb hr rfl (fun t ht hW => ⟨⟨nI 1, (), rfl, (by unfold hs_hb; rw [if_neg c2, decide_eq_true (Int32.not_le.mp c3)]; rfl), trivial⟩, hS.F ht⟩) hS.2.2 dX0_hasBlock_17
set_option maxHeartbeats 4000000 in
set_option maxRecDepth 100000 in
theorem kX0_hasWord (l : Launch) (dC : Nat → ClassId) (dI : Nat → Nat → Nat) (h0 hd hp : Nat) (cA : ClassId) (d N w nw sz u : Nat) (F G : Nat → Int32) (kr dn lf : Int32) (dw : Bool) (ok : hs_ok d N w nw sz) (p1 p2 : Int32) : Met l yX0_hasWord wsX0_hasWord ({ frames := 1, cells := 0, slots := 0, locals := 21 }) (va_Pc [.ref h0, .int p1, .int p2] (hs_pr (dC, dI) vwCl [(cA, .int)] [oX_ h0 hd hp d N w nw sz u kr dn lf dw])) (hs_Qp (fun r => r = hs_b (hs_hb N p1 && hs_hb w p2))) 0 0 (fun _ => False) := by
  refine Met.ofW (cc := cX0_hasWord) (maxL := 3) (ret := (some .boolean)) (by decide) rfl ?_
  intro p e s m args below meth c s₁ B hml hv
  obtain ⟨rfl, hP, hK⟩ := hv
  have hx := B.exec
  have hb := B.bytes
  have hr := B.returns
  have hts := atoms_spec (ws := wsX0_hasWord) B.pre
  have hown : s.vm.findClass RX0 = some m.cls := findClass_of_methodNamed B.named
  have hlocks := B.notSynchronized
  obtain ⟨hd5, hN1, hN2, hw1, hw2, hn1, hn2, hsz, hsz2⟩ := hs_okf ok
  have hnw : nw = N * w := ok.2.2.2.2.1
  have hS : va_S (fun _ => False) s.heap s.heap [] := va_S.rf
  have hl := lv_entry ([.ref h0, .int p1, .int p2]) (n := 3) (Nat.le_of_ble_eq_true rfl)
  rw [lg_entry_eq]
  generalize (lg_sl ([.ref h0, .int p1, .int p2]) ++ List.replicate (3 - (lg_sl ([.ref h0, .int p1, .int p2])).length) Slot.unset).toArray = ls at hl ⊢
  have hl : lv_has ls 3 [(0, .ref h0), (1, .int p1), (2, .int p2)] := hl
  refine lv_aload_n hx hb dX0_hasWord_0 rfl (lv_at hl 0 rfl) ?_
  refine lv_iload_n hx hb dX0_hasWord_1 rfl (lv_at hl 1 rfl) ?_
  refine hs_pe (v := hs_b (hs_hb N p1)) (va_runV (As := [.int p1]) (rest := []) ⟨hx, hb, hml, hown, hts⟩ (kX0_hasBlock l dC dI h0 hd hp cA d N w nw sz u F G kr dn lf dw ok p1) (cwV 1 hts gX0_hasWord_X0_hasBlock rfl rfl rfl (by decide +kernel) ⟨(Nat.le_of_ble_eq_true rfl), (Nat.le_of_ble_eq_true rfl)⟩) (hs_preV (q := (RX0, TX0, 12)) (ci := 0) hK hP rfl rfl) rfl rfl hl.1 rfl (lv_room (Nat.le_of_ble_eq_true rfl)) dX0_hasWord_2 ⟨Nat.zero_le _, Nat.zero_le _⟩) hS hP (fun H locs hP hS => ?_)
  refine hs_beq (tgt := 24) hx hb dX0_hasWord_5 (by decide) (fun c1 => ?_) (fun c1 => ?_)
  · refine lv_iconst (v := nI 0) hx hb dX0_hasWord_24 (by decide) ?_
    exact W.zret (v := nI 0) hx hb hr rfl (fun t ht hW => ⟨⟨nI 0, (), rfl, (by rw [c1]; rfl), trivial⟩, hS.F ht⟩) hS.2.2 dX0_hasWord_25
  · refine lv_iload_n hx hb dX0_hasWord_8 rfl (lv_at hl 2 rfl) ?_
    refine lv_if_lt (tgt := 24) hx hb dX0_hasWord_9 (by decide) (fun c2 => ?_) (fun c2 => ?_)
    · refine lv_iconst (v := nI 0) hx hb dX0_hasWord_24 (by decide) ?_
      exact W.zret (v := nI 0) hx hb hr rfl (fun t ht hW => ⟨⟨nI 0, (), rfl, (by rw [c1]; unfold hs_hb; rw [if_pos c2]; rfl), trivial⟩, hS.F ht⟩) hS.2.2 dX0_hasWord_25
    · refine lv_iload_n hx hb dX0_hasWord_12 rfl (lv_at hl 2 rfl) ?_
      refine lv_aload_n hx hb dX0_hasWord_13 rfl (lv_at hl 0 rfl) ?_
      refine va_get (D := (dC, dI)) (ci := 0) (v := .int (nI w)) (C := RX0) (T := TX0) (N := 12) hx hb hts (by decide +kernel) hown hK hP 0 rfl rfl 2 (by decide) (hts (.fieldLink RX0 22 "HashedStore" "wordsPerBlock" "I") (by decide +kernel)) (fun _ h9 => h9) rfl dX0_hasWord_14 ?_
      refine lv_icmp_ge (tgt := 24) hx hb dX0_hasWord_17 (by decide) (fun c3 => ?_) (fun c3 => ?_)
      · refine lv_iconst (v := nI 0) hx hb dX0_hasWord_24 (by decide) ?_
        exact W.zret (v := nI 0) hx hb hr rfl (fun t ht hW => ⟨⟨nI 0, (), rfl, (by rw [c1]; unfold hs_hb; rw [if_neg c2, decide_eq_false (Int32.not_lt.mpr c3)]; rfl), trivial⟩, hS.F ht⟩) hS.2.2 dX0_hasWord_25
      · refine lv_iconst (v := nI 1) hx hb dX0_hasWord_20 (by decide) ?_
        refine lv_goto (tgt := 25) hx hb dX0_hasWord_21 (by decide) ?_
        exact W.zret (v := nI 1) hx hb hr rfl (fun t ht hW => ⟨⟨nI 1, (), rfl, (by rw [c1]; unfold hs_hb; rw [if_neg c2, decide_eq_true (Int32.not_le.mp c3)]; rfl), trivial⟩, hS.F ht⟩) hS.2.2 dX0_hasWord_25
set_option maxHeartbeats 4000000 in
set_option maxRecDepth 100000 in
theorem kX0_hasCell (l : Launch) (dC : Nat → ClassId) (dI : Nat → Nat → Nat) (h0 hd hp : Nat) (cA : ClassId) (d N w nw sz u : Nat) (F G : Nat → Int32) (kr dn lf : Int32) (dw : Bool) (ok : hs_ok d N w nw sz) (p1 : Int32) : Met l yX0_hasCell wsX0_hasCell ({ frames := 0, cells := 0, slots := 0, locals := 0 }) (va_Pc [.ref h0, .int p1] (hs_pr (dC, dI) vwCl [(cA, .int)] [oX_ h0 hd hp d N w nw sz u kr dn lf dw, ar_ hd cA (2 * sz) F])) (hs_Qp (fun r => r = hs_b (hs_hb (2 * sz) p1))) 0 0 (fun _ => False) := by
  refine Met.ofW (cc := cX0_hasCell) (maxL := 2) (ret := (some .boolean)) (by decide) rfl ?_
  intro p e s m args below meth c s₁ B hml hv
  obtain ⟨rfl, hP, hK⟩ := hv
  have hx := B.exec
  have hb := B.bytes
  have hr := B.returns
  have hts := atoms_spec (ws := wsX0_hasCell) B.pre
  have hown : s.vm.findClass RX0 = some m.cls := findClass_of_methodNamed B.named
  have hlocks := B.notSynchronized
  obtain ⟨hd5, hN1, hN2, hw1, hw2, hn1, hn2, hsz, hsz2⟩ := hs_okf ok
  have hnw : nw = N * w := ok.2.2.2.2.1
  have hS : va_S (fun _ => False) s.heap s.heap [] := va_S.rf
  have hl := lv_entry ([.ref h0, .int p1]) (n := 2) (Nat.le_of_ble_eq_true rfl)
  rw [lg_entry_eq]
  generalize (lg_sl ([.ref h0, .int p1]) ++ List.replicate (2 - (lg_sl ([.ref h0, .int p1])).length) Slot.unset).toArray = ls at hl ⊢
  have hl : lv_has ls 2 [(0, .ref h0), (1, .int p1)] := hl
  refine lv_iload_n hx hb dX0_hasCell_0 rfl (lv_at hl 1 rfl) ?_
  refine lv_if_lt (tgt := 17) hx hb dX0_hasCell_1 (by decide) (fun c2 => ?_) (fun c2 => ?_)
  · refine lv_iconst (v := nI 0) hx hb dX0_hasCell_17 (by decide) ?_
    exact W.zret (v := nI 0) hx hb hr rfl (fun t ht hW => ⟨⟨nI 0, (), rfl, (by unfold hs_hb; rw [if_pos c2]; rfl), trivial⟩, hS.F ht⟩) hS.2.2 dX0_hasCell_18
  · refine lv_iload_n hx hb dX0_hasCell_4 rfl (lv_at hl 1 rfl) ?_
    refine lv_aload_n hx hb dX0_hasCell_5 rfl (lv_at hl 0 rfl) ?_
    refine va_get (D := (dC, dI)) (ci := 0) (v := .ref hd) (C := RX0) (T := TX0) (N := 12) hx hb hts (by decide +kernel) hown hK hP 0 rfl rfl 5 (by decide) (hts (.fieldLink RX0 34 "HashedStore" "disk" "[I") (by decide +kernel)) (fun _ h9 => h9) rfl dX0_hasCell_6 ?_
    refine va_alen hx hb hK hP 1 0 rfl rfl (v := nI (2 * sz)) rfl dX0_hasCell_9 ?_
    refine lv_icmp_ge (tgt := 17) hx hb dX0_hasCell_10 (by decide) (fun c3 => ?_) (fun c3 => ?_)
    · refine lv_iconst (v := nI 0) hx hb dX0_hasCell_17 (by decide) ?_
      exact W.zret (v := nI 0) hx hb hr rfl (fun t ht hW => ⟨⟨nI 0, (), rfl, (by unfold hs_hb; rw [if_neg c2, decide_eq_false (Int32.not_lt.mpr c3)]; rfl), trivial⟩, hS.F ht⟩) hS.2.2 dX0_hasCell_18
    · refine lv_iconst (v := nI 1) hx hb dX0_hasCell_13 (by decide) ?_
      refine lv_goto (tgt := 18) hx hb dX0_hasCell_14 (by decide) ?_
      exact W.zret (v := nI 1) hx hb hr rfl (fun t ht hW => ⟨⟨nI 1, (), rfl, (by unfold hs_hb; rw [if_neg c2, decide_eq_true (Int32.not_le.mp c3)]; rfl), trivial⟩, hS.F ht⟩) hS.2.2 dX0_hasCell_18
set_option maxHeartbeats 4000000 in
set_option maxRecDepth 100000 in
theorem kX0_areaStart (l : Launch) (dC : Nat → ClassId) (dI : Nat → Nat → Nat) (h0 hd hp : Nat) (cA : ClassId) (d N w nw sz u : Nat) (F G : Nat → Int32) (kr dn lf : Int32) (dw : Bool) (ok : hs_ok d N w nw sz) (x1 : Nat) : Met l yX0_areaStart wsX0_areaStart ({ frames := 0, cells := 0, slots := 0, locals := 0 }) (va_Pc [.ref h0, .int (nI x1)] (hs_pr (dC, dI) vwCl [(cA, .int)] [oX_ h0 hd hp d N w nw sz u kr dn lf dw])) (hs_Qp (fun r => r = nI (x1 * sz))) 0 0 (fun _ => False) := by
  refine Met.ofW (cc := cX0_areaStart) (maxL := 2) (ret := (some .int)) (by decide) rfl ?_
  intro p e s m args below meth c s₁ B hml hv
  obtain ⟨rfl, hP, hK⟩ := hv
  have hx := B.exec
  have hb := B.bytes
  have hr := B.returns
  have hts := atoms_spec (ws := wsX0_areaStart) B.pre
  have hown : s.vm.findClass RX0 = some m.cls := findClass_of_methodNamed B.named
  have hlocks := B.notSynchronized
  obtain ⟨hd5, hN1, hN2, hw1, hw2, hn1, hn2, hsz, hsz2⟩ := hs_okf ok
  have hnw : nw = N * w := ok.2.2.2.2.1
  have hS : va_S (fun _ => False) s.heap s.heap [] := va_S.rf
  have hl := lv_entry ([.ref h0, .int (nI x1)]) (n := 2) (Nat.le_of_ble_eq_true rfl)
  rw [lg_entry_eq]
  generalize (lg_sl ([.ref h0, .int (nI x1)]) ++ List.replicate (2 - (lg_sl ([.ref h0, .int (nI x1)])).length) Slot.unset).toArray = ls at hl ⊢
  have hl : lv_has ls 2 [(0, .ref h0), (1, .int (nI x1))] := hl
  refine lv_iload_n hx hb dX0_areaStart_0 rfl (lv_at hl 1 rfl) ?_
  refine lv_aload_n hx hb dX0_areaStart_1 rfl (lv_at hl 0 rfl) ?_
  refine va_get (D := (dC, dI)) (ci := 0) (v := .int (nI sz)) (C := RX0) (T := TX0) (N := 12) hx hb hts (by decide +kernel) hown hK hP 0 rfl rfl 4 (by decide) (hts (.fieldLink RX0 31 "HashedStore" "areaCells" "I") (by decide +kernel)) (fun _ h9 => h9) rfl dX0_areaStart_2 ?_
  refine hs_mulN hx hb dX0_areaStart_5 ?_
  exact W.iret (v := nI (x1 * sz)) hx hb hr (fun t ht hW => ⟨⟨nI (x1 * sz), (), rfl, rfl, trivial⟩, hS.F ht⟩) hS.2.2 dX0_areaStart_6
set_option maxHeartbeats 4000000 in
set_option maxRecDepth 100000 in
theorem kX0_wordCell (l : Launch) (dC : Nat → ClassId) (dI : Nat → Nat → Nat) (h0 hd hp : Nat) (cA : ClassId) (d N w nw sz u : Nat) (F G : Nat → Int32) (kr dn lf : Int32) (dw : Bool) (ok : hs_ok d N w nw sz) (x1 x2 : Nat) : Met l yX0_wordCell wsX0_wordCell ({ frames := 0, cells := 0, slots := 0, locals := 0 }) (va_Pc [.ref h0, .int (nI x1), .int (nI x2)] (hs_pr (dC, dI) vwCl [(cA, .int)] [oX_ h0 hd hp d N w nw sz u kr dn lf dw])) (hs_Qp (fun r => r = nI (x1 * w + x2))) 0 0 (fun _ => False) := by
  refine Met.ofW (cc := cX0_wordCell) (maxL := 3) (ret := (some .int)) (by decide) rfl ?_
  intro p e s m args below meth c s₁ B hml hv
  obtain ⟨rfl, hP, hK⟩ := hv
  have hx := B.exec
  have hb := B.bytes
  have hr := B.returns
  have hts := atoms_spec (ws := wsX0_wordCell) B.pre
  have hown : s.vm.findClass RX0 = some m.cls := findClass_of_methodNamed B.named
  have hlocks := B.notSynchronized
  obtain ⟨hd5, hN1, hN2, hw1, hw2, hn1, hn2, hsz, hsz2⟩ := hs_okf ok
  have hnw : nw = N * w := ok.2.2.2.2.1
  have hS : va_S (fun _ => False) s.heap s.heap [] := va_S.rf
  have hl := lv_entry ([.ref h0, .int (nI x1), .int (nI x2)]) (n := 3) (Nat.le_of_ble_eq_true rfl)
  rw [lg_entry_eq]
  generalize (lg_sl ([.ref h0, .int (nI x1), .int (nI x2)]) ++ List.replicate (3 - (lg_sl ([.ref h0, .int (nI x1), .int (nI x2)])).length) Slot.unset).toArray = ls at hl ⊢
  have hl : lv_has ls 3 [(0, .ref h0), (1, .int (nI x1)), (2, .int (nI x2))] := hl
  refine lv_iload_n hx hb dX0_wordCell_0 rfl (lv_at hl 1 rfl) ?_
  refine lv_aload_n hx hb dX0_wordCell_1 rfl (lv_at hl 0 rfl) ?_
  refine va_get (D := (dC, dI)) (ci := 0) (v := .int (nI w)) (C := RX0) (T := TX0) (N := 12) hx hb hts (by decide +kernel) hown hK hP 0 rfl rfl 2 (by decide) (hts (.fieldLink RX0 22 "HashedStore" "wordsPerBlock" "I") (by decide +kernel)) (fun _ h9 => h9) rfl dX0_wordCell_2 ?_
  refine hs_mulN hx hb dX0_wordCell_5 ?_
  refine lv_iload_n hx hb dX0_wordCell_6 rfl (lv_at hl 2 rfl) ?_
  refine hs_addN hx hb dX0_wordCell_7 ?_
  exact W.iret (v := nI ((x1 * w) + x2)) hx hb hr (fun t ht hW => ⟨⟨nI ((x1 * w) + x2), (), rfl, rfl, trivial⟩, hS.F ht⟩) hS.2.2 dX0_wordCell_8
set_option maxHeartbeats 4000000 in
set_option maxRecDepth 100000 in
theorem kX0_nodeCell (l : Launch) (dC : Nat → ClassId) (dI : Nat → Nat → Nat) (h0 hd hp : Nat) (cA : ClassId) (d N w nw sz u : Nat) (F G : Nat → Int32) (kr dn lf : Int32) (dw : Bool) (ok : hs_ok d N w nw sz) (x1 : Nat) : Met l yX0_nodeCell wsX0_nodeCell ({ frames := 0, cells := 0, slots := 0, locals := 0 }) (va_Pc [.ref h0, .int (nI x1)] (hs_pr (dC, dI) vwCl [(cA, .int)] [oX_ h0 hd hp d N w nw sz u kr dn lf dw])) (hs_Qp (fun r => r = nI (nw + x1 - 1))) 0 0 (fun _ => False) := by
  refine Met.ofW (cc := cX0_nodeCell) (maxL := 2) (ret := (some .int)) (by decide) rfl ?_
  intro p e s m args below meth c s₁ B hml hv
  obtain ⟨rfl, hP, hK⟩ := hv
  have hx := B.exec
  have hb := B.bytes
  have hr := B.returns
  have hts := atoms_spec (ws := wsX0_nodeCell) B.pre
  have hown : s.vm.findClass RX0 = some m.cls := findClass_of_methodNamed B.named
  have hlocks := B.notSynchronized
  obtain ⟨hd5, hN1, hN2, hw1, hw2, hn1, hn2, hsz, hsz2⟩ := hs_okf ok
  have hnw : nw = N * w := ok.2.2.2.2.1
  have hS : va_S (fun _ => False) s.heap s.heap [] := va_S.rf
  have hl := lv_entry ([.ref h0, .int (nI x1)]) (n := 2) (Nat.le_of_ble_eq_true rfl)
  rw [lg_entry_eq]
  generalize (lg_sl ([.ref h0, .int (nI x1)]) ++ List.replicate (2 - (lg_sl ([.ref h0, .int (nI x1)])).length) Slot.unset).toArray = ls at hl ⊢
  have hl : lv_has ls 2 [(0, .ref h0), (1, .int (nI x1))] := hl
  refine lv_aload_n hx hb dX0_nodeCell_0 rfl (lv_at hl 0 rfl) ?_
  refine va_get (D := (dC, dI)) (ci := 0) (v := .int (nI nw)) (C := RX0) (T := TX0) (N := 12) hx hb hts (by decide +kernel) hown hK hP 0 rfl rfl 3 (by decide) (hts (.fieldLink RX0 28 "HashedStore" "areaWords" "I") (by decide +kernel)) (fun _ h9 => h9) rfl dX0_nodeCell_1 ?_
  refine lv_iload_n hx hb dX0_nodeCell_4 rfl (lv_at hl 1 rfl) ?_
  refine hs_addN hx hb dX0_nodeCell_5 ?_
  refine lv_iconst (v := nI 1) hx hb dX0_nodeCell_6 (by decide) ?_
  refine hs_subN hx hb (by omega) dX0_nodeCell_7 ?_
  exact W.iret (v := nI ((nw + x1) - 1)) hx hb hr (fun t ht hW => ⟨⟨nI ((nw + x1) - 1), (), rfl, rfl, trivial⟩, hS.F ht⟩) hS.2.2 dX0_nodeCell_8
set_option maxHeartbeats 4000000 in
set_option maxRecDepth 100000 in
theorem kX0_leafOf (l : Launch) (dC : Nat → ClassId) (dI : Nat → Nat → Nat) (h0 hd hp : Nat) (cA : ClassId) (d N w nw sz u : Nat) (F G : Nat → Int32) (kr dn lf : Int32) (dw : Bool) (ok : hs_ok d N w nw sz) (x1 : Nat) : Met l yX0_leafOf wsX0_leafOf ({ frames := 0, cells := 0, slots := 0, locals := 0 }) (va_Pc [.ref h0, .int (nI x1)] (hs_pr (dC, dI) vwCl [(cA, .int)] [oX_ h0 hd hp d N w nw sz u kr dn lf dw])) (hs_Qp (fun r => r = nI (N + x1))) 0 0 (fun _ => False) := by
  refine Met.ofW (cc := cX0_leafOf) (maxL := 2) (ret := (some .int)) (by decide) rfl ?_
  intro p e s m args below meth c s₁ B hml hv
  obtain ⟨rfl, hP, hK⟩ := hv
  have hx := B.exec
  have hb := B.bytes
  have hr := B.returns
  have hts := atoms_spec (ws := wsX0_leafOf) B.pre
  have hown : s.vm.findClass RX0 = some m.cls := findClass_of_methodNamed B.named
  have hlocks := B.notSynchronized
  obtain ⟨hd5, hN1, hN2, hw1, hw2, hn1, hn2, hsz, hsz2⟩ := hs_okf ok
  have hnw : nw = N * w := ok.2.2.2.2.1
  have hS : va_S (fun _ => False) s.heap s.heap [] := va_S.rf
  have hl := lv_entry ([.ref h0, .int (nI x1)]) (n := 2) (Nat.le_of_ble_eq_true rfl)
  rw [lg_entry_eq]
  generalize (lg_sl ([.ref h0, .int (nI x1)]) ++ List.replicate (2 - (lg_sl ([.ref h0, .int (nI x1)])).length) Slot.unset).toArray = ls at hl ⊢
  have hl : lv_has ls 2 [(0, .ref h0), (1, .int (nI x1))] := hl
  refine lv_aload_n hx hb dX0_leafOf_0 rfl (lv_at hl 0 rfl) ?_
  refine va_get (D := (dC, dI)) (ci := 0) (v := .int (nI N)) (C := RX0) (T := TX0) (N := 12) hx hb hts (by decide +kernel) hown hK hP 0 rfl rfl 1 (by decide) (hts (.fieldLink RX0 25 "HashedStore" "blockCount" "I") (by decide +kernel)) (fun _ h9 => h9) rfl dX0_leafOf_1 ?_
  refine lv_iload_n hx hb dX0_leafOf_4 rfl (lv_at hl 1 rfl) ?_
  refine hs_addN hx hb dX0_leafOf_5 ?_
  exact W.iret (v := nI (N + x1)) hx hb hr (fun t ht hW => ⟨⟨nI (N + x1), (), rfl, rfl, trivial⟩, hS.F ht⟩) hS.2.2 dX0_leafOf_6
set_option maxHeartbeats 4000000 in
set_option maxRecDepth 100000 in
theorem kX0_blockHash (l : Launch) (dC : Nat → ClassId) (dI : Nat → Nat → Nat) (h0 hd hp : Nat) (cA : ClassId) (d N w nw sz u : Nat) (F G : Nat → Int32) (kr dn lf : Int32) (dw : Bool) (ok : hs_ok d N w nw sz) (q qn : Nat) (f : Nat → Int32) (o j : Nat) (hj : j < N) (hq : o + nw ≤ qn) (hqn : qn < 2 ^ 31) : Met l yX0_blockHash wsX0_blockHash ({ frames := 1, cells := 0, slots := 0, locals := 22 }) (va_Pc [.ref h0, .ref q, .int (nI o), .int (nI j)] (hs_pr (dC, dI) vwCl [(cA, .int)] [oX_ h0 hd hp d N w nw sz u kr dn lf dw, ar_ q cA qn f])) (hs_Qp (fun r => r = hs_bl (fun x => f (o + x)) w (j * w) (nI j))) 0 0 (fun _ => False) := by
  refine Met.ofW (cc := cX0_blockHash) (maxL := 6) (ret := (some .int)) (by decide) rfl ?_
  intro p e s m args below meth c s₁ B hml hv
  obtain ⟨rfl, hP, hK⟩ := hv
  have hx := B.exec
  have hb := B.bytes
  have hr := B.returns
  have hts := atoms_spec (ws := wsX0_blockHash) B.pre
  have hown : s.vm.findClass RX0 = some m.cls := findClass_of_methodNamed B.named
  have hlocks := B.notSynchronized
  obtain ⟨hd5, hN1, hN2, hw1, hw2, hn1, hn2, hsz, hsz2⟩ := hs_okf ok
  have hnw : nw = N * w := ok.2.2.2.2.1
  have hS : va_S (fun _ => False) s.heap s.heap [] := va_S.rf
  have hl := lv_entry ([.ref h0, .ref q, .int (nI o), .int (nI j)]) (n := 6) (Nat.le_of_ble_eq_true rfl)
  rw [lg_entry_eq]
  generalize (lg_sl ([.ref h0, .ref q, .int (nI o), .int (nI j)]) ++ List.replicate (6 - (lg_sl ([.ref h0, .ref q, .int (nI o), .int (nI j)])).length) Slot.unset).toArray = ls at hl ⊢
  have hl : lv_has ls 6 [(0, .ref h0), (1, .ref q), (2, .int (nI o)), (3, .int (nI j))] := hl
  have hrow := hs_row ok hj
  refine lv_iload_n hx hb dX0_blockHash_0 rfl (lv_at hl 3 rfl) ?_
  refine lv_istore (lv' := [(4, .int (nI j)), (0, .ref h0), (1, .ref q), (2, .int (nI o)), (3, .int (nI j))]) hx hb dX0_blockHash_1 hl (by decide) rfl (fun ls hl => ?_)
  refine lv_iconst (v := nI 0) hx hb dX0_blockHash_3 (by decide) ?_
  refine lv_istore (lv' := [(5, .int (nI 0)), (4, .int (nI j)), (0, .ref h0), (1, .ref q), (2, .int (nI o)), (3, .int (nI j))]) hx hb dX0_blockHash_4 hl (by decide) rfl (fun ls hl => ?_)
  have loop : ∀ (n : Nat) (i : Nat) (h : Int32) (H : Heap) (locs : List Loc) (ls : Array Slot), (i + n = w) → (hs_bl (fun x => f (o + x)) n (j * w + i) h = hs_bl (fun x => f (o + x)) w (j * w) (nI j)) → va_P (dC, dI) vwCl [oX_ h0 hd hp d N w nw sz u kr dn lf dw, ar_ q cA qn f] H → va_S (fun _ => False) s.heap H locs → lv_has ls 6 [(5, .int (nI i)), (4, .int h), (0, .ref h0), (1, .ref q), (2, .int (nI o)), (3, .int (nI j))] → W p l e (headSpec wsX0_blockHash ({ frames := 1, cells := 0, slots := 0, locals := 22 })).room s m ([.ref h0, .ref q, .int (nI o), .int (nI j)] : List Value).toArray below meth c H locs 0 0 (MQ below (hs_Qp (fun r => r = hs_bl (fun x => f (o + x)) w (j * w) (nI j))) ([.ref h0, .ref q, .int (nI o), .int (nI j)] : List Value).toArray s 0 0 (fun _ => False)) (F0 m 6 ls []) := by
    intro n
    induction n with
    | zero =>
      intro i h H locs ls hi he hP hS hl
      refine lv_iload hx hb dX0_blockHash_6 (lv_at hl 0 rfl) ?_
      refine lv_aload_n hx hb dX0_blockHash_8 rfl (lv_at hl 2 rfl) ?_
      refine va_get (D := (dC, dI)) (ci := 0) (v := .int (nI w)) (C := RX0) (T := TX0) (N := 12) hx hb hts (by decide +kernel) hown hK hP 0 rfl rfl 2 (by decide) (hts (.fieldLink RX0 22 "HashedStore" "wordsPerBlock" "I") (by decide +kernel)) (fun _ h9 => h9) rfl dX0_blockHash_9 ?_
      refine hs_cge (tgt := 39) hx hb (by omega) (by omega) dX0_blockHash_12 (by decide) (fun c1 => ?_) (fun c1 => ?_)
      · refine lv_iload hx hb dX0_blockHash_39 (lv_at hl 1 rfl) ?_
        exact W.iret (v := h) hx hb hr (fun t ht hW => ⟨⟨h, (), rfl, he, trivial⟩, hS.F ht⟩) hS.2.2 dX0_blockHash_41
      · exact absurd c1 (by omega)
    | succ n ih =>
      intro i h H locs ls hi he hP hS hl
      refine lv_iload hx hb dX0_blockHash_6 (lv_at hl 0 rfl) ?_
      refine lv_aload_n hx hb dX0_blockHash_8 rfl (lv_at hl 2 rfl) ?_
      refine va_get (D := (dC, dI)) (ci := 0) (v := .int (nI w)) (C := RX0) (T := TX0) (N := 12) hx hb hts (by decide +kernel) hown hK hP 0 rfl rfl 2 (by decide) (hts (.fieldLink RX0 22 "HashedStore" "wordsPerBlock" "I") (by decide +kernel)) (fun _ h9 => h9) rfl dX0_blockHash_9 ?_
      refine hs_cge (tgt := 39) hx hb (by omega) (by omega) dX0_blockHash_12 (by decide) (fun c1 => ?_) (fun c1 => ?_)
      · exact absurd c1 (by omega)
      · refine lv_iload hx hb dX0_blockHash_15 (lv_at hl 1 rfl) ?_
        refine lv_aload_n hx hb dX0_blockHash_17 rfl (lv_at hl 3 rfl) ?_
        refine lv_iload_n hx hb dX0_blockHash_18 rfl (lv_at hl 4 rfl) ?_
        refine lv_aload_n hx hb dX0_blockHash_19 rfl (lv_at hl 2 rfl) ?_
        refine lv_iload_n hx hb dX0_blockHash_20 rfl (lv_at hl 5 rfl) ?_
        refine lv_iload hx hb dX0_blockHash_21 (lv_at hl 0 rfl) ?_
        refine hs_pe (v := nI (j * w + i)) (va_runV (As := [.int (nI j), .int (nI i)]) (rest := [.int (nI o), .ref q, .int h]) ⟨hx, hb, hml, hown, hts⟩ (kX0_wordCell l dC dI h0 hd hp cA d N w nw sz u F G kr dn lf dw ok j i) (cwV 2 hts gX0_blockHash_X0_wordCell rfl rfl rfl (by decide +kernel) ⟨(Nat.le_of_ble_eq_true rfl), (Nat.le_of_ble_eq_true rfl)⟩) (hs_preV (q := (RX0, TX0, 12)) (ci := 0) hK (hP.sub [0] rfl) rfl rfl) rfl rfl hl.1 rfl (lv_room (Nat.le_of_ble_eq_true rfl)) dX0_blockHash_23 ⟨Nat.zero_le _, Nat.zero_le _⟩) hS hP (fun H locs hP hS => ?_)
        refine hs_addN hx hb dX0_blockHash_26 ?_
        refine hs_ald hx hb hK hP 1 0 rfl rfl (k := o + (j * w + i)) (by omega) (by omega) dX0_blockHash_27 ?_
        refine hs_pe (v := hs_mx h (f (o + (j * w + i)))) (va_runS (As := [.int h, .int (f (o + (j * w + i)))]) (rest := []) ⟨hx, hb, hml, hown, hts⟩ (kX0_mix l h (f (o + (j * w + i)))) (va_cwS 2 hts gX0_blockHash_X0_mix rfl rfl rfl (by decide +kernel) ⟨(Nat.le_of_ble_eq_true rfl), (Nat.le_of_ble_eq_true rfl)⟩) hs_preT rfl rfl hl.1 rfl (lv_room (Nat.le_of_ble_eq_true rfl)) dX0_blockHash_28 ⟨Nat.zero_le _, Nat.zero_le _⟩) hS hP (fun H locs hP hS => ?_)
        refine lv_istore (lv' := [(4, .int (hs_mx h (f (o + (j * w + i))))), (5, .int (nI i)), (0, .ref h0), (1, .ref q), (2, .int (nI o)), (3, .int (nI j))]) hx hb dX0_blockHash_31 hl (by decide) rfl (fun ls hl => ?_)
        refine lv_iinc (v := nI (i + 1)) (lv' := [(5, .int (nI (i + 1))), (4, .int (hs_mx h (f (o + (j * w + i))))), (0, .ref h0), (1, .ref q), (2, .int (nI o)), (3, .int (nI j))]) hx hb dX0_blockHash_33 hl (k := 1) rfl (nI_1 _) (by decide) rfl (fun ls hl => ?_)
        refine lv_goto (tgt := 6) hx hb dX0_blockHash_36 (by decide) ?_
        exact ih (i + 1) _ H locs ls (by omega) he hP hS (lv_sub hl [0, 1, 2, 3, 4, 5] rfl)
  exact loop w 0 (nI j) _ _ ls (by omega) rfl hP hS (lv_sub hl [0, 1, 2, 3, 4, 5] rfl)
set_option maxHeartbeats 4000000 in
set_option maxRecDepth 100000 in
theorem kX0_hashOfSons (l : Launch) (dC : Nat → ClassId) (dI : Nat → Nat → Nat) (h0 hd hp : Nat) (cA : ClassId) (d N w nw sz u : Nat) (F G : Nat → Int32) (kr dn lf : Int32) (dw : Bool) (ok : hs_ok d N w nw sz) (q qn : Nat) (f : Nat → Int32) (x : Nat) (hq : nw + (2 * x + 1) - 1 < qn) (hqn : qn < 2 ^ 31) : Met l yX0_hashOfSons wsX0_hashOfSons ({ frames := 1, cells := 0, slots := 0, locals := 22 }) (va_Pc [.ref h0, .ref q, .int (nI x)] (hs_pr (dC, dI) vwCl [(cA, .int)] [oX_ h0 hd hp d N w nw sz u kr dn lf dw, ar_ q cA qn f])) (hs_Qp (fun r => r = hs_mx (f (nw + 2 * x - 1)) (f (nw + (2 * x + 1) - 1)))) 0 0 (fun _ => False) := by
  refine Met.ofW (cc := cX0_hashOfSons) (maxL := 3) (ret := (some .int)) (by decide) rfl ?_
  intro p e s m args below meth c s₁ B hml hv
  obtain ⟨rfl, hP, hK⟩ := hv
  have hx := B.exec
  have hb := B.bytes
  have hr := B.returns
  have hts := atoms_spec (ws := wsX0_hashOfSons) B.pre
  have hown : s.vm.findClass RX0 = some m.cls := findClass_of_methodNamed B.named
  have hlocks := B.notSynchronized
  obtain ⟨hd5, hN1, hN2, hw1, hw2, hn1, hn2, hsz, hsz2⟩ := hs_okf ok
  have hnw : nw = N * w := ok.2.2.2.2.1
  have hS : va_S (fun _ => False) s.heap s.heap [] := va_S.rf
  have hl := lv_entry ([.ref h0, .ref q, .int (nI x)]) (n := 3) (Nat.le_of_ble_eq_true rfl)
  rw [lg_entry_eq]
  generalize (lg_sl ([.ref h0, .ref q, .int (nI x)]) ++ List.replicate (3 - (lg_sl ([.ref h0, .ref q, .int (nI x)])).length) Slot.unset).toArray = ls at hl ⊢
  have hl : lv_has ls 3 [(0, .ref h0), (1, .ref q), (2, .int (nI x))] := hl
  refine lv_aload_n hx hb dX0_hashOfSons_0 rfl (lv_at hl 1 rfl) ?_
  refine lv_aload_n hx hb dX0_hashOfSons_1 rfl (lv_at hl 0 rfl) ?_
  refine lv_iconst (v := nI 2) hx hb dX0_hashOfSons_2 (by decide) ?_
  refine lv_iload_n hx hb dX0_hashOfSons_3 rfl (lv_at hl 2 rfl) ?_
  refine hs_mulN hx hb dX0_hashOfSons_4 ?_
  refine hs_pe (v := nI (nw + 2 * x - 1)) (va_runV (As := [.int (nI (2 * x))]) (rest := [.ref q]) ⟨hx, hb, hml, hown, hts⟩ (kX0_nodeCell l dC dI h0 hd hp cA d N w nw sz u F G kr dn lf dw ok (2 * x)) (cwV 1 hts gX0_hashOfSons_X0_nodeCell rfl rfl rfl (by decide +kernel) ⟨(Nat.le_of_ble_eq_true rfl), (Nat.le_of_ble_eq_true rfl)⟩) (hs_preV (q := (RX0, TX0, 12)) (ci := 0) hK (hP.sub [0] rfl) rfl rfl) rfl rfl hl.1 rfl (lv_room (Nat.le_of_ble_eq_true rfl)) dX0_hashOfSons_5 ⟨Nat.zero_le _, Nat.zero_le _⟩) hS hP (fun H locs hP hS => ?_)
  refine hs_ald hx hb hK hP 1 0 rfl rfl (k := nw + 2 * x - 1) (by omega) (by omega) dX0_hashOfSons_8 ?_
  refine lv_aload_n hx hb dX0_hashOfSons_9 rfl (lv_at hl 1 rfl) ?_
  refine lv_aload_n hx hb dX0_hashOfSons_10 rfl (lv_at hl 0 rfl) ?_
  refine lv_iconst (v := nI 2) hx hb dX0_hashOfSons_11 (by decide) ?_
  refine lv_iload_n hx hb dX0_hashOfSons_12 rfl (lv_at hl 2 rfl) ?_
  refine hs_mulN hx hb dX0_hashOfSons_13 ?_
  refine lv_iconst (v := nI 1) hx hb dX0_hashOfSons_14 (by decide) ?_
  refine hs_addN hx hb dX0_hashOfSons_15 ?_
  refine hs_pe (v := nI (nw + (2 * x + 1) - 1)) (va_runV (As := [.int (nI ((2 * x) + 1))]) (rest := [.ref q, .int (f (nw + 2 * x - 1))]) ⟨hx, hb, hml, hown, hts⟩ (kX0_nodeCell l dC dI h0 hd hp cA d N w nw sz u F G kr dn lf dw ok (2 * x + 1)) (cwV 1 hts gX0_hashOfSons_X0_nodeCell rfl rfl rfl (by decide +kernel) ⟨(Nat.le_of_ble_eq_true rfl), (Nat.le_of_ble_eq_true rfl)⟩) (hs_preV (q := (RX0, TX0, 12)) (ci := 0) hK (hP.sub [0] rfl) rfl rfl) rfl rfl hl.1 rfl (lv_room (Nat.le_of_ble_eq_true rfl)) dX0_hashOfSons_16 ⟨Nat.zero_le _, Nat.zero_le _⟩) hS hP (fun H locs hP hS => ?_)
  refine hs_ald hx hb hK hP 1 0 rfl rfl (k := nw + (2 * x + 1) - 1) (by omega) (by omega) dX0_hashOfSons_19 ?_
  refine hs_pe (v := hs_mx (f (nw + 2 * x - 1)) (f (nw + (2 * x + 1) - 1))) (va_runS (As := [.int (f (nw + 2 * x - 1)), .int (f (nw + (2 * x + 1) - 1))]) (rest := []) ⟨hx, hb, hml, hown, hts⟩ (kX0_mix l _ _) (va_cwS 2 hts gX0_hashOfSons_X0_mix rfl rfl rfl (by decide +kernel) ⟨(Nat.le_of_ble_eq_true rfl), (Nat.le_of_ble_eq_true rfl)⟩) hs_preT rfl rfl hl.1 rfl (lv_room (Nat.le_of_ble_eq_true rfl)) dX0_hashOfSons_20 ⟨Nat.zero_le _, Nat.zero_le _⟩) hS hP (fun H locs hP hS => ?_)
  exact W.iret (v := hs_mx (f (nw + 2 * x - 1)) (f (nw + (2 * x + 1) - 1))) hx hb hr (fun t ht hW => ⟨⟨hs_mx (f (nw + 2 * x - 1)) (f (nw + (2 * x + 1) - 1)), (), rfl, rfl, trivial⟩, hS.F ht⟩) hS.2.2 dX0_hashOfSons_23
set_option maxHeartbeats 4000000 in
set_option maxRecDepth 100000 in
theorem kX0_hasWordBelowZero (l : Launch) (dC : Nat → ClassId) (dI : Nat → Nat → Nat) (h0 hd hp : Nat) (cA : ClassId) (d N w nw sz u : Nat) (F G : Nat → Int32) (kr dn lf : Int32) (dw : Bool) (ok : hs_ok d N w nw sz) (o j : Nat) (hj : j < N) (ho : o + nw ≤ 2 * sz) : Met l yX0_hasWordBelowZero wsX0_hasWordBelowZero ({ frames := 1, cells := 0, slots := 0, locals := 22 }) (va_Pc [.ref h0, .int (nI o), .int (nI j)] (hs_pr (dC, dI) vwCl [(cA, .int)] [oX_ h0 hd hp d N w nw sz u kr dn lf dw, ar_ hd cA (2 * sz) F])) (hs_Qp (fun r => r = hs_b (hs_ng (fun x => F (o + x)) w (j * w)))) 0 0 (fun _ => False) := by
  refine Met.ofW (cc := cX0_hasWordBelowZero) (maxL := 4) (ret := (some .boolean)) (by decide) rfl ?_
  intro p e s m args below meth c s₁ B hml hv
  obtain ⟨rfl, hP, hK⟩ := hv
  have hx := B.exec
  have hb := B.bytes
  have hr := B.returns
  have hts := atoms_spec (ws := wsX0_hasWordBelowZero) B.pre
  have hown : s.vm.findClass RX0 = some m.cls := findClass_of_methodNamed B.named
  have hlocks := B.notSynchronized
  obtain ⟨hd5, hN1, hN2, hw1, hw2, hn1, hn2, hsz, hsz2⟩ := hs_okf ok
  have hnw : nw = N * w := ok.2.2.2.2.1
  have hS : va_S (fun _ => False) s.heap s.heap [] := va_S.rf
  have hl := lv_entry ([.ref h0, .int (nI o), .int (nI j)]) (n := 4) (Nat.le_of_ble_eq_true rfl)
  rw [lg_entry_eq]
  generalize (lg_sl ([.ref h0, .int (nI o), .int (nI j)]) ++ List.replicate (4 - (lg_sl ([.ref h0, .int (nI o), .int (nI j)])).length) Slot.unset).toArray = ls at hl ⊢
  have hl : lv_has ls 4 [(0, .ref h0), (1, .int (nI o)), (2, .int (nI j))] := hl
  have hrow := hs_row ok hj
  refine lv_iconst (v := nI 0) hx hb dX0_hasWordBelowZero_0 (by decide) ?_
  refine lv_istore_n (lv' := [(3, .int (nI 0)), (0, .ref h0), (1, .int (nI o)), (2, .int (nI j))]) hx hb dX0_hasWordBelowZero_1 rfl hl (by decide) rfl (fun ls hl => ?_)
  have loop : ∀ (n : Nat) (i : Nat) (H : Heap) (locs : List Loc) (ls : Array Slot), (i + n = w) → (hs_ng (fun x => F (o + x)) n (j * w + i) = hs_ng (fun x => F (o + x)) w (j * w)) → va_P (dC, dI) vwCl [oX_ h0 hd hp d N w nw sz u kr dn lf dw, ar_ hd cA (2 * sz) F] H → va_S (fun _ => False) s.heap H locs → lv_has ls 4 [(3, .int (nI i)), (0, .ref h0), (1, .int (nI o)), (2, .int (nI j))] → W p l e (headSpec wsX0_hasWordBelowZero ({ frames := 1, cells := 0, slots := 0, locals := 22 })).room s m ([.ref h0, .int (nI o), .int (nI j)] : List Value).toArray below meth c H locs 0 0 (MQ below (hs_Qp (fun r => r = hs_b (hs_ng (fun x => F (o + x)) w (j * w)))) ([.ref h0, .int (nI o), .int (nI j)] : List Value).toArray s 0 0 (fun _ => False)) (F0 m 2 ls []) := by
    intro n
    induction n with
    | zero =>
      intro i H locs ls hi he hP hS hl
      refine lv_iload_n hx hb dX0_hasWordBelowZero_2 rfl (lv_at hl 0 rfl) ?_
      refine lv_aload_n hx hb dX0_hasWordBelowZero_3 rfl (lv_at hl 1 rfl) ?_
      refine va_get (D := (dC, dI)) (ci := 0) (v := .int (nI w)) (C := RX0) (T := TX0) (N := 12) hx hb hts (by decide +kernel) hown hK hP 0 rfl rfl 2 (by decide) (hts (.fieldLink RX0 22 "HashedStore" "wordsPerBlock" "I") (by decide +kernel)) (fun _ h9 => h9) rfl dX0_hasWordBelowZero_4 ?_
      refine hs_cge (tgt := 34) hx hb (by omega) (by omega) dX0_hasWordBelowZero_7 (by decide) (fun c1 => ?_) (fun c1 => ?_)
      · refine lv_iconst (v := nI 0) hx hb dX0_hasWordBelowZero_34 (by decide) ?_
        exact W.zret (v := nI 0) hx hb hr rfl (fun t ht hW => ⟨⟨nI 0, (), rfl, (by rw [← he]; rfl), trivial⟩, hS.F ht⟩) hS.2.2 dX0_hasWordBelowZero_35
      · exact absurd c1 (by omega)
    | succ n ih =>
      intro i H locs ls hi he hP hS hl
      refine lv_iload_n hx hb dX0_hasWordBelowZero_2 rfl (lv_at hl 0 rfl) ?_
      refine lv_aload_n hx hb dX0_hasWordBelowZero_3 rfl (lv_at hl 1 rfl) ?_
      refine va_get (D := (dC, dI)) (ci := 0) (v := .int (nI w)) (C := RX0) (T := TX0) (N := 12) hx hb hts (by decide +kernel) hown hK hP 0 rfl rfl 2 (by decide) (hts (.fieldLink RX0 22 "HashedStore" "wordsPerBlock" "I") (by decide +kernel)) (fun _ h9 => h9) rfl dX0_hasWordBelowZero_4 ?_
      refine hs_cge (tgt := 34) hx hb (by omega) (by omega) dX0_hasWordBelowZero_7 (by decide) (fun c1 => ?_) (fun c1 => ?_)
      · exact absurd c1 (by omega)
      · refine lv_aload_n hx hb dX0_hasWordBelowZero_10 rfl (lv_at hl 1 rfl) ?_
        refine va_get (D := (dC, dI)) (ci := 0) (v := .ref hd) (C := RX0) (T := TX0) (N := 12) hx hb hts (by decide +kernel) hown hK hP 0 rfl rfl 5 (by decide) (hts (.fieldLink RX0 34 "HashedStore" "disk" "[I") (by decide +kernel)) (fun _ h9 => h9) rfl dX0_hasWordBelowZero_11 ?_
        refine lv_iload_n hx hb dX0_hasWordBelowZero_14 rfl (lv_at hl 2 rfl) ?_
        refine lv_aload_n hx hb dX0_hasWordBelowZero_15 rfl (lv_at hl 1 rfl) ?_
        refine lv_iload_n hx hb dX0_hasWordBelowZero_16 rfl (lv_at hl 3 rfl) ?_
        refine lv_iload_n hx hb dX0_hasWordBelowZero_17 rfl (lv_at hl 0 rfl) ?_
        refine hs_pe (v := nI (j * w + i)) (va_runV (As := [.int (nI j), .int (nI i)]) (rest := [.int (nI o), .ref hd]) ⟨hx, hb, hml, hown, hts⟩ (kX0_wordCell l dC dI h0 hd hp cA d N w nw sz u F G kr dn lf dw ok j i) (cwV 2 hts gX0_hasWordBelowZero_X0_wordCell rfl rfl rfl (by decide +kernel) ⟨(Nat.le_of_ble_eq_true rfl), (Nat.le_of_ble_eq_true rfl)⟩) (hs_preV (q := (RX0, TX0, 12)) (ci := 0) hK (hP.sub [0] rfl) rfl rfl) rfl rfl hl.1 rfl (lv_room (Nat.le_of_ble_eq_true rfl)) dX0_hasWordBelowZero_18 ⟨Nat.zero_le _, Nat.zero_le _⟩) hS hP (fun H locs hP hS => ?_)
        refine hs_addN hx hb dX0_hasWordBelowZero_21 ?_
        refine hs_ald hx hb hK hP 1 0 rfl rfl (k := o + (j * w + i)) (by omega) (by omega) dX0_hasWordBelowZero_22 ?_
        refine lv_if_ge (tgt := 28) hx hb dX0_hasWordBelowZero_23 (by decide) (fun c2 => ?_) (fun c2 => ?_)
        · refine lv_iinc (v := nI (i + 1)) (lv' := [(3, .int (nI (i + 1))), (0, .ref h0), (1, .int (nI o)), (2, .int (nI j))]) hx hb dX0_hasWordBelowZero_28 hl (k := 0) rfl (nI_1 _) (by decide) rfl (fun ls hl => ?_)
          refine lv_goto (tgt := 2) hx hb dX0_hasWordBelowZero_31 (by decide) ?_
          exact ih (i + 1) H locs ls (by omega) ((if_neg (Int32.not_lt.mpr c2)).symm.trans he) hP hS (lv_sub hl [0, 1, 2, 3] rfl)
        · refine lv_iconst (v := nI 1) hx hb dX0_hasWordBelowZero_26 (by decide) ?_
          exact W.zret (v := nI 1) hx hb hr rfl (fun t ht hW => ⟨⟨nI 1, (), rfl, (by rw [← he]; show _ = hs_b (if F (o + (j * w + i)) < 0 then true else _); rw [if_pos (Int32.not_le.mp c2)]; rfl), trivial⟩, hS.F ht⟩) hS.2.2 dX0_hasWordBelowZero_27
  exact loop w 0 _ _ ls (by omega) rfl hP hS (lv_sub hl [0, 1, 2, 3] rfl)
set_option maxHeartbeats 4000000 in
set_option maxRecDepth 100000 in
theorem kX0_rootByWayOf (l : Launch) (dC : Nat → ClassId) (dI : Nat → Nat → Nat) (h0 hd hp : Nat) (cA : ClassId) (d N w nw sz u : Nat) (F G : Nat → Int32) (kr dn lf : Int32) (dw : Bool) (ok : hs_ok d N w nw sz) (o j : Nat) (hj : j < N) (ho : o + sz ≤ 2 * sz) : Met l yX0_rootByWayOf wsX0_rootByWayOf ({ frames := 2, cells := 0, slots := 0, locals := 47 }) (va_Pc [.ref h0, .int (nI o), .int (nI j)] (hs_pr (dC, dI) vwCl [(cA, .int)] [oX_ h0 hd hp d N w nw sz u kr dn lf dw, ar_ hd cA (2 * sz) F])) (hs_Qp (fun r => r = hs_rt d N w nw (fun x => F (o + x)) j)) 0 0 (fun _ => False) := by
  refine Met.ofW (cc := cX0_rootByWayOf) (maxL := 8) (ret := (some .int)) (by decide) rfl ?_
  intro p e s m args below meth c s₁ B hml hv
  obtain ⟨rfl, hP, hK⟩ := hv
  have hx := B.exec
  have hb := B.bytes
  have hr := B.returns
  have hts := atoms_spec (ws := wsX0_rootByWayOf) B.pre
  have hown : s.vm.findClass RX0 = some m.cls := findClass_of_methodNamed B.named
  have hlocks := B.notSynchronized
  obtain ⟨hd5, hN1, hN2, hw1, hw2, hn1, hn2, hsz, hsz2⟩ := hs_okf ok
  have hnw : nw = N * w := ok.2.2.2.2.1
  have hS : va_S (fun _ => False) s.heap s.heap [] := va_S.rf
  have hl := lv_entry ([.ref h0, .int (nI o), .int (nI j)]) (n := 8) (Nat.le_of_ble_eq_true rfl)
  rw [lg_entry_eq]
  generalize (lg_sl ([.ref h0, .int (nI o), .int (nI j)]) ++ List.replicate (8 - (lg_sl ([.ref h0, .int (nI o), .int (nI j)])).length) Slot.unset).toArray = ls at hl ⊢
  have hl : lv_has ls 8 [(0, .ref h0), (1, .int (nI o)), (2, .int (nI j))] := hl
  refine lv_aload_n hx hb dX0_rootByWayOf_0 rfl (lv_at hl 0 rfl) ?_
  refine lv_aload_n hx hb dX0_rootByWayOf_1 rfl (lv_at hl 0 rfl) ?_
  refine va_get (D := (dC, dI)) (ci := 0) (v := .ref hd) (C := RX0) (T := TX0) (N := 12) hx hb hts (by decide +kernel) hown hK hP 0 rfl rfl 5 (by decide) (hts (.fieldLink RX0 34 "HashedStore" "disk" "[I") (by decide +kernel)) (fun _ h9 => h9) rfl dX0_rootByWayOf_2 ?_
  refine lv_iload_n hx hb dX0_rootByWayOf_5 rfl (lv_at hl 1 rfl) ?_
  refine lv_iload_n hx hb dX0_rootByWayOf_6 rfl (lv_at hl 2 rfl) ?_
  refine hs_pe (v := hs_bl (fun x => F (o + x)) w (j * w) (nI j)) (va_runV (As := [.ref hd, .int (nI o), .int (nI j)]) (rest := []) ⟨hx, hb, hml, hown, hts⟩ (kX0_blockHash l dC dI h0 hd hp cA d N w nw sz u F G kr dn lf dw ok hd (2 * sz) F o j hj (by omega) (by omega)) (cwV 3 hts gX0_rootByWayOf_X0_blockHash rfl rfl rfl (by decide +kernel) ⟨(Nat.le_of_ble_eq_true rfl), (Nat.le_of_ble_eq_true rfl)⟩) (hs_preV (q := (RX0, TX0, 12)) (ci := 0) hK hP rfl rfl) rfl rfl hl.1 rfl (lv_room (Nat.le_of_ble_eq_true rfl)) dX0_rootByWayOf_7 ⟨Nat.zero_le _, Nat.zero_le _⟩) hS hP (fun H locs hP hS => ?_)
  refine lv_istore_n (lv' := [(3, .int (hs_bl (fun x => F (o + x)) w (j * w) (nI j))), (0, .ref h0), (1, .int (nI o)), (2, .int (nI j))]) hx hb dX0_rootByWayOf_10 rfl hl (by decide) rfl (fun ls hl => ?_)
  refine lv_aload_n hx hb dX0_rootByWayOf_11 rfl (lv_at hl 1 rfl) ?_
  refine lv_iload_n hx hb dX0_rootByWayOf_12 rfl (lv_at hl 3 rfl) ?_
  refine hs_pe (v := nI (N + j)) (va_runV (As := [.int (nI j)]) (rest := []) ⟨hx, hb, hml, hown, hts⟩ (kX0_leafOf l dC dI h0 hd hp cA d N w nw sz u F G kr dn lf dw ok j) (cwV 1 hts gX0_rootByWayOf_X0_leafOf rfl rfl rfl (by decide +kernel) ⟨(Nat.le_of_ble_eq_true rfl), (Nat.le_of_ble_eq_true rfl)⟩) (hs_preV (q := (RX0, TX0, 12)) (ci := 0) hK (hP.sub [0] rfl) rfl rfl) rfl rfl hl.1 rfl (lv_room (Nat.le_of_ble_eq_true rfl)) dX0_rootByWayOf_13 ⟨Nat.zero_le _, Nat.zero_le _⟩) hS hP (fun H locs hP hS => ?_)
  refine lv_istore (lv' := [(4, .int (nI (N + j))), (3, .int (hs_bl (fun x => F (o + x)) w (j * w) (nI j))), (0, .ref h0), (1, .int (nI o)), (2, .int (nI j))]) hx hb dX0_rootByWayOf_16 hl (by decide) rfl (fun ls hl => ?_)
  refine lv_iconst (v := nI 0) hx hb dX0_rootByWayOf_18 (by decide) ?_
  refine lv_istore (lv' := [(5, .int (nI 0)), (4, .int (nI (N + j))), (3, .int (hs_bl (fun x => F (o + x)) w (j * w) (nI j))), (0, .ref h0), (1, .int (nI o)), (2, .int (nI j))]) hx hb dX0_rootByWayOf_19 hl (by decide) rfl (fun ls hl => ?_)
  have loop : ∀ (n : Nat) (i kk : Nat) (h : Int32) (H : Heap) (locs : List Loc) (ls : Array Slot), (i + n = d) → (hs_lv n kk) → (kk < 2 * N) → (hs_up nw (fun x => F (o + x)) n kk h = hs_rt d N w nw (fun x => F (o + x)) j) → va_P (dC, dI) vwCl [oX_ h0 hd hp d N w nw sz u kr dn lf dw, ar_ hd cA (2 * sz) F] H → va_S (fun _ => False) s.heap H locs → lv_has ls 8 [(5, .int (nI i)), (4, .int (nI kk)), (3, .int h), (0, .ref h0), (1, .int (nI o)), (2, .int (nI j))] → W p l e (headSpec wsX0_rootByWayOf ({ frames := 2, cells := 0, slots := 0, locals := 47 })).room s m ([.ref h0, .int (nI o), .int (nI j)] : List Value).toArray below meth c H locs 0 0 (MQ below (hs_Qp (fun r => r = hs_rt d N w nw (fun x => F (o + x)) j)) ([.ref h0, .int (nI o), .int (nI j)] : List Value).toArray s 0 0 (fun _ => False)) (F0 m 21 ls []) := by
    intro n
    induction n with
    | zero =>
      intro i kk h H locs ls hi hlv hk2 he hP hS hl
      refine lv_iload hx hb dX0_rootByWayOf_21 (lv_at hl 0 rfl) ?_
      refine lv_aload_n hx hb dX0_rootByWayOf_23 rfl (lv_at hl 3 rfl) ?_
      refine va_get (D := (dC, dI)) (ci := 0) (v := .int (nI d)) (C := RX0) (T := TX0) (N := 12) hx hb hts (by decide +kernel) hown hK hP 0 rfl rfl 0 (by decide) (hts (.fieldLink RX0 18 "HashedStore" "treeDepth" "I") (by decide +kernel)) (fun _ h9 => h9) rfl dX0_rootByWayOf_24 ?_
      refine hs_cge (tgt := 106) hx hb (by omega) (by omega) dX0_rootByWayOf_27 (by decide) (fun c1 => ?_) (fun c1 => ?_)
      · refine lv_iload_n hx hb dX0_rootByWayOf_106 rfl (lv_at hl 2 rfl) ?_
        exact W.iret (v := h) hx hb hr (fun t ht hW => ⟨⟨h, (), rfl, he, trivial⟩, hS.F ht⟩) hS.2.2 dX0_rootByWayOf_107
      · exact absurd c1 (by omega)
    | succ n ih =>
      intro i kk h H locs ls hi hlv hk2 he hP hS hl
      obtain ⟨hlv1, hk1⟩ := hs_lv_s hlv
      refine lv_iload hx hb dX0_rootByWayOf_21 (lv_at hl 0 rfl) ?_
      refine lv_aload_n hx hb dX0_rootByWayOf_23 rfl (lv_at hl 3 rfl) ?_
      refine va_get (D := (dC, dI)) (ci := 0) (v := .int (nI d)) (C := RX0) (T := TX0) (N := 12) hx hb hts (by decide +kernel) hown hK hP 0 rfl rfl 0 (by decide) (hts (.fieldLink RX0 18 "HashedStore" "treeDepth" "I") (by decide +kernel)) (fun _ h9 => h9) rfl dX0_rootByWayOf_24 ?_
      refine hs_cge (tgt := 106) hx hb (by omega) (by omega) dX0_rootByWayOf_27 (by decide) (fun c1 => ?_) (fun c1 => ?_)
      · exact absurd c1 (by omega)
      · refine lv_iload hx hb dX0_rootByWayOf_30 (lv_at hl 1 rfl) ?_
        refine lv_iconst (v := nI 2) hx hb dX0_rootByWayOf_32 (by decide) ?_
        refine hs_remN hx hb (by omega) (by omega) (by omega) dX0_rootByWayOf_33 ?_
        refine hs_zne (tgt := 41) hx hb (by omega) dX0_rootByWayOf_34 (by decide) (fun c2 => ?_) (fun c2 => ?_)
        · refine lv_iconst (v := hs_b false) hx hb dX0_rootByWayOf_41 (by decide) ?_
          refine lv_istore (lv' := [(6, .int (hs_b false)), (5, .int (nI i)), (4, .int (nI kk)), (3, .int h), (0, .ref h0), (1, .int (nI o)), (2, .int (nI j))]) hx hb dX0_rootByWayOf_42 hl (by decide) rfl (fun ls hl => ?_)
          refine lv_aload_n hx hb dX0_rootByWayOf_44 rfl (lv_at hl 4 rfl) ?_
          refine va_get (D := (dC, dI)) (ci := 0) (v := .ref hd) (C := RX0) (T := TX0) (N := 12) hx hb hts (by decide +kernel) hown hK hP 0 rfl rfl 5 (by decide) (hts (.fieldLink RX0 34 "HashedStore" "disk" "[I") (by decide +kernel)) (fun _ h9 => h9) rfl dX0_rootByWayOf_45 ?_
          refine lv_iload_n hx hb dX0_rootByWayOf_48 rfl (lv_at hl 5 rfl) ?_
          refine lv_aload_n hx hb dX0_rootByWayOf_49 rfl (lv_at hl 4 rfl) ?_
          refine lv_iload hx hb dX0_rootByWayOf_50 (lv_at hl 0 rfl) ?_
          refine hs_beq (tgt := 62) hx hb dX0_rootByWayOf_52 (by decide) (fun c3 => ?_) (fun c3 => ?_)
          · refine lv_iload hx hb dX0_rootByWayOf_62 (lv_at hl 2 rfl) ?_
            refine lv_iconst (v := nI 1) hx hb dX0_rootByWayOf_64 (by decide) ?_
            refine hs_subN hx hb (by omega) dX0_rootByWayOf_65 ?_
            refine hs_pe (v := nI (nw + (kk - 1) - 1)) (va_runV (As := [.int (nI (kk - 1))]) (rest := [.int (nI o), .ref hd]) ⟨hx, hb, hml, hown, hts⟩ (kX0_nodeCell l dC dI h0 hd hp cA d N w nw sz u F G kr dn lf dw ok (kk - 1)) (cwV 1 hts gX0_rootByWayOf_X0_nodeCell rfl rfl rfl (by decide +kernel) ⟨(Nat.le_of_ble_eq_true rfl), (Nat.le_of_ble_eq_true rfl)⟩) (hs_preV (q := (RX0, TX0, 12)) (ci := 0) hK (hP.sub [0] rfl) rfl rfl) rfl rfl hl.1 rfl (lv_room (Nat.le_of_ble_eq_true rfl)) dX0_rootByWayOf_66 ⟨Nat.zero_le _, Nat.zero_le _⟩) hS hP (fun H locs hP hS => ?_)
            refine hs_addN hx hb dX0_rootByWayOf_69 ?_
            refine hs_ald hx hb hK hP 1 0 rfl rfl (k := o + (nw + (kk - 1) - 1)) (by omega) (by omega) dX0_rootByWayOf_70 ?_
            refine lv_istore (lv' := [(7, .int (F (o + (nw + (kk - 1) - 1)))), (6, .int (hs_b false)), (5, .int (nI i)), (4, .int (nI kk)), (3, .int h), (0, .ref h0), (1, .int (nI o)), (2, .int (nI j))]) hx hb dX0_rootByWayOf_71 hl (by decide) rfl (fun ls hl => ?_)
            refine lv_iload hx hb dX0_rootByWayOf_73 (lv_at hl 1 rfl) ?_
            refine hs_beq (tgt := 87) hx hb dX0_rootByWayOf_75 (by decide) (fun c4 => ?_) (fun c4 => ?_)
            · refine lv_iload hx hb dX0_rootByWayOf_87 (lv_at hl 0 rfl) ?_
              refine lv_iload_n hx hb dX0_rootByWayOf_89 rfl (lv_at hl 4 rfl) ?_
              refine hs_pe (v := hs_mx (F (o + (nw + (kk - 1) - 1))) h) (va_runS (As := [.int (F (o + (nw + (kk - 1) - 1))), .int h]) (rest := []) ⟨hx, hb, hml, hown, hts⟩ (kX0_mix l _ _) (va_cwS 2 hts gX0_rootByWayOf_X0_mix rfl rfl rfl (by decide +kernel) ⟨(Nat.le_of_ble_eq_true rfl), (Nat.le_of_ble_eq_true rfl)⟩) hs_preT rfl rfl hl.1 rfl (lv_room (Nat.le_of_ble_eq_true rfl)) dX0_rootByWayOf_90 ⟨Nat.zero_le _, Nat.zero_le _⟩) hS hP (fun H locs hP hS => ?_)
              refine lv_istore_n (lv' := [(3, .int (hs_mx (F (o + (nw + (kk - 1) - 1))) h)), (7, .int (F (o + (nw + (kk - 1) - 1)))), (6, .int (hs_b false)), (5, .int (nI i)), (4, .int (nI kk)), (0, .ref h0), (1, .int (nI o)), (2, .int (nI j))]) hx hb dX0_rootByWayOf_93 rfl hl (by decide) rfl (fun ls hl => ?_)
              refine lv_iload hx hb dX0_rootByWayOf_94 (lv_at hl 4 rfl) ?_
              refine lv_iconst (v := nI 2) hx hb dX0_rootByWayOf_96 (by decide) ?_
              refine hs_divN hx hb (by omega) (by omega) (by omega) dX0_rootByWayOf_97 ?_
              refine lv_istore (lv' := [(4, .int (nI (kk / 2))), (3, .int (hs_mx (F (o + (nw + (kk - 1) - 1))) h)), (7, .int (F (o + (nw + (kk - 1) - 1)))), (6, .int (hs_b false)), (5, .int (nI i)), (0, .ref h0), (1, .int (nI o)), (2, .int (nI j))]) hx hb dX0_rootByWayOf_98 hl (by decide) rfl (fun ls hl => ?_)
              refine lv_iinc (v := nI (i + 1)) (lv' := [(5, .int (nI (i + 1))), (4, .int (nI (kk / 2))), (3, .int (hs_mx (F (o + (nw + (kk - 1) - 1))) h)), (7, .int (F (o + (nw + (kk - 1) - 1)))), (6, .int (hs_b false)), (0, .ref h0), (1, .int (nI o)), (2, .int (nI j))]) hx hb dX0_rootByWayOf_100 hl (k := 4) rfl (nI_1 _) (by decide) rfl (fun ls hl => ?_)
              refine lv_goto (tgt := 21) hx hb dX0_rootByWayOf_103 (by decide) ?_
              exact ih (i + 1) (kk / 2) _ H locs ls (by omega) hlv1 (by omega) (by rw [← he]; show _ = hs_up nw _ n (kk / 2) (hs_st nw _ kk h); unfold hs_st; rw [if_neg c2]) hP hS (lv_sub hl [0, 1, 2, 5, 6, 7] rfl)
            · exact absurd c4 (by decide)
          · exact absurd c3 (by decide)
        · refine lv_iconst (v := hs_b true) hx hb dX0_rootByWayOf_37 (by decide) ?_
          refine lv_goto (tgt := 42) hx hb dX0_rootByWayOf_38 (by decide) ?_
          refine lv_istore (lv' := [(6, .int (hs_b true)), (5, .int (nI i)), (4, .int (nI kk)), (3, .int h), (0, .ref h0), (1, .int (nI o)), (2, .int (nI j))]) hx hb dX0_rootByWayOf_42 hl (by decide) rfl (fun ls hl => ?_)
          refine lv_aload_n hx hb dX0_rootByWayOf_44 rfl (lv_at hl 4 rfl) ?_
          refine va_get (D := (dC, dI)) (ci := 0) (v := .ref hd) (C := RX0) (T := TX0) (N := 12) hx hb hts (by decide +kernel) hown hK hP 0 rfl rfl 5 (by decide) (hts (.fieldLink RX0 34 "HashedStore" "disk" "[I") (by decide +kernel)) (fun _ h9 => h9) rfl dX0_rootByWayOf_45 ?_
          refine lv_iload_n hx hb dX0_rootByWayOf_48 rfl (lv_at hl 5 rfl) ?_
          refine lv_aload_n hx hb dX0_rootByWayOf_49 rfl (lv_at hl 4 rfl) ?_
          refine lv_iload hx hb dX0_rootByWayOf_50 (lv_at hl 0 rfl) ?_
          refine hs_beq (tgt := 62) hx hb dX0_rootByWayOf_52 (by decide) (fun c3 => ?_) (fun c3 => ?_)
          · exact absurd c3 (by decide)
          · refine lv_iload hx hb dX0_rootByWayOf_55 (lv_at hl 2 rfl) ?_
            refine lv_iconst (v := nI 1) hx hb dX0_rootByWayOf_57 (by decide) ?_
            refine hs_addN hx hb dX0_rootByWayOf_58 ?_
            refine lv_goto (tgt := 66) hx hb dX0_rootByWayOf_59 (by decide) ?_
            refine hs_pe (v := nI (nw + (kk + 1) - 1)) (va_runV (As := [.int (nI (kk + 1))]) (rest := [.int (nI o), .ref hd]) ⟨hx, hb, hml, hown, hts⟩ (kX0_nodeCell l dC dI h0 hd hp cA d N w nw sz u F G kr dn lf dw ok (kk + 1)) (cwV 1 hts gX0_rootByWayOf_X0_nodeCell rfl rfl rfl (by decide +kernel) ⟨(Nat.le_of_ble_eq_true rfl), (Nat.le_of_ble_eq_true rfl)⟩) (hs_preV (q := (RX0, TX0, 12)) (ci := 0) hK (hP.sub [0] rfl) rfl rfl) rfl rfl hl.1 rfl (lv_room (Nat.le_of_ble_eq_true rfl)) dX0_rootByWayOf_66 ⟨Nat.zero_le _, Nat.zero_le _⟩) hS hP (fun H locs hP hS => ?_)
            refine hs_addN hx hb dX0_rootByWayOf_69 ?_
            refine hs_ald hx hb hK hP 1 0 rfl rfl (k := o + (nw + (kk + 1) - 1)) (by omega) (by omega) dX0_rootByWayOf_70 ?_
            refine lv_istore (lv' := [(7, .int (F (o + (nw + (kk + 1) - 1)))), (6, .int (hs_b true)), (5, .int (nI i)), (4, .int (nI kk)), (3, .int h), (0, .ref h0), (1, .int (nI o)), (2, .int (nI j))]) hx hb dX0_rootByWayOf_71 hl (by decide) rfl (fun ls hl => ?_)
            refine lv_iload hx hb dX0_rootByWayOf_73 (lv_at hl 1 rfl) ?_
            refine hs_beq (tgt := 87) hx hb dX0_rootByWayOf_75 (by decide) (fun c4 => ?_) (fun c4 => ?_)
            · exact absurd c4 (by decide)
            · refine lv_iload_n hx hb dX0_rootByWayOf_78 rfl (lv_at hl 4 rfl) ?_
              refine lv_iload hx hb dX0_rootByWayOf_79 (lv_at hl 0 rfl) ?_
              refine hs_pe (v := hs_mx h (F (o + (nw + (kk + 1) - 1)))) (va_runS (As := [.int h, .int (F (o + (nw + (kk + 1) - 1)))]) (rest := []) ⟨hx, hb, hml, hown, hts⟩ (kX0_mix l _ _) (va_cwS 2 hts gX0_rootByWayOf_X0_mix rfl rfl rfl (by decide +kernel) ⟨(Nat.le_of_ble_eq_true rfl), (Nat.le_of_ble_eq_true rfl)⟩) hs_preT rfl rfl hl.1 rfl (lv_room (Nat.le_of_ble_eq_true rfl)) dX0_rootByWayOf_81 ⟨Nat.zero_le _, Nat.zero_le _⟩) hS hP (fun H locs hP hS => ?_)
              refine lv_goto (tgt := 93) hx hb dX0_rootByWayOf_84 (by decide) ?_
              refine lv_istore_n (lv' := [(3, .int (hs_mx h (F (o + (nw + (kk + 1) - 1))))), (7, .int (F (o + (nw + (kk + 1) - 1)))), (6, .int (hs_b true)), (5, .int (nI i)), (4, .int (nI kk)), (0, .ref h0), (1, .int (nI o)), (2, .int (nI j))]) hx hb dX0_rootByWayOf_93 rfl hl (by decide) rfl (fun ls hl => ?_)
              refine lv_iload hx hb dX0_rootByWayOf_94 (lv_at hl 4 rfl) ?_
              refine lv_iconst (v := nI 2) hx hb dX0_rootByWayOf_96 (by decide) ?_
              refine hs_divN hx hb (by omega) (by omega) (by omega) dX0_rootByWayOf_97 ?_
              refine lv_istore (lv' := [(4, .int (nI (kk / 2))), (3, .int (hs_mx h (F (o + (nw + (kk + 1) - 1))))), (7, .int (F (o + (nw + (kk + 1) - 1)))), (6, .int (hs_b true)), (5, .int (nI i)), (0, .ref h0), (1, .int (nI o)), (2, .int (nI j))]) hx hb dX0_rootByWayOf_98 hl (by decide) rfl (fun ls hl => ?_)
              refine lv_iinc (v := nI (i + 1)) (lv' := [(5, .int (nI (i + 1))), (4, .int (nI (kk / 2))), (3, .int (hs_mx h (F (o + (nw + (kk + 1) - 1))))), (7, .int (F (o + (nw + (kk + 1) - 1)))), (6, .int (hs_b true)), (0, .ref h0), (1, .int (nI o)), (2, .int (nI j))]) hx hb dX0_rootByWayOf_100 hl (k := 4) rfl (nI_1 _) (by decide) rfl (fun ls hl => ?_)
              refine lv_goto (tgt := 21) hx hb dX0_rootByWayOf_103 (by decide) ?_
              exact ih (i + 1) (kk / 2) _ H locs ls (by omega) hlv1 (by omega) (by rw [← he]; show _ = hs_up nw _ n (kk / 2) (hs_st nw _ kk h); unfold hs_st; rw [if_pos c2]) hP hS (lv_sub hl [0, 1, 2, 5, 6, 7] rfl)
  exact loop d 0 (N + j) _ _ _ ls (by omega) (hs_lv_b ok hj) (by omega) rfl hP hS (lv_sub hl [0, 1, 2, 3, 4, 5] rfl)
set_option maxHeartbeats 4000000 in
set_option maxRecDepth 100000 in
theorem kX0_isRight (l : Launch) (dC : Nat → ClassId) (dI : Nat → Nat → Nat) (h0 hd hp : Nat) (cA : ClassId) (d N w nw sz u : Nat) (F G : Nat → Int32) (kr dn lf : Int32) (dw : Bool) (ok : hs_ok d N w nw sz) (j : Nat) (hj : j < N) (hu : u < 2) : Met l yX0_isRight wsX0_isRight ({ frames := 3, cells := 0, slots := 0, locals := 74 }) (va_Pc [.ref h0, .int (nI j)] (hs_pr (dC, dI) vwCl [(cA, .int)] [oX_ h0 hd hp d N w nw sz u kr dn lf dw, ar_ hd cA (2 * sz) F])) (hs_Qp (fun r => r = hs_b (hs_rg d N w nw (hs_vw sz F u) kr j))) 0 0 (fun _ => False) := by
  refine Met.ofW (cc := cX0_isRight) (maxL := 3) (ret := (some .boolean)) (by decide) rfl ?_
  intro p e s m args below meth c s₁ B hml hv
  obtain ⟨rfl, hP, hK⟩ := hv
  have hx := B.exec
  have hb := B.bytes
  have hr := B.returns
  have hts := atoms_spec (ws := wsX0_isRight) B.pre
  have hown : s.vm.findClass RX0 = some m.cls := findClass_of_methodNamed B.named
  have hlocks := B.notSynchronized
  obtain ⟨hd5, hN1, hN2, hw1, hw2, hn1, hn2, hsz, hsz2⟩ := hs_okf ok
  have hnw : nw = N * w := ok.2.2.2.2.1
  have hS : va_S (fun _ => False) s.heap s.heap [] := va_S.rf
  have hl := lv_entry ([.ref h0, .int (nI j)]) (n := 3) (Nat.le_of_ble_eq_true rfl)
  rw [lg_entry_eq]
  generalize (lg_sl ([.ref h0, .int (nI j)]) ++ List.replicate (3 - (lg_sl ([.ref h0, .int (nI j)])).length) Slot.unset).toArray = ls at hl ⊢
  have hl : lv_has ls 3 [(0, .ref h0), (1, .int (nI j))] := hl
  have hus : u * sz + sz ≤ 2 * sz := hs_us2 hu
  refine lv_aload_n hx hb dX0_isRight_0 rfl (lv_at hl 0 rfl) ?_
  refine lv_aload_n hx hb dX0_isRight_1 rfl (lv_at hl 0 rfl) ?_
  refine va_get (D := (dC, dI)) (ci := 0) (v := .int (nI u)) (C := RX0) (T := TX0) (N := 12) hx hb hts (by decide +kernel) hown hK hP 0 rfl rfl 7 (by decide) (hts (.fieldLink RX0 60 "HashedStore" "areaInUse" "I") (by decide +kernel)) (fun _ h9 => h9) rfl dX0_isRight_2 ?_
  refine hs_pe (v := nI (u * sz)) (va_runV (As := [.int (nI u)]) (rest := []) ⟨hx, hb, hml, hown, hts⟩ (kX0_areaStart l dC dI h0 hd hp cA d N w nw sz u F G kr dn lf dw ok u) (cwV 1 hts gX0_isRight_X0_areaStart rfl rfl rfl (by decide +kernel) ⟨(Nat.le_of_ble_eq_true rfl), (Nat.le_of_ble_eq_true rfl)⟩) (hs_preV (q := (RX0, TX0, 12)) (ci := 0) hK (hP.sub [0] rfl) rfl rfl) rfl rfl hl.1 rfl (lv_room (Nat.le_of_ble_eq_true rfl)) dX0_isRight_5 ⟨Nat.zero_le _, Nat.zero_le _⟩) hS hP (fun H locs hP hS => ?_)
  refine lv_istore_n (lv' := [(2, .int (nI (u * sz))), (0, .ref h0), (1, .int (nI j))]) hx hb dX0_isRight_8 rfl hl (by decide) rfl (fun ls hl => ?_)
  refine lv_aload_n hx hb dX0_isRight_9 rfl (lv_at hl 1 rfl) ?_
  refine lv_iload_n hx hb dX0_isRight_10 rfl (lv_at hl 0 rfl) ?_
  refine lv_iload_n hx hb dX0_isRight_11 rfl (lv_at hl 2 rfl) ?_
  refine hs_pe (v := hs_b (hs_ng (hs_vw sz F u) w (j * w))) (va_runV (As := [.int (nI (u * sz)), .int (nI j)]) (rest := []) ⟨hx, hb, hml, hown, hts⟩ (kX0_hasWordBelowZero l dC dI h0 hd hp cA d N w nw sz u F G kr dn lf dw ok (u * sz) j hj (by omega)) (cwV 2 hts gX0_isRight_X0_hasWordBelowZero rfl rfl rfl (by decide +kernel) ⟨(Nat.le_of_ble_eq_true rfl), (Nat.le_of_ble_eq_true rfl)⟩) (hs_preV (q := (RX0, TX0, 12)) (ci := 0) hK hP rfl rfl) rfl rfl hl.1 rfl (lv_room (Nat.le_of_ble_eq_true rfl)) dX0_isRight_12 ⟨Nat.zero_le _, Nat.zero_le _⟩) hS hP (fun H locs hP hS => ?_)
  refine hs_bne (tgt := 35) hx hb dX0_isRight_15 (by decide) (fun c1 => ?_) (fun c1 => ?_)
  · refine lv_iconst (v := nI 0) hx hb dX0_isRight_35 (by decide) ?_
    exact W.zret (v := nI 0) hx hb hr rfl (fun t ht hW => ⟨⟨nI 0, (), rfl, (by unfold hs_rg; rw [if_pos c1]; rfl), trivial⟩, hS.F ht⟩) hS.2.2 dX0_isRight_36
  · refine lv_aload_n hx hb dX0_isRight_18 rfl (lv_at hl 1 rfl) ?_
    refine lv_iload_n hx hb dX0_isRight_19 rfl (lv_at hl 0 rfl) ?_
    refine lv_iload_n hx hb dX0_isRight_20 rfl (lv_at hl 2 rfl) ?_
    refine hs_pe (v := hs_rt d N w nw (hs_vw sz F u) j) (va_runV (As := [.int (nI (u * sz)), .int (nI j)]) (rest := []) ⟨hx, hb, hml, hown, hts⟩ (kX0_rootByWayOf l dC dI h0 hd hp cA d N w nw sz u F G kr dn lf dw ok (u * sz) j hj hus) (cwV 2 hts gX0_isRight_X0_rootByWayOf rfl rfl rfl (by decide +kernel) ⟨(Nat.le_of_ble_eq_true rfl), (Nat.le_of_ble_eq_true rfl)⟩) (hs_preV (q := (RX0, TX0, 12)) (ci := 0) hK hP rfl rfl) rfl rfl hl.1 rfl (lv_room (Nat.le_of_ble_eq_true rfl)) dX0_isRight_21 ⟨Nat.zero_le _, Nat.zero_le _⟩) hS hP (fun H locs hP hS => ?_)
    refine lv_aload_n hx hb dX0_isRight_24 rfl (lv_at hl 1 rfl) ?_
    refine va_get (D := (dC, dI)) (ci := 0) (v := .int kr) (C := RX0) (T := TX0) (N := 12) hx hb hts (by decide +kernel) hown hK hP 0 rfl rfl 8 (by decide) (hts (.fieldLink RX0 83 "HashedStore" "keptRoot" "I") (by decide +kernel)) (fun _ h9 => h9) rfl dX0_isRight_25 ?_
    refine lv_icmp_ne (tgt := 35) hx hb dX0_isRight_28 (by decide) (fun c2 => ?_) (fun c2 => ?_)
    · refine lv_iconst (v := nI 0) hx hb dX0_isRight_35 (by decide) ?_
      exact W.zret (v := nI 0) hx hb hr rfl (fun t ht hW => ⟨⟨nI 0, (), rfl, (by unfold hs_rg; rw [if_neg (hs_ff c1), decide_eq_false c2]; rfl), trivial⟩, hS.F ht⟩) hS.2.2 dX0_isRight_36
    · refine lv_iconst (v := nI 1) hx hb dX0_isRight_31 (by decide) ?_
      refine lv_goto (tgt := 36) hx hb dX0_isRight_32 (by decide) ?_
      exact W.zret (v := nI 1) hx hb hr rfl (fun t ht hW => ⟨⟨nI 1, (), rfl, (by unfold hs_rg; rw [if_neg (hs_ff c1), decide_eq_true c2]; rfl), trivial⟩, hS.F ht⟩) hS.2.2 dX0_isRight_36
set_option maxHeartbeats 4000000 in
set_option maxRecDepth 100000 in
theorem kX0_read (l : Launch) (dC : Nat → ClassId) (dI : Nat → Nat → Nat) (h0 hd hp : Nat) (cA : ClassId) (d N w nw sz u : Nat) (F G : Nat → Int32) (kr dn lf : Int32) (dw : Bool) (ok : hs_ok d N w nw sz) (p1 p2 : Int32) (hu : u < 2) : Met l yX0_read wsX0_read ({ frames := 4, cells := 0, slots := 0, locals := 96 }) (va_Pc [.ref h0, .int p1, .int p2] (hs_pr (dC, dI) vwCl [(cA, .int)] [oX_ h0 hd hp d N w nw sz u kr dn lf dw, ar_ hd cA (2 * sz) F])) (hs_Qp (fun r => r = hs_rd d N w nw sz p1 p2 (F, u, kr, dn, lf, dw))) 0 0 (fun _ => False) := by
  refine Met.ofW (cc := cX0_read) (maxL := 3) (ret := (some .int)) (by decide) rfl ?_
  intro p e s m args below meth c s₁ B hml hv
  obtain ⟨rfl, hP, hK⟩ := hv
  have hx := B.exec
  have hb := B.bytes
  have hr := B.returns
  have hts := atoms_spec (ws := wsX0_read) B.pre
  have hown : s.vm.findClass RX0 = some m.cls := findClass_of_methodNamed B.named
  have hlocks := B.notSynchronized
  obtain ⟨hd5, hN1, hN2, hw1, hw2, hn1, hn2, hsz, hsz2⟩ := hs_okf ok
  have hnw : nw = N * w := ok.2.2.2.2.1
  have hS : va_S (fun _ => False) s.heap s.heap [] := va_S.rf
  have hl := lv_entry ([.ref h0, .int p1, .int p2]) (n := 3) (Nat.le_of_ble_eq_true rfl)
  rw [lg_entry_eq]
  generalize (lg_sl ([.ref h0, .int p1, .int p2]) ++ List.replicate (3 - (lg_sl ([.ref h0, .int p1, .int p2])).length) Slot.unset).toArray = ls at hl ⊢
  have hl : lv_has ls 3 [(0, .ref h0), (1, .int p1), (2, .int p2)] := hl
  have hus : u * sz + sz ≤ 2 * sz := hs_us2 hu
  refine lv_aload_n hx hb dX0_read_0 rfl (lv_at hl 0 rfl) ?_
  refine lv_iload_n hx hb dX0_read_1 rfl (lv_at hl 1 rfl) ?_
  refine lv_iload_n hx hb dX0_read_2 rfl (lv_at hl 2 rfl) ?_
  refine hs_pe (v := hs_b (hs_hb N p1 && hs_hb w p2)) (va_runV (As := [.int p1, .int p2]) (rest := []) ⟨hx, hb, hml, hown, hts⟩ (kX0_hasWord l dC dI h0 hd hp cA d N w nw sz u F G kr dn lf dw ok p1 p2) (cwV 2 hts gX0_read_X0_hasWord rfl rfl rfl (by decide +kernel) ⟨(Nat.le_of_ble_eq_true rfl), (Nat.le_of_ble_eq_true rfl)⟩) (hs_preV (q := (RX0, TX0, 12)) (ci := 0) hK (hP.sub [0] rfl) rfl rfl) rfl rfl hl.1 rfl (lv_room (Nat.le_of_ble_eq_true rfl)) dX0_read_3 ⟨Nat.zero_le _, Nat.zero_le _⟩) hS hP (fun H locs hP hS => ?_)
  refine hs_bne (tgt := 12) hx hb dX0_read_6 (by decide) (fun c1 => ?_) (fun c1 => ?_)
  · obtain ⟨⟨j, hj, rfl⟩, ⟨i, hi, rfl⟩⟩ := hs_and_t c1 (by omega) (by omega)
    have hrow := hs_row ok hj
    refine lv_aload_n hx hb dX0_read_12 rfl (lv_at hl 0 rfl) ?_
    refine va_get (D := (dC, dI)) (ci := 0) (v := .int (hs_b dw)) (C := RX0) (T := TX0) (N := 12) hx hb hts (by decide +kernel) hown hK hP 0 rfl rfl 11 (by decide) (hts (.fieldLink RX0 48 "HashedStore" "isDown" "Z") (by decide +kernel)) (fun _ h9 => h9) rfl dX0_read_13 ?_
    refine hs_beq (tgt := 22) hx hb dX0_read_16 (by decide) (fun c2 => ?_) (fun c2 => ?_)
    · refine lv_aload_n hx hb dX0_read_22 rfl (lv_at hl 0 rfl) ?_
      refine lv_iload_n hx hb dX0_read_23 rfl (lv_at hl 1 rfl) ?_
      refine hs_pe (v := hs_b (hs_rg d N w nw (hs_vw sz F u) kr j)) (va_runV (As := [.int (nI j)]) (rest := []) ⟨hx, hb, hml, hown, hts⟩ (kX0_isRight l dC dI h0 hd hp cA d N w nw sz u F G kr dn lf dw ok j hj hu) (cwV 1 hts gX0_read_X0_isRight rfl rfl rfl (by decide +kernel) ⟨(Nat.le_of_ble_eq_true rfl), (Nat.le_of_ble_eq_true rfl)⟩) (hs_preV (q := (RX0, TX0, 12)) (ci := 0) hK hP rfl rfl) rfl rfl hl.1 rfl (lv_room (Nat.le_of_ble_eq_true rfl)) dX0_read_24 ⟨Nat.zero_le _, Nat.zero_le _⟩) hS hP (fun H locs hP hS => ?_)
      refine hs_bne (tgt := 33) hx hb dX0_read_27 (by decide) (fun c3 => ?_) (fun c3 => ?_)
      · refine lv_aload_n hx hb dX0_read_33 rfl (lv_at hl 0 rfl) ?_
        refine va_get (D := (dC, dI)) (ci := 0) (v := .ref hd) (C := RX0) (T := TX0) (N := 12) hx hb hts (by decide +kernel) hown hK hP 0 rfl rfl 5 (by decide) (hts (.fieldLink RX0 34 "HashedStore" "disk" "[I") (by decide +kernel)) (fun _ h9 => h9) rfl dX0_read_34 ?_
        refine lv_aload_n hx hb dX0_read_37 rfl (lv_at hl 0 rfl) ?_
        refine lv_aload_n hx hb dX0_read_38 rfl (lv_at hl 0 rfl) ?_
        refine va_get (D := (dC, dI)) (ci := 0) (v := .int (nI u)) (C := RX0) (T := TX0) (N := 12) hx hb hts (by decide +kernel) hown hK hP 0 rfl rfl 7 (by decide) (hts (.fieldLink RX0 60 "HashedStore" "areaInUse" "I") (by decide +kernel)) (fun _ h9 => h9) rfl dX0_read_39 ?_
        refine hs_pe (v := nI (u * sz)) (va_runV (As := [.int (nI u)]) (rest := [.ref hd]) ⟨hx, hb, hml, hown, hts⟩ (kX0_areaStart l dC dI h0 hd hp cA d N w nw sz u F G kr dn lf dw ok u) (cwV 1 hts gX0_read_X0_areaStart rfl rfl rfl (by decide +kernel) ⟨(Nat.le_of_ble_eq_true rfl), (Nat.le_of_ble_eq_true rfl)⟩) (hs_preV (q := (RX0, TX0, 12)) (ci := 0) hK (hP.sub [0] rfl) rfl rfl) rfl rfl hl.1 rfl (lv_room (Nat.le_of_ble_eq_true rfl)) dX0_read_42 ⟨Nat.zero_le _, Nat.zero_le _⟩) hS hP (fun H locs hP hS => ?_)
        refine lv_aload_n hx hb dX0_read_45 rfl (lv_at hl 0 rfl) ?_
        refine lv_iload_n hx hb dX0_read_46 rfl (lv_at hl 1 rfl) ?_
        refine lv_iload_n hx hb dX0_read_47 rfl (lv_at hl 2 rfl) ?_
        refine hs_pe (v := nI (j * w + i)) (va_runV (As := [.int (nI j), .int (nI i)]) (rest := [.int (nI (u * sz)), .ref hd]) ⟨hx, hb, hml, hown, hts⟩ (kX0_wordCell l dC dI h0 hd hp cA d N w nw sz u F G kr dn lf dw ok j i) (cwV 2 hts gX0_read_X0_wordCell rfl rfl rfl (by decide +kernel) ⟨(Nat.le_of_ble_eq_true rfl), (Nat.le_of_ble_eq_true rfl)⟩) (hs_preV (q := (RX0, TX0, 12)) (ci := 0) hK (hP.sub [0] rfl) rfl rfl) rfl rfl hl.1 rfl (lv_room (Nat.le_of_ble_eq_true rfl)) dX0_read_48 ⟨Nat.zero_le _, Nat.zero_le _⟩) hS hP (fun H locs hP hS => ?_)
        refine hs_addN hx hb dX0_read_51 ?_
        refine hs_ald hx hb hK hP 1 0 rfl rfl (k := (u * sz) + (j * w + i)) (by omega) (by omega) dX0_read_52 ?_
        exact W.iret (v := F ((u * sz) + (j * w + i))) hx hb hr (fun t ht hW => ⟨⟨F ((u * sz) + (j * w + i)), (), rfl, (hs_rd_4 hj hi (by omega) (by omega) c2 c3), trivial⟩, hS.F ht⟩) hS.2.2 dX0_read_53
      · refine lv_bipush (v := (-3)) hx hb dX0_read_30 (by decide) ?_
        exact W.iret (v := (-3)) hx hb hr (fun t ht hW => ⟨⟨(-3), (), rfl, (hs_rd_3 hj hi (by omega) (by omega) c2 c3), trivial⟩, hS.F ht⟩) hS.2.2 dX0_read_32
    · refine lv_bipush (v := (-4)) hx hb dX0_read_19 (by decide) ?_
      exact W.iret (v := (-4)) hx hb hr (fun t ht hW => ⟨⟨(-4), (), rfl, (hs_rd_2 hj hi (by omega) (by omega) c2), trivial⟩, hS.F ht⟩) hS.2.2 dX0_read_21
  · refine lv_bipush (v := (-2)) hx hb dX0_read_9 (by decide) ?_
    exact W.iret (v := (-2)) hx hb hr (fun t ht hW => ⟨⟨(-2), (), rfl, (hs_rd_1 c1), trivial⟩, hS.F ht⟩) hS.2.2 dX0_read_11
set_option maxHeartbeats 4000000 in
set_option maxRecDepth 100000 in
theorem kX0_verify (l : Launch) (dC : Nat → ClassId) (dI : Nat → Nat → Nat) (h0 hd hp : Nat) (cA : ClassId) (d N w nw sz u : Nat) (F G : Nat → Int32) (kr dn lf : Int32) (dw : Bool) (ok : hs_ok d N w nw sz) (p1 : Int32) (hu : u < 2) : Met l yX0_verify wsX0_verify ({ frames := 4, cells := 0, slots := 0, locals := 96 }) (va_Pc [.ref h0, .int p1] (hs_pr (dC, dI) vwCl [(cA, .int)] [oX_ h0 hd hp d N w nw sz u kr dn lf dw, ar_ hd cA (2 * sz) F])) (hs_Qp (fun r => r = hs_b (hs_vf d N w nw sz p1 (F, u, kr, dn, lf, dw)))) 0 0 (fun _ => False) := by
  refine Met.ofW (cc := cX0_verify) (maxL := 2) (ret := (some .boolean)) (by decide) rfl ?_
  intro p e s m args below meth c s₁ B hml hv
  obtain ⟨rfl, hP, hK⟩ := hv
  have hx := B.exec
  have hb := B.bytes
  have hr := B.returns
  have hts := atoms_spec (ws := wsX0_verify) B.pre
  have hown : s.vm.findClass RX0 = some m.cls := findClass_of_methodNamed B.named
  have hlocks := B.notSynchronized
  obtain ⟨hd5, hN1, hN2, hw1, hw2, hn1, hn2, hsz, hsz2⟩ := hs_okf ok
  have hnw : nw = N * w := ok.2.2.2.2.1
  have hS : va_S (fun _ => False) s.heap s.heap [] := va_S.rf
  have hl := lv_entry ([.ref h0, .int p1]) (n := 2) (Nat.le_of_ble_eq_true rfl)
  rw [lg_entry_eq]
  generalize (lg_sl ([.ref h0, .int p1]) ++ List.replicate (2 - (lg_sl ([.ref h0, .int p1])).length) Slot.unset).toArray = ls at hl ⊢
  have hl : lv_has ls 2 [(0, .ref h0), (1, .int p1)] := hl
  refine lv_aload_n hx hb dX0_verify_0 rfl (lv_at hl 0 rfl) ?_
  refine lv_iload_n hx hb dX0_verify_1 rfl (lv_at hl 1 rfl) ?_
  refine hs_pe (v := hs_b (hs_hb N p1)) (va_runV (As := [.int p1]) (rest := []) ⟨hx, hb, hml, hown, hts⟩ (kX0_hasBlock l dC dI h0 hd hp cA d N w nw sz u F G kr dn lf dw ok p1) (cwV 1 hts gX0_verify_X0_hasBlock rfl rfl rfl (by decide +kernel) ⟨(Nat.le_of_ble_eq_true rfl), (Nat.le_of_ble_eq_true rfl)⟩) (hs_preV (q := (RX0, TX0, 12)) (ci := 0) hK (hP.sub [0] rfl) rfl rfl) rfl rfl hl.1 rfl (lv_room (Nat.le_of_ble_eq_true rfl)) dX0_verify_2 ⟨Nat.zero_le _, Nat.zero_le _⟩) hS hP (fun H locs hP hS => ?_)
  refine hs_beq (tgt := 27) hx hb dX0_verify_5 (by decide) (fun c1 => ?_) (fun c1 => ?_)
  · refine lv_iconst (v := nI 0) hx hb dX0_verify_27 (by decide) ?_
    exact W.zret (v := nI 0) hx hb hr rfl (fun t ht hW => ⟨⟨nI 0, (), rfl, (by rw [← hs_vf_1 c1]; rfl), trivial⟩, hS.F ht⟩) hS.2.2 dX0_verify_28
  · obtain ⟨j, hj, rfl⟩ := hs_hb_t (by omega) c1
    refine lv_aload_n hx hb dX0_verify_8 rfl (lv_at hl 0 rfl) ?_
    refine va_get (D := (dC, dI)) (ci := 0) (v := .int (hs_b dw)) (C := RX0) (T := TX0) (N := 12) hx hb hts (by decide +kernel) hown hK hP 0 rfl rfl 11 (by decide) (hts (.fieldLink RX0 48 "HashedStore" "isDown" "Z") (by decide +kernel)) (fun _ h9 => h9) rfl dX0_verify_9 ?_
    refine hs_bne (tgt := 27) hx hb dX0_verify_12 (by decide) (fun c2 => ?_) (fun c2 => ?_)
    · refine lv_iconst (v := nI 0) hx hb dX0_verify_27 (by decide) ?_
      exact W.zret (v := nI 0) hx hb hr rfl (fun t ht hW => ⟨⟨nI 0, (), rfl, (by rw [← hs_vf_2 hj (by omega) c2]; rfl), trivial⟩, hS.F ht⟩) hS.2.2 dX0_verify_28
    · refine lv_aload_n hx hb dX0_verify_15 rfl (lv_at hl 0 rfl) ?_
      refine lv_iload_n hx hb dX0_verify_16 rfl (lv_at hl 1 rfl) ?_
      refine hs_pe (v := hs_b (hs_rg d N w nw (hs_vw sz F u) kr j)) (va_runV (As := [.int (nI j)]) (rest := []) ⟨hx, hb, hml, hown, hts⟩ (kX0_isRight l dC dI h0 hd hp cA d N w nw sz u F G kr dn lf dw ok j hj hu) (cwV 1 hts gX0_verify_X0_isRight rfl rfl rfl (by decide +kernel) ⟨(Nat.le_of_ble_eq_true rfl), (Nat.le_of_ble_eq_true rfl)⟩) (hs_preV (q := (RX0, TX0, 12)) (ci := 0) hK hP rfl rfl) rfl rfl hl.1 rfl (lv_room (Nat.le_of_ble_eq_true rfl)) dX0_verify_17 ⟨Nat.zero_le _, Nat.zero_le _⟩) hS hP (fun H locs hP hS => ?_)
      refine hs_beq (tgt := 27) hx hb dX0_verify_20 (by decide) (fun c3 => ?_) (fun c3 => ?_)
      · refine lv_iconst (v := nI 0) hx hb dX0_verify_27 (by decide) ?_
        exact W.zret (v := nI 0) hx hb hr rfl (fun t ht hW => ⟨⟨nI 0, (), rfl, (by rw [← hs_vf_3 hj (by omega) c2, c3]; rfl), trivial⟩, hS.F ht⟩) hS.2.2 dX0_verify_28
      · refine lv_iconst (v := nI 1) hx hb dX0_verify_23 (by decide) ?_
        refine lv_goto (tgt := 28) hx hb dX0_verify_24 (by decide) ?_
        exact W.zret (v := nI 1) hx hb hr rfl (fun t ht hW => ⟨⟨nI 1, (), rfl, (by rw [← hs_vf_3 hj (by omega) c2, c3]; rfl), trivial⟩, hS.F ht⟩) hS.2.2 dX0_verify_28
set_option maxHeartbeats 4000000 in
set_option maxRecDepth 100000 in
theorem kX0_audit (l : Launch) (dC : Nat → ClassId) (dI : Nat → Nat → Nat) (h0 hd hp : Nat) (cA : ClassId) (d N w nw sz u : Nat) (F G : Nat → Int32) (kr dn lf : Int32) (dw : Bool) (ok : hs_ok d N w nw sz) (hu : u < 2) : Met l yX0_audit wsX0_audit ({ frames := 4, cells := 0, slots := 0, locals := 96 }) (va_Pc [.ref h0] (hs_pr (dC, dI) vwCl [(cA, .int)] [oX_ h0 hd hp d N w nw sz u kr dn lf dw, ar_ hd cA (2 * sz) F])) (hs_Qp (fun r => r = hs_ad d N w nw sz (F, u, kr, dn, lf, dw))) 0 0 (fun _ => False) := by
  refine Met.ofW (cc := cX0_audit) (maxL := 2) (ret := (some .int)) (by decide) rfl ?_
  intro p e s m args below meth c s₁ B hml hv
  obtain ⟨rfl, hP, hK⟩ := hv
  have hx := B.exec
  have hb := B.bytes
  have hr := B.returns
  have hts := atoms_spec (ws := wsX0_audit) B.pre
  have hown : s.vm.findClass RX0 = some m.cls := findClass_of_methodNamed B.named
  have hlocks := B.notSynchronized
  obtain ⟨hd5, hN1, hN2, hw1, hw2, hn1, hn2, hsz, hsz2⟩ := hs_okf ok
  have hnw : nw = N * w := ok.2.2.2.2.1
  have hS : va_S (fun _ => False) s.heap s.heap [] := va_S.rf
  have hl := lv_entry ([.ref h0]) (n := 2) (Nat.le_of_ble_eq_true rfl)
  rw [lg_entry_eq]
  generalize (lg_sl ([.ref h0]) ++ List.replicate (2 - (lg_sl ([.ref h0])).length) Slot.unset).toArray = ls at hl ⊢
  have hl : lv_has ls 2 [(0, .ref h0)] := hl
  refine lv_aload_n hx hb dX0_audit_0 rfl (lv_at hl 0 rfl) ?_
  refine va_get (D := (dC, dI)) (ci := 0) (v := .int (hs_b dw)) (C := RX0) (T := TX0) (N := 12) hx hb hts (by decide +kernel) hown hK hP 0 rfl rfl 11 (by decide) (hts (.fieldLink RX0 48 "HashedStore" "isDown" "Z") (by decide +kernel)) (fun _ h9 => h9) rfl dX0_audit_1 ?_
  refine hs_beq (tgt := 10) hx hb dX0_audit_4 (by decide) (fun c1 => ?_) (fun c1 => ?_)
  · refine lv_iconst (v := nI 0) hx hb dX0_audit_10 (by decide) ?_
    refine lv_istore_n (lv' := [(1, .int (nI 0)), (0, .ref h0)]) hx hb dX0_audit_11 rfl hl (by decide) rfl (fun ls hl => ?_)
    have loop : ∀ (n : Nat) (i : Nat) (H : Heap) (locs : List Loc) (ls : Array Slot), (i + n = N) → (hs_au (hs_rg d N w nw (hs_vw sz F u) kr) n i = hs_au (hs_rg d N w nw (hs_vw sz F u) kr) N 0) → va_P (dC, dI) vwCl [oX_ h0 hd hp d N w nw sz u kr dn lf dw, ar_ hd cA (2 * sz) F] H → va_S (fun _ => False) s.heap H locs → lv_has ls 2 [(1, .int (nI i)), (0, .ref h0)] → W p l e (headSpec wsX0_audit ({ frames := 4, cells := 0, slots := 0, locals := 96 })).room s m ([.ref h0] : List Value).toArray below meth c H locs 0 0 (MQ below (hs_Qp (fun r => r = hs_ad d N w nw sz (F, u, kr, dn, lf, dw))) ([.ref h0] : List Value).toArray s 0 0 (fun _ => False)) (F0 m 12 ls []) := by
      intro n
      induction n with
      | zero =>
        intro i H locs ls hi he hP hS hl
        refine lv_iload_n hx hb dX0_audit_12 rfl (lv_at hl 0 rfl) ?_
        refine lv_aload_n hx hb dX0_audit_13 rfl (lv_at hl 1 rfl) ?_
        refine va_get (D := (dC, dI)) (ci := 0) (v := .int (nI N)) (C := RX0) (T := TX0) (N := 12) hx hb hts (by decide +kernel) hown hK hP 0 rfl rfl 1 (by decide) (hts (.fieldLink RX0 25 "HashedStore" "blockCount" "I") (by decide +kernel)) (fun _ h9 => h9) rfl dX0_audit_14 ?_
        refine hs_cge (tgt := 36) hx hb (by omega) (by omega) dX0_audit_17 (by decide) (fun c2 => ?_) (fun c2 => ?_)
        · refine lv_iconst (v := (-1)) hx hb dX0_audit_36 (by decide) ?_
          exact W.iret (v := (-1)) hx hb hr (fun t ht hW => ⟨⟨(-1), (), rfl, (by rw [← hs_ad_2 c1, ← he]; rfl), trivial⟩, hS.F ht⟩) hS.2.2 dX0_audit_37
        · exact absurd c2 (by omega)
      | succ n ih =>
        intro i H locs ls hi he hP hS hl
        refine lv_iload_n hx hb dX0_audit_12 rfl (lv_at hl 0 rfl) ?_
        refine lv_aload_n hx hb dX0_audit_13 rfl (lv_at hl 1 rfl) ?_
        refine va_get (D := (dC, dI)) (ci := 0) (v := .int (nI N)) (C := RX0) (T := TX0) (N := 12) hx hb hts (by decide +kernel) hown hK hP 0 rfl rfl 1 (by decide) (hts (.fieldLink RX0 25 "HashedStore" "blockCount" "I") (by decide +kernel)) (fun _ h9 => h9) rfl dX0_audit_14 ?_
        refine hs_cge (tgt := 36) hx hb (by omega) (by omega) dX0_audit_17 (by decide) (fun c2 => ?_) (fun c2 => ?_)
        · exact absurd c2 (by omega)
        · refine lv_aload_n hx hb dX0_audit_20 rfl (lv_at hl 1 rfl) ?_
          refine lv_iload_n hx hb dX0_audit_21 rfl (lv_at hl 0 rfl) ?_
          refine hs_pe (v := hs_b (hs_rg d N w nw (hs_vw sz F u) kr i)) (va_runV (As := [.int (nI i)]) (rest := []) ⟨hx, hb, hml, hown, hts⟩ (kX0_isRight l dC dI h0 hd hp cA d N w nw sz u F G kr dn lf dw ok i (by omega) hu) (cwV 1 hts gX0_audit_X0_isRight rfl rfl rfl (by decide +kernel) ⟨(Nat.le_of_ble_eq_true rfl), (Nat.le_of_ble_eq_true rfl)⟩) (hs_preV (q := (RX0, TX0, 12)) (ci := 0) hK hP rfl rfl) rfl rfl hl.1 rfl (lv_room (Nat.le_of_ble_eq_true rfl)) dX0_audit_22 ⟨Nat.zero_le _, Nat.zero_le _⟩) hS hP (fun H locs hP hS => ?_)
          refine hs_bne (tgt := 30) hx hb dX0_audit_25 (by decide) (fun c3 => ?_) (fun c3 => ?_)
          · refine lv_iinc (v := nI (i + 1)) (lv' := [(1, .int (nI (i + 1))), (0, .ref h0)]) hx hb dX0_audit_30 hl (k := 0) rfl (nI_1 _) (by decide) rfl (fun ls hl => ?_)
            refine lv_goto (tgt := 12) hx hb dX0_audit_33 (by decide) ?_
            exact ih (i + 1) H locs ls (by omega) ((if_pos c3).symm.trans he) hP hS (lv_sub hl [0, 1] rfl)
          · refine lv_iload_n hx hb dX0_audit_28 rfl (lv_at hl 0 rfl) ?_
            exact W.iret (v := nI i) hx hb hr (fun t ht hW => ⟨⟨nI i, (), rfl, (by rw [← hs_ad_2 c1, ← he]; exact (if_neg (hs_ff c3)).symm), trivial⟩, hS.F ht⟩) hS.2.2 dX0_audit_29
    exact loop N 0 _ _ ls (by omega) rfl hP hS (lv_sub hl [0, 1] rfl)
  · refine lv_bipush (v := (-4)) hx hb dX0_audit_7 (by decide) ?_
    exact W.iret (v := (-4)) hx hb hr (fun t ht hW => ⟨⟨(-4), (), rfl, (hs_ad_1 c1), trivial⟩, hS.F ht⟩) hS.2.2 dX0_audit_9
set_option maxHeartbeats 4000000 in
set_option maxRecDepth 100000 in
theorem kX0_peek (l : Launch) (dC : Nat → ClassId) (dI : Nat → Nat → Nat) (h0 hd hp : Nat) (cA : ClassId) (d N w nw sz u : Nat) (F G : Nat → Int32) (kr dn lf : Int32) (dw : Bool) (ok : hs_ok d N w nw sz) (p1 : Int32) : Met l yX0_peek wsX0_peek ({ frames := 1, cells := 0, slots := 0, locals := 21 }) (va_Pc [.ref h0, .int p1] (hs_pr (dC, dI) vwCl [(cA, .int)] [oX_ h0 hd hp d N w nw sz u kr dn lf dw, ar_ hd cA (2 * sz) F])) (hs_Qp (fun r => r = hs_pk sz F p1)) 0 0 (fun _ => False) := by
  refine Met.ofW (cc := cX0_peek) (maxL := 2) (ret := (some .int)) (by decide) rfl ?_
  intro p e s m args below meth c s₁ B hml hv
  obtain ⟨rfl, hP, hK⟩ := hv
  have hx := B.exec
  have hb := B.bytes
  have hr := B.returns
  have hts := atoms_spec (ws := wsX0_peek) B.pre
  have hown : s.vm.findClass RX0 = some m.cls := findClass_of_methodNamed B.named
  have hlocks := B.notSynchronized
  obtain ⟨hd5, hN1, hN2, hw1, hw2, hn1, hn2, hsz, hsz2⟩ := hs_okf ok
  have hnw : nw = N * w := ok.2.2.2.2.1
  have hS : va_S (fun _ => False) s.heap s.heap [] := va_S.rf
  have hl := lv_entry ([.ref h0, .int p1]) (n := 2) (Nat.le_of_ble_eq_true rfl)
  rw [lg_entry_eq]
  generalize (lg_sl ([.ref h0, .int p1]) ++ List.replicate (2 - (lg_sl ([.ref h0, .int p1])).length) Slot.unset).toArray = ls at hl ⊢
  have hl : lv_has ls 2 [(0, .ref h0), (1, .int p1)] := hl
  refine lv_aload_n hx hb dX0_peek_0 rfl (lv_at hl 0 rfl) ?_
  refine lv_iload_n hx hb dX0_peek_1 rfl (lv_at hl 1 rfl) ?_
  refine hs_pe (v := hs_b (hs_hb (2 * sz) p1)) (va_runV (As := [.int p1]) (rest := []) ⟨hx, hb, hml, hown, hts⟩ (kX0_hasCell l dC dI h0 hd hp cA d N w nw sz u F G kr dn lf dw ok p1) (cwV 1 hts gX0_peek_X0_hasCell rfl rfl rfl (by decide +kernel) ⟨(Nat.le_of_ble_eq_true rfl), (Nat.le_of_ble_eq_true rfl)⟩) (hs_preV (q := (RX0, TX0, 12)) (ci := 0) hK hP rfl rfl) rfl rfl hl.1 rfl (lv_room (Nat.le_of_ble_eq_true rfl)) dX0_peek_2 ⟨Nat.zero_le _, Nat.zero_le _⟩) hS hP (fun H locs hP hS => ?_)
  refine hs_beq (tgt := 17) hx hb dX0_peek_5 (by decide) (fun c1 => ?_) (fun c1 => ?_)
  · refine lv_iconst (v := nI 0) hx hb dX0_peek_17 (by decide) ?_
    exact W.iret (v := nI 0) hx hb hr (fun t ht hW => ⟨⟨nI 0, (), rfl, (hs_pk_1 c1), trivial⟩, hS.F ht⟩) hS.2.2 dX0_peek_18
  · obtain ⟨j, hj, rfl⟩ := hs_hb_t (by omega) c1
    refine lv_aload_n hx hb dX0_peek_8 rfl (lv_at hl 0 rfl) ?_
    refine va_get (D := (dC, dI)) (ci := 0) (v := .ref hd) (C := RX0) (T := TX0) (N := 12) hx hb hts (by decide +kernel) hown hK hP 0 rfl rfl 5 (by decide) (hts (.fieldLink RX0 34 "HashedStore" "disk" "[I") (by decide +kernel)) (fun _ h9 => h9) rfl dX0_peek_9 ?_
    refine lv_iload_n hx hb dX0_peek_12 rfl (lv_at hl 1 rfl) ?_
    refine hs_ald hx hb hK hP 1 0 rfl rfl (k := j) (by omega) (by omega) dX0_peek_13 ?_
    refine lv_goto (tgt := 18) hx hb dX0_peek_14 (by decide) ?_
    exact W.iret (v := F j) hx hb hr (fun t ht hW => ⟨⟨F j, (), rfl, (hs_pk_2 hj (by omega)), trivial⟩, hS.F ht⟩) hS.2.2 dX0_peek_18
