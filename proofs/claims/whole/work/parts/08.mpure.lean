set_option maxHeartbeats 4000000 in
set_option maxRecDepth 100000 in
theorem kX1_mix (l : Launch) (p0 p1 : Int32) : Met l yX1_mix wsX1_mix ({ frames := 0, cells := 0, slots := 0, locals := 0 }) (va_Pc [.int p0, .int p1] (fun _ => True)) (hs_Qp (fun r => r = hs_mx p0 p1)) 0 0 (fun _ => False) := by
  refine Met.ofW (cc := cX1_mix) (maxL := 3) (ret := (some .int)) (by decide) rfl ?_
  intro p e s m args below meth c s₁ B hml hv
  obtain ⟨rfl, -⟩ := hv
  have hx := B.exec
  have hb := B.bytes
  have hr := B.returns
  have hts := atoms_spec (ws := wsX1_mix) B.pre
  have hown : s.vm.findClass RX1 = some m.cls := findClass_of_methodNamed B.named
  have hlocks := B.notSynchronized
  have hS : va_S (fun _ => False) s.heap s.heap [] := va_S.rf
  have hP : va_P (fun _ => 0, fun _ _ => 0) vwCl [] s.heap := fun k q h => by simp at h
  have hl := lv_entry ([.int p0, .int p1]) (n := 3) (Nat.le_of_ble_eq_true rfl)
  rw [lg_entry_eq]
  generalize (lg_sl ([.int p0, .int p1]) ++ List.replicate (3 - (lg_sl ([.int p0, .int p1])).length) Slot.unset).toArray = ls at hl ⊢
  have hl : lv_has ls 3 [(0, .int p0), (1, .int p1)] := hl
  refine lv_iload_n hx hb dX1_mix_0 rfl (lv_at hl 0 rfl) ?_
  refine lv_iload_n hx hb dX1_mix_1 rfl (lv_at hl 1 rfl) ?_
  refine lv_bipush (v := 13) hx hb dX1_mix_2 (by decide) ?_
  refine lv_ishl hx hb dX1_mix_4 ?_
  refine lv_iload_n hx hb dX1_mix_5 rfl (lv_at hl 1 rfl) ?_
  refine lv_bipush (v := 19) hx hb dX1_mix_6 (by decide) ?_
  refine lv_iushr hx hb dX1_mix_8 rfl ?_
  refine lv_ior hx hb dX1_mix_9 ?_
  refine lv_ixor hx hb dX1_mix_10 ?_
  refine lv_ldc (v := 739982445) hx hb hown (hts (.constant RX1 36 739982445) (by decide +kernel)) dX1_mix_11 ?_
  refine lv_imul hx hb dX1_mix_13 ?_
  refine lv_topi (fun x1 ex1 => ?_)
  refine lv_istore_n (lv' := [(2, .int x1), (0, .int p0), (1, .int p1)]) hx hb dX1_mix_14 rfl hl (by decide) rfl (fun ls hl => ?_)
  refine lv_iload_n hx hb dX1_mix_15 rfl (lv_at hl 0 rfl) ?_
  refine lv_iload_n hx hb dX1_mix_16 rfl (lv_at hl 0 rfl) ?_
  refine lv_bipush (v := 15) hx hb dX1_mix_17 (by decide) ?_
  refine lv_iushr hx hb dX1_mix_19 rfl ?_
  refine lv_ixor hx hb dX1_mix_20 ?_
  refine lv_topi (fun x2 ex2 => ?_)
  refine lv_istore_n (lv' := [(2, .int x2), (0, .int p0), (1, .int p1)]) hx hb dX1_mix_21 rfl hl (by decide) rfl (fun ls hl => ?_)
  refine lv_iload_n hx hb dX1_mix_22 rfl (lv_at hl 0 rfl) ?_
  refine lv_iload_n hx hb dX1_mix_23 rfl (lv_at hl 2 rfl) ?_
  refine lv_iadd hx hb dX1_mix_24 ?_
  refine lv_ldc (v := 695872825) hx hb hown (hts (.constant RX1 37 695872825) (by decide +kernel)) dX1_mix_25 ?_
  refine lv_imul hx hb dX1_mix_27 ?_
  refine lv_topi (fun x3 ex3 => ?_)
  refine lv_istore_n (lv' := [(2, .int x3), (0, .int p0), (1, .int p1)]) hx hb dX1_mix_28 rfl hl (by decide) rfl (fun ls hl => ?_)
  refine lv_iload_n hx hb dX1_mix_29 rfl (lv_at hl 0 rfl) ?_
  refine lv_iload_n hx hb dX1_mix_30 rfl (lv_at hl 0 rfl) ?_
  refine lv_bipush (v := 14) hx hb dX1_mix_31 (by decide) ?_
  refine lv_iushr hx hb dX1_mix_33 rfl ?_
  refine lv_ixor hx hb dX1_mix_34 ?_
  exact W.iret (v := x3 ^^^ ((x3.toUInt32 >>> ((14 : Int32).toUInt32 &&& Int32.toUInt32 31)).toInt32)) hx hb hr (fun t ht hW => ⟨⟨x3 ^^^ ((x3.toUInt32 >>> ((14 : Int32).toUInt32 &&& Int32.toUInt32 31)).toInt32), (), rfl, (by rw [hs_mx_eq]; subst ex3; subst ex2; subst ex1; rfl), trivial⟩, hS.F ht⟩) hS.2.2 dX1_mix_35
set_option maxHeartbeats 4000000 in
set_option maxRecDepth 100000 in
theorem kX1_root (l : Launch) (dC : Nat → ClassId) (dI : Nat → Nat → Nat) (h0 hd hp : Nat) (cA : ClassId) (d N w nw sz u : Nat) (F G : Nat → Int32) (kr dn lf : Int32) (dw : Bool) (ok : hs_ok d N w nw sz)  : Met l yX1_root wsX1_root ({ frames := 0, cells := 0, slots := 0, locals := 0 }) (va_Pc [.ref h0] (hs_pr (dC, dI) vwCl [(cA, .int)] [oM_ h0 hd hp d N w nw sz u kr dn lf dw])) (hs_Qp (fun r => r = kr)) 0 0 (fun _ => False) := by
  refine Met.ofW (cc := cX1_root) (maxL := 1) (ret := (some .int)) (by decide) rfl ?_
  intro p e s m args below meth c s₁ B hml hv
  obtain ⟨rfl, hP, hK⟩ := hv
  have hx := B.exec
  have hb := B.bytes
  have hr := B.returns
  have hts := atoms_spec (ws := wsX1_root) B.pre
  have hown : s.vm.findClass RX1 = some m.cls := findClass_of_methodNamed B.named
  have hlocks := B.notSynchronized
  obtain ⟨hd5, hN1, hN2, hw1, hw2, hn1, hn2, hsz, hsz2⟩ := hs_okf ok
  have hnw : nw = N * w := ok.2.2.2.2.1
  have hS : va_S (fun _ => False) s.heap s.heap [] := va_S.rf
  have hl := lv_entry ([.ref h0]) (n := 1) (Nat.le_of_ble_eq_true rfl)
  rw [lg_entry_eq]
  generalize (lg_sl ([.ref h0]) ++ List.replicate (1 - (lg_sl ([.ref h0])).length) Slot.unset).toArray = ls at hl ⊢
  have hl : lv_has ls 1 [(0, .ref h0)] := hl
  refine lv_aload_n hx hb dX1_root_0 rfl (lv_at hl 0 rfl) ?_
  refine va_get (D := (dC, dI)) (ci := 1) (v := .int kr) (C := RX1) (T := TX1) (N := 11) hx hb hts (by decide +kernel) hown hK hP 0 rfl rfl 7 (by decide) (hts (.fieldLink RX1 52 "HashedStoreModel" "kept" "I") (by decide +kernel)) (fun _ h9 => h9) rfl dX1_root_1 ?_
  exact W.iret (v := kr) hx hb hr (fun t ht hW => ⟨⟨kr, (), rfl, rfl, trivial⟩, hS.F ht⟩) hS.2.2 dX1_root_4
set_option maxHeartbeats 4000000 in
set_option maxRecDepth 100000 in
theorem kX1_writes (l : Launch) (dC : Nat → ClassId) (dI : Nat → Nat → Nat) (h0 hd hp : Nat) (cA : ClassId) (d N w nw sz u : Nat) (F G : Nat → Int32) (kr dn lf : Int32) (dw : Bool) (ok : hs_ok d N w nw sz)  : Met l yX1_writes wsX1_writes ({ frames := 0, cells := 0, slots := 0, locals := 0 }) (va_Pc [.ref h0] (hs_pr (dC, dI) vwCl [(cA, .int)] [oM_ h0 hd hp d N w nw sz u kr dn lf dw])) (hs_Qp (fun r => r = dn)) 0 0 (fun _ => False) := by
  refine Met.ofW (cc := cX1_writes) (maxL := 1) (ret := (some .int)) (by decide) rfl ?_
  intro p e s m args below meth c s₁ B hml hv
  obtain ⟨rfl, hP, hK⟩ := hv
  have hx := B.exec
  have hb := B.bytes
  have hr := B.returns
  have hts := atoms_spec (ws := wsX1_writes) B.pre
  have hown : s.vm.findClass RX1 = some m.cls := findClass_of_methodNamed B.named
  have hlocks := B.notSynchronized
  obtain ⟨hd5, hN1, hN2, hw1, hw2, hn1, hn2, hsz, hsz2⟩ := hs_okf ok
  have hnw : nw = N * w := ok.2.2.2.2.1
  have hS : va_S (fun _ => False) s.heap s.heap [] := va_S.rf
  have hl := lv_entry ([.ref h0]) (n := 1) (Nat.le_of_ble_eq_true rfl)
  rw [lg_entry_eq]
  generalize (lg_sl ([.ref h0]) ++ List.replicate (1 - (lg_sl ([.ref h0])).length) Slot.unset).toArray = ls at hl ⊢
  have hl : lv_has ls 1 [(0, .ref h0)] := hl
  refine lv_aload_n hx hb dX1_writes_0 rfl (lv_at hl 0 rfl) ?_
  refine va_get (D := (dC, dI)) (ci := 1) (v := .int dn) (C := RX1) (T := TX1) (N := 11) hx hb hts (by decide +kernel) hown hK hP 0 rfl rfl 8 (by decide) (hts (.fieldLink RX1 55 "HashedStoreModel" "done" "I") (by decide +kernel)) (fun _ h9 => h9) rfl dX1_writes_1 ?_
  exact W.iret (v := dn) hx hb hr (fun t ht hW => ⟨⟨dn, (), rfl, rfl, trivial⟩, hS.F ht⟩) hS.2.2 dX1_writes_4
set_option maxHeartbeats 4000000 in
set_option maxRecDepth 100000 in
theorem kX1_slot (l : Launch) (dC : Nat → ClassId) (dI : Nat → Nat → Nat) (h0 hd hp : Nat) (cA : ClassId) (d N w nw sz u : Nat) (F G : Nat → Int32) (kr dn lf : Int32) (dw : Bool) (ok : hs_ok d N w nw sz)  : Met l yX1_slot wsX1_slot ({ frames := 0, cells := 0, slots := 0, locals := 0 }) (va_Pc [.ref h0] (hs_pr (dC, dI) vwCl [(cA, .int)] [oM_ h0 hd hp d N w nw sz u kr dn lf dw])) (hs_Qp (fun r => r = nI u)) 0 0 (fun _ => False) := by
  refine Met.ofW (cc := cX1_slot) (maxL := 1) (ret := (some .int)) (by decide) rfl ?_
  intro p e s m args below meth c s₁ B hml hv
  obtain ⟨rfl, hP, hK⟩ := hv
  have hx := B.exec
  have hb := B.bytes
  have hr := B.returns
  have hts := atoms_spec (ws := wsX1_slot) B.pre
  have hown : s.vm.findClass RX1 = some m.cls := findClass_of_methodNamed B.named
  have hlocks := B.notSynchronized
  obtain ⟨hd5, hN1, hN2, hw1, hw2, hn1, hn2, hsz, hsz2⟩ := hs_okf ok
  have hnw : nw = N * w := ok.2.2.2.2.1
  have hS : va_S (fun _ => False) s.heap s.heap [] := va_S.rf
  have hl := lv_entry ([.ref h0]) (n := 1) (Nat.le_of_ble_eq_true rfl)
  rw [lg_entry_eq]
  generalize (lg_sl ([.ref h0]) ++ List.replicate (1 - (lg_sl ([.ref h0])).length) Slot.unset).toArray = ls at hl ⊢
  have hl : lv_has ls 1 [(0, .ref h0)] := hl
  refine lv_aload_n hx hb dX1_slot_0 rfl (lv_at hl 0 rfl) ?_
  refine va_get (D := (dC, dI)) (ci := 1) (v := .int (nI u)) (C := RX1) (T := TX1) (N := 11) hx hb hts (by decide +kernel) hown hK hP 0 rfl rfl 6 (by decide) (hts (.fieldLink RX1 42 "HashedStoreModel" "used" "I") (by decide +kernel)) (fun _ h9 => h9) rfl dX1_slot_1 ?_
  exact W.iret (v := nI u) hx hb hr (fun t ht hW => ⟨⟨nI u, (), rfl, rfl, trivial⟩, hS.F ht⟩) hS.2.2 dX1_slot_4
set_option maxHeartbeats 4000000 in
set_option maxRecDepth 100000 in
theorem kX1_down (l : Launch) (dC : Nat → ClassId) (dI : Nat → Nat → Nat) (h0 hd hp : Nat) (cA : ClassId) (d N w nw sz u : Nat) (F G : Nat → Int32) (kr dn lf : Int32) (dw : Bool) (ok : hs_ok d N w nw sz)  : Met l yX1_down wsX1_down ({ frames := 0, cells := 0, slots := 0, locals := 0 }) (va_Pc [.ref h0] (hs_pr (dC, dI) vwCl [(cA, .int)] [oM_ h0 hd hp d N w nw sz u kr dn lf dw])) (hs_Qp (fun r => r = hs_b dw)) 0 0 (fun _ => False) := by
  refine Met.ofW (cc := cX1_down) (maxL := 1) (ret := (some .boolean)) (by decide) rfl ?_
  intro p e s m args below meth c s₁ B hml hv
  obtain ⟨rfl, hP, hK⟩ := hv
  have hx := B.exec
  have hb := B.bytes
  have hr := B.returns
  have hts := atoms_spec (ws := wsX1_down) B.pre
  have hown : s.vm.findClass RX1 = some m.cls := findClass_of_methodNamed B.named
  have hlocks := B.notSynchronized
  obtain ⟨hd5, hN1, hN2, hw1, hw2, hn1, hn2, hsz, hsz2⟩ := hs_okf ok
  have hnw : nw = N * w := ok.2.2.2.2.1
  have hS : va_S (fun _ => False) s.heap s.heap [] := va_S.rf
  have hl := lv_entry ([.ref h0]) (n := 1) (Nat.le_of_ble_eq_true rfl)
  rw [lg_entry_eq]
  generalize (lg_sl ([.ref h0]) ++ List.replicate (1 - (lg_sl ([.ref h0])).length) Slot.unset).toArray = ls at hl ⊢
  have hl : lv_has ls 1 [(0, .ref h0)] := hl
  refine lv_aload_n hx hb dX1_down_0 rfl (lv_at hl 0 rfl) ?_
  refine va_get (D := (dC, dI)) (ci := 1) (v := .int (hs_b dw)) (C := RX1) (T := TX1) (N := 11) hx hb hts (by decide +kernel) hown hK hP 0 rfl rfl 10 (by decide) (hts (.fieldLink RX1 58 "HashedStoreModel" "isDown" "Z") (by decide +kernel)) (fun _ h9 => h9) rfl dX1_down_1 ?_
  exact W.zret (v := hs_b dw) hx hb hr (hs_nb _) (fun t ht hW => ⟨⟨hs_b dw, (), rfl, rfl, trivial⟩, hS.F ht⟩) hS.2.2 dX1_down_4
set_option maxHeartbeats 4000000 in
set_option maxRecDepth 100000 in
theorem kX1_cells (l : Launch) (dC : Nat → ClassId) (dI : Nat → Nat → Nat) (h0 hd hp : Nat) (cA : ClassId) (d N w nw sz u : Nat) (F G : Nat → Int32) (kr dn lf : Int32) (dw : Bool) (ok : hs_ok d N w nw sz)  : Met l yX1_cells wsX1_cells ({ frames := 0, cells := 0, slots := 0, locals := 0 }) (va_Pc [.ref h0] (hs_pr (dC, dI) vwCl [(cA, .int)] [oM_ h0 hd hp d N w nw sz u kr dn lf dw])) (hs_Qp (fun r => r = nI (2 * sz))) 0 0 (fun _ => False) := by
  refine Met.ofW (cc := cX1_cells) (maxL := 1) (ret := (some .int)) (by decide) rfl ?_
  intro p e s m args below meth c s₁ B hml hv
  obtain ⟨rfl, hP, hK⟩ := hv
  have hx := B.exec
  have hb := B.bytes
  have hr := B.returns
  have hts := atoms_spec (ws := wsX1_cells) B.pre
  have hown : s.vm.findClass RX1 = some m.cls := findClass_of_methodNamed B.named
  have hlocks := B.notSynchronized
  obtain ⟨hd5, hN1, hN2, hw1, hw2, hn1, hn2, hsz, hsz2⟩ := hs_okf ok
  have hnw : nw = N * w := ok.2.2.2.2.1
  have hS : va_S (fun _ => False) s.heap s.heap [] := va_S.rf
  have hl := lv_entry ([.ref h0]) (n := 1) (Nat.le_of_ble_eq_true rfl)
  rw [lg_entry_eq]
  generalize (lg_sl ([.ref h0]) ++ List.replicate (1 - (lg_sl ([.ref h0])).length) Slot.unset).toArray = ls at hl ⊢
  have hl : lv_has ls 1 [(0, .ref h0)] := hl
  refine lv_iconst (v := nI 2) hx hb dX1_cells_0 (by decide) ?_
  refine lv_aload_n hx hb dX1_cells_1 rfl (lv_at hl 0 rfl) ?_
  refine va_get (D := (dC, dI)) (ci := 1) (v := .int (nI sz)) (C := RX1) (T := TX1) (N := 11) hx hb hts (by decide +kernel) hown hK hP 0 rfl rfl 3 (by decide) (hts (.fieldLink RX1 29 "HashedStoreModel" "size" "I") (by decide +kernel)) (fun _ h9 => h9) rfl dX1_cells_2 ?_
  refine hs_mulN hx hb dX1_cells_5 ?_
  exact W.iret (v := nI (2 * sz)) hx hb hr (fun t ht hW => ⟨⟨nI (2 * sz), (), rfl, rfl, trivial⟩, hS.F ht⟩) hS.2.2 dX1_cells_6
set_option maxHeartbeats 4000000 in
set_option maxRecDepth 100000 in
theorem kX1_node (l : Launch) (dC : Nat → ClassId) (dI : Nat → Nat → Nat) (h0 hd hp : Nat) (cA : ClassId) (d N w nw sz u : Nat) (F G : Nat → Int32) (kr dn lf : Int32) (dw : Bool) (ok : hs_ok d N w nw sz) (x1 : Nat) : Met l yX1_node wsX1_node ({ frames := 0, cells := 0, slots := 0, locals := 0 }) (va_Pc [.ref h0, .int (nI x1)] (hs_pr (dC, dI) vwCl [(cA, .int)] [oM_ h0 hd hp d N w nw sz u kr dn lf dw])) (hs_Qp (fun r => r = nI (nw + x1 - 1))) 0 0 (fun _ => False) := by
  refine Met.ofW (cc := cX1_node) (maxL := 2) (ret := (some .int)) (by decide) rfl ?_
  intro p e s m args below meth c s₁ B hml hv
  obtain ⟨rfl, hP, hK⟩ := hv
  have hx := B.exec
  have hb := B.bytes
  have hr := B.returns
  have hts := atoms_spec (ws := wsX1_node) B.pre
  have hown : s.vm.findClass RX1 = some m.cls := findClass_of_methodNamed B.named
  have hlocks := B.notSynchronized
  obtain ⟨hd5, hN1, hN2, hw1, hw2, hn1, hn2, hsz, hsz2⟩ := hs_okf ok
  have hnw : nw = N * w := ok.2.2.2.2.1
  have hS : va_S (fun _ => False) s.heap s.heap [] := va_S.rf
  have hl := lv_entry ([.ref h0, .int (nI x1)]) (n := 2) (Nat.le_of_ble_eq_true rfl)
  rw [lg_entry_eq]
  generalize (lg_sl ([.ref h0, .int (nI x1)]) ++ List.replicate (2 - (lg_sl ([.ref h0, .int (nI x1)])).length) Slot.unset).toArray = ls at hl ⊢
  have hl : lv_has ls 2 [(0, .ref h0), (1, .int (nI x1))] := hl
  refine lv_aload_n hx hb dX1_node_0 rfl (lv_at hl 0 rfl) ?_
  refine va_get (D := (dC, dI)) (ci := 1) (v := .int (nI N)) (C := RX1) (T := TX1) (N := 11) hx hb hts (by decide +kernel) hown hK hP 0 rfl rfl 1 (by decide) (hts (.fieldLink RX1 23 "HashedStoreModel" "blocks" "I") (by decide +kernel)) (fun _ h9 => h9) rfl dX1_node_1 ?_
  refine lv_aload_n hx hb dX1_node_4 rfl (lv_at hl 0 rfl) ?_
  refine va_get (D := (dC, dI)) (ci := 1) (v := .int (nI w)) (C := RX1) (T := TX1) (N := 11) hx hb hts (by decide +kernel) hown hK hP 0 rfl rfl 2 (by decide) (hts (.fieldLink RX1 26 "HashedStoreModel" "words" "I") (by decide +kernel)) (fun _ h9 => h9) rfl dX1_node_5 ?_
  refine hs_mulN hx hb dX1_node_8 ?_
  refine lv_iload_n hx hb dX1_node_9 rfl (lv_at hl 1 rfl) ?_
  refine hs_addN hx hb dX1_node_10 ?_
  refine lv_iconst (v := nI 1) hx hb dX1_node_11 (by decide) ?_
  refine hs_subN hx hb (by omega) dX1_node_12 ?_
  exact W.iret (v := nI (((N * w) + x1) - 1)) hx hb hr (fun t ht hW => ⟨⟨nI (((N * w) + x1) - 1), (), rfl, (by rw [hnw]), trivial⟩, hS.F ht⟩) hS.2.2 dX1_node_13
set_option maxHeartbeats 4000000 in
set_option maxRecDepth 100000 in
theorem kX1_isBlock (l : Launch) (dC : Nat → ClassId) (dI : Nat → Nat → Nat) (h0 hd hp : Nat) (cA : ClassId) (d N w nw sz u : Nat) (F G : Nat → Int32) (kr dn lf : Int32) (dw : Bool) (ok : hs_ok d N w nw sz) (p1 : Int32) : Met l yX1_isBlock wsX1_isBlock ({ frames := 0, cells := 0, slots := 0, locals := 0 }) (va_Pc [.ref h0, .int p1] (hs_pr (dC, dI) vwCl [(cA, .int)] [oM_ h0 hd hp d N w nw sz u kr dn lf dw])) (hs_Qp (fun r => r = hs_b (hs_hb N p1))) 0 0 (fun _ => False) := by
  refine Met.ofW (cc := cX1_isBlock) (maxL := 2) (ret := (some .boolean)) (by decide) rfl ?_
  intro p e s m args below meth c s₁ B hml hv
  obtain ⟨rfl, hP, hK⟩ := hv
  have hx := B.exec
  have hb := B.bytes
  have hr := B.returns
  have hts := atoms_spec (ws := wsX1_isBlock) B.pre
  have hown : s.vm.findClass RX1 = some m.cls := findClass_of_methodNamed B.named
  have hlocks := B.notSynchronized
  obtain ⟨hd5, hN1, hN2, hw1, hw2, hn1, hn2, hsz, hsz2⟩ := hs_okf ok
  have hnw : nw = N * w := ok.2.2.2.2.1
  have hS : va_S (fun _ => False) s.heap s.heap [] := va_S.rf
  have hl := lv_entry ([.ref h0, .int p1]) (n := 2) (Nat.le_of_ble_eq_true rfl)
  rw [lg_entry_eq]
  generalize (lg_sl ([.ref h0, .int p1]) ++ List.replicate (2 - (lg_sl ([.ref h0, .int p1])).length) Slot.unset).toArray = ls at hl ⊢
  have hl : lv_has ls 2 [(0, .ref h0), (1, .int p1)] := hl
  refine lv_iload_n hx hb dX1_isBlock_0 rfl (lv_at hl 1 rfl) ?_
  refine lv_if_lt (tgt := 16) hx hb dX1_isBlock_1 (by decide) (fun c2 => ?_) (fun c2 => ?_)
  · refine lv_iconst (v := nI 0) hx hb dX1_isBlock_16 (by decide) ?_
    exact W.zret (v := nI 0) hx hb hr rfl (fun t ht hW => ⟨⟨nI 0, (), rfl, (by rw [hs_hb_n c2]; rfl), trivial⟩, hS.F ht⟩) hS.2.2 dX1_isBlock_17
  · refine lv_iload_n hx hb dX1_isBlock_4 rfl (lv_at hl 1 rfl) ?_
    refine lv_aload_n hx hb dX1_isBlock_5 rfl (lv_at hl 0 rfl) ?_
    refine va_get (D := (dC, dI)) (ci := 1) (v := .int (nI N)) (C := RX1) (T := TX1) (N := 11) hx hb hts (by decide +kernel) hown hK hP 0 rfl rfl 1 (by decide) (hts (.fieldLink RX1 23 "HashedStoreModel" "blocks" "I") (by decide +kernel)) (fun _ h9 => h9) rfl dX1_isBlock_6 ?_
    refine lv_icmp_ge (tgt := 16) hx hb dX1_isBlock_9 (by decide) (fun c3 => ?_) (fun c3 => ?_)
    · refine lv_iconst (v := nI 0) hx hb dX1_isBlock_16 (by decide) ?_
      exact W.zret (v := nI 0) hx hb hr rfl (fun t ht hW => ⟨⟨nI 0, (), rfl, (by rw [hs_hb_g c3]; rfl), trivial⟩, hS.F ht⟩) hS.2.2 dX1_isBlock_17
    · refine lv_iconst (v := nI 1) hx hb dX1_isBlock_12 (by decide) ?_
      refine lv_goto (tgt := 17) hx hb dX1_isBlock_13 (by decide) ?_
      exact W.zret (v := nI 1) hx hb hr rfl (fun t ht hW => ⟨⟨nI 1, (), rfl, (by rw [hs_hb_o c2 (Int32.not_le.mp c3)]; rfl), trivial⟩, hS.F ht⟩) hS.2.2 dX1_isBlock_17
set_option maxHeartbeats 4000000 in
set_option maxRecDepth 100000 in
theorem kX1_hash (l : Launch) (dC : Nat → ClassId) (dI : Nat → Nat → Nat) (h0 hd hp : Nat) (cA : ClassId) (d N w nw sz u : Nat) (F G : Nat → Int32) (kr dn lf : Int32) (dw : Bool) (ok : hs_ok d N w nw sz) (j : Nat) (hj : j < N) : Met l yX1_hash wsX1_hash ({ frames := 1, cells := 0, slots := 0, locals := 22 }) (va_Pc [.ref h0, .int (nI j)] (hs_pr (dC, dI) vwCl [(cA, .int)] [oM_ h0 hd hp d N w nw sz u kr dn lf dw, ar_ hp cA 300 G])) (hs_Qp (fun r => r = hs_bl G w (j * w) (nI j))) 0 0 (fun _ => False) := by
  refine Met.ofW (cc := cX1_hash) (maxL := 4) (ret := (some .int)) (by decide) rfl ?_
  intro p e s m args below meth c s₁ B hml hv
  obtain ⟨rfl, hP, hK⟩ := hv
  have hx := B.exec
  have hb := B.bytes
  have hr := B.returns
  have hts := atoms_spec (ws := wsX1_hash) B.pre
  have hown : s.vm.findClass RX1 = some m.cls := findClass_of_methodNamed B.named
  have hlocks := B.notSynchronized
  obtain ⟨hd5, hN1, hN2, hw1, hw2, hn1, hn2, hsz, hsz2⟩ := hs_okf ok
  have hnw : nw = N * w := ok.2.2.2.2.1
  have hS : va_S (fun _ => False) s.heap s.heap [] := va_S.rf
  have hl := lv_entry ([.ref h0, .int (nI j)]) (n := 4) (Nat.le_of_ble_eq_true rfl)
  rw [lg_entry_eq]
  generalize (lg_sl ([.ref h0, .int (nI j)]) ++ List.replicate (4 - (lg_sl ([.ref h0, .int (nI j)])).length) Slot.unset).toArray = ls at hl ⊢
  have hl : lv_has ls 4 [(0, .ref h0), (1, .int (nI j))] := hl
  have hrow := hs_row ok hj
  refine lv_iload_n hx hb dX1_hash_0 rfl (lv_at hl 1 rfl) ?_
  refine lv_istore_n (lv' := [(2, .int (nI j)), (0, .ref h0), (1, .int (nI j))]) hx hb dX1_hash_1 rfl hl (by decide) rfl (fun ls hl => ?_)
  refine lv_iconst (v := nI 0) hx hb dX1_hash_2 (by decide) ?_
  refine lv_istore_n (lv' := [(3, .int (nI 0)), (2, .int (nI j)), (0, .ref h0), (1, .int (nI j))]) hx hb dX1_hash_3 rfl hl (by decide) rfl (fun ls hl => ?_)
  have loop : ∀ (n : Nat) (i : Nat) (h : Int32) (H : Heap) (locs : List Loc) (ls : Array Slot), (i + n = w) → (hs_bl G n (j * w + i) h = hs_bl G w (j * w) (nI j)) → va_P (dC, dI) vwCl [oM_ h0 hd hp d N w nw sz u kr dn lf dw, ar_ hp cA 300 G] H → va_S (fun _ => False) s.heap H locs → lv_has ls 4 [(3, .int (nI i)), (2, .int h), (0, .ref h0), (1, .int (nI j))] → W p l e (headSpec wsX1_hash ({ frames := 1, cells := 0, slots := 0, locals := 22 })).room s m ([.ref h0, .int (nI j)] : List Value).toArray below meth c H locs 0 0 (MQ below (hs_Qp (fun r => r = hs_bl G w (j * w) (nI j))) ([.ref h0, .int (nI j)] : List Value).toArray s 0 0 (fun _ => False)) (F0 m 4 ls []) := by
    intro n
    induction n with
    | zero =>
      intro i h H locs ls hi he hP hS hl
      refine lv_iload_n hx hb dX1_hash_4 rfl (lv_at hl 0 rfl) ?_
      refine lv_aload_n hx hb dX1_hash_5 rfl (lv_at hl 2 rfl) ?_
      refine va_get (D := (dC, dI)) (ci := 1) (v := .int (nI w)) (C := RX1) (T := TX1) (N := 11) hx hb hts (by decide +kernel) hown hK hP 0 rfl rfl 2 (by decide) (hts (.fieldLink RX1 26 "HashedStoreModel" "words" "I") (by decide +kernel)) (fun _ h9 => h9) rfl dX1_hash_6 ?_
      refine hs_cge (tgt := 36) hx hb (by omega) (by omega) dX1_hash_9 (by decide) (fun c1 => ?_) (fun c1 => ?_)
      · refine lv_iload_n hx hb dX1_hash_36 rfl (lv_at hl 1 rfl) ?_
        exact W.iret (v := h) hx hb hr (fun t ht hW => ⟨⟨h, (), rfl, he, trivial⟩, hS.F ht⟩) hS.2.2 dX1_hash_37
      · exact absurd c1 (by omega)
    | succ n ih =>
      intro i h H locs ls hi he hP hS hl
      refine lv_iload_n hx hb dX1_hash_4 rfl (lv_at hl 0 rfl) ?_
      refine lv_aload_n hx hb dX1_hash_5 rfl (lv_at hl 2 rfl) ?_
      refine va_get (D := (dC, dI)) (ci := 1) (v := .int (nI w)) (C := RX1) (T := TX1) (N := 11) hx hb hts (by decide +kernel) hown hK hP 0 rfl rfl 2 (by decide) (hts (.fieldLink RX1 26 "HashedStoreModel" "words" "I") (by decide +kernel)) (fun _ h9 => h9) rfl dX1_hash_6 ?_
      refine hs_cge (tgt := 36) hx hb (by omega) (by omega) dX1_hash_9 (by decide) (fun c1 => ?_) (fun c1 => ?_)
      · exact absurd c1 (by omega)
      · refine lv_iload_n hx hb dX1_hash_12 rfl (lv_at hl 1 rfl) ?_
        refine lv_aload_n hx hb dX1_hash_13 rfl (lv_at hl 2 rfl) ?_
        refine va_get (D := (dC, dI)) (ci := 1) (v := .ref hp) (C := RX1) (T := TX1) (N := 11) hx hb hts (by decide +kernel) hown hK hP 0 rfl rfl 5 (by decide) (hts (.fieldLink RX1 13 "HashedStoreModel" "goal" "[I") (by decide +kernel)) (fun _ h9 => h9) rfl dX1_hash_14 ?_
        refine lv_iload_n hx hb dX1_hash_17 rfl (lv_at hl 3 rfl) ?_
        refine lv_aload_n hx hb dX1_hash_18 rfl (lv_at hl 2 rfl) ?_
        refine va_get (D := (dC, dI)) (ci := 1) (v := .int (nI w)) (C := RX1) (T := TX1) (N := 11) hx hb hts (by decide +kernel) hown hK hP 0 rfl rfl 2 (by decide) (hts (.fieldLink RX1 26 "HashedStoreModel" "words" "I") (by decide +kernel)) (fun _ h9 => h9) rfl dX1_hash_19 ?_
        refine hs_mulN hx hb dX1_hash_22 ?_
        refine lv_iload_n hx hb dX1_hash_23 rfl (lv_at hl 0 rfl) ?_
        refine hs_addN hx hb dX1_hash_24 ?_
        refine hs_ald hx hb hK hP 1 0 rfl rfl (k := (j * w) + i) (by omega) (by omega) dX1_hash_25 ?_
        refine hs_pe (v := hs_mx h (G (j * w + i))) (va_runS (As := [.int h, .int (G ((j * w) + i))]) (rest := []) ⟨hx, hb, hml, hown, hts⟩ (kX1_mix l _ _) (va_cwS 2 hts gX1_hash_X1_mix rfl rfl rfl (by decide +kernel) ⟨(Nat.le_of_ble_eq_true rfl), (Nat.le_of_ble_eq_true rfl)⟩) hs_preT rfl rfl hl.1 rfl (lv_room (Nat.le_of_ble_eq_true rfl)) dX1_hash_26 ⟨Nat.zero_le _, Nat.zero_le _⟩) hS hP (fun H locs hP hS => ?_)
        refine lv_istore_n (lv' := [(2, .int (hs_mx h (G (j * w + i)))), (3, .int (nI i)), (0, .ref h0), (1, .int (nI j))]) hx hb dX1_hash_29 rfl hl (by decide) rfl (fun ls hl => ?_)
        refine lv_iinc (v := nI (i + 1)) (lv' := [(3, .int (nI (i + 1))), (2, .int (hs_mx h (G (j * w + i)))), (0, .ref h0), (1, .int (nI j))]) hx hb dX1_hash_30 hl (k := 1) rfl (nI_1 _) (by decide) rfl (fun ls hl => ?_)
        refine lv_goto (tgt := 4) hx hb dX1_hash_33 (by decide) ?_
        exact ih (i + 1) _ H locs ls (by omega) he hP hS (lv_sub hl [0, 1, 2, 3] rfl)
  exact loop w 0 (nI j) _ _ ls (by omega) rfl hP hS (lv_sub hl [0, 1, 2, 3] rfl)
set_option maxHeartbeats 4000000 in
set_option maxRecDepth 100000 in
theorem kX1_toGoal (l : Launch) (dC : Nat → ClassId) (dI : Nat → Nat → Nat) (h0 hd hp : Nat) (cA : ClassId) (d N w nw sz u : Nat) (F G : Nat → Int32) (kr dn lf : Int32) (dw : Bool) (ok : hs_ok d N w nw sz) (zz : Nat) (hu : u < 2) : Met l yX1_toGoal wsX1_toGoal ({ frames := 0, cells := 0, slots := 0, locals := 0 }) (va_Pc [.ref h0] (hs_pm (dC, dI) vwCl [(cA, .int)] [oM_ h0 hd hp d N w nw sz u kr dn lf dw, ar_ hd cA 600 F, ar_ hp cA 300 G] zz)) (va_Qv (S := hs_S × (Nat → Int32)) (fun uu => ∃ g, uu = ((F, u, kr, dn, lf, dw), g) ∧ ∀ x, x < sz → g x = hs_vw sz F u x) (hs_B (dC, dI) vwCl [(cA, .int)] (wfM h0 hd hp cA d N w nw sz) (va_A [oM_ h0 hd hp d N w nw sz u kr dn lf dw, ar_ hd cA 600 F, ar_ hp cA 300 G] zz)) (va_A [oM_ h0 hd hp d N w nw sz u kr dn lf dw, ar_ hd cA 600 F, ar_ hp cA 300 G] zz)) 0 0 (va_A [oM_ h0 hd hp d N w nw sz u kr dn lf dw, ar_ hd cA 600 F, ar_ hp cA 300 G] zz) := by
  refine Met.ofW (cc := cX1_toGoal) (maxL := 2) (ret := none) (by decide) rfl ?_
  intro p e s m args below meth c s₁ B hml hv
  obtain ⟨rfl, hzz, hP, hK, hD0⟩ := hv
  have hx := B.exec
  have hb := B.bytes
  have hr := B.returns
  have hts := atoms_spec (ws := wsX1_toGoal) B.pre
  have hown : s.vm.findClass RX1 = some m.cls := findClass_of_methodNamed B.named
  have hlocks := B.notSynchronized
  obtain ⟨hd5, hN1, hN2, hw1, hw2, hn1, hn2, hsz, hsz2⟩ := hs_okf ok
  have hnw : nw = N * w := ok.2.2.2.2.1
  subst hzz
  have hD := hD0.self (sz := s.heap.size)
  have hS : va_S (va_A [oM_ h0 hd hp d N w nw sz u kr dn lf dw, ar_ hd cA 600 F, ar_ hp cA 300 G] s.heap.size) s.heap s.heap [] := va_S.rf
  have hA : ∀ q : Nat, s.heap.size ≤ q → va_A [oM_ h0 hd hp d N w nw sz u kr dn lf dw, ar_ hd cA 600 F, ar_ hp cA 300 G] s.heap.size q := fun q h => Or.inr h
  have hl := lv_entry ([.ref h0]) (n := 2) (Nat.le_of_ble_eq_true rfl)
  rw [lg_entry_eq]
  generalize (lg_sl ([.ref h0]) ++ List.replicate (2 - (lg_sl ([.ref h0])).length) Slot.unset).toArray = ls at hl ⊢
  have hl : lv_has ls 2 [(0, .ref h0)] := hl
  have hus : u * sz + sz ≤ 2 * sz := hs_us2 hu
  have hcm : sz * u = u * sz := Nat.mul_comm sz u
  refine lv_iconst (v := nI 0) hx hb dX1_toGoal_0 (by decide) ?_
  refine lv_istore_n (lv' := [(1, .int (nI 0)), (0, .ref h0)]) hx hb dX1_toGoal_1 rfl hl (by decide) rfl (fun ls hl => ?_)
  have loop : ∀ (n : Nat) (i : Nat) (g : Nat → Int32) (H : Heap) (locs : List Loc) (ls : Array Slot), (i + n = sz) → (∀ x, x < i → g x = hs_vw sz F u x) → va_P (dC, dI) vwCl [oM_ h0 hd hp d N w nw sz u kr dn lf dw, ar_ hd cA 600 F, ar_ hp cA 300 g] H → va_D (va_A [oM_ h0 hd hp d N w nw sz u kr dn lf dw, ar_ hd cA 600 F, ar_ hp cA 300 G] s.heap.size) [oM_ h0 hd hp d N w nw sz u kr dn lf dw, ar_ hd cA 600 F, ar_ hp cA 300 g] → va_S (va_A [oM_ h0 hd hp d N w nw sz u kr dn lf dw, ar_ hd cA 600 F, ar_ hp cA 300 G] s.heap.size) s.heap H locs → lv_has ls 2 [(1, .int (nI i)), (0, .ref h0)] → W p l e (headSpec wsX1_toGoal ({ frames := 0, cells := 0, slots := 0, locals := 0 })).room s m ([.ref h0] : List Value).toArray below meth c H locs 0 0 (MQ below (va_Qv (S := hs_S × (Nat → Int32)) (fun uu => ∃ g, uu = ((F, u, kr, dn, lf, dw), g) ∧ ∀ x, x < sz → g x = hs_vw sz F u x) (hs_B (dC, dI) vwCl [(cA, .int)] (wfM h0 hd hp cA d N w nw sz) (va_A [oM_ h0 hd hp d N w nw sz u kr dn lf dw, ar_ hd cA 600 F, ar_ hp cA 300 G] s.heap.size)) (va_A [oM_ h0 hd hp d N w nw sz u kr dn lf dw, ar_ hd cA 600 F, ar_ hp cA 300 G] s.heap.size)) ([.ref h0] : List Value).toArray s 0 0 (va_A [oM_ h0 hd hp d N w nw sz u kr dn lf dw, ar_ hd cA 600 F, ar_ hp cA 300 G] s.heap.size)) (F0 m 2 ls []) := by
    intro n
    induction n with
    | zero =>
      intro i g H locs ls hi hg hP hD hS hl
      refine lv_iload_n hx hb dX1_toGoal_2 rfl (lv_at hl 0 rfl) ?_
      refine lv_aload_n hx hb dX1_toGoal_3 rfl (lv_at hl 1 rfl) ?_
      refine va_get (D := (dC, dI)) (ci := 1) (v := .int (nI sz)) (C := RX1) (T := TX1) (N := 11) hx hb hts (by decide +kernel) hown hK hP 0 rfl rfl 3 (by decide) (hts (.fieldLink RX1 29 "HashedStoreModel" "size" "I") (by decide +kernel)) (fun _ h9 => h9) rfl dX1_toGoal_4 ?_
      refine hs_cge (tgt := 38) hx hb (by omega) (by omega) dX1_toGoal_7 (by decide) (fun c1 => ?_) (fun c1 => ?_)
      · exact W.vret hx hb hr (fun t ht hW => ⟨⟨((F, u, kr, dn, lf, dw), g), rfl, ⟨g, rfl, fun x hx9 => hg x (by omega)⟩, by rw [ht]; exact hP, va_K.moved hW.alike hK, hD⟩, hS.F ht⟩) hS.2.2 dX1_toGoal_38
      · exact absurd c1 (by omega)
    | succ n ih =>
      intro i g H locs ls hi hg hP hD hS hl
      refine lv_iload_n hx hb dX1_toGoal_2 rfl (lv_at hl 0 rfl) ?_
      refine lv_aload_n hx hb dX1_toGoal_3 rfl (lv_at hl 1 rfl) ?_
      refine va_get (D := (dC, dI)) (ci := 1) (v := .int (nI sz)) (C := RX1) (T := TX1) (N := 11) hx hb hts (by decide +kernel) hown hK hP 0 rfl rfl 3 (by decide) (hts (.fieldLink RX1 29 "HashedStoreModel" "size" "I") (by decide +kernel)) (fun _ h9 => h9) rfl dX1_toGoal_4 ?_
      refine hs_cge (tgt := 38) hx hb (by omega) (by omega) dX1_toGoal_7 (by decide) (fun c1 => ?_) (fun c1 => ?_)
      · exact absurd c1 (by omega)
      · refine lv_aload_n hx hb dX1_toGoal_10 rfl (lv_at hl 1 rfl) ?_
        refine va_get (D := (dC, dI)) (ci := 1) (v := .ref hp) (C := RX1) (T := TX1) (N := 11) hx hb hts (by decide +kernel) hown hK hP 0 rfl rfl 5 (by decide) (hts (.fieldLink RX1 13 "HashedStoreModel" "goal" "[I") (by decide +kernel)) (fun _ h9 => h9) rfl dX1_toGoal_11 ?_
        refine lv_iload_n hx hb dX1_toGoal_14 rfl (lv_at hl 0 rfl) ?_
        refine lv_aload_n hx hb dX1_toGoal_15 rfl (lv_at hl 1 rfl) ?_
        refine va_get (D := (dC, dI)) (ci := 1) (v := .ref hd) (C := RX1) (T := TX1) (N := 11) hx hb hts (by decide +kernel) hown hK hP 0 rfl rfl 4 (by decide) (hts (.fieldLink RX1 7 "HashedStoreModel" "disk" "[I") (by decide +kernel)) (fun _ h9 => h9) rfl dX1_toGoal_16 ?_
        refine lv_aload_n hx hb dX1_toGoal_19 rfl (lv_at hl 1 rfl) ?_
        refine va_get (D := (dC, dI)) (ci := 1) (v := .int (nI sz)) (C := RX1) (T := TX1) (N := 11) hx hb hts (by decide +kernel) hown hK hP 0 rfl rfl 3 (by decide) (hts (.fieldLink RX1 29 "HashedStoreModel" "size" "I") (by decide +kernel)) (fun _ h9 => h9) rfl dX1_toGoal_20 ?_
        refine lv_aload_n hx hb dX1_toGoal_23 rfl (lv_at hl 1 rfl) ?_
        refine va_get (D := (dC, dI)) (ci := 1) (v := .int (nI u)) (C := RX1) (T := TX1) (N := 11) hx hb hts (by decide +kernel) hown hK hP 0 rfl rfl 6 (by decide) (hts (.fieldLink RX1 42 "HashedStoreModel" "used" "I") (by decide +kernel)) (fun _ h9 => h9) rfl dX1_toGoal_24 ?_
        refine hs_mulN hx hb dX1_toGoal_27 ?_
        refine lv_iload_n hx hb dX1_toGoal_28 rfl (lv_at hl 0 rfl) ?_
        refine hs_addN hx hb dX1_toGoal_29 ?_
        refine hs_ald hx hb hK hP 1 0 rfl rfl (k := (sz * u) + i) (by omega) (by omega) dX1_toGoal_30 ?_
        refine hs_ast hx hb hK hP hD hS 2 0 rfl rfl (k := i) (by omega) (by omega) dX1_toGoal_31 (fun H locs hP hD hS => ?_)
        have hP : va_P (dC, dI) vwCl [oM_ h0 hd hp d N w nw sz u kr dn lf dw, ar_ hd cA 600 F, ar_ hp cA 300 (upd g i (F ((sz * u) + i)))] H := hP
        have hD : va_D (va_A [oM_ h0 hd hp d N w nw sz u kr dn lf dw, ar_ hd cA 600 F, ar_ hp cA 300 G] s.heap.size) [oM_ h0 hd hp d N w nw sz u kr dn lf dw, ar_ hd cA 600 F, ar_ hp cA 300 (upd g i (F ((sz * u) + i)))] := hD
        refine lv_iinc (v := nI (i + 1)) (lv' := [(1, .int (nI (i + 1))), (0, .ref h0)]) hx hb dX1_toGoal_32 hl (k := 0) rfl (nI_1 _) (by decide) rfl (fun ls hl => ?_)
        refine lv_goto (tgt := 2) hx hb dX1_toGoal_35 (by decide) ?_
        exact ih (i + 1) _ H locs ls (by omega) (fun x hx9 => by
          by_cases e : x = i
          · subst e; rw [pk_us, hcm]; rfl
          · exact (pk_un e).trans (hg x (by omega))) hP hD hS (lv_sub hl [0, 1] rfl)
  exact loop sz 0 G _ _ ls (by omega) (fun x hx9 => absurd hx9 (Nat.not_lt_zero x)) hP hD hS (lv_sub hl [0, 1] rfl)
