set_option maxHeartbeats 4000000 in
set_option maxRecDepth 100000 in
theorem kX0_init (l : Launch) (dC : Nat → ClassId) (dI : Nat → Nat → Nat) (h0 : Nat) (d N w nw sz : Nat) (ok : hs_ok d N w nw sz) (p1 p2 : Int32) (e1 : d = hs_cd p1) (e2 : w = hs_cw p2) (zz : Nat) : Met l yX0_init wsX0_init ({ frames := 4, cells := 2, slots := 765, locals := 88 }) (va_Pc [.ref h0, .int p1, .int p2] (hs_pm (dC, dI) vwCl [] [(h0, .inr (0, [.int 0, .int 0, .int 0, .int 0, .int 0, .null, .null, .int 0, .int 0, .int 0, .int 0, .int 0]))] zz)) (va_Qv (S := Nat × Nat × ClassId × (Nat → Int32) × (Nat → Int32)) (fun uu => hs_E N w nw sz uu.2.2.2.1) (fun uu t => va_P (dC, dI) vwCl (wfX h0 uu.1 uu.2.1 uu.2.2.1 d N w nw sz ((uu.2.2.2.1, 0, uu.2.2.2.1 (nw + 1 - 1), 0, -1, false), uu.2.2.2.2)) t.heap ∧ va_K (dC, dI) vwCl [(uu.2.2.1, .int)] t ∧ va_D (va_A [(h0, .inr (0, [.int 0, .int 0, .int 0, .int 0, .int 0, .null, .null, .int 0, .int 0, .int 0, .int 0, .int 0]))] zz) (wfX h0 uu.1 uu.2.1 uu.2.2.1 d N w nw sz ((uu.2.2.2.1, 0, uu.2.2.2.1 (nw + 1 - 1), 0, -1, false), uu.2.2.2.2))) (va_A [(h0, .inr (0, [.int 0, .int 0, .int 0, .int 0, .int 0, .null, .null, .int 0, .int 0, .int 0, .int 0, .int 0]))] zz)) 2 765 (va_A [(h0, .inr (0, [.int 0, .int 0, .int 0, .int 0, .int 0, .null, .null, .int 0, .int 0, .int 0, .int 0, .int 0]))] zz) := by
  refine Met.ofW (cc := cX0_init) (maxL := 3) (ret := none) (by decide) rfl ?_
  intro p e s m args below meth c s₁ B hml hv
  obtain ⟨rfl, hzz, hP, hK, hD0⟩ := hv
  have hx := B.exec
  have hb := B.bytes
  have hr := B.returns
  have hts := atoms_spec (ws := wsX0_init) B.pre
  have hown : s.vm.findClass RX0 = some m.cls := findClass_of_methodNamed B.named
  have hlocks := B.notSynchronized
  have hin : meth.name = "<init>" := (name_of_methodNamed B.named B.method).1
  obtain ⟨hd5, hN1, hN2, hw1, hw2, hn1, hn2, hsz, hsz2⟩ := hs_okf ok
  have hnw : nw = N * w := ok.2.2.2.2.1
  have hN : N = 2 ^ d := ok.2.1
  subst hzz
  have hD := hD0.self (sz := s.heap.size)
  have hS : va_S (va_A [(h0, .inr (0, [.int 0, .int 0, .int 0, .int 0, .int 0, .null, .null, .int 0, .int 0, .int 0, .int 0, .int 0]))] s.heap.size) s.heap s.heap [] := va_S.rf
  have hA : ∀ q : Nat, s.heap.size ≤ q → (va_A [(h0, .inr (0, [.int 0, .int 0, .int 0, .int 0, .int 0, .null, .null, .int 0, .int 0, .int 0, .int 0, .int 0]))] s.heap.size) q := fun q h => Or.inr h
  have hl := lv_entry ([.ref h0, .int p1, .int p2]) (n := 3) (Nat.le_of_ble_eq_true rfl)
  rw [lg_entry_eq]
  generalize (lg_sl ([.ref h0, .int p1, .int p2]) ++ List.replicate (3 - (lg_sl ([.ref h0, .int p1, .int p2])).length) Slot.unset).toArray = ls at hl ⊢
  have hl : lv_has ls 3 [(0, .ref h0), (1, .int p1), (2, .int p2)] := hl
  refine lv_aload_n hx hb dX0_init_0 rfl (lv_at hl 0 rfl) ?_
  refine W.objInit hx hb hown (hts (.methodLink RX0 1 objectInit) (by decide +kernel)) (hts (.instanceMethod objectInit) (by decide +kernel)) (hts (.code objectInit ⟨#[0xb1]⟩ 1 none) (by decide +kernel)) rfl (by rw [hml]; exact hl.1) rfl dX0_init_1 (Nat.le_of_ble_eq_true rfl) (Nat.le_of_ble_eq_true rfl) ?_
  refine W.eq (g2 := F0 m 4 ls []) rfl ?_
  refine lv_aload_n hx hb dX0_init_4 rfl (lv_at hl 0 rfl) ?_
  refine lv_iconst (v := 0) hx hb dX0_init_5 (by decide) ?_
  refine lv_iload_n hx hb dX0_init_6 rfl (lv_at hl 1 rfl) ?_
  refine lv_iconst (v := 5) hx hb dX0_init_7 (by decide) ?_
  refine va_mmin hx hb (hml.trans hl.1.symm) hown (hts (.methodLink RX0 9 Lib.Math.min.name) (by decide +kernel)) (hts (.static Lib.Math.min.name) (by decide +kernel)) (hts (.initialized "java/lang/Math") (by decide +kernel)) (hts (.code Lib.Math.min.name Lib.Math.min.code 2 (some .int)) (by decide +kernel)) (Nat.le_of_ble_eq_true rfl) (Nat.le_of_ble_eq_true rfl) (Nat.zero_le _) (Nat.zero_le _) dX0_init_8 ?_
  refine va_mmax hx hb (hml.trans hl.1.symm) hown (hts (.methodLink RX0 15 Lib.Math.max.name) (by decide +kernel)) (hts (.static Lib.Math.max.name) (by decide +kernel)) (hts (.initialized "java/lang/Math") (by decide +kernel)) (hts (.code Lib.Math.max.name Lib.Math.max.code 2 (some .int)) (by decide +kernel)) (Nat.le_of_ble_eq_true rfl) (Nat.le_of_ble_eq_true rfl) (Nat.zero_le _) (Nat.zero_le _) dX0_init_11 ?_
  refine lv_topi (fun zq ezq => ?_)
  rw [hs_cdX, ← e1] at ezq
  subst ezq
  refine va_putF (D := (dC, dI)) (ci := 0) (v := .int (nI d)) (ty := .int) (C := RX0) (T := TX0) (N := 12) hx hb hts (by decide +kernel) tyX0 tyX0_ok nmX0 hown hK hP hD hS 0 rfl rfl 0 (by decide) (hts (.fieldLink RX0 18 "HashedStore" "treeDepth" "I") (by decide +kernel)) (fun _ h9 => h9) rfl hin rfl (by decide +kernel) rfl rfl (Nat.le_of_ble_eq_true rfl) dX0_init_14 (fun H locs hP hD hS => ?_)
  have hP : va_P (dC, dI) vwCl [(h0, .inr (0, [.int (nI d), .int 0, .int 0, .int 0, .int 0, .null, .null, .int 0, .int 0, .int 0, .int 0, .int 0]))] H := hP
  have hD : va_D (va_A [(h0, .inr (0, [.int 0, .int 0, .int 0, .int 0, .int 0, .null, .null, .int 0, .int 0, .int 0, .int 0, .int 0]))] s.heap.size) [(h0, .inr (0, [.int (nI d), .int 0, .int 0, .int 0, .int 0, .null, .null, .int 0, .int 0, .int 0, .int 0, .int 0]))] := hD
  refine lv_aload_n hx hb dX0_init_17 rfl (lv_at hl 0 rfl) ?_
  refine lv_iconst (v := 1) hx hb dX0_init_18 (by decide) ?_
  refine lv_iload_n hx hb dX0_init_19 rfl (lv_at hl 2 rfl) ?_
  refine lv_bipush (v := 6) hx hb dX0_init_20 (by decide) ?_
  refine va_mmin hx hb (hml.trans hl.1.symm) hown (hts (.methodLink RX0 9 Lib.Math.min.name) (by decide +kernel)) (hts (.static Lib.Math.min.name) (by decide +kernel)) (hts (.initialized "java/lang/Math") (by decide +kernel)) (hts (.code Lib.Math.min.name Lib.Math.min.code 2 (some .int)) (by decide +kernel)) (Nat.le_of_ble_eq_true rfl) (Nat.le_of_ble_eq_true rfl) (Nat.zero_le _) (Nat.zero_le _) dX0_init_22 ?_
  refine va_mmax hx hb (hml.trans hl.1.symm) hown (hts (.methodLink RX0 15 Lib.Math.max.name) (by decide +kernel)) (hts (.static Lib.Math.max.name) (by decide +kernel)) (hts (.initialized "java/lang/Math") (by decide +kernel)) (hts (.code Lib.Math.max.name Lib.Math.max.code 2 (some .int)) (by decide +kernel)) (Nat.le_of_ble_eq_true rfl) (Nat.le_of_ble_eq_true rfl) (Nat.zero_le _) (Nat.zero_le _) dX0_init_25 ?_
  refine lv_topi (fun zq ezq => ?_)
  rw [hs_cwX, ← e2] at ezq
  subst ezq
  refine va_putF (D := (dC, dI)) (ci := 0) (v := .int (nI w)) (ty := .int) (C := RX0) (T := TX0) (N := 12) hx hb hts (by decide +kernel) tyX0 tyX0_ok nmX0 hown hK hP hD hS 0 rfl rfl 2 (by decide) (hts (.fieldLink RX0 22 "HashedStore" "wordsPerBlock" "I") (by decide +kernel)) (fun _ h9 => h9) rfl hin rfl (by decide +kernel) rfl rfl (Nat.le_of_ble_eq_true rfl) dX0_init_28 (fun H locs hP hD hS => ?_)
  have hP : va_P (dC, dI) vwCl [(h0, .inr (0, [.int (nI d), .int 0, .int (nI w), .int 0, .int 0, .null, .null, .int 0, .int 0, .int 0, .int 0, .int 0]))] H := hP
  have hD : va_D (va_A [(h0, .inr (0, [.int 0, .int 0, .int 0, .int 0, .int 0, .null, .null, .int 0, .int 0, .int 0, .int 0, .int 0]))] s.heap.size) [(h0, .inr (0, [.int (nI d), .int 0, .int (nI w), .int 0, .int 0, .null, .null, .int 0, .int 0, .int 0, .int 0, .int 0]))] := hD
  refine lv_aload_n hx hb dX0_init_31 rfl (lv_at hl 0 rfl) ?_
  refine lv_iconst (v := nI 1) hx hb dX0_init_32 (by decide) ?_
  refine lv_aload_n hx hb dX0_init_33 rfl (lv_at hl 0 rfl) ?_
  refine va_get (D := (dC, dI)) (ci := 0) (v := .int (nI d)) (C := RX0) (T := TX0) (N := 12) hx hb hts (by decide +kernel) hown hK hP 0 rfl rfl 0 (by decide) (hts (.fieldLink RX0 18 "HashedStore" "treeDepth" "I") (by decide +kernel)) (fun _ h9 => h9) rfl dX0_init_34 ?_
  refine lv_ishl hx hb dX0_init_37 ?_
  refine lv_topi (fun zq ezq => ?_)
  rw [hs_shl d (by omega), ← hN] at ezq
  subst ezq
  refine va_putF (D := (dC, dI)) (ci := 0) (v := .int (nI N)) (ty := .int) (C := RX0) (T := TX0) (N := 12) hx hb hts (by decide +kernel) tyX0 tyX0_ok nmX0 hown hK hP hD hS 0 rfl rfl 1 (by decide) (hts (.fieldLink RX0 25 "HashedStore" "blockCount" "I") (by decide +kernel)) (fun _ h9 => h9) rfl hin rfl (by decide +kernel) rfl rfl (Nat.le_of_ble_eq_true rfl) dX0_init_38 (fun H locs hP hD hS => ?_)
  have hP : va_P (dC, dI) vwCl [(h0, .inr (0, [.int (nI d), .int (nI N), .int (nI w), .int 0, .int 0, .null, .null, .int 0, .int 0, .int 0, .int 0, .int 0]))] H := hP
  have hD : va_D (va_A [(h0, .inr (0, [.int 0, .int 0, .int 0, .int 0, .int 0, .null, .null, .int 0, .int 0, .int 0, .int 0, .int 0]))] s.heap.size) [(h0, .inr (0, [.int (nI d), .int (nI N), .int (nI w), .int 0, .int 0, .null, .null, .int 0, .int 0, .int 0, .int 0, .int 0]))] := hD
  refine lv_aload_n hx hb dX0_init_41 rfl (lv_at hl 0 rfl) ?_
  refine lv_aload_n hx hb dX0_init_42 rfl (lv_at hl 0 rfl) ?_
  refine va_get (D := (dC, dI)) (ci := 0) (v := .int (nI N)) (C := RX0) (T := TX0) (N := 12) hx hb hts (by decide +kernel) hown hK hP 0 rfl rfl 1 (by decide) (hts (.fieldLink RX0 25 "HashedStore" "blockCount" "I") (by decide +kernel)) (fun _ h9 => h9) rfl dX0_init_43 ?_
  refine lv_aload_n hx hb dX0_init_46 rfl (lv_at hl 0 rfl) ?_
  refine va_get (D := (dC, dI)) (ci := 0) (v := .int (nI w)) (C := RX0) (T := TX0) (N := 12) hx hb hts (by decide +kernel) hown hK hP 0 rfl rfl 2 (by decide) (hts (.fieldLink RX0 22 "HashedStore" "wordsPerBlock" "I") (by decide +kernel)) (fun _ h9 => h9) rfl dX0_init_47 ?_
  refine hs_mulN hx hb dX0_init_50 ?_
  refine lv_topi (fun zq ezq => ?_)
  rw [← hnw] at ezq
  subst ezq
  refine va_putF (D := (dC, dI)) (ci := 0) (v := .int (nI nw)) (ty := .int) (C := RX0) (T := TX0) (N := 12) hx hb hts (by decide +kernel) tyX0 tyX0_ok nmX0 hown hK hP hD hS 0 rfl rfl 3 (by decide) (hts (.fieldLink RX0 28 "HashedStore" "areaWords" "I") (by decide +kernel)) (fun _ h9 => h9) rfl hin rfl (by decide +kernel) rfl rfl (Nat.le_of_ble_eq_true rfl) dX0_init_51 (fun H locs hP hD hS => ?_)
  have hP : va_P (dC, dI) vwCl [(h0, .inr (0, [.int (nI d), .int (nI N), .int (nI w), .int (nI nw), .int 0, .null, .null, .int 0, .int 0, .int 0, .int 0, .int 0]))] H := hP
  have hD : va_D (va_A [(h0, .inr (0, [.int 0, .int 0, .int 0, .int 0, .int 0, .null, .null, .int 0, .int 0, .int 0, .int 0, .int 0]))] s.heap.size) [(h0, .inr (0, [.int (nI d), .int (nI N), .int (nI w), .int (nI nw), .int 0, .null, .null, .int 0, .int 0, .int 0, .int 0, .int 0]))] := hD
  refine lv_aload_n hx hb dX0_init_54 rfl (lv_at hl 0 rfl) ?_
  refine lv_aload_n hx hb dX0_init_55 rfl (lv_at hl 0 rfl) ?_
  refine va_get (D := (dC, dI)) (ci := 0) (v := .int (nI nw)) (C := RX0) (T := TX0) (N := 12) hx hb hts (by decide +kernel) hown hK hP 0 rfl rfl 3 (by decide) (hts (.fieldLink RX0 28 "HashedStore" "areaWords" "I") (by decide +kernel)) (fun _ h9 => h9) rfl dX0_init_56 ?_
  refine lv_iconst (v := nI 2) hx hb dX0_init_59 (by decide) ?_
  refine lv_aload_n hx hb dX0_init_60 rfl (lv_at hl 0 rfl) ?_
  refine va_get (D := (dC, dI)) (ci := 0) (v := .int (nI N)) (C := RX0) (T := TX0) (N := 12) hx hb hts (by decide +kernel) hown hK hP 0 rfl rfl 1 (by decide) (hts (.fieldLink RX0 25 "HashedStore" "blockCount" "I") (by decide +kernel)) (fun _ h9 => h9) rfl dX0_init_61 ?_
  refine hs_mulN hx hb dX0_init_64 ?_
  refine hs_addN hx hb dX0_init_65 ?_
  refine lv_iconst (v := nI 1) hx hb dX0_init_66 (by decide) ?_
  refine hs_subN hx hb (by omega) dX0_init_67 ?_
  refine lv_topi (fun zq ezq => ?_)
  rw [← hsz] at ezq
  subst ezq
  refine va_putF (D := (dC, dI)) (ci := 0) (v := .int (nI sz)) (ty := .int) (C := RX0) (T := TX0) (N := 12) hx hb hts (by decide +kernel) tyX0 tyX0_ok nmX0 hown hK hP hD hS 0 rfl rfl 4 (by decide) (hts (.fieldLink RX0 31 "HashedStore" "areaCells" "I") (by decide +kernel)) (fun _ h9 => h9) rfl hin rfl (by decide +kernel) rfl rfl (Nat.le_of_ble_eq_true rfl) dX0_init_68 (fun H locs hP hD hS => ?_)
  have hP : va_P (dC, dI) vwCl [(h0, .inr (0, [.int (nI d), .int (nI N), .int (nI w), .int (nI nw), .int (nI sz), .null, .null, .int 0, .int 0, .int 0, .int 0, .int 0]))] H := hP
  have hD : va_D (va_A [(h0, .inr (0, [.int 0, .int 0, .int 0, .int 0, .int 0, .null, .null, .int 0, .int 0, .int 0, .int 0, .int 0]))] s.heap.size) [(h0, .inr (0, [.int (nI d), .int (nI N), .int (nI w), .int (nI nw), .int (nI sz), .null, .null, .int 0, .int 0, .int 0, .int 0, .int 0]))] := hD
  refine lv_aload_n hx hb dX0_init_71 rfl (lv_at hl 0 rfl) ?_
  refine lv_iconst (v := nI 2) hx hb dX0_init_72 (by decide) ?_
  refine lv_aload_n hx hb dX0_init_73 rfl (lv_at hl 0 rfl) ?_
  refine va_get (D := (dC, dI)) (ci := 0) (v := .int (nI sz)) (C := RX0) (T := TX0) (N := 12) hx hb hts (by decide +kernel) hown hK hP 0 rfl rfl 4 (by decide) (hts (.fieldLink RX0 31 "HashedStore" "areaCells" "I") (by decide +kernel)) (fun _ h9 => h9) rfl dX0_init_74 ?_
  refine hs_mulN hx hb dX0_init_77 ?_
  have hq1 : 0 + 2 * sz ≤ 765 := by omega
  have hq2 : (2 * sz) * componentBytes .int ≤ 536870912 := hs_bytes (by omega)
  have hq3 : ¬ nI (2 * sz) < 0 := nI_pos (by omega)
  have hq4 : (nI (2 * sz)).toNatClampNeg = 2 * sz := nI_clamp (by omega)
  refine va_newa (atype := .int) (ty := .int) (n := nI (2 * sz)) (N' := 2 * sz) (a0 := (2 * sz, .inl (fun _ => 0))) hx hb (hts (.arrayClass .int) (by decide +kernel)) rfl hK hP hD hS hA (fun cA => hs_new cA) hq3 hq4 hq2 (Nat.le_of_ble_eq_true rfl) hq1 dX0_init_78 (fun hd cA H hK hP hD hS => ?_)
  have hK : va_K (dC, dI) vwCl [(cA, .int)] s := hK
  have hP : va_P (dC, dI) vwCl [(h0, .inr (0, [.int (nI d), .int (nI N), .int (nI w), .int (nI nw), .int (nI sz), .null, .null, .int 0, .int 0, .int 0, .int 0, .int 0])), ar_ hd cA (2 * sz) (fun _ => 0)] H := hP
  have hD : va_D (va_A [(h0, .inr (0, [.int 0, .int 0, .int 0, .int 0, .int 0, .null, .null, .int 0, .int 0, .int 0, .int 0, .int 0]))] s.heap.size) [(h0, .inr (0, [.int (nI d), .int (nI N), .int (nI w), .int (nI nw), .int (nI sz), .null, .null, .int 0, .int 0, .int 0, .int 0, .int 0])), ar_ hd cA (2 * sz) (fun _ => 0)] := hD
  refine va_putF (D := (dC, dI)) (ci := 0) (v := .ref hd) (ty := .array .int) (C := RX0) (T := TX0) (N := 12) hx hb hts (by decide +kernel) tyX0 tyX0_ok nmX0 hown hK hP hD hS 0 rfl rfl 5 (by decide) (hts (.fieldLink RX0 34 "HashedStore" "disk" "[I") (by decide +kernel)) (fun _ h9 => h9) rfl hin rfl (by decide +kernel) rfl rfl (Nat.le_of_ble_eq_true rfl) dX0_init_80 (fun H locs hP hD hS => ?_)
  have hP : va_P (dC, dI) vwCl [(h0, .inr (0, [.int (nI d), .int (nI N), .int (nI w), .int (nI nw), .int (nI sz), .ref hd, .null, .int 0, .int 0, .int 0, .int 0, .int 0])), ar_ hd cA (2 * sz) (fun _ => 0)] H := hP
  have hD : va_D (va_A [(h0, .inr (0, [.int 0, .int 0, .int 0, .int 0, .int 0, .null, .null, .int 0, .int 0, .int 0, .int 0, .int 0]))] s.heap.size) [(h0, .inr (0, [.int (nI d), .int (nI N), .int (nI w), .int (nI nw), .int (nI sz), .ref hd, .null, .int 0, .int 0, .int 0, .int 0, .int 0])), ar_ hd cA (2 * sz) (fun _ => 0)] := hD
  refine lv_aload_n hx hb dX0_init_83 rfl (lv_at hl 0 rfl) ?_
  refine lv_aload_n hx hb dX0_init_84 rfl (lv_at hl 0 rfl) ?_
  refine va_get (D := (dC, dI)) (ci := 0) (v := .int (nI sz)) (C := RX0) (T := TX0) (N := 12) hx hb hts (by decide +kernel) hown hK hP 0 rfl rfl 4 (by decide) (hts (.fieldLink RX0 31 "HashedStore" "areaCells" "I") (by decide +kernel)) (fun _ h9 => h9) rfl dX0_init_85 ?_
  have hq1 : 0 + 2 * sz + sz ≤ 765 := by omega
  have hq2 : sz * componentBytes .int ≤ 536870912 := hs_bytes (by omega)
  have hq3 : ¬ nI sz < 0 := nI_pos (by omega)
  have hq4 : (nI sz).toNatClampNeg = sz := nI_clamp (by omega)
  refine va_newa (atype := .int) (ty := .int) (n := nI sz) (N' := sz) (a0 := (sz, .inl (fun _ => 0))) hx hb (hts (.arrayClass .int) (by decide +kernel)) rfl hK hP hD hS hA (fun cA => hs_new cA) hq3 hq4 hq2 (Nat.le_of_ble_eq_true rfl) hq1 dX0_init_88 (fun hp cB H hK hP hD hS => ?_)
  have hAB := hs_sameA hK
  subst hAB
  have hK : va_K (dC, dI) vwCl [(cA, .int)] s := hK.sub [0] rfl
  have hP : va_P (dC, dI) vwCl [(h0, .inr (0, [.int (nI d), .int (nI N), .int (nI w), .int (nI nw), .int (nI sz), .ref hd, .null, .int 0, .int 0, .int 0, .int 0, .int 0])), ar_ hd cA (2 * sz) (fun _ => 0), ar_ hp cA sz (fun _ => 0)] H := hP
  have hD : va_D (va_A [(h0, .inr (0, [.int 0, .int 0, .int 0, .int 0, .int 0, .null, .null, .int 0, .int 0, .int 0, .int 0, .int 0]))] s.heap.size) [(h0, .inr (0, [.int (nI d), .int (nI N), .int (nI w), .int (nI nw), .int (nI sz), .ref hd, .null, .int 0, .int 0, .int 0, .int 0, .int 0])), ar_ hd cA (2 * sz) (fun _ => 0), ar_ hp cA sz (fun _ => 0)] := hD
  refine va_putF (D := (dC, dI)) (ci := 0) (v := .ref hp) (ty := .array .int) (C := RX0) (T := TX0) (N := 12) hx hb hts (by decide +kernel) tyX0 tyX0_ok nmX0 hown hK hP hD hS 0 rfl rfl 6 (by decide) (hts (.fieldLink RX0 38 "HashedStore" "plan" "[I") (by decide +kernel)) (fun _ h9 => h9) rfl hin rfl (by decide +kernel) rfl rfl (Nat.le_of_ble_eq_true rfl) dX0_init_90 (fun H locs hP hD hS => ?_)
  have hP : va_P (dC, dI) vwCl [(h0, .inr (0, [.int (nI d), .int (nI N), .int (nI w), .int (nI nw), .int (nI sz), .ref hd, .ref hp, .int 0, .int 0, .int 0, .int 0, .int 0])), ar_ hd cA (2 * sz) (fun _ => 0), ar_ hp cA sz (fun _ => 0)] H := hP
  have hD : va_D (va_A [(h0, .inr (0, [.int 0, .int 0, .int 0, .int 0, .int 0, .null, .null, .int 0, .int 0, .int 0, .int 0, .int 0]))] s.heap.size) [(h0, .inr (0, [.int (nI d), .int (nI N), .int (nI w), .int (nI nw), .int (nI sz), .ref hd, .ref hp, .int 0, .int 0, .int 0, .int 0, .int 0])), ar_ hd cA (2 * sz) (fun _ => 0), ar_ hp cA sz (fun _ => 0)] := hD
  refine lv_aload_n hx hb dX0_init_93 rfl (lv_at hl 0 rfl) ?_
  have hP : va_P (dC, dI) vwCl [oX_ h0 hd hp d N w nw sz 0 0 0 0 false, ar_ hd cA (2 * sz) (fun _ => 0), ar_ hp cA sz (fun _ => 0)] H := hP
  have hD : va_D (va_A [(h0, .inr (0, [.int 0, .int 0, .int 0, .int 0, .int 0, .null, .null, .int 0, .int 0, .int 0, .int 0, .int 0]))] s.heap.size) [oX_ h0 hd hp d N w nw sz 0 0 0 0 false, ar_ hd cA (2 * sz) (fun _ => 0), ar_ hp cA sz (fun _ => 0)] := hD
  refine hs_cv (va_runV (As := []) (rest := []) ⟨hx, hb, hml, hown, hts⟩ (kX0_startAnew l dC dI h0 hd hp cA d N w nw sz 0 (fun _ => 0) (fun _ => 0) 0 0 0 false ok _ ) (cwV 0 hts gX0_init_X0_startAnew rfl rfl rfl (by decide +kernel) ⟨(Nat.le_of_ble_eq_true rfl), (Nat.le_of_ble_eq_true rfl)⟩) (hs_preM (q := (RX0, TX0, 12)) (ci := 0) hK hP hD rfl rfl) rfl rfl hl.1 rfl (lv_room (Nat.le_of_ble_eq_true rfl)) dX0_init_94 ⟨Nat.le_of_ble_eq_true rfl, by show 0 + 2 * sz + sz + 0 ≤ 765; omega⟩) hS hD hA (fun v H locs hv hP hD hS => ?_)
  obtain ⟨F9, rfl, hE⟩ := hv
  have hP : va_P (dC, dI) vwCl [oX_ h0 hd hp d N w nw sz 0 (F9 (nw + 1 - 1)) 0 (-1) false, ar_ hd cA (2 * sz) F9, ar_ hp cA sz (fun _ => 0)] H := hP
  have hD : va_D (va_A [(h0, .inr (0, [.int 0, .int 0, .int 0, .int 0, .int 0, .null, .null, .int 0, .int 0, .int 0, .int 0, .int 0]))] s.heap.size) [oX_ h0 hd hp d N w nw sz 0 (F9 (nw + 1 - 1)) 0 (-1) false, ar_ hd cA (2 * sz) F9, ar_ hp cA sz (fun _ => 0)] := hD
  refine W.widen (k := 2) (n := 765) (Nat.le_refl 2) (by omega) ?_
  exact W.vret hx hb hr (fun t ht hW => ⟨⟨(hd, hp, cA, F9, (fun _ => 0)), rfl, hE, by rw [ht]; exact hP, va_K.moved hW.alike hK, hD⟩, hS.F ht⟩) hS.2.2 dX0_init_97
set_option maxHeartbeats 4000000 in
set_option maxRecDepth 100000 in
theorem kX1_init (l : Launch) (dC : Nat → ClassId) (dI : Nat → Nat → Nat) (h0 : Nat) (d N w nw sz : Nat) (ok : hs_ok d N w nw sz) (p1 p2 : Int32) (e1 : d = hs_cd p1) (e2 : w = hs_cw p2) (zz : Nat) : Met l yX1_init wsX1_init ({ frames := 3, cells := 2, slots := 900, locals := 66 }) (va_Pc [.ref h0, .int p1, .int p2] (hs_pm (dC, dI) vwCl [] [(h0, .inr (1, [.int 0, .int 0, .int 0, .int 0, .null, .null, .int 0, .int 0, .int 0, .int 0, .int 0]))] zz)) (va_Qv (S := Nat × Nat × ClassId × (Nat → Int32) × (Nat → Int32)) (fun uu => hs_E N w nw sz uu.2.2.2.1) (fun uu t => va_P (dC, dI) vwCl (wfM h0 uu.1 uu.2.1 uu.2.2.1 d N w nw sz ((uu.2.2.2.1, 0, uu.2.2.2.1 (nw + 1 - 1), 0, -1, false), uu.2.2.2.2)) t.heap ∧ va_K (dC, dI) vwCl [(uu.2.2.1, .int)] t ∧ va_D (va_A [(h0, .inr (1, [.int 0, .int 0, .int 0, .int 0, .null, .null, .int 0, .int 0, .int 0, .int 0, .int 0]))] zz) (wfM h0 uu.1 uu.2.1 uu.2.2.1 d N w nw sz ((uu.2.2.2.1, 0, uu.2.2.2.1 (nw + 1 - 1), 0, -1, false), uu.2.2.2.2))) (va_A [(h0, .inr (1, [.int 0, .int 0, .int 0, .int 0, .null, .null, .int 0, .int 0, .int 0, .int 0, .int 0]))] zz)) 2 900 (va_A [(h0, .inr (1, [.int 0, .int 0, .int 0, .int 0, .null, .null, .int 0, .int 0, .int 0, .int 0, .int 0]))] zz) := by
  refine Met.ofW (cc := cX1_init) (maxL := 4) (ret := none) (by decide) rfl ?_
  intro p e s m args below meth c s₁ B hml hv
  obtain ⟨rfl, hzz, hP, hK, hD0⟩ := hv
  have hx := B.exec
  have hb := B.bytes
  have hr := B.returns
  have hts := atoms_spec (ws := wsX1_init) B.pre
  have hown : s.vm.findClass RX1 = some m.cls := findClass_of_methodNamed B.named
  have hlocks := B.notSynchronized
  have hin : meth.name = "<init>" := (name_of_methodNamed B.named B.method).1
  obtain ⟨hd5, hN1, hN2, hw1, hw2, hn1, hn2, hsz, hsz2⟩ := hs_okf ok
  have hnw : nw = N * w := ok.2.2.2.2.1
  have hN : N = 2 ^ d := ok.2.1
  subst hzz
  have hD := hD0.self (sz := s.heap.size)
  have hS : va_S (va_A [(h0, .inr (1, [.int 0, .int 0, .int 0, .int 0, .null, .null, .int 0, .int 0, .int 0, .int 0, .int 0]))] s.heap.size) s.heap s.heap [] := va_S.rf
  have hA : ∀ q : Nat, s.heap.size ≤ q → (va_A [(h0, .inr (1, [.int 0, .int 0, .int 0, .int 0, .null, .null, .int 0, .int 0, .int 0, .int 0, .int 0]))] s.heap.size) q := fun q h => Or.inr h
  have hl := lv_entry ([.ref h0, .int p1, .int p2]) (n := 4) (Nat.le_of_ble_eq_true rfl)
  rw [lg_entry_eq]
  generalize (lg_sl ([.ref h0, .int p1, .int p2]) ++ List.replicate (4 - (lg_sl ([.ref h0, .int p1, .int p2])).length) Slot.unset).toArray = ls at hl ⊢
  have hl : lv_has ls 4 [(0, .ref h0), (1, .int p1), (2, .int p2)] := hl
  refine lv_aload_n hx hb dX1_init_0 rfl (lv_at hl 0 rfl) ?_
  refine W.objInit hx hb hown (hts (.methodLink RX1 1 objectInit) (by decide +kernel)) (hts (.instanceMethod objectInit) (by decide +kernel)) (hts (.code objectInit ⟨#[0xb1]⟩ 1 none) (by decide +kernel)) rfl (by rw [hml]; exact hl.1) rfl dX1_init_1 (Nat.le_of_ble_eq_true rfl) (Nat.le_of_ble_eq_true rfl) ?_
  refine W.eq (g2 := F0 m 4 ls []) rfl ?_
  refine lv_aload_n hx hb dX1_init_4 rfl (lv_at hl 0 rfl) ?_
  refine lv_sipush (v := nI 600) hx hb dX1_init_5 (by decide) ?_
  have hq1 : 0 + 600 ≤ 900 := by omega
  have hq2 : 600 * componentBytes .int ≤ 536870912 := hs_bytes (by omega)
  have hq3 : ¬ nI 600 < 0 := nI_pos (by omega)
  have hq4 : (nI 600).toNatClampNeg = 600 := nI_clamp (by omega)
  refine va_newa (atype := .int) (ty := .int) (n := nI 600) (N' := 600) (a0 := (600, .inl (fun _ => 0))) hx hb (hts (.arrayClass .int) (by decide +kernel)) rfl hK hP hD hS hA (fun cA => hs_new cA) hq3 hq4 hq2 (Nat.le_of_ble_eq_true rfl) hq1 dX1_init_8 (fun hd cA H hK hP hD hS => ?_)
  have hK : va_K (dC, dI) vwCl [(cA, .int)] s := hK
  have hP : va_P (dC, dI) vwCl [(h0, .inr (1, [.int 0, .int 0, .int 0, .int 0, .null, .null, .int 0, .int 0, .int 0, .int 0, .int 0])), ar_ hd cA 600 (fun _ => 0)] H := hP
  have hD : va_D (va_A [(h0, .inr (1, [.int 0, .int 0, .int 0, .int 0, .null, .null, .int 0, .int 0, .int 0, .int 0, .int 0]))] s.heap.size) [(h0, .inr (1, [.int 0, .int 0, .int 0, .int 0, .null, .null, .int 0, .int 0, .int 0, .int 0, .int 0])), ar_ hd cA 600 (fun _ => 0)] := hD
  refine va_putF (D := (dC, dI)) (ci := 1) (v := .ref hd) (ty := .array .int) (C := RX1) (T := TX1) (N := 11) hx hb hts (by decide +kernel) tyX1 tyX1_ok nmX1 hown hK hP hD hS 0 rfl rfl 4 (by decide) (hts (.fieldLink RX1 7 "HashedStoreModel" "disk" "[I") (by decide +kernel)) (fun _ h9 => h9) rfl hin rfl (by decide +kernel) rfl rfl (Nat.le_of_ble_eq_true rfl) dX1_init_10 (fun H locs hP hD hS => ?_)
  have hP : va_P (dC, dI) vwCl [(h0, .inr (1, [.int 0, .int 0, .int 0, .int 0, .ref hd, .null, .int 0, .int 0, .int 0, .int 0, .int 0])), ar_ hd cA 600 (fun _ => 0)] H := hP
  have hD : va_D (va_A [(h0, .inr (1, [.int 0, .int 0, .int 0, .int 0, .null, .null, .int 0, .int 0, .int 0, .int 0, .int 0]))] s.heap.size) [(h0, .inr (1, [.int 0, .int 0, .int 0, .int 0, .ref hd, .null, .int 0, .int 0, .int 0, .int 0, .int 0])), ar_ hd cA 600 (fun _ => 0)] := hD
  refine lv_aload_n hx hb dX1_init_13 rfl (lv_at hl 0 rfl) ?_
  refine lv_sipush (v := nI 300) hx hb dX1_init_14 (by decide) ?_
  have hq1 : 0 + 600 + 300 ≤ 900 := by omega
  have hq2 : 300 * componentBytes .int ≤ 536870912 := hs_bytes (by omega)
  have hq3 : ¬ nI 300 < 0 := nI_pos (by omega)
  have hq4 : (nI 300).toNatClampNeg = 300 := nI_clamp (by omega)
  refine va_newa (atype := .int) (ty := .int) (n := nI 300) (N' := 300) (a0 := (300, .inl (fun _ => 0))) hx hb (hts (.arrayClass .int) (by decide +kernel)) rfl hK hP hD hS hA (fun cA => hs_new cA) hq3 hq4 hq2 (Nat.le_of_ble_eq_true rfl) hq1 dX1_init_17 (fun hp cB H hK hP hD hS => ?_)
  have hAB := hs_sameA hK
  subst hAB
  have hK : va_K (dC, dI) vwCl [(cA, .int)] s := hK.sub [0] rfl
  have hP : va_P (dC, dI) vwCl [(h0, .inr (1, [.int 0, .int 0, .int 0, .int 0, .ref hd, .null, .int 0, .int 0, .int 0, .int 0, .int 0])), ar_ hd cA 600 (fun _ => 0), ar_ hp cA 300 (fun _ => 0)] H := hP
  have hD : va_D (va_A [(h0, .inr (1, [.int 0, .int 0, .int 0, .int 0, .null, .null, .int 0, .int 0, .int 0, .int 0, .int 0]))] s.heap.size) [(h0, .inr (1, [.int 0, .int 0, .int 0, .int 0, .ref hd, .null, .int 0, .int 0, .int 0, .int 0, .int 0])), ar_ hd cA 600 (fun _ => 0), ar_ hp cA 300 (fun _ => 0)] := hD
  refine va_putF (D := (dC, dI)) (ci := 1) (v := .ref hp) (ty := .array .int) (C := RX1) (T := TX1) (N := 11) hx hb hts (by decide +kernel) tyX1 tyX1_ok nmX1 hown hK hP hD hS 0 rfl rfl 5 (by decide) (hts (.fieldLink RX1 13 "HashedStoreModel" "goal" "[I") (by decide +kernel)) (fun _ h9 => h9) rfl hin rfl (by decide +kernel) rfl rfl (Nat.le_of_ble_eq_true rfl) dX1_init_19 (fun H locs hP hD hS => ?_)
  have hP : va_P (dC, dI) vwCl [(h0, .inr (1, [.int 0, .int 0, .int 0, .int 0, .ref hd, .ref hp, .int 0, .int 0, .int 0, .int 0, .int 0])), ar_ hd cA 600 (fun _ => 0), ar_ hp cA 300 (fun _ => 0)] H := hP
  have hD : va_D (va_A [(h0, .inr (1, [.int 0, .int 0, .int 0, .int 0, .null, .null, .int 0, .int 0, .int 0, .int 0, .int 0]))] s.heap.size) [(h0, .inr (1, [.int 0, .int 0, .int 0, .int 0, .ref hd, .ref hp, .int 0, .int 0, .int 0, .int 0, .int 0])), ar_ hd cA 600 (fun _ => 0), ar_ hp cA 300 (fun _ => 0)] := hD
  refine lv_aload_n hx hb dX1_init_22 rfl (lv_at hl 0 rfl) ?_
  refine lv_iconst (v := (-1)) hx hb dX1_init_23 (by decide) ?_
  refine va_put (D := (dC, dI)) (ci := 1) (v := .int (-1)) (ty := .int) (C := RX1) (T := TX1) (N := 11) hx hb hts (by decide +kernel) tyX1 tyX1_ok nmX1 hown hK hP hD hS 0 rfl rfl 9 (by decide) (hts (.fieldLink RX1 16 "HashedStoreModel" "left" "I") (by decide +kernel)) (fun _ h9 => h9) rfl (by decide +kernel) rfl rfl (Nat.le_of_ble_eq_true rfl) dX1_init_24 (fun H locs hP hD hS => ?_)
  have hP : va_P (dC, dI) vwCl [(h0, .inr (1, [.int 0, .int 0, .int 0, .int 0, .ref hd, .ref hp, .int 0, .int 0, .int 0, .int (-1), .int 0])), ar_ hd cA 600 (fun _ => 0), ar_ hp cA 300 (fun _ => 0)] H := hP
  have hD : va_D (va_A [(h0, .inr (1, [.int 0, .int 0, .int 0, .int 0, .null, .null, .int 0, .int 0, .int 0, .int 0, .int 0]))] s.heap.size) [(h0, .inr (1, [.int 0, .int 0, .int 0, .int 0, .ref hd, .ref hp, .int 0, .int 0, .int 0, .int (-1), .int 0])), ar_ hd cA 600 (fun _ => 0), ar_ hp cA 300 (fun _ => 0)] := hD
  refine lv_aload_n hx hb dX1_init_27 rfl (lv_at hl 0 rfl) ?_
  have k46 : W p l e (headSpec wsX1_init ({ frames := 3, cells := 2, slots := 900, locals := 66 })).room s m ([.ref h0, .int p1, .int p2] : List Value).toArray below meth c H locs (0 + 1 + 1) (0 + 600 + 300) (MQ below (va_Qv (S := Nat × Nat × ClassId × (Nat → Int32) × (Nat → Int32)) (fun uu => hs_E N w nw sz uu.2.2.2.1) (fun uu t => va_P (dC, dI) vwCl (wfM h0 uu.1 uu.2.1 uu.2.2.1 d N w nw sz ((uu.2.2.2.1, 0, uu.2.2.2.1 (nw + 1 - 1), 0, -1, false), uu.2.2.2.2)) t.heap ∧ va_K (dC, dI) vwCl [(uu.2.2.1, .int)] t ∧ va_D (va_A [(h0, .inr (1, [.int 0, .int 0, .int 0, .int 0, .null, .null, .int 0, .int 0, .int 0, .int 0, .int 0]))] s.heap.size) (wfM h0 uu.1 uu.2.1 uu.2.2.1 d N w nw sz ((uu.2.2.2.1, 0, uu.2.2.2.1 (nw + 1 - 1), 0, -1, false), uu.2.2.2.2))) (va_A [(h0, .inr (1, [.int 0, .int 0, .int 0, .int 0, .null, .null, .int 0, .int 0, .int 0, .int 0, .int 0]))] s.heap.size)) ([.ref h0, .int p1, .int p2] : List Value).toArray s 2 900 (va_A [(h0, .inr (1, [.int 0, .int 0, .int 0, .int 0, .null, .null, .int 0, .int 0, .int 0, .int 0, .int 0]))] s.heap.size)) (F0 m 46 ls [.int (nI d), .ref h0]) := by
    refine va_putF (D := (dC, dI)) (ci := 1) (v := .int (nI d)) (ty := .int) (C := RX1) (T := TX1) (N := 11) hx hb hts (by decide +kernel) tyX1 tyX1_ok nmX1 hown hK hP hD hS 0 rfl rfl 0 (by decide) (hts (.fieldLink RX1 20 "HashedStoreModel" "depth" "I") (by decide +kernel)) (fun _ h9 => h9) rfl hin rfl (by decide +kernel) rfl rfl (Nat.le_of_ble_eq_true rfl) dX1_init_46 (fun H locs hP hD hS => ?_)
    have hP : va_P (dC, dI) vwCl [(h0, .inr (1, [.int (nI d), .int 0, .int 0, .int 0, .ref hd, .ref hp, .int 0, .int 0, .int 0, .int (-1), .int 0])), ar_ hd cA 600 (fun _ => 0), ar_ hp cA 300 (fun _ => 0)] H := hP
    have hD : va_D (va_A [(h0, .inr (1, [.int 0, .int 0, .int 0, .int 0, .null, .null, .int 0, .int 0, .int 0, .int 0, .int 0]))] s.heap.size) [(h0, .inr (1, [.int (nI d), .int 0, .int 0, .int 0, .ref hd, .ref hp, .int 0, .int 0, .int 0, .int (-1), .int 0])), ar_ hd cA 600 (fun _ => 0), ar_ hp cA 300 (fun _ => 0)] := hD
    refine lv_aload_n hx hb dX1_init_49 rfl (lv_at hl 0 rfl) ?_
    refine lv_iconst (v := nI 1) hx hb dX1_init_50 (by decide) ?_
    refine lv_aload_n hx hb dX1_init_51 rfl (lv_at hl 0 rfl) ?_
    refine va_get (D := (dC, dI)) (ci := 1) (v := .int (nI d)) (C := RX1) (T := TX1) (N := 11) hx hb hts (by decide +kernel) hown hK hP 0 rfl rfl 0 (by decide) (hts (.fieldLink RX1 20 "HashedStoreModel" "depth" "I") (by decide +kernel)) (fun _ h9 => h9) rfl dX1_init_52 ?_
    refine lv_ishl hx hb dX1_init_55 ?_
    refine lv_topi (fun zq ezq => ?_)
    rw [hs_shl d (by omega), ← hN] at ezq
    subst ezq
    refine va_putF (D := (dC, dI)) (ci := 1) (v := .int (nI N)) (ty := .int) (C := RX1) (T := TX1) (N := 11) hx hb hts (by decide +kernel) tyX1 tyX1_ok nmX1 hown hK hP hD hS 0 rfl rfl 1 (by decide) (hts (.fieldLink RX1 23 "HashedStoreModel" "blocks" "I") (by decide +kernel)) (fun _ h9 => h9) rfl hin rfl (by decide +kernel) rfl rfl (Nat.le_of_ble_eq_true rfl) dX1_init_56 (fun H locs hP hD hS => ?_)
    have hP : va_P (dC, dI) vwCl [(h0, .inr (1, [.int (nI d), .int (nI N), .int 0, .int 0, .ref hd, .ref hp, .int 0, .int 0, .int 0, .int (-1), .int 0])), ar_ hd cA 600 (fun _ => 0), ar_ hp cA 300 (fun _ => 0)] H := hP
    have hD : va_D (va_A [(h0, .inr (1, [.int 0, .int 0, .int 0, .int 0, .null, .null, .int 0, .int 0, .int 0, .int 0, .int 0]))] s.heap.size) [(h0, .inr (1, [.int (nI d), .int (nI N), .int 0, .int 0, .ref hd, .ref hp, .int 0, .int 0, .int 0, .int (-1), .int 0])), ar_ hd cA 600 (fun _ => 0), ar_ hp cA 300 (fun _ => 0)] := hD
    refine lv_aload_n hx hb dX1_init_59 rfl (lv_at hl 0 rfl) ?_
    have k81 : W p l e (headSpec wsX1_init ({ frames := 3, cells := 2, slots := 900, locals := 66 })).room s m ([.ref h0, .int p1, .int p2] : List Value).toArray below meth c H locs (0 + 1 + 1) (0 + 600 + 300) (MQ below (va_Qv (S := Nat × Nat × ClassId × (Nat → Int32) × (Nat → Int32)) (fun uu => hs_E N w nw sz uu.2.2.2.1) (fun uu t => va_P (dC, dI) vwCl (wfM h0 uu.1 uu.2.1 uu.2.2.1 d N w nw sz ((uu.2.2.2.1, 0, uu.2.2.2.1 (nw + 1 - 1), 0, -1, false), uu.2.2.2.2)) t.heap ∧ va_K (dC, dI) vwCl [(uu.2.2.1, .int)] t ∧ va_D (va_A [(h0, .inr (1, [.int 0, .int 0, .int 0, .int 0, .null, .null, .int 0, .int 0, .int 0, .int 0, .int 0]))] s.heap.size) (wfM h0 uu.1 uu.2.1 uu.2.2.1 d N w nw sz ((uu.2.2.2.1, 0, uu.2.2.2.1 (nw + 1 - 1), 0, -1, false), uu.2.2.2.2))) (va_A [(h0, .inr (1, [.int 0, .int 0, .int 0, .int 0, .null, .null, .int 0, .int 0, .int 0, .int 0, .int 0]))] s.heap.size)) ([.ref h0, .int p1, .int p2] : List Value).toArray s 2 900 (va_A [(h0, .inr (1, [.int 0, .int 0, .int 0, .int 0, .null, .null, .int 0, .int 0, .int 0, .int 0, .int 0]))] s.heap.size)) (F0 m 81 ls [.int (nI w), .ref h0]) := by
      refine va_putF (D := (dC, dI)) (ci := 1) (v := .int (nI w)) (ty := .int) (C := RX1) (T := TX1) (N := 11) hx hb hts (by decide +kernel) tyX1 tyX1_ok nmX1 hown hK hP hD hS 0 rfl rfl 2 (by decide) (hts (.fieldLink RX1 26 "HashedStoreModel" "words" "I") (by decide +kernel)) (fun _ h9 => h9) rfl hin rfl (by decide +kernel) rfl rfl (Nat.le_of_ble_eq_true rfl) dX1_init_81 (fun H locs hP hD hS => ?_)
      have hP : va_P (dC, dI) vwCl [(h0, .inr (1, [.int (nI d), .int (nI N), .int (nI w), .int 0, .ref hd, .ref hp, .int 0, .int 0, .int 0, .int (-1), .int 0])), ar_ hd cA 600 (fun _ => 0), ar_ hp cA 300 (fun _ => 0)] H := hP
      have hD : va_D (va_A [(h0, .inr (1, [.int 0, .int 0, .int 0, .int 0, .null, .null, .int 0, .int 0, .int 0, .int 0, .int 0]))] s.heap.size) [(h0, .inr (1, [.int (nI d), .int (nI N), .int (nI w), .int 0, .ref hd, .ref hp, .int 0, .int 0, .int 0, .int (-1), .int 0])), ar_ hd cA 600 (fun _ => 0), ar_ hp cA 300 (fun _ => 0)] := hD
      refine lv_aload_n hx hb dX1_init_84 rfl (lv_at hl 0 rfl) ?_
      refine lv_aload_n hx hb dX1_init_85 rfl (lv_at hl 0 rfl) ?_
      refine va_get (D := (dC, dI)) (ci := 1) (v := .int (nI N)) (C := RX1) (T := TX1) (N := 11) hx hb hts (by decide +kernel) hown hK hP 0 rfl rfl 1 (by decide) (hts (.fieldLink RX1 23 "HashedStoreModel" "blocks" "I") (by decide +kernel)) (fun _ h9 => h9) rfl dX1_init_86 ?_
      refine lv_aload_n hx hb dX1_init_89 rfl (lv_at hl 0 rfl) ?_
      refine va_get (D := (dC, dI)) (ci := 1) (v := .int (nI w)) (C := RX1) (T := TX1) (N := 11) hx hb hts (by decide +kernel) hown hK hP 0 rfl rfl 2 (by decide) (hts (.fieldLink RX1 26 "HashedStoreModel" "words" "I") (by decide +kernel)) (fun _ h9 => h9) rfl dX1_init_90 ?_
      refine hs_mulN hx hb dX1_init_93 ?_
      refine lv_iconst (v := nI 2) hx hb dX1_init_94 (by decide) ?_
      refine lv_aload_n hx hb dX1_init_95 rfl (lv_at hl 0 rfl) ?_
      refine va_get (D := (dC, dI)) (ci := 1) (v := .int (nI N)) (C := RX1) (T := TX1) (N := 11) hx hb hts (by decide +kernel) hown hK hP 0 rfl rfl 1 (by decide) (hts (.fieldLink RX1 23 "HashedStoreModel" "blocks" "I") (by decide +kernel)) (fun _ h9 => h9) rfl dX1_init_96 ?_
      refine hs_mulN hx hb dX1_init_99 ?_
      refine hs_addN hx hb dX1_init_100 ?_
      refine lv_iconst (v := nI 1) hx hb dX1_init_101 (by decide) ?_
      refine hs_subN hx hb (by omega) dX1_init_102 ?_
      refine lv_topi (fun zq ezq => ?_)
      rw [← hnw, ← hsz] at ezq
      subst ezq
      refine va_putF (D := (dC, dI)) (ci := 1) (v := .int (nI sz)) (ty := .int) (C := RX1) (T := TX1) (N := 11) hx hb hts (by decide +kernel) tyX1 tyX1_ok nmX1 hown hK hP hD hS 0 rfl rfl 3 (by decide) (hts (.fieldLink RX1 29 "HashedStoreModel" "size" "I") (by decide +kernel)) (fun _ h9 => h9) rfl hin rfl (by decide +kernel) rfl rfl (Nat.le_of_ble_eq_true rfl) dX1_init_103 (fun H locs hP hD hS => ?_)
      have hP : va_P (dC, dI) vwCl [(h0, .inr (1, [.int (nI d), .int (nI N), .int (nI w), .int (nI sz), .ref hd, .ref hp, .int 0, .int 0, .int 0, .int (-1), .int 0])), ar_ hd cA 600 (fun _ => 0), ar_ hp cA 300 (fun _ => 0)] H := hP
      have hD : va_D (va_A [(h0, .inr (1, [.int 0, .int 0, .int 0, .int 0, .null, .null, .int 0, .int 0, .int 0, .int 0, .int 0]))] s.heap.size) [(h0, .inr (1, [.int (nI d), .int (nI N), .int (nI w), .int (nI sz), .ref hd, .ref hp, .int 0, .int 0, .int 0, .int (-1), .int 0])), ar_ hd cA 600 (fun _ => 0), ar_ hp cA 300 (fun _ => 0)] := hD
      refine lv_aload_n hx hb dX1_init_106 rfl (lv_at hl 0 rfl) ?_
      have hP : va_P (dC, dI) vwCl [oM_ h0 hd hp d N w nw sz 0 0 0 (-1) false, ar_ hd cA 600 (fun _ => 0), ar_ hp cA 300 (fun _ => 0)] H := hP
      have hD : va_D (va_A [(h0, .inr (1, [.int 0, .int 0, .int 0, .int 0, .null, .null, .int 0, .int 0, .int 0, .int 0, .int 0]))] s.heap.size) [oM_ h0 hd hp d N w nw sz 0 0 0 (-1) false, ar_ hd cA 600 (fun _ => 0), ar_ hp cA 300 (fun _ => 0)] := hD
      refine hs_ci (va_runV (As := []) (rest := []) ⟨hx, hb, hml, hown, hts⟩ (kX1_format l dC dI h0 hd hp cA d N w nw sz 0 (fun _ => 0) (fun _ => 0) 0 0 (-1) false ok _ ) (cwV 0 hts gX1_init_X1_format rfl rfl rfl (by decide +kernel) ⟨(Nat.le_of_ble_eq_true rfl), (Nat.le_of_ble_eq_true rfl)⟩) (hs_preM (q := (RX1, TX1, 11)) (ci := 1) hK hP hD rfl rfl) rfl rfl hl.1 rfl (lv_room (Nat.le_of_ble_eq_true rfl)) dX1_init_107 ⟨Nat.le_of_ble_eq_true rfl, Nat.le_of_ble_eq_true rfl⟩) hS hD hA (fun rv v H locs hv hP hD hS => ?_)
      obtain ⟨rfl, F9, g9, rfl, hE⟩ := hv
      have hP : va_P (dC, dI) vwCl [oM_ h0 hd hp d N w nw sz 0 (F9 (nw + 1 - 1)) 0 (-1) false, ar_ hd cA 600 F9, ar_ hp cA 300 g9] H := hP
      have hD : va_D (va_A [(h0, .inr (1, [.int 0, .int 0, .int 0, .int 0, .null, .null, .int 0, .int 0, .int 0, .int 0, .int 0]))] s.heap.size) [oM_ h0 hd hp d N w nw sz 0 (F9 (nw + 1 - 1)) 0 (-1) false, ar_ hd cA 600 F9, ar_ hp cA 300 g9] := hD
      refine lv_istore_n (lv' := [(3, .int 0), (0, .ref h0), (1, .int p1), (2, .int p2)]) hx hb dX1_init_110 rfl hl (by decide) rfl (fun ls hl => ?_)
      exact W.vret hx hb hr (fun t ht hW => ⟨⟨(hd, hp, cA, F9, g9), rfl, hE, by rw [ht]; exact hP, va_K.moved hW.alike hK, hD⟩, hS.F ht⟩) hS.2.2 dX1_init_111
    refine lv_iload_n hx hb dX1_init_60 rfl (lv_at hl 2 rfl) ?_
    refine lv_iconst (v := 1) hx hb dX1_init_61 (by decide) ?_
    refine lv_icmp_ge (tgt := 69) hx hb dX1_init_62 (by decide) (fun c1 => ?_) (fun c1 => ?_)
    · refine lv_iload_n hx hb dX1_init_69 rfl (lv_at hl 2 rfl) ?_
      refine lv_bipush (v := 6) hx hb dX1_init_70 (by decide) ?_
      refine lv_icmp_le (tgt := 80) hx hb dX1_init_72 (by decide) (fun c2 => ?_) (fun c2 => ?_)
      · refine lv_iload_n hx hb dX1_init_80 rfl (lv_at hl 2 rfl) ?_
        have e9 : p2 = nI w := by rw [e2]; exact hs_cw3 c1 c2
        refine W.eq ?_ k81
        rw [e9]
      · refine lv_bipush (v := nI 6) hx hb dX1_init_75 (by decide) ?_
        refine lv_goto (tgt := 81) hx hb dX1_init_77 (by decide) ?_
        have e9 : nI 6 = nI w := by rw [e2]; exact hs_cw2 c1 c2
        refine W.eq ?_ k81
        rw [e9]
    · refine lv_iconst (v := nI 1) hx hb dX1_init_65 (by decide) ?_
      refine lv_goto (tgt := 81) hx hb dX1_init_66 (by decide) ?_
      have e9 : nI 1 = nI w := by rw [e2]; exact hs_cw1 c1
      refine W.eq ?_ k81
      rw [e9]
  refine lv_iload_n hx hb dX1_init_28 rfl (lv_at hl 1 rfl) ?_
  refine lv_if_ge (tgt := 36) hx hb dX1_init_29 (by decide) (fun c1 => ?_) (fun c1 => ?_)
  · refine lv_iload_n hx hb dX1_init_36 rfl (lv_at hl 1 rfl) ?_
    refine lv_iconst (v := 5) hx hb dX1_init_37 (by decide) ?_
    refine lv_icmp_le (tgt := 45) hx hb dX1_init_38 (by decide) (fun c2 => ?_) (fun c2 => ?_)
    · refine lv_iload_n hx hb dX1_init_45 rfl (lv_at hl 1 rfl) ?_
      have e9 : p1 = nI d := by rw [e1]; exact hs_cd3 c1 c2
      refine W.eq ?_ k46
      rw [e9]
    · refine lv_iconst (v := nI 5) hx hb dX1_init_41 (by decide) ?_
      refine lv_goto (tgt := 46) hx hb dX1_init_42 (by decide) ?_
      have e9 : nI 5 = nI d := by rw [e1]; exact hs_cd2 c1 c2
      refine W.eq ?_ k46
      rw [e9]
  · refine lv_iconst (v := nI 0) hx hb dX1_init_32 (by decide) ?_
    refine lv_goto (tgt := 46) hx hb dX1_init_33 (by decide) ?_
    have e9 : nI 0 = nI d := by rw [e1]; exact hs_cd1 c1
    refine W.eq ?_ k46
    rw [e9]
