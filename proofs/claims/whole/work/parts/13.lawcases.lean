/-- the two objects side by side, in one state -/
abbrev lw_Wd (x0 xd xp m0 md mp : Nat) (cA : ClassId) (d N w nw sz : Nat) (y : hs_S) (G G2 : Nat → Int32) : va_W := wfX x0 xd xp cA d N w nw sz (y, G) ++ wfM m0 md mp cA d N w nw sz (y, G2)
/-- from this place of the law, with i ints read, all goes well -/
def lw_K (p : Program) (l : Launch) (e : Env) (s : State) (m : MethodId) (below : List Frame) (meth : Method) (c : Code) (dC : Nat → ClassId) (dI : Nat → Nat → Nat) (b : Nat) (cA : ClassId) (d N w nw sz x0 xd xp m0 md mp : Nat) (i pc : Nat) : Prop := ∀ (y : hs_S) (G G2 : Nat → Int32) (H : Heap) (locs : List Loc) (ls : Array Slot), hs_in y → va_P (dC, dI) vwCl (lw_Wd x0 xd xp m0 md mp cA d N w nw sz y G G2) H → va_D (fun q : Nat => s.heap.size ≤ q) (lw_Wd x0 xd xp m0 md mp cA d N w nw sz y G G2) → va_S (fun q : Nat => s.heap.size ≤ q) s.heap H locs → lv_has ls 4 [(0, .ref b), (1, .ref x0), (2, .ref m0), (3, .int (nI i))] → W p l e room_1 s m #[Value.ref b] below meth c H locs 6 1688 (lw_Z below #[Value.ref b] s) (F0 m pc ls [])
set_option maxHeartbeats 4000000 in
set_option maxRecDepth 100000 in
theorem law_format {p : Program} {l : Launch} {e : Env} {s : State} {m : MethodId} {below : List Frame} {meth : Method} {c : Code} {dC : Nat → ClassId} {dI : Nat → Nat → Nat} {b L : Nat} {xs : Nat → Int32} (hL : L ≤ 2050) (C0 : lw_At p s m meth c b L xs) {cA : ClassId} {d N w nw sz x0 xd xp m0 md mp : Nat} (ok : hs_ok d N w nw sz) (hK : va_K (dC, dI) vwCl [(cA, .int)] s) {i : Nat} (hi : i + 4 ≤ L) (k412 : lw_K p l e s m below meth c dC dI b cA d N w nw sz x0 xd xp m0 md mp i 412) : lw_K p l e s m below meth c dC dI b cA d N w nw sz x0 xd xp m0 md mp i 124 := by
  obtain ⟨hx, hb, hr, hml, hown, hts, hX, hbl, hlocks, hgv⟩ := C0
  have hts := fun w h => hts w (wsL_law_in w h)
  have hA : ∀ q : Nat, s.heap.size ≤ q → (fun q : Nat => s.heap.size ≤ q) q := fun _ h => h
  have hbA : ¬ (fun q : Nat => s.heap.size ≤ q) b := Nat.not_le.mpr hbl
  intro y G G2 H locs ls hin hP hD hS hl
  obtain ⟨F, u, kr, dn, lf, dw⟩ := y
  obtain ⟨hu, hlo⟩ := id hin
  have hu : u < 2 := hu
  have hlo : hs_lo lf := hlo
  refine lv_aload_n hx hb dL_law_124 rfl (lv_at hl 1 rfl) ?_
  refine hs_xi (va_runV (As := []) (rest := []) ⟨hx, hb, hml, hown, hts⟩ (kX0_format l dC dI x0 xd xp cA d N w nw sz u F G kr dn lf dw ok _ ) (cwV 0 hts gL_law_X0_format rfl rfl rfl (by decide +kernel) ⟨(Nat.le_of_ble_eq_true rfl), (Nat.le_of_ble_eq_true rfl)⟩) (hs_preM (q := (RX0, TX0, 12)) (ci := 0) hK (hP.sub [0, 1, 2] rfl) (hD.sub [0, 1, 2] (by decide) rfl) rfl rfl) rfl rfl hl.1 rfl (lv_room (Nat.le_of_ble_eq_true rfl)) dL_law_125 ⟨(Nat.le_of_ble_eq_true rfl), (Nat.le_of_ble_eq_true rfl)⟩) hS hP hD hA (fun rv v H locs hv hP hD hS => ?_)
  obtain ⟨rfl, F9, rfl, hE⟩ := hv
  refine lv_aload_n hx hb dL_law_128 rfl (lv_at hl 2 rfl) ?_
  refine hs_mi (va_runV (As := []) (rest := [.int 0]) ⟨hx, hb, hml, hown, hts⟩ (kX1_format l dC dI m0 md mp cA d N w nw sz u F G2 kr dn lf dw ok _ ) (cwV 0 hts gL_law_X1_format rfl rfl rfl (by decide +kernel) ⟨(Nat.le_of_ble_eq_true rfl), (Nat.le_of_ble_eq_true rfl)⟩) (hs_preM (q := (RX1, TX1, 11)) (ci := 1) hK (hP.sub [3, 4, 5] rfl) (hD.sub [3, 4, 5] (by decide) rfl) rfl rfl) rfl rfl hl.1 rfl (lv_room (Nat.le_of_ble_eq_true rfl)) dL_law_129 ⟨(Nat.le_of_ble_eq_true rfl), (Nat.le_of_ble_eq_true rfl)⟩) hS hP hD hA (fun rz z H locs hz hP hD hS => ?_)
  obtain ⟨rfl, F8, g8, rfl, hE8⟩ := hz
  have hEE := hs_E_u ok hE hE8
  subst hEE
  refine lv_icmp_eq (tgt := 412) hx hb dL_law_132 (by decide) (fun c9 => ?_) (fun c9 => ?_)
  · exact k412 (F9, 0, F9 (nw + 1 - 1), 0, -1, false) _ _ H locs ls ⟨Nat.zero_lt_succ 1, Or.inl rfl⟩ hP hD hS hl
  · exact absurd rfl c9
set_option maxHeartbeats 4000000 in
set_option maxRecDepth 100000 in
theorem law_write {p : Program} {l : Launch} {e : Env} {s : State} {m : MethodId} {below : List Frame} {meth : Method} {c : Code} {dC : Nat → ClassId} {dI : Nat → Nat → Nat} {b L : Nat} {xs : Nat → Int32} (hL : L ≤ 2050) (C0 : lw_At p s m meth c b L xs) {cA : ClassId} {d N w nw sz x0 xd xp m0 md mp : Nat} (ok : hs_ok d N w nw sz) (hK : va_K (dC, dI) vwCl [(cA, .int)] s) {i : Nat} (hi : i + 4 ≤ L) (k412 : lw_K p l e s m below meth c dC dI b cA d N w nw sz x0 xd xp m0 md mp i 412) : lw_K p l e s m below meth c dC dI b cA d N w nw sz x0 xd xp m0 md mp i 137 := by
  obtain ⟨hx, hb, hr, hml, hown, hts, hX, hbl, hlocks, hgv⟩ := C0
  have hts := fun w h => hts w (wsL_law_in w h)
  have hA : ∀ q : Nat, s.heap.size ≤ q → (fun q : Nat => s.heap.size ≤ q) q := fun _ h => h
  have hbA : ¬ (fun q : Nat => s.heap.size ≤ q) b := Nat.not_le.mpr hbl
  intro y G G2 H locs ls hin hP hD hS hl
  obtain ⟨F, u, kr, dn, lf, dw⟩ := y
  obtain ⟨hu, hlo⟩ := id hin
  have hu : u < 2 := hu
  have hlo : hs_lo lf := hlo
  refine lv_aload_n hx hb dL_law_137 rfl (lv_at hl 1 rfl) ?_
  refine lv_aload_n hx hb dL_law_138 rfl (lv_at hl 0 rfl) ?_
  refine lv_iload_n hx hb dL_law_139 rfl (lv_at hl 3 rfl) ?_
  refine lv_iconst (v := nI 1) hx hb dL_law_140 (by decide) ?_
  refine hs_addN hx hb dL_law_141 ?_
  refine hs_sld hx hb hX hbl hbA hS (k := i + 1) (by omega) (by omega) dL_law_142 ?_
  refine lv_aload_n hx hb dL_law_143 rfl (lv_at hl 0 rfl) ?_
  refine lv_iload_n hx hb dL_law_144 rfl (lv_at hl 3 rfl) ?_
  refine lv_iconst (v := nI 2) hx hb dL_law_145 (by decide) ?_
  refine hs_addN hx hb dL_law_146 ?_
  refine hs_sld hx hb hX hbl hbA hS (k := i + 2) (by omega) (by omega) dL_law_147 ?_
  refine lv_aload_n hx hb dL_law_148 rfl (lv_at hl 0 rfl) ?_
  refine lv_iload_n hx hb dL_law_149 rfl (lv_at hl 3 rfl) ?_
  refine lv_iconst (v := nI 3) hx hb dL_law_150 (by decide) ?_
  refine hs_addN hx hb dL_law_151 ?_
  refine hs_sld hx hb hX hbl hbA hS (k := i + 3) (by omega) (by omega) dL_law_152 ?_
  refine hs_xi (va_runV (As := [.int (xs (i + 1)), .int (xs (i + 2)), .int (xs (i + 3))]) (rest := []) ⟨hx, hb, hml, hown, hts⟩ (kX0_write l dC dI x0 xd xp cA d N w nw sz u F G kr dn lf dw ok _ (xs (i + 1)) (xs (i + 2)) (xs (i + 3)) hu) (cwV 3 hts gL_law_X0_write rfl rfl rfl (by decide +kernel) ⟨(Nat.le_of_ble_eq_true rfl), (Nat.le_of_ble_eq_true rfl)⟩) (hs_preM (q := (RX0, TX0, 12)) (ci := 0) hK (hP.sub [0, 1, 2] rfl) (hD.sub [0, 1, 2] (by decide) rfl) rfl rfl) rfl rfl hl.1 rfl (lv_room (Nat.le_of_ble_eq_true rfl)) dL_law_153 ⟨(Nat.le_of_ble_eq_true rfl), (Nat.le_of_ble_eq_true rfl)⟩) hS hP hD hA (fun rv v H locs hv hP hD hS => ?_)
  obtain ⟨v1, g1⟩ := v
  have q1 : rv = (hs_wr d N w nw sz (xs (i + 1)) (xs (i + 2)) (xs (i + 3)) (F, u, kr, dn, lf, dw)).1 := congrArg Prod.fst hv
  have q2 : v1 = (hs_wr d N w nw sz (xs (i + 1)) (xs (i + 2)) (xs (i + 3)) (F, u, kr, dn, lf, dw)).2 := congrArg Prod.snd hv
  subst q1
  subst q2
  refine lv_aload_n hx hb dL_law_156 rfl (lv_at hl 2 rfl) ?_
  refine lv_aload_n hx hb dL_law_157 rfl (lv_at hl 0 rfl) ?_
  refine lv_iload_n hx hb dL_law_158 rfl (lv_at hl 3 rfl) ?_
  refine lv_iconst (v := nI 1) hx hb dL_law_159 (by decide) ?_
  refine hs_addN hx hb dL_law_160 ?_
  refine hs_sld hx hb hX hbl hbA hS (k := i + 1) (by omega) (by omega) dL_law_161 ?_
  refine lv_aload_n hx hb dL_law_162 rfl (lv_at hl 0 rfl) ?_
  refine lv_iload_n hx hb dL_law_163 rfl (lv_at hl 3 rfl) ?_
  refine lv_iconst (v := nI 2) hx hb dL_law_164 (by decide) ?_
  refine hs_addN hx hb dL_law_165 ?_
  refine hs_sld hx hb hX hbl hbA hS (k := i + 2) (by omega) (by omega) dL_law_166 ?_
  refine lv_aload_n hx hb dL_law_167 rfl (lv_at hl 0 rfl) ?_
  refine lv_iload_n hx hb dL_law_168 rfl (lv_at hl 3 rfl) ?_
  refine lv_iconst (v := nI 3) hx hb dL_law_169 (by decide) ?_
  refine hs_addN hx hb dL_law_170 ?_
  refine hs_sld hx hb hX hbl hbA hS (k := i + 3) (by omega) (by omega) dL_law_171 ?_
  refine hs_mi (va_runV (As := [.int (xs (i + 1)), .int (xs (i + 2)), .int (xs (i + 3))]) (rest := [.int ((hs_wr d N w nw sz (xs (i + 1)) (xs (i + 2)) (xs (i + 3)) (F, u, kr, dn, lf, dw)).1)]) ⟨hx, hb, hml, hown, hts⟩ (kX1_write l dC dI m0 md mp cA d N w nw sz u F G2 kr dn lf dw ok _ (xs (i + 1)) (xs (i + 2)) (xs (i + 3)) hu hlo) (cwV 3 hts gL_law_X1_write rfl rfl rfl (by decide +kernel) ⟨(Nat.le_of_ble_eq_true rfl), (Nat.le_of_ble_eq_true rfl)⟩) (hs_preM (q := (RX1, TX1, 11)) (ci := 1) hK (hP.sub [3, 4, 5] rfl) (hD.sub [3, 4, 5] (by decide) rfl) rfl rfl) rfl rfl hl.1 rfl (lv_room (Nat.le_of_ble_eq_true rfl)) dL_law_172 ⟨(Nat.le_of_ble_eq_true rfl), (Nat.le_of_ble_eq_true rfl)⟩) hS hP hD hA (fun rz z H locs hz hP hD hS => ?_)
  obtain ⟨v2, g2⟩ := z
  have q3 : rz = (hs_wr d N w nw sz (xs (i + 1)) (xs (i + 2)) (xs (i + 3)) (F, u, kr, dn, lf, dw)).1 := congrArg Prod.fst hz
  have q4 : v2 = (hs_wr d N w nw sz (xs (i + 1)) (xs (i + 2)) (xs (i + 3)) (F, u, kr, dn, lf, dw)).2 := congrArg Prod.snd hz
  subst q3
  subst q4
  refine lv_icmp_eq (tgt := 412) hx hb dL_law_175 (by decide) (fun c9 => ?_) (fun c9 => ?_)
  · exact k412 (hs_wr d N w nw sz (xs (i + 1)) (xs (i + 2)) (xs (i + 3)) (F, u, kr, dn, lf, dw)).2 _ _ H locs ls (hs_in_wr hin) hP hD hS hl
  · exact absurd rfl c9
set_option maxHeartbeats 4000000 in
set_option maxRecDepth 100000 in
theorem law_read {p : Program} {l : Launch} {e : Env} {s : State} {m : MethodId} {below : List Frame} {meth : Method} {c : Code} {dC : Nat → ClassId} {dI : Nat → Nat → Nat} {b L : Nat} {xs : Nat → Int32} (hL : L ≤ 2050) (C0 : lw_At p s m meth c b L xs) {cA : ClassId} {d N w nw sz x0 xd xp m0 md mp : Nat} (ok : hs_ok d N w nw sz) (hK : va_K (dC, dI) vwCl [(cA, .int)] s) {i : Nat} (hi : i + 4 ≤ L) (k412 : lw_K p l e s m below meth c dC dI b cA d N w nw sz x0 xd xp m0 md mp i 412) : lw_K p l e s m below meth c dC dI b cA d N w nw sz x0 xd xp m0 md mp i 180 := by
  obtain ⟨hx, hb, hr, hml, hown, hts, hX, hbl, hlocks, hgv⟩ := C0
  have hts := fun w h => hts w (wsL_law_in w h)
  have hA : ∀ q : Nat, s.heap.size ≤ q → (fun q : Nat => s.heap.size ≤ q) q := fun _ h => h
  have hbA : ¬ (fun q : Nat => s.heap.size ≤ q) b := Nat.not_le.mpr hbl
  intro y G G2 H locs ls hin hP hD hS hl
  obtain ⟨F, u, kr, dn, lf, dw⟩ := y
  obtain ⟨hu, hlo⟩ := id hin
  have hu : u < 2 := hu
  have hlo : hs_lo lf := hlo
  refine lv_aload_n hx hb dL_law_180 rfl (lv_at hl 1 rfl) ?_
  refine lv_aload_n hx hb dL_law_181 rfl (lv_at hl 0 rfl) ?_
  refine lv_iload_n hx hb dL_law_182 rfl (lv_at hl 3 rfl) ?_
  refine lv_iconst (v := nI 1) hx hb dL_law_183 (by decide) ?_
  refine hs_addN hx hb dL_law_184 ?_
  refine hs_sld hx hb hX hbl hbA hS (k := i + 1) (by omega) (by omega) dL_law_185 ?_
  refine lv_aload_n hx hb dL_law_186 rfl (lv_at hl 0 rfl) ?_
  refine lv_iload_n hx hb dL_law_187 rfl (lv_at hl 3 rfl) ?_
  refine lv_iconst (v := nI 2) hx hb dL_law_188 (by decide) ?_
  refine hs_addN hx hb dL_law_189 ?_
  refine hs_sld hx hb hX hbl hbA hS (k := i + 2) (by omega) (by omega) dL_law_190 ?_
  refine hs_pe (v := hs_rd d N w nw sz (xs (i + 1)) (xs (i + 2)) (F, u, kr, dn, lf, dw)) (va_runV (As := [.int (xs (i + 1)), .int (xs (i + 2))]) (rest := []) ⟨hx, hb, hml, hown, hts⟩ (kX0_read l dC dI x0 xd xp cA d N w nw sz u F G kr dn lf dw ok (xs (i + 1)) (xs (i + 2)) hu) (cwV 2 hts gL_law_X0_read rfl rfl rfl (by decide +kernel) ⟨(Nat.le_of_ble_eq_true rfl), (Nat.le_of_ble_eq_true rfl)⟩) (hs_preV (q := (RX0, TX0, 12)) (ci := 0) hK (hP.sub [0, 1] rfl) rfl rfl) rfl rfl hl.1 rfl (lv_room (Nat.le_of_ble_eq_true rfl)) dL_law_191 ⟨(Nat.le_of_ble_eq_true rfl), (Nat.le_of_ble_eq_true rfl)⟩) hS hP (fun H locs hP hS => ?_)
  refine lv_aload_n hx hb dL_law_194 rfl (lv_at hl 2 rfl) ?_
  refine lv_aload_n hx hb dL_law_195 rfl (lv_at hl 0 rfl) ?_
  refine lv_iload_n hx hb dL_law_196 rfl (lv_at hl 3 rfl) ?_
  refine lv_iconst (v := nI 1) hx hb dL_law_197 (by decide) ?_
  refine hs_addN hx hb dL_law_198 ?_
  refine hs_sld hx hb hX hbl hbA hS (k := i + 1) (by omega) (by omega) dL_law_199 ?_
  refine lv_aload_n hx hb dL_law_200 rfl (lv_at hl 0 rfl) ?_
  refine lv_iload_n hx hb dL_law_201 rfl (lv_at hl 3 rfl) ?_
  refine lv_iconst (v := nI 2) hx hb dL_law_202 (by decide) ?_
  refine hs_addN hx hb dL_law_203 ?_
  refine hs_sld hx hb hX hbl hbA hS (k := i + 2) (by omega) (by omega) dL_law_204 ?_
  refine hs_mi (va_runV (As := [.int (xs (i + 1)), .int (xs (i + 2))]) (rest := [.int (hs_rd d N w nw sz (xs (i + 1)) (xs (i + 2)) (F, u, kr, dn, lf, dw))]) ⟨hx, hb, hml, hown, hts⟩ (kX1_read l dC dI m0 md mp cA d N w nw sz u F G2 kr dn lf dw ok _ (xs (i + 1)) (xs (i + 2)) hu) (cwV 2 hts gL_law_X1_read rfl rfl rfl (by decide +kernel) ⟨(Nat.le_of_ble_eq_true rfl), (Nat.le_of_ble_eq_true rfl)⟩) (hs_preM (q := (RX1, TX1, 11)) (ci := 1) hK (hP.sub [3, 4, 5] rfl) (hD.sub [3, 4, 5] (by decide) rfl) rfl rfl) rfl rfl hl.1 rfl (lv_room (Nat.le_of_ble_eq_true rfl)) dL_law_205 ⟨(Nat.le_of_ble_eq_true rfl), (Nat.le_of_ble_eq_true rfl)⟩) hS hP hD hA (fun rz z H locs hz hP hD hS => ?_)
  obtain ⟨rfl, g2, rfl⟩ := hz
  refine lv_icmp_eq (tgt := 412) hx hb dL_law_208 (by decide) (fun c9 => ?_) (fun c9 => ?_)
  · exact k412 (F, u, kr, dn, lf, dw) _ _ H locs ls hin hP hD hS hl
  · exact absurd rfl c9
set_option maxHeartbeats 4000000 in
set_option maxRecDepth 100000 in
theorem law_verify {p : Program} {l : Launch} {e : Env} {s : State} {m : MethodId} {below : List Frame} {meth : Method} {c : Code} {dC : Nat → ClassId} {dI : Nat → Nat → Nat} {b L : Nat} {xs : Nat → Int32} (hL : L ≤ 2050) (C0 : lw_At p s m meth c b L xs) {cA : ClassId} {d N w nw sz x0 xd xp m0 md mp : Nat} (ok : hs_ok d N w nw sz) (hK : va_K (dC, dI) vwCl [(cA, .int)] s) {i : Nat} (hi : i + 4 ≤ L) (k412 : lw_K p l e s m below meth c dC dI b cA d N w nw sz x0 xd xp m0 md mp i 412) : lw_K p l e s m below meth c dC dI b cA d N w nw sz x0 xd xp m0 md mp i 213 := by
  obtain ⟨hx, hb, hr, hml, hown, hts, hX, hbl, hlocks, hgv⟩ := C0
  have hts := fun w h => hts w (wsL_law_in w h)
  have hA : ∀ q : Nat, s.heap.size ≤ q → (fun q : Nat => s.heap.size ≤ q) q := fun _ h => h
  have hbA : ¬ (fun q : Nat => s.heap.size ≤ q) b := Nat.not_le.mpr hbl
  intro y G G2 H locs ls hin hP hD hS hl
  obtain ⟨F, u, kr, dn, lf, dw⟩ := y
  obtain ⟨hu, hlo⟩ := id hin
  have hu : u < 2 := hu
  have hlo : hs_lo lf := hlo
  refine lv_aload_n hx hb dL_law_213 rfl (lv_at hl 1 rfl) ?_
  refine lv_aload_n hx hb dL_law_214 rfl (lv_at hl 0 rfl) ?_
  refine lv_iload_n hx hb dL_law_215 rfl (lv_at hl 3 rfl) ?_
  refine lv_iconst (v := nI 1) hx hb dL_law_216 (by decide) ?_
  refine hs_addN hx hb dL_law_217 ?_
  refine hs_sld hx hb hX hbl hbA hS (k := i + 1) (by omega) (by omega) dL_law_218 ?_
  refine hs_pe (v := hs_b (hs_vf d N w nw sz (xs (i + 1)) (F, u, kr, dn, lf, dw))) (va_runV (As := [.int (xs (i + 1))]) (rest := []) ⟨hx, hb, hml, hown, hts⟩ (kX0_verify l dC dI x0 xd xp cA d N w nw sz u F G kr dn lf dw ok (xs (i + 1)) hu) (cwV 1 hts gL_law_X0_verify rfl rfl rfl (by decide +kernel) ⟨(Nat.le_of_ble_eq_true rfl), (Nat.le_of_ble_eq_true rfl)⟩) (hs_preV (q := (RX0, TX0, 12)) (ci := 0) hK (hP.sub [0, 1] rfl) rfl rfl) rfl rfl hl.1 rfl (lv_room (Nat.le_of_ble_eq_true rfl)) dL_law_219 ⟨(Nat.le_of_ble_eq_true rfl), (Nat.le_of_ble_eq_true rfl)⟩) hS hP (fun H locs hP hS => ?_)
  refine lv_aload_n hx hb dL_law_222 rfl (lv_at hl 2 rfl) ?_
  refine lv_aload_n hx hb dL_law_223 rfl (lv_at hl 0 rfl) ?_
  refine lv_iload_n hx hb dL_law_224 rfl (lv_at hl 3 rfl) ?_
  refine lv_iconst (v := nI 1) hx hb dL_law_225 (by decide) ?_
  refine hs_addN hx hb dL_law_226 ?_
  refine hs_sld hx hb hX hbl hbA hS (k := i + 1) (by omega) (by omega) dL_law_227 ?_
  refine hs_mi (va_runV (As := [.int (xs (i + 1))]) (rest := [.int (hs_b (hs_vf d N w nw sz (xs (i + 1)) (F, u, kr, dn, lf, dw)))]) ⟨hx, hb, hml, hown, hts⟩ (kX1_verify l dC dI m0 md mp cA d N w nw sz u F G2 kr dn lf dw ok _ (xs (i + 1)) hu) (cwV 1 hts gL_law_X1_verify rfl rfl rfl (by decide +kernel) ⟨(Nat.le_of_ble_eq_true rfl), (Nat.le_of_ble_eq_true rfl)⟩) (hs_preM (q := (RX1, TX1, 11)) (ci := 1) hK (hP.sub [3, 4, 5] rfl) (hD.sub [3, 4, 5] (by decide) rfl) rfl rfl) rfl rfl hl.1 rfl (lv_room (Nat.le_of_ble_eq_true rfl)) dL_law_228 ⟨(Nat.le_of_ble_eq_true rfl), (Nat.le_of_ble_eq_true rfl)⟩) hS hP hD hA (fun rz z H locs hz hP hD hS => ?_)
  obtain ⟨rfl, g2, rfl⟩ := hz
  refine lv_icmp_eq (tgt := 412) hx hb dL_law_231 (by decide) (fun c9 => ?_) (fun c9 => ?_)
  · exact k412 (F, u, kr, dn, lf, dw) _ _ H locs ls hin hP hD hS hl
  · exact absurd rfl c9
set_option maxHeartbeats 4000000 in
set_option maxRecDepth 100000 in
theorem law_root {p : Program} {l : Launch} {e : Env} {s : State} {m : MethodId} {below : List Frame} {meth : Method} {c : Code} {dC : Nat → ClassId} {dI : Nat → Nat → Nat} {b L : Nat} {xs : Nat → Int32} (hL : L ≤ 2050) (C0 : lw_At p s m meth c b L xs) {cA : ClassId} {d N w nw sz x0 xd xp m0 md mp : Nat} (ok : hs_ok d N w nw sz) (hK : va_K (dC, dI) vwCl [(cA, .int)] s) {i : Nat} (hi : i + 4 ≤ L) (k412 : lw_K p l e s m below meth c dC dI b cA d N w nw sz x0 xd xp m0 md mp i 412) : lw_K p l e s m below meth c dC dI b cA d N w nw sz x0 xd xp m0 md mp i 236 := by
  obtain ⟨hx, hb, hr, hml, hown, hts, hX, hbl, hlocks, hgv⟩ := C0
  have hts := fun w h => hts w (wsL_law_in w h)
  have hA : ∀ q : Nat, s.heap.size ≤ q → (fun q : Nat => s.heap.size ≤ q) q := fun _ h => h
  have hbA : ¬ (fun q : Nat => s.heap.size ≤ q) b := Nat.not_le.mpr hbl
  intro y G G2 H locs ls hin hP hD hS hl
  obtain ⟨F, u, kr, dn, lf, dw⟩ := y
  obtain ⟨hu, hlo⟩ := id hin
  have hu : u < 2 := hu
  have hlo : hs_lo lf := hlo
  refine lv_aload_n hx hb dL_law_236 rfl (lv_at hl 1 rfl) ?_
  refine hs_pe (v := kr) (va_runV (As := []) (rest := []) ⟨hx, hb, hml, hown, hts⟩ (kX0_root l dC dI x0 xd xp cA d N w nw sz u F G kr dn lf dw ok ) (cwV 0 hts gL_law_X0_root rfl rfl rfl (by decide +kernel) ⟨(Nat.le_of_ble_eq_true rfl), (Nat.le_of_ble_eq_true rfl)⟩) (hs_preV (q := (RX0, TX0, 12)) (ci := 0) hK (hP.sub [0] rfl) rfl rfl) rfl rfl hl.1 rfl (lv_room (Nat.le_of_ble_eq_true rfl)) dL_law_237 ⟨(Nat.le_of_ble_eq_true rfl), (Nat.le_of_ble_eq_true rfl)⟩) hS hP (fun H locs hP hS => ?_)
  refine lv_aload_n hx hb dL_law_240 rfl (lv_at hl 2 rfl) ?_
  refine hs_pe (v := kr) (va_runV (As := []) (rest := [.int kr]) ⟨hx, hb, hml, hown, hts⟩ (kX1_root l dC dI m0 md mp cA d N w nw sz u F G2 kr dn lf dw ok ) (cwV 0 hts gL_law_X1_root rfl rfl rfl (by decide +kernel) ⟨(Nat.le_of_ble_eq_true rfl), (Nat.le_of_ble_eq_true rfl)⟩) (hs_preV (q := (RX1, TX1, 11)) (ci := 1) hK (hP.sub [3] rfl) rfl rfl) rfl rfl hl.1 rfl (lv_room (Nat.le_of_ble_eq_true rfl)) dL_law_241 ⟨(Nat.le_of_ble_eq_true rfl), (Nat.le_of_ble_eq_true rfl)⟩) hS hP (fun H locs hP hS => ?_)
  refine lv_icmp_eq (tgt := 412) hx hb dL_law_244 (by decide) (fun c9 => ?_) (fun c9 => ?_)
  · exact k412 (F, u, kr, dn, lf, dw) _ _ H locs ls hin hP hD hS hl
  · exact absurd rfl c9
set_option maxHeartbeats 4000000 in
set_option maxRecDepth 100000 in
theorem law_audit {p : Program} {l : Launch} {e : Env} {s : State} {m : MethodId} {below : List Frame} {meth : Method} {c : Code} {dC : Nat → ClassId} {dI : Nat → Nat → Nat} {b L : Nat} {xs : Nat → Int32} (hL : L ≤ 2050) (C0 : lw_At p s m meth c b L xs) {cA : ClassId} {d N w nw sz x0 xd xp m0 md mp : Nat} (ok : hs_ok d N w nw sz) (hK : va_K (dC, dI) vwCl [(cA, .int)] s) {i : Nat} (hi : i + 4 ≤ L) (k412 : lw_K p l e s m below meth c dC dI b cA d N w nw sz x0 xd xp m0 md mp i 412) : lw_K p l e s m below meth c dC dI b cA d N w nw sz x0 xd xp m0 md mp i 249 := by
  obtain ⟨hx, hb, hr, hml, hown, hts, hX, hbl, hlocks, hgv⟩ := C0
  have hts := fun w h => hts w (wsL_law_in w h)
  have hA : ∀ q : Nat, s.heap.size ≤ q → (fun q : Nat => s.heap.size ≤ q) q := fun _ h => h
  have hbA : ¬ (fun q : Nat => s.heap.size ≤ q) b := Nat.not_le.mpr hbl
  intro y G G2 H locs ls hin hP hD hS hl
  obtain ⟨F, u, kr, dn, lf, dw⟩ := y
  obtain ⟨hu, hlo⟩ := id hin
  have hu : u < 2 := hu
  have hlo : hs_lo lf := hlo
  refine lv_aload_n hx hb dL_law_249 rfl (lv_at hl 1 rfl) ?_
  refine hs_pe (v := hs_ad d N w nw sz (F, u, kr, dn, lf, dw)) (va_runV (As := []) (rest := []) ⟨hx, hb, hml, hown, hts⟩ (kX0_audit l dC dI x0 xd xp cA d N w nw sz u F G kr dn lf dw ok hu) (cwV 0 hts gL_law_X0_audit rfl rfl rfl (by decide +kernel) ⟨(Nat.le_of_ble_eq_true rfl), (Nat.le_of_ble_eq_true rfl)⟩) (hs_preV (q := (RX0, TX0, 12)) (ci := 0) hK (hP.sub [0, 1] rfl) rfl rfl) rfl rfl hl.1 rfl (lv_room (Nat.le_of_ble_eq_true rfl)) dL_law_250 ⟨(Nat.le_of_ble_eq_true rfl), (Nat.le_of_ble_eq_true rfl)⟩) hS hP (fun H locs hP hS => ?_)
  refine lv_aload_n hx hb dL_law_253 rfl (lv_at hl 2 rfl) ?_
  refine hs_mi (va_runV (As := []) (rest := [.int (hs_ad d N w nw sz (F, u, kr, dn, lf, dw))]) ⟨hx, hb, hml, hown, hts⟩ (kX1_audit l dC dI m0 md mp cA d N w nw sz u F G2 kr dn lf dw ok _ hu) (cwV 0 hts gL_law_X1_audit rfl rfl rfl (by decide +kernel) ⟨(Nat.le_of_ble_eq_true rfl), (Nat.le_of_ble_eq_true rfl)⟩) (hs_preM (q := (RX1, TX1, 11)) (ci := 1) hK (hP.sub [3, 4, 5] rfl) (hD.sub [3, 4, 5] (by decide) rfl) rfl rfl) rfl rfl hl.1 rfl (lv_room (Nat.le_of_ble_eq_true rfl)) dL_law_254 ⟨(Nat.le_of_ble_eq_true rfl), (Nat.le_of_ble_eq_true rfl)⟩) hS hP hD hA (fun rz z H locs hz hP hD hS => ?_)
  obtain ⟨rfl, g2, rfl⟩ := hz
  refine lv_icmp_eq (tgt := 412) hx hb dL_law_257 (by decide) (fun c9 => ?_) (fun c9 => ?_)
  · exact k412 (F, u, kr, dn, lf, dw) _ _ H locs ls hin hP hD hS hl
  · exact absurd rfl c9
set_option maxHeartbeats 4000000 in
set_option maxRecDepth 100000 in
theorem law_tamper {p : Program} {l : Launch} {e : Env} {s : State} {m : MethodId} {below : List Frame} {meth : Method} {c : Code} {dC : Nat → ClassId} {dI : Nat → Nat → Nat} {b L : Nat} {xs : Nat → Int32} (hL : L ≤ 2050) (C0 : lw_At p s m meth c b L xs) {cA : ClassId} {d N w nw sz x0 xd xp m0 md mp : Nat} (ok : hs_ok d N w nw sz) (hK : va_K (dC, dI) vwCl [(cA, .int)] s) {i : Nat} (hi : i + 4 ≤ L) (k412 : lw_K p l e s m below meth c dC dI b cA d N w nw sz x0 xd xp m0 md mp i 412) : lw_K p l e s m below meth c dC dI b cA d N w nw sz x0 xd xp m0 md mp i 262 := by
  obtain ⟨hx, hb, hr, hml, hown, hts, hX, hbl, hlocks, hgv⟩ := C0
  have hts := fun w h => hts w (wsL_law_in w h)
  have hA : ∀ q : Nat, s.heap.size ≤ q → (fun q : Nat => s.heap.size ≤ q) q := fun _ h => h
  have hbA : ¬ (fun q : Nat => s.heap.size ≤ q) b := Nat.not_le.mpr hbl
  intro y G G2 H locs ls hin hP hD hS hl
  obtain ⟨F, u, kr, dn, lf, dw⟩ := y
  obtain ⟨hu, hlo⟩ := id hin
  have hu : u < 2 := hu
  have hlo : hs_lo lf := hlo
  refine lv_aload_n hx hb dL_law_262 rfl (lv_at hl 1 rfl) ?_
  refine lv_aload_n hx hb dL_law_263 rfl (lv_at hl 0 rfl) ?_
  refine lv_iload_n hx hb dL_law_264 rfl (lv_at hl 3 rfl) ?_
  refine lv_iconst (v := nI 1) hx hb dL_law_265 (by decide) ?_
  refine hs_addN hx hb dL_law_266 ?_
  refine hs_sld hx hb hX hbl hbA hS (k := i + 1) (by omega) (by omega) dL_law_267 ?_
  refine lv_aload_n hx hb dL_law_268 rfl (lv_at hl 0 rfl) ?_
  refine lv_iload_n hx hb dL_law_269 rfl (lv_at hl 3 rfl) ?_
  refine lv_iconst (v := nI 2) hx hb dL_law_270 (by decide) ?_
  refine hs_addN hx hb dL_law_271 ?_
  refine hs_sld hx hb hX hbl hbA hS (k := i + 2) (by omega) (by omega) dL_law_272 ?_
  refine hs_xv (va_runV (As := [.int (xs (i + 1)), .int (xs (i + 2))]) (rest := []) ⟨hx, hb, hml, hown, hts⟩ (kX0_tamper l dC dI x0 xd xp cA d N w nw sz u F G kr dn lf dw ok _ (xs (i + 1)) (xs (i + 2))) (cwV 2 hts gL_law_X0_tamper rfl rfl rfl (by decide +kernel) ⟨(Nat.le_of_ble_eq_true rfl), (Nat.le_of_ble_eq_true rfl)⟩) (hs_preM (q := (RX0, TX0, 12)) (ci := 0) hK (hP.sub [0, 1, 2] rfl) (hD.sub [0, 1, 2] (by decide) rfl) rfl rfl) rfl rfl hl.1 rfl (lv_room (Nat.le_of_ble_eq_true rfl)) dL_law_273 ⟨(Nat.le_of_ble_eq_true rfl), (Nat.le_of_ble_eq_true rfl)⟩) hS hP hD hA (fun v H locs hv hP hD hS => ?_)
  subst hv
  refine lv_aload_n hx hb dL_law_276 rfl (lv_at hl 2 rfl) ?_
  refine lv_aload_n hx hb dL_law_277 rfl (lv_at hl 0 rfl) ?_
  refine lv_iload_n hx hb dL_law_278 rfl (lv_at hl 3 rfl) ?_
  refine lv_iconst (v := nI 1) hx hb dL_law_279 (by decide) ?_
  refine hs_addN hx hb dL_law_280 ?_
  refine hs_sld hx hb hX hbl hbA hS (k := i + 1) (by omega) (by omega) dL_law_281 ?_
  refine lv_aload_n hx hb dL_law_282 rfl (lv_at hl 0 rfl) ?_
  refine lv_iload_n hx hb dL_law_283 rfl (lv_at hl 3 rfl) ?_
  refine lv_iconst (v := nI 2) hx hb dL_law_284 (by decide) ?_
  refine hs_addN hx hb dL_law_285 ?_
  refine hs_sld hx hb hX hbl hbA hS (k := i + 2) (by omega) (by omega) dL_law_286 ?_
  refine hs_mv (va_runV (As := [.int (xs (i + 1)), .int (xs (i + 2))]) (rest := []) ⟨hx, hb, hml, hown, hts⟩ (kX1_tamper l dC dI m0 md mp cA d N w nw sz u F G2 kr dn lf dw ok _ (xs (i + 1)) (xs (i + 2))) (cwV 2 hts gL_law_X1_tamper rfl rfl rfl (by decide +kernel) ⟨(Nat.le_of_ble_eq_true rfl), (Nat.le_of_ble_eq_true rfl)⟩) (hs_preM (q := (RX1, TX1, 11)) (ci := 1) hK (hP.sub [3, 4, 5] rfl) (hD.sub [3, 4, 5] (by decide) rfl) rfl rfl) rfl rfl hl.1 rfl (lv_room (Nat.le_of_ble_eq_true rfl)) dL_law_287 ⟨(Nat.le_of_ble_eq_true rfl), (Nat.le_of_ble_eq_true rfl)⟩) hS hP hD hA (fun z H locs hz hP hD hS => ?_)
  subst hz
  refine lv_goto (tgt := 412) hx hb dL_law_290 (by decide) ?_
  exact k412 (hs_tm sz (xs (i + 1)) (xs (i + 2)) (F, u, kr, dn, lf, dw)) _ _ H locs ls (hs_in_tm hin) hP hD hS hl
set_option maxHeartbeats 4000000 in
set_option maxRecDepth 100000 in
theorem law_crashAfter {p : Program} {l : Launch} {e : Env} {s : State} {m : MethodId} {below : List Frame} {meth : Method} {c : Code} {dC : Nat → ClassId} {dI : Nat → Nat → Nat} {b L : Nat} {xs : Nat → Int32} (hL : L ≤ 2050) (C0 : lw_At p s m meth c b L xs) {cA : ClassId} {d N w nw sz x0 xd xp m0 md mp : Nat} (ok : hs_ok d N w nw sz) (hK : va_K (dC, dI) vwCl [(cA, .int)] s) {i : Nat} (hi : i + 4 ≤ L) (k412 : lw_K p l e s m below meth c dC dI b cA d N w nw sz x0 xd xp m0 md mp i 412) : lw_K p l e s m below meth c dC dI b cA d N w nw sz x0 xd xp m0 md mp i 293 := by
  obtain ⟨hx, hb, hr, hml, hown, hts, hX, hbl, hlocks, hgv⟩ := C0
  have hts := fun w h => hts w (wsL_law_in w h)
  have hA : ∀ q : Nat, s.heap.size ≤ q → (fun q : Nat => s.heap.size ≤ q) q := fun _ h => h
  have hbA : ¬ (fun q : Nat => s.heap.size ≤ q) b := Nat.not_le.mpr hbl
  intro y G G2 H locs ls hin hP hD hS hl
  obtain ⟨F, u, kr, dn, lf, dw⟩ := y
  obtain ⟨hu, hlo⟩ := id hin
  have hu : u < 2 := hu
  have hlo : hs_lo lf := hlo
  refine lv_aload_n hx hb dL_law_293 rfl (lv_at hl 1 rfl) ?_
  refine lv_aload_n hx hb dL_law_294 rfl (lv_at hl 0 rfl) ?_
  refine lv_iload_n hx hb dL_law_295 rfl (lv_at hl 3 rfl) ?_
  refine lv_iconst (v := nI 1) hx hb dL_law_296 (by decide) ?_
  refine hs_addN hx hb dL_law_297 ?_
  refine hs_sld hx hb hX hbl hbA hS (k := i + 1) (by omega) (by omega) dL_law_298 ?_
  refine hs_xv (va_runV (As := [.int (xs (i + 1))]) (rest := []) ⟨hx, hb, hml, hown, hts⟩ (kX0_crashAfter l dC dI x0 xd xp cA d N w nw sz u F G kr dn lf dw ok _ (xs (i + 1))) (cwV 1 hts gL_law_X0_crashAfter rfl rfl rfl (by decide +kernel) ⟨(Nat.le_of_ble_eq_true rfl), (Nat.le_of_ble_eq_true rfl)⟩) (hs_preM (q := (RX0, TX0, 12)) (ci := 0) hK (hP.sub [0, 1, 2] rfl) (hD.sub [0, 1, 2] (by decide) rfl) rfl rfl) rfl rfl hl.1 rfl (lv_room (Nat.le_of_ble_eq_true rfl)) dL_law_299 ⟨(Nat.le_of_ble_eq_true rfl), (Nat.le_of_ble_eq_true rfl)⟩) hS hP hD hA (fun v H locs hv hP hD hS => ?_)
  subst hv
  refine lv_aload_n hx hb dL_law_302 rfl (lv_at hl 2 rfl) ?_
  refine lv_aload_n hx hb dL_law_303 rfl (lv_at hl 0 rfl) ?_
  refine lv_iload_n hx hb dL_law_304 rfl (lv_at hl 3 rfl) ?_
  refine lv_iconst (v := nI 1) hx hb dL_law_305 (by decide) ?_
  refine hs_addN hx hb dL_law_306 ?_
  refine hs_sld hx hb hX hbl hbA hS (k := i + 1) (by omega) (by omega) dL_law_307 ?_
  refine hs_mv (va_runV (As := [.int (xs (i + 1))]) (rest := []) ⟨hx, hb, hml, hown, hts⟩ (kX1_crashAfter l dC dI m0 md mp cA d N w nw sz u F G2 kr dn lf dw ok _ (xs (i + 1))) (cwV 1 hts gL_law_X1_crashAfter rfl rfl rfl (by decide +kernel) ⟨(Nat.le_of_ble_eq_true rfl), (Nat.le_of_ble_eq_true rfl)⟩) (hs_preM (q := (RX1, TX1, 11)) (ci := 1) hK (hP.sub [3, 4, 5] rfl) (hD.sub [3, 4, 5] (by decide) rfl) rfl rfl) rfl rfl hl.1 rfl (lv_room (Nat.le_of_ble_eq_true rfl)) dL_law_308 ⟨(Nat.le_of_ble_eq_true rfl), (Nat.le_of_ble_eq_true rfl)⟩) hS hP hD hA (fun z H locs hz hP hD hS => ?_)
  subst hz
  refine lv_goto (tgt := 412) hx hb dL_law_311 (by decide) ?_
  exact k412 (hs_cr (xs (i + 1)) (F, u, kr, dn, lf, dw)) _ _ H locs ls (hs_in_cr hin) hP hD hS hl
set_option maxHeartbeats 4000000 in
set_option maxRecDepth 100000 in
theorem law_recover {p : Program} {l : Launch} {e : Env} {s : State} {m : MethodId} {below : List Frame} {meth : Method} {c : Code} {dC : Nat → ClassId} {dI : Nat → Nat → Nat} {b L : Nat} {xs : Nat → Int32} (hL : L ≤ 2050) (C0 : lw_At p s m meth c b L xs) {cA : ClassId} {d N w nw sz x0 xd xp m0 md mp : Nat} (ok : hs_ok d N w nw sz) (hK : va_K (dC, dI) vwCl [(cA, .int)] s) {i : Nat} (hi : i + 4 ≤ L) (k412 : lw_K p l e s m below meth c dC dI b cA d N w nw sz x0 xd xp m0 md mp i 412) : lw_K p l e s m below meth c dC dI b cA d N w nw sz x0 xd xp m0 md mp i 314 := by
  obtain ⟨hx, hb, hr, hml, hown, hts, hX, hbl, hlocks, hgv⟩ := C0
  have hts := fun w h => hts w (wsL_law_in w h)
  have hA : ∀ q : Nat, s.heap.size ≤ q → (fun q : Nat => s.heap.size ≤ q) q := fun _ h => h
  have hbA : ¬ (fun q : Nat => s.heap.size ≤ q) b := Nat.not_le.mpr hbl
  intro y G G2 H locs ls hin hP hD hS hl
  obtain ⟨F, u, kr, dn, lf, dw⟩ := y
  obtain ⟨hu, hlo⟩ := id hin
  have hu : u < 2 := hu
  have hlo : hs_lo lf := hlo
  refine lv_aload_n hx hb dL_law_314 rfl (lv_at hl 1 rfl) ?_
  refine lv_aload_n hx hb dL_law_315 rfl (lv_at hl 0 rfl) ?_
  refine lv_iload_n hx hb dL_law_316 rfl (lv_at hl 3 rfl) ?_
  refine lv_iconst (v := nI 1) hx hb dL_law_317 (by decide) ?_
  refine hs_addN hx hb dL_law_318 ?_
  refine hs_sld hx hb hX hbl hbA hS (k := i + 1) (by omega) (by omega) dL_law_319 ?_
  refine hs_xi (va_runV (As := [.int (xs (i + 1))]) (rest := []) ⟨hx, hb, hml, hown, hts⟩ (kX0_recover l dC dI x0 xd xp cA d N w nw sz u F G kr dn lf dw ok _ (xs (i + 1))) (cwV 1 hts gL_law_X0_recover rfl rfl rfl (by decide +kernel) ⟨(Nat.le_of_ble_eq_true rfl), (Nat.le_of_ble_eq_true rfl)⟩) (hs_preM (q := (RX0, TX0, 12)) (ci := 0) hK (hP.sub [0, 1, 2] rfl) (hD.sub [0, 1, 2] (by decide) rfl) rfl rfl) rfl rfl hl.1 rfl (lv_room (Nat.le_of_ble_eq_true rfl)) dL_law_320 ⟨(Nat.le_of_ble_eq_true rfl), (Nat.le_of_ble_eq_true rfl)⟩) hS hP hD hA (fun rv v H locs hv hP hD hS => ?_)
  obtain ⟨v1, g1⟩ := v
  have q1 : rv = (hs_rc nw sz (xs (i + 1)) (F, u, kr, dn, lf, dw)).1 := congrArg Prod.fst hv
  have q2 : v1 = (hs_rc nw sz (xs (i + 1)) (F, u, kr, dn, lf, dw)).2 := congrArg Prod.snd hv
  subst q1
  subst q2
  refine lv_aload_n hx hb dL_law_323 rfl (lv_at hl 2 rfl) ?_
  refine lv_aload_n hx hb dL_law_324 rfl (lv_at hl 0 rfl) ?_
  refine lv_iload_n hx hb dL_law_325 rfl (lv_at hl 3 rfl) ?_
  refine lv_iconst (v := nI 1) hx hb dL_law_326 (by decide) ?_
  refine hs_addN hx hb dL_law_327 ?_
  refine hs_sld hx hb hX hbl hbA hS (k := i + 1) (by omega) (by omega) dL_law_328 ?_
  refine hs_mi (va_runV (As := [.int (xs (i + 1))]) (rest := [.int ((hs_rc nw sz (xs (i + 1)) (F, u, kr, dn, lf, dw)).1)]) ⟨hx, hb, hml, hown, hts⟩ (kX1_recover l dC dI m0 md mp cA d N w nw sz u F G2 kr dn lf dw ok _ (xs (i + 1))) (cwV 1 hts gL_law_X1_recover rfl rfl rfl (by decide +kernel) ⟨(Nat.le_of_ble_eq_true rfl), (Nat.le_of_ble_eq_true rfl)⟩) (hs_preM (q := (RX1, TX1, 11)) (ci := 1) hK (hP.sub [3, 4, 5] rfl) (hD.sub [3, 4, 5] (by decide) rfl) rfl rfl) rfl rfl hl.1 rfl (lv_room (Nat.le_of_ble_eq_true rfl)) dL_law_329 ⟨(Nat.le_of_ble_eq_true rfl), (Nat.le_of_ble_eq_true rfl)⟩) hS hP hD hA (fun rz z H locs hz hP hD hS => ?_)
  obtain ⟨v2, g2⟩ := z
  have q3 : rz = (hs_rc nw sz (xs (i + 1)) (F, u, kr, dn, lf, dw)).1 := congrArg Prod.fst hz
  have q4 : v2 = (hs_rc nw sz (xs (i + 1)) (F, u, kr, dn, lf, dw)).2 := congrArg Prod.snd hz
  subst q3
  subst q4
  refine lv_icmp_eq (tgt := 412) hx hb dL_law_332 (by decide) (fun c9 => ?_) (fun c9 => ?_)
  · exact k412 (hs_rc nw sz (xs (i + 1)) (F, u, kr, dn, lf, dw)).2 _ _ H locs ls (hs_in_rc hin) hP hD hS hl
  · exact absurd rfl c9
set_option maxHeartbeats 4000000 in
set_option maxRecDepth 100000 in
theorem law_cells {p : Program} {l : Launch} {e : Env} {s : State} {m : MethodId} {below : List Frame} {meth : Method} {c : Code} {dC : Nat → ClassId} {dI : Nat → Nat → Nat} {b L : Nat} {xs : Nat → Int32} (hL : L ≤ 2050) (C0 : lw_At p s m meth c b L xs) {cA : ClassId} {d N w nw sz x0 xd xp m0 md mp : Nat} (ok : hs_ok d N w nw sz) (hK : va_K (dC, dI) vwCl [(cA, .int)] s) {i : Nat} (hi : i + 4 ≤ L) (k412 : lw_K p l e s m below meth c dC dI b cA d N w nw sz x0 xd xp m0 md mp i 412) : lw_K p l e s m below meth c dC dI b cA d N w nw sz x0 xd xp m0 md mp i 337 := by
  obtain ⟨hx, hb, hr, hml, hown, hts, hX, hbl, hlocks, hgv⟩ := C0
  have hts := fun w h => hts w (wsL_law_in w h)
  have hA : ∀ q : Nat, s.heap.size ≤ q → (fun q : Nat => s.heap.size ≤ q) q := fun _ h => h
  have hbA : ¬ (fun q : Nat => s.heap.size ≤ q) b := Nat.not_le.mpr hbl
  intro y G G2 H locs ls hin hP hD hS hl
  obtain ⟨F, u, kr, dn, lf, dw⟩ := y
  obtain ⟨hu, hlo⟩ := id hin
  have hu : u < 2 := hu
  have hlo : hs_lo lf := hlo
  refine lv_aload_n hx hb dL_law_337 rfl (lv_at hl 1 rfl) ?_
  refine hs_pe (v := nI (2 * sz)) (va_runV (As := []) (rest := []) ⟨hx, hb, hml, hown, hts⟩ (kX0_cells l dC dI x0 xd xp cA d N w nw sz u F G kr dn lf dw ok ) (cwV 0 hts gL_law_X0_cells rfl rfl rfl (by decide +kernel) ⟨(Nat.le_of_ble_eq_true rfl), (Nat.le_of_ble_eq_true rfl)⟩) (hs_preV (q := (RX0, TX0, 12)) (ci := 0) hK (hP.sub [0, 1] rfl) rfl rfl) rfl rfl hl.1 rfl (lv_room (Nat.le_of_ble_eq_true rfl)) dL_law_338 ⟨(Nat.le_of_ble_eq_true rfl), (Nat.le_of_ble_eq_true rfl)⟩) hS hP (fun H locs hP hS => ?_)
  refine lv_aload_n hx hb dL_law_341 rfl (lv_at hl 2 rfl) ?_
  refine hs_pe (v := nI (2 * sz)) (va_runV (As := []) (rest := [.int (nI (2 * sz))]) ⟨hx, hb, hml, hown, hts⟩ (kX1_cells l dC dI m0 md mp cA d N w nw sz u F G2 kr dn lf dw ok ) (cwV 0 hts gL_law_X1_cells rfl rfl rfl (by decide +kernel) ⟨(Nat.le_of_ble_eq_true rfl), (Nat.le_of_ble_eq_true rfl)⟩) (hs_preV (q := (RX1, TX1, 11)) (ci := 1) hK (hP.sub [3] rfl) rfl rfl) rfl rfl hl.1 rfl (lv_room (Nat.le_of_ble_eq_true rfl)) dL_law_342 ⟨(Nat.le_of_ble_eq_true rfl), (Nat.le_of_ble_eq_true rfl)⟩) hS hP (fun H locs hP hS => ?_)
  refine lv_icmp_eq (tgt := 412) hx hb dL_law_345 (by decide) (fun c9 => ?_) (fun c9 => ?_)
  · exact k412 (F, u, kr, dn, lf, dw) _ _ H locs ls hin hP hD hS hl
  · exact absurd rfl c9
set_option maxHeartbeats 4000000 in
set_option maxRecDepth 100000 in
theorem law_peek {p : Program} {l : Launch} {e : Env} {s : State} {m : MethodId} {below : List Frame} {meth : Method} {c : Code} {dC : Nat → ClassId} {dI : Nat → Nat → Nat} {b L : Nat} {xs : Nat → Int32} (hL : L ≤ 2050) (C0 : lw_At p s m meth c b L xs) {cA : ClassId} {d N w nw sz x0 xd xp m0 md mp : Nat} (ok : hs_ok d N w nw sz) (hK : va_K (dC, dI) vwCl [(cA, .int)] s) {i : Nat} (hi : i + 4 ≤ L) (k412 : lw_K p l e s m below meth c dC dI b cA d N w nw sz x0 xd xp m0 md mp i 412) : lw_K p l e s m below meth c dC dI b cA d N w nw sz x0 xd xp m0 md mp i 350 := by
  obtain ⟨hx, hb, hr, hml, hown, hts, hX, hbl, hlocks, hgv⟩ := C0
  have hts := fun w h => hts w (wsL_law_in w h)
  have hA : ∀ q : Nat, s.heap.size ≤ q → (fun q : Nat => s.heap.size ≤ q) q := fun _ h => h
  have hbA : ¬ (fun q : Nat => s.heap.size ≤ q) b := Nat.not_le.mpr hbl
  intro y G G2 H locs ls hin hP hD hS hl
  obtain ⟨F, u, kr, dn, lf, dw⟩ := y
  obtain ⟨hu, hlo⟩ := id hin
  have hu : u < 2 := hu
  have hlo : hs_lo lf := hlo
  refine lv_aload_n hx hb dL_law_350 rfl (lv_at hl 1 rfl) ?_
  refine lv_aload_n hx hb dL_law_351 rfl (lv_at hl 0 rfl) ?_
  refine lv_iload_n hx hb dL_law_352 rfl (lv_at hl 3 rfl) ?_
  refine lv_iconst (v := nI 1) hx hb dL_law_353 (by decide) ?_
  refine hs_addN hx hb dL_law_354 ?_
  refine hs_sld hx hb hX hbl hbA hS (k := i + 1) (by omega) (by omega) dL_law_355 ?_
  refine hs_pe (v := hs_pk sz F (xs (i + 1))) (va_runV (As := [.int (xs (i + 1))]) (rest := []) ⟨hx, hb, hml, hown, hts⟩ (kX0_peek l dC dI x0 xd xp cA d N w nw sz u F G kr dn lf dw ok (xs (i + 1))) (cwV 1 hts gL_law_X0_peek rfl rfl rfl (by decide +kernel) ⟨(Nat.le_of_ble_eq_true rfl), (Nat.le_of_ble_eq_true rfl)⟩) (hs_preV (q := (RX0, TX0, 12)) (ci := 0) hK (hP.sub [0, 1] rfl) rfl rfl) rfl rfl hl.1 rfl (lv_room (Nat.le_of_ble_eq_true rfl)) dL_law_356 ⟨(Nat.le_of_ble_eq_true rfl), (Nat.le_of_ble_eq_true rfl)⟩) hS hP (fun H locs hP hS => ?_)
  refine lv_aload_n hx hb dL_law_359 rfl (lv_at hl 2 rfl) ?_
  refine lv_aload_n hx hb dL_law_360 rfl (lv_at hl 0 rfl) ?_
  refine lv_iload_n hx hb dL_law_361 rfl (lv_at hl 3 rfl) ?_
  refine lv_iconst (v := nI 1) hx hb dL_law_362 (by decide) ?_
  refine hs_addN hx hb dL_law_363 ?_
  refine hs_sld hx hb hX hbl hbA hS (k := i + 1) (by omega) (by omega) dL_law_364 ?_
  refine hs_pe (v := hs_pk sz F (xs (i + 1))) (va_runV (As := [.int (xs (i + 1))]) (rest := [.int (hs_pk sz F (xs (i + 1)))]) ⟨hx, hb, hml, hown, hts⟩ (kX1_peek l dC dI m0 md mp cA d N w nw sz u F G2 kr dn lf dw ok (xs (i + 1))) (cwV 1 hts gL_law_X1_peek rfl rfl rfl (by decide +kernel) ⟨(Nat.le_of_ble_eq_true rfl), (Nat.le_of_ble_eq_true rfl)⟩) (hs_preV (q := (RX1, TX1, 11)) (ci := 1) hK (hP.sub [3, 4] rfl) rfl rfl) rfl rfl hl.1 rfl (lv_room (Nat.le_of_ble_eq_true rfl)) dL_law_365 ⟨(Nat.le_of_ble_eq_true rfl), (Nat.le_of_ble_eq_true rfl)⟩) hS hP (fun H locs hP hS => ?_)
  refine lv_icmp_eq (tgt := 412) hx hb dL_law_368 (by decide) (fun c9 => ?_) (fun c9 => ?_)
  · exact k412 (F, u, kr, dn, lf, dw) _ _ H locs ls hin hP hD hS hl
  · exact absurd rfl c9
set_option maxHeartbeats 4000000 in
set_option maxRecDepth 100000 in
theorem law_writes {p : Program} {l : Launch} {e : Env} {s : State} {m : MethodId} {below : List Frame} {meth : Method} {c : Code} {dC : Nat → ClassId} {dI : Nat → Nat → Nat} {b L : Nat} {xs : Nat → Int32} (hL : L ≤ 2050) (C0 : lw_At p s m meth c b L xs) {cA : ClassId} {d N w nw sz x0 xd xp m0 md mp : Nat} (ok : hs_ok d N w nw sz) (hK : va_K (dC, dI) vwCl [(cA, .int)] s) {i : Nat} (hi : i + 4 ≤ L) (k412 : lw_K p l e s m below meth c dC dI b cA d N w nw sz x0 xd xp m0 md mp i 412) : lw_K p l e s m below meth c dC dI b cA d N w nw sz x0 xd xp m0 md mp i 373 := by
  obtain ⟨hx, hb, hr, hml, hown, hts, hX, hbl, hlocks, hgv⟩ := C0
  have hts := fun w h => hts w (wsL_law_in w h)
  have hA : ∀ q : Nat, s.heap.size ≤ q → (fun q : Nat => s.heap.size ≤ q) q := fun _ h => h
  have hbA : ¬ (fun q : Nat => s.heap.size ≤ q) b := Nat.not_le.mpr hbl
  intro y G G2 H locs ls hin hP hD hS hl
  obtain ⟨F, u, kr, dn, lf, dw⟩ := y
  obtain ⟨hu, hlo⟩ := id hin
  have hu : u < 2 := hu
  have hlo : hs_lo lf := hlo
  refine lv_aload_n hx hb dL_law_373 rfl (lv_at hl 1 rfl) ?_
  refine hs_pe (v := dn) (va_runV (As := []) (rest := []) ⟨hx, hb, hml, hown, hts⟩ (kX0_writes l dC dI x0 xd xp cA d N w nw sz u F G kr dn lf dw ok ) (cwV 0 hts gL_law_X0_writes rfl rfl rfl (by decide +kernel) ⟨(Nat.le_of_ble_eq_true rfl), (Nat.le_of_ble_eq_true rfl)⟩) (hs_preV (q := (RX0, TX0, 12)) (ci := 0) hK (hP.sub [0] rfl) rfl rfl) rfl rfl hl.1 rfl (lv_room (Nat.le_of_ble_eq_true rfl)) dL_law_374 ⟨(Nat.le_of_ble_eq_true rfl), (Nat.le_of_ble_eq_true rfl)⟩) hS hP (fun H locs hP hS => ?_)
  refine lv_aload_n hx hb dL_law_377 rfl (lv_at hl 2 rfl) ?_
  refine hs_pe (v := dn) (va_runV (As := []) (rest := [.int dn]) ⟨hx, hb, hml, hown, hts⟩ (kX1_writes l dC dI m0 md mp cA d N w nw sz u F G2 kr dn lf dw ok ) (cwV 0 hts gL_law_X1_writes rfl rfl rfl (by decide +kernel) ⟨(Nat.le_of_ble_eq_true rfl), (Nat.le_of_ble_eq_true rfl)⟩) (hs_preV (q := (RX1, TX1, 11)) (ci := 1) hK (hP.sub [3] rfl) rfl rfl) rfl rfl hl.1 rfl (lv_room (Nat.le_of_ble_eq_true rfl)) dL_law_378 ⟨(Nat.le_of_ble_eq_true rfl), (Nat.le_of_ble_eq_true rfl)⟩) hS hP (fun H locs hP hS => ?_)
  refine lv_icmp_eq (tgt := 412) hx hb dL_law_381 (by decide) (fun c9 => ?_) (fun c9 => ?_)
  · exact k412 (F, u, kr, dn, lf, dw) _ _ H locs ls hin hP hD hS hl
  · exact absurd rfl c9
set_option maxHeartbeats 4000000 in
set_option maxRecDepth 100000 in
theorem law_slot {p : Program} {l : Launch} {e : Env} {s : State} {m : MethodId} {below : List Frame} {meth : Method} {c : Code} {dC : Nat → ClassId} {dI : Nat → Nat → Nat} {b L : Nat} {xs : Nat → Int32} (hL : L ≤ 2050) (C0 : lw_At p s m meth c b L xs) {cA : ClassId} {d N w nw sz x0 xd xp m0 md mp : Nat} (ok : hs_ok d N w nw sz) (hK : va_K (dC, dI) vwCl [(cA, .int)] s) {i : Nat} (hi : i + 4 ≤ L) (k412 : lw_K p l e s m below meth c dC dI b cA d N w nw sz x0 xd xp m0 md mp i 412) : lw_K p l e s m below meth c dC dI b cA d N w nw sz x0 xd xp m0 md mp i 386 := by
  obtain ⟨hx, hb, hr, hml, hown, hts, hX, hbl, hlocks, hgv⟩ := C0
  have hts := fun w h => hts w (wsL_law_in w h)
  have hA : ∀ q : Nat, s.heap.size ≤ q → (fun q : Nat => s.heap.size ≤ q) q := fun _ h => h
  have hbA : ¬ (fun q : Nat => s.heap.size ≤ q) b := Nat.not_le.mpr hbl
  intro y G G2 H locs ls hin hP hD hS hl
  obtain ⟨F, u, kr, dn, lf, dw⟩ := y
  obtain ⟨hu, hlo⟩ := id hin
  have hu : u < 2 := hu
  have hlo : hs_lo lf := hlo
  refine lv_aload_n hx hb dL_law_386 rfl (lv_at hl 1 rfl) ?_
  refine hs_pe (v := nI u) (va_runV (As := []) (rest := []) ⟨hx, hb, hml, hown, hts⟩ (kX0_slot l dC dI x0 xd xp cA d N w nw sz u F G kr dn lf dw ok ) (cwV 0 hts gL_law_X0_slot rfl rfl rfl (by decide +kernel) ⟨(Nat.le_of_ble_eq_true rfl), (Nat.le_of_ble_eq_true rfl)⟩) (hs_preV (q := (RX0, TX0, 12)) (ci := 0) hK (hP.sub [0] rfl) rfl rfl) rfl rfl hl.1 rfl (lv_room (Nat.le_of_ble_eq_true rfl)) dL_law_387 ⟨(Nat.le_of_ble_eq_true rfl), (Nat.le_of_ble_eq_true rfl)⟩) hS hP (fun H locs hP hS => ?_)
  refine lv_aload_n hx hb dL_law_390 rfl (lv_at hl 2 rfl) ?_
  refine hs_pe (v := nI u) (va_runV (As := []) (rest := [.int (nI u)]) ⟨hx, hb, hml, hown, hts⟩ (kX1_slot l dC dI m0 md mp cA d N w nw sz u F G2 kr dn lf dw ok ) (cwV 0 hts gL_law_X1_slot rfl rfl rfl (by decide +kernel) ⟨(Nat.le_of_ble_eq_true rfl), (Nat.le_of_ble_eq_true rfl)⟩) (hs_preV (q := (RX1, TX1, 11)) (ci := 1) hK (hP.sub [3] rfl) rfl rfl) rfl rfl hl.1 rfl (lv_room (Nat.le_of_ble_eq_true rfl)) dL_law_391 ⟨(Nat.le_of_ble_eq_true rfl), (Nat.le_of_ble_eq_true rfl)⟩) hS hP (fun H locs hP hS => ?_)
  refine lv_icmp_eq (tgt := 412) hx hb dL_law_394 (by decide) (fun c9 => ?_) (fun c9 => ?_)
  · exact k412 (F, u, kr, dn, lf, dw) _ _ H locs ls hin hP hD hS hl
  · exact absurd rfl c9
set_option maxHeartbeats 4000000 in
set_option maxRecDepth 100000 in
theorem law_down {p : Program} {l : Launch} {e : Env} {s : State} {m : MethodId} {below : List Frame} {meth : Method} {c : Code} {dC : Nat → ClassId} {dI : Nat → Nat → Nat} {b L : Nat} {xs : Nat → Int32} (hL : L ≤ 2050) (C0 : lw_At p s m meth c b L xs) {cA : ClassId} {d N w nw sz x0 xd xp m0 md mp : Nat} (ok : hs_ok d N w nw sz) (hK : va_K (dC, dI) vwCl [(cA, .int)] s) {i : Nat} (hi : i + 4 ≤ L) (k412 : lw_K p l e s m below meth c dC dI b cA d N w nw sz x0 xd xp m0 md mp i 412) : lw_K p l e s m below meth c dC dI b cA d N w nw sz x0 xd xp m0 md mp i 399 := by
  obtain ⟨hx, hb, hr, hml, hown, hts, hX, hbl, hlocks, hgv⟩ := C0
  have hts := fun w h => hts w (wsL_law_in w h)
  have hA : ∀ q : Nat, s.heap.size ≤ q → (fun q : Nat => s.heap.size ≤ q) q := fun _ h => h
  have hbA : ¬ (fun q : Nat => s.heap.size ≤ q) b := Nat.not_le.mpr hbl
  intro y G G2 H locs ls hin hP hD hS hl
  obtain ⟨F, u, kr, dn, lf, dw⟩ := y
  obtain ⟨hu, hlo⟩ := id hin
  have hu : u < 2 := hu
  have hlo : hs_lo lf := hlo
  refine lv_aload_n hx hb dL_law_399 rfl (lv_at hl 1 rfl) ?_
  refine hs_pe (v := hs_b dw) (va_runV (As := []) (rest := []) ⟨hx, hb, hml, hown, hts⟩ (kX0_down l dC dI x0 xd xp cA d N w nw sz u F G kr dn lf dw ok ) (cwV 0 hts gL_law_X0_down rfl rfl rfl (by decide +kernel) ⟨(Nat.le_of_ble_eq_true rfl), (Nat.le_of_ble_eq_true rfl)⟩) (hs_preV (q := (RX0, TX0, 12)) (ci := 0) hK (hP.sub [0] rfl) rfl rfl) rfl rfl hl.1 rfl (lv_room (Nat.le_of_ble_eq_true rfl)) dL_law_400 ⟨(Nat.le_of_ble_eq_true rfl), (Nat.le_of_ble_eq_true rfl)⟩) hS hP (fun H locs hP hS => ?_)
  refine lv_aload_n hx hb dL_law_403 rfl (lv_at hl 2 rfl) ?_
  refine hs_pe (v := hs_b dw) (va_runV (As := []) (rest := [.int (hs_b dw)]) ⟨hx, hb, hml, hown, hts⟩ (kX1_down l dC dI m0 md mp cA d N w nw sz u F G2 kr dn lf dw ok ) (cwV 0 hts gL_law_X1_down rfl rfl rfl (by decide +kernel) ⟨(Nat.le_of_ble_eq_true rfl), (Nat.le_of_ble_eq_true rfl)⟩) (hs_preV (q := (RX1, TX1, 11)) (ci := 1) hK (hP.sub [3] rfl) rfl rfl) rfl rfl hl.1 rfl (lv_room (Nat.le_of_ble_eq_true rfl)) dL_law_404 ⟨(Nat.le_of_ble_eq_true rfl), (Nat.le_of_ble_eq_true rfl)⟩) hS hP (fun H locs hP hS => ?_)
  refine lv_icmp_eq (tgt := 412) hx hb dL_law_407 (by decide) (fun c9 => ?_) (fun c9 => ?_)
  · exact k412 (F, u, kr, dn, lf, dw) _ _ H locs ls hin hP hD hS hl
  · exact absurd rfl c9
