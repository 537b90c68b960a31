/-! rows for the law: the script's ints, calls of one object beside the other -/
def hs_sc (xs : Nat → Int32) (L k : Nat) : Int32 := if k < L then xs k else 0
section HLW
variable {p : Program} {l : Launch} {e : Env} {R : Room} {s : State} {m : MethodId} {args : Array Value} {below : List Frame} {meth : Method} {c : Code} {H : Heap} {locs : List Loc} {cells slots : Nat} {Q : State → Prop}
variable {cc : ByteArray} {pc : Nat} {ls : Array Slot} {rest st0 : List Value} {a : Array Value} {A A0 : Nat → Prop} {H0 : Heap} {D : va_G} {cl : List vw_C} {tys : List (ClassId × FieldType)} {ws : va_W}
theorem hs_sld (hx : p.tables.exec = Jvm.exec) (hb : c.code = cc) {b L : Nat} {xs : Nat → Int32} (hX : va_X b L xs s H0) (hbl : b < H0.size) (hbA : ¬ A b) (hS : va_S A H0 H locs) {k : Nat} (hk : k < L) (hL : L < 2 ^ 31) (hdg : decode cc pc = .ok (.iaload, 1))
    (kk : W p l e R s m args below meth c H locs cells slots Q (F0 m (pc + 1) ls (.int (xs k) :: rest))) : W p l e R s m args below meth c H locs cells slots Q (F0 m pc ls (.int (nI k) :: .ref b :: rest)) := by
  refine va_sld hx hb hX hbl hbA hS (vp_in_nI hk hL) hdg ?_
  rw [nI_clamp (by omega)]
  exact kk
theorem hs_slen (hx : p.tables.exec = Jvm.exec) (hb : c.code = cc) {b L : Nat} {xs : Nat → Int32} (hX : va_X b L xs s H0) (hbl : b < H0.size) (hbA : ¬ A b) (hS : va_S A H0 H locs) (hdg : decode cc pc = .ok (.arraylength, 1))
    (kk : W p l e R s m args below meth c H locs cells slots Q (F0 m (pc + 1) ls (.int (nI L) :: rest))) : W p l e R s m args below meth c H locs cells slots Q (F0 m pc ls (.ref b :: rest)) := va_slen hx hb hX hbl hbA hS hdg kk
theorem hs_xi {S : Type} {post : Int32 → S → Prop} {wf : S → va_W} {a1 a2 a3 b1 b2 b3 : Nat × va_E} (hr : va_Run p l e R s m args below meth c H locs cells slots 0 0 (F0 m pc ls st0) rest (va_Qi post (hs_B D cl tys wf (va_A [a1, a2, a3] H.size)) (va_A [a1, a2, a3] H.size) a) (va_A [a1, a2, a3] H.size)) (hS : va_S A0 H0 H locs) (hP : va_P D cl ([a1, a2, a3] ++ [b1, b2, b3]) H) (hD : va_D A0 ([a1, a2, a3] ++ [b1, b2, b3])) (hA : ∀ q, H0.size ≤ q → A0 q)
    (kk : ∀ (r : Int32) (u : S) (H1 : Heap) (locs1 : List Loc), post r u → va_P D cl (wf u ++ [b1, b2, b3]) H1 → va_D A0 (wf u ++ [b1, b2, b3]) → va_S A0 H0 H1 locs1 → W p l e R s m args below meth c H1 locs1 cells slots Q (F0 m (pc + 3) ls (.int r :: rest))) : W p l e R s m args below meth c H locs cells slots Q (F0 m pc ls st0) := by
  have hF := va_free (wc := [a1, a2, a3]) hD hS hA [0, 1, 2] rfl
  refine va_calli hr hS (fun q _ h => hF q h) hF (fun r u t H1 locs1 ht _ hw hB _ hk hS => ?_)
  have hP1 : va_P D cl (wf u) H1 := by rw [← ht]; exact hB.1
  obtain ⟨hP2, hD2⟩ := va_join (wr := [b1, b2, b3]) (w1 := wf u) hP hD [0, 1, 2] [3, 4, 5] rfl rfl (by decide) (by decide) hk hF hP1 hB.2.2
  exact kk r u H1 locs1 hw (va_P.swap (a := []) hP2) (va_D.swap (a := []) hD2) hS
theorem hs_xv {S : Type} {post : S → Prop} {wf : S → va_W} {a1 a2 a3 b1 b2 b3 : Nat × va_E} (hr : va_Run p l e R s m args below meth c H locs cells slots 0 0 (F0 m pc ls st0) rest (va_Qv post (hs_B D cl tys wf (va_A [a1, a2, a3] H.size)) (va_A [a1, a2, a3] H.size) a) (va_A [a1, a2, a3] H.size)) (hS : va_S A0 H0 H locs) (hP : va_P D cl ([a1, a2, a3] ++ [b1, b2, b3]) H) (hD : va_D A0 ([a1, a2, a3] ++ [b1, b2, b3])) (hA : ∀ q, H0.size ≤ q → A0 q)
    (kk : ∀ (u : S) (H1 : Heap) (locs1 : List Loc), post u → va_P D cl (wf u ++ [b1, b2, b3]) H1 → va_D A0 (wf u ++ [b1, b2, b3]) → va_S A0 H0 H1 locs1 → W p l e R s m args below meth c H1 locs1 cells slots Q (F0 m (pc + 3) ls rest)) : W p l e R s m args below meth c H locs cells slots Q (F0 m pc ls st0) := by
  have hF := va_free (wc := [a1, a2, a3]) hD hS hA [0, 1, 2] rfl
  refine va_callv hr hS (fun q _ h => hF q h) hF (fun u t H1 locs1 ht _ hw hB _ hk hS => ?_)
  have hP1 : va_P D cl (wf u) H1 := by rw [← ht]; exact hB.1
  obtain ⟨hP2, hD2⟩ := va_join (wr := [b1, b2, b3]) (w1 := wf u) hP hD [0, 1, 2] [3, 4, 5] rfl rfl (by decide) (by decide) hk hF hP1 hB.2.2
  exact kk u H1 locs1 hw (va_P.swap (a := []) hP2) (va_D.swap (a := []) hD2) hS
theorem hs_mi {S : Type} {post : Int32 → S → Prop} {wf : S → va_W} {a1 a2 a3 b1 b2 b3 : Nat × va_E} (hr : va_Run p l e R s m args below meth c H locs cells slots 0 0 (F0 m pc ls st0) rest (va_Qi post (hs_B D cl tys wf (va_A [b1, b2, b3] H.size)) (va_A [b1, b2, b3] H.size) a) (va_A [b1, b2, b3] H.size)) (hS : va_S A0 H0 H locs) (hP : va_P D cl ([a1, a2, a3] ++ [b1, b2, b3]) H) (hD : va_D A0 ([a1, a2, a3] ++ [b1, b2, b3])) (hA : ∀ q, H0.size ≤ q → A0 q)
    (kk : ∀ (r : Int32) (u : S) (H1 : Heap) (locs1 : List Loc), post r u → va_P D cl ([a1, a2, a3] ++ wf u) H1 → va_D A0 ([a1, a2, a3] ++ wf u) → va_S A0 H0 H1 locs1 → W p l e R s m args below meth c H1 locs1 cells slots Q (F0 m (pc + 3) ls (.int r :: rest))) : W p l e R s m args below meth c H locs cells slots Q (F0 m pc ls st0) := by
  have hF := va_free (wc := [b1, b2, b3]) hD hS hA [3, 4, 5] rfl
  refine va_calli hr hS (fun q _ h => hF q h) hF (fun r u t H1 locs1 ht _ hw hB _ hk hS => ?_)
  have hP1 : va_P D cl (wf u) H1 := by rw [← ht]; exact hB.1
  obtain ⟨hP2, hD2⟩ := va_join (wr := [a1, a2, a3]) (w1 := wf u) hP hD [3, 4, 5] [0, 1, 2] rfl rfl (by decide) (by decide) hk hF hP1 hB.2.2
  exact kk r u H1 locs1 hw hP2 hD2 hS
theorem hs_mv {S : Type} {post : S → Prop} {wf : S → va_W} {a1 a2 a3 b1 b2 b3 : Nat × va_E} (hr : va_Run p l e R s m args below meth c H locs cells slots 0 0 (F0 m pc ls st0) rest (va_Qv post (hs_B D cl tys wf (va_A [b1, b2, b3] H.size)) (va_A [b1, b2, b3] H.size) a) (va_A [b1, b2, b3] H.size)) (hS : va_S A0 H0 H locs) (hP : va_P D cl ([a1, a2, a3] ++ [b1, b2, b3]) H) (hD : va_D A0 ([a1, a2, a3] ++ [b1, b2, b3])) (hA : ∀ q, H0.size ≤ q → A0 q)
    (kk : ∀ (u : S) (H1 : Heap) (locs1 : List Loc), post u → va_P D cl ([a1, a2, a3] ++ wf u) H1 → va_D A0 ([a1, a2, a3] ++ wf u) → va_S A0 H0 H1 locs1 → W p l e R s m args below meth c H1 locs1 cells slots Q (F0 m (pc + 3) ls rest)) : W p l e R s m args below meth c H locs cells slots Q (F0 m pc ls st0) := by
  have hF := va_free (wc := [b1, b2, b3]) hD hS hA [3, 4, 5] rfl
  refine va_callv hr hS (fun q _ h => hF q h) hF (fun u t H1 locs1 ht _ hw hB _ hk hS => ?_)
  have hP1 : va_P D cl (wf u) H1 := by rw [← ht]; exact hB.1
  obtain ⟨hP2, hD2⟩ := va_join (wr := [a1, a2, a3]) (w1 := wf u) hP hD [3, 4, 5] [0, 1, 2] rfl rfl (by decide) (by decide) hk hF hP1 hB.2.2
  exact kk u H1 locs1 hw hP2 hD2 hS
end HLW
