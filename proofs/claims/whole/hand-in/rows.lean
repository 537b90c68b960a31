section
-- ===== PART A: goes FIRST, ahead of the names: the tables' words, and 'selects' of the private methods out of them =====
/-- a private method of a class that the tables say can be made, by its rows of tables_1 -/
def lw_okq (q : MethodName × Nat) : Prop := (q.1.cls ≠ "java/lang/invoke/MethodHandle" ∧ q.1.cls ≠ "java/lang/invoke/VarHandle") ∧ Cond.instantiable q.1.cls q.2 ∈ tables_1 ∧ Cond.privateMethod q.1 ∈ tables_1 ∧ Cond.instanceMethod q.1 ∈ tables_1
theorem lw_p0 : lw_okq (⟨"HashedStore", "startAnew", "()V"⟩, 12) := ⟨⟨by decide +kernel, by decide +kernel⟩, List.mem_of_getElem? (i := 7) (by decide +kernel), List.mem_of_getElem? (i := 21) (by decide +kernel), List.mem_of_getElem? (i := 22) (by decide +kernel)⟩
theorem lw_p1 : lw_okq (⟨"HashedStore", "makeAllNodesOfFirstArea", "()V"⟩, 12) := ⟨⟨by decide +kernel, by decide +kernel⟩, List.mem_of_getElem? (i := 7) (by decide +kernel), List.mem_of_getElem? (i := 28) (by decide +kernel), List.mem_of_getElem? (i := 29) (by decide +kernel)⟩
theorem lw_p2 : lw_okq (⟨"HashedStore", "leafOf", "(I)I"⟩, 12) := ⟨⟨by decide +kernel, by decide +kernel⟩, List.mem_of_getElem? (i := 7) (by decide +kernel), List.mem_of_getElem? (i := 32) (by decide +kernel), List.mem_of_getElem? (i := 33) (by decide +kernel)⟩
theorem lw_p3 : lw_okq (⟨"HashedStore", "nodeCell", "(I)I"⟩, 12) := ⟨⟨by decide +kernel, by decide +kernel⟩, List.mem_of_getElem? (i := 7) (by decide +kernel), List.mem_of_getElem? (i := 36) (by decide +kernel), List.mem_of_getElem? (i := 37) (by decide +kernel)⟩
theorem lw_p4 : lw_okq (⟨"HashedStore", "blockHash", "([III)I"⟩, 12) := ⟨⟨by decide +kernel, by decide +kernel⟩, List.mem_of_getElem? (i := 7) (by decide +kernel), List.mem_of_getElem? (i := 40) (by decide +kernel), List.mem_of_getElem? (i := 41) (by decide +kernel)⟩
theorem lw_p5 : lw_okq (⟨"HashedStore", "wordCell", "(II)I"⟩, 12) := ⟨⟨by decide +kernel, by decide +kernel⟩, List.mem_of_getElem? (i := 7) (by decide +kernel), List.mem_of_getElem? (i := 44) (by decide +kernel), List.mem_of_getElem? (i := 45) (by decide +kernel)⟩
theorem lw_p6 : lw_okq (⟨"HashedStore", "hashOfSons", "([II)I"⟩, 12) := ⟨⟨by decide +kernel, by decide +kernel⟩, List.mem_of_getElem? (i := 7) (by decide +kernel), List.mem_of_getElem? (i := 53) (by decide +kernel), List.mem_of_getElem? (i := 54) (by decide +kernel)⟩
theorem lw_p7 : lw_okq (⟨"HashedStore", "turnTo", "(II)V"⟩, 12) := ⟨⟨by decide +kernel, by decide +kernel⟩, List.mem_of_getElem? (i := 7) (by decide +kernel), List.mem_of_getElem? (i := 57) (by decide +kernel), List.mem_of_getElem? (i := 58) (by decide +kernel)⟩
theorem lw_p8 : lw_okq (⟨"HashedStore", "comeUp", "()V"⟩, 12) := ⟨⟨by decide +kernel, by decide +kernel⟩, List.mem_of_getElem? (i := 7) (by decide +kernel), List.mem_of_getElem? (i := 61) (by decide +kernel), List.mem_of_getElem? (i := 62) (by decide +kernel)⟩
theorem lw_p9 : lw_okq (⟨"HashedStore", "hasWord", "(II)Z"⟩, 12) := ⟨⟨by decide +kernel, by decide +kernel⟩, List.mem_of_getElem? (i := 7) (by decide +kernel), List.mem_of_getElem? (i := 111) (by decide +kernel), List.mem_of_getElem? (i := 112) (by decide +kernel)⟩
theorem lw_p10 : lw_okq (⟨"HashedStore", "hasBlock", "(I)Z"⟩, 12) := ⟨⟨by decide +kernel, by decide +kernel⟩, List.mem_of_getElem? (i := 7) (by decide +kernel), List.mem_of_getElem? (i := 115) (by decide +kernel), List.mem_of_getElem? (i := 116) (by decide +kernel)⟩
theorem lw_p11 : lw_okq (⟨"HashedStore", "isRight", "(I)Z"⟩, 12) := ⟨⟨by decide +kernel, by decide +kernel⟩, List.mem_of_getElem? (i := 7) (by decide +kernel), List.mem_of_getElem? (i := 119) (by decide +kernel), List.mem_of_getElem? (i := 120) (by decide +kernel)⟩
theorem lw_p12 : lw_okq (⟨"HashedStore", "areaStart", "(I)I"⟩, 12) := ⟨⟨by decide +kernel, by decide +kernel⟩, List.mem_of_getElem? (i := 7) (by decide +kernel), List.mem_of_getElem? (i := 123) (by decide +kernel), List.mem_of_getElem? (i := 124) (by decide +kernel)⟩
theorem lw_p13 : lw_okq (⟨"HashedStore", "hasWordBelowZero", "(II)Z"⟩, 12) := ⟨⟨by decide +kernel, by decide +kernel⟩, List.mem_of_getElem? (i := 7) (by decide +kernel), List.mem_of_getElem? (i := 127) (by decide +kernel), List.mem_of_getElem? (i := 128) (by decide +kernel)⟩
theorem lw_p14 : lw_okq (⟨"HashedStore", "rootByWayOf", "(II)I"⟩, 12) := ⟨⟨by decide +kernel, by decide +kernel⟩, List.mem_of_getElem? (i := 7) (by decide +kernel), List.mem_of_getElem? (i := 131) (by decide +kernel), List.mem_of_getElem? (i := 132) (by decide +kernel)⟩
theorem lw_p15 : lw_okq (⟨"HashedStore", "planWord", "(III)V"⟩, 12) := ⟨⟨by decide +kernel, by decide +kernel⟩, List.mem_of_getElem? (i := 7) (by decide +kernel), List.mem_of_getElem? (i := 135) (by decide +kernel), List.mem_of_getElem? (i := 136) (by decide +kernel)⟩
def lw_privs_1 : List (MethodName × Nat) := [(⟨"HashedStore", "startAnew", "()V"⟩, 12), (⟨"HashedStore", "makeAllNodesOfFirstArea", "()V"⟩, 12), (⟨"HashedStore", "leafOf", "(I)I"⟩, 12), (⟨"HashedStore", "nodeCell", "(I)I"⟩, 12), (⟨"HashedStore", "blockHash", "([III)I"⟩, 12), (⟨"HashedStore", "wordCell", "(II)I"⟩, 12), (⟨"HashedStore", "hashOfSons", "([II)I"⟩, 12), (⟨"HashedStore", "turnTo", "(II)V"⟩, 12), (⟨"HashedStore", "comeUp", "()V"⟩, 12), (⟨"HashedStore", "hasWord", "(II)Z"⟩, 12), (⟨"HashedStore", "hasBlock", "(I)Z"⟩, 12), (⟨"HashedStore", "isRight", "(I)Z"⟩, 12), (⟨"HashedStore", "areaStart", "(I)I"⟩, 12), (⟨"HashedStore", "hasWordBelowZero", "(II)Z"⟩, 12), (⟨"HashedStore", "rootByWayOf", "(II)I"⟩, 12), (⟨"HashedStore", "planWord", "(III)V"⟩, 12)]
theorem lw_r1 : ∀ q ∈ lw_privs_1, lw_okq q := List.forall_mem_cons.mpr ⟨lw_p0, List.forall_mem_cons.mpr ⟨lw_p1, List.forall_mem_cons.mpr ⟨lw_p2, List.forall_mem_cons.mpr ⟨lw_p3, List.forall_mem_cons.mpr ⟨lw_p4, List.forall_mem_cons.mpr ⟨lw_p5, List.forall_mem_cons.mpr ⟨lw_p6, List.forall_mem_cons.mpr ⟨lw_p7, List.forall_mem_cons.mpr ⟨lw_p8, List.forall_mem_cons.mpr ⟨lw_p9, List.forall_mem_cons.mpr ⟨lw_p10, List.forall_mem_cons.mpr ⟨lw_p11, List.forall_mem_cons.mpr ⟨lw_p12, List.forall_mem_cons.mpr ⟨lw_p13, List.forall_mem_cons.mpr ⟨lw_p14, List.forall_mem_cons.mpr ⟨lw_p15, fun _ h => absurd h List.not_mem_nil⟩⟩⟩⟩⟩⟩⟩⟩⟩⟩⟩⟩⟩⟩⟩⟩
theorem lw_p16 : lw_okq (⟨"HashedStore", "carryOutPlan", "(I)Z"⟩, 12) := ⟨⟨by decide +kernel, by decide +kernel⟩, List.mem_of_getElem? (i := 7) (by decide +kernel), List.mem_of_getElem? (i := 142) (by decide +kernel), List.mem_of_getElem? (i := 143) (by decide +kernel)⟩
theorem lw_p17 : lw_okq (⟨"HashedStore", "bringToPlan", "(II)Z"⟩, 12) := ⟨⟨by decide +kernel, by decide +kernel⟩, List.mem_of_getElem? (i := 7) (by decide +kernel), List.mem_of_getElem? (i := 146) (by decide +kernel), List.mem_of_getElem? (i := 147) (by decide +kernel)⟩
theorem lw_p18 : lw_okq (⟨"HashedStore", "putCell", "(II)Z"⟩, 12) := ⟨⟨by decide +kernel, by decide +kernel⟩, List.mem_of_getElem? (i := 7) (by decide +kernel), List.mem_of_getElem? (i := 150) (by decide +kernel), List.mem_of_getElem? (i := 151) (by decide +kernel)⟩
theorem lw_p19 : lw_okq (⟨"HashedStore", "hasCell", "(I)Z"⟩, 12) := ⟨⟨by decide +kernel, by decide +kernel⟩, List.mem_of_getElem? (i := 7) (by decide +kernel), List.mem_of_getElem? (i := 174) (by decide +kernel), List.mem_of_getElem? (i := 175) (by decide +kernel)⟩
theorem lw_p20 : lw_okq (⟨"HashedStoreModel", "node", "(I)I"⟩, 11) := ⟨⟨by decide +kernel, by decide +kernel⟩, List.mem_of_getElem? (i := 209) (by decide +kernel), List.mem_of_getElem? (i := 219) (by decide +kernel), List.mem_of_getElem? (i := 220) (by decide +kernel)⟩
theorem lw_p21 : lw_okq (⟨"HashedStoreModel", "hash", "(I)I"⟩, 11) := ⟨⟨by decide +kernel, by decide +kernel⟩, List.mem_of_getElem? (i := 209) (by decide +kernel), List.mem_of_getElem? (i := 223) (by decide +kernel), List.mem_of_getElem? (i := 224) (by decide +kernel)⟩
theorem lw_p22 : lw_okq (⟨"HashedStoreModel", "isBlock", "(I)Z"⟩, 11) := ⟨⟨by decide +kernel, by decide +kernel⟩, List.mem_of_getElem? (i := 209) (by decide +kernel), List.mem_of_getElem? (i := 271) (by decide +kernel), List.mem_of_getElem? (i := 272) (by decide +kernel)⟩
theorem lw_p23 : lw_okq (⟨"HashedStoreModel", "isRight", "(I)Z"⟩, 11) := ⟨⟨by decide +kernel, by decide +kernel⟩, List.mem_of_getElem? (i := 209) (by decide +kernel), List.mem_of_getElem? (i := 275) (by decide +kernel), List.mem_of_getElem? (i := 276) (by decide +kernel)⟩
theorem lw_p24 : lw_okq (⟨"HashedStoreModel", "toGoal", "()V"⟩, 11) := ⟨⟨by decide +kernel, by decide +kernel⟩, List.mem_of_getElem? (i := 209) (by decide +kernel), List.mem_of_getElem? (i := 279) (by decide +kernel), List.mem_of_getElem? (i := 280) (by decide +kernel)⟩
theorem lw_p25 : lw_okq (⟨"HashedStoreModel", "way", "(IZ)I"⟩, 11) := ⟨⟨by decide +kernel, by decide +kernel⟩, List.mem_of_getElem? (i := 209) (by decide +kernel), List.mem_of_getElem? (i := 283) (by decide +kernel), List.mem_of_getElem? (i := 284) (by decide +kernel)⟩
theorem lw_p26 : lw_okq (⟨"HashedStoreModel", "put", "(I)Z"⟩, 11) := ⟨⟨by decide +kernel, by decide +kernel⟩, List.mem_of_getElem? (i := 209) (by decide +kernel), List.mem_of_getElem? (i := 287) (by decide +kernel), List.mem_of_getElem? (i := 288) (by decide +kernel)⟩
def lw_privs_2 : List (MethodName × Nat) := [(⟨"HashedStore", "carryOutPlan", "(I)Z"⟩, 12), (⟨"HashedStore", "bringToPlan", "(II)Z"⟩, 12), (⟨"HashedStore", "putCell", "(II)Z"⟩, 12), (⟨"HashedStore", "hasCell", "(I)Z"⟩, 12), (⟨"HashedStoreModel", "node", "(I)I"⟩, 11), (⟨"HashedStoreModel", "hash", "(I)I"⟩, 11), (⟨"HashedStoreModel", "isBlock", "(I)Z"⟩, 11), (⟨"HashedStoreModel", "isRight", "(I)Z"⟩, 11), (⟨"HashedStoreModel", "toGoal", "()V"⟩, 11), (⟨"HashedStoreModel", "way", "(IZ)I"⟩, 11), (⟨"HashedStoreModel", "put", "(I)Z"⟩, 11)]
theorem lw_r2 : ∀ q ∈ lw_privs_2, lw_okq q := List.forall_mem_cons.mpr ⟨lw_p16, List.forall_mem_cons.mpr ⟨lw_p17, List.forall_mem_cons.mpr ⟨lw_p18, List.forall_mem_cons.mpr ⟨lw_p19, List.forall_mem_cons.mpr ⟨lw_p20, List.forall_mem_cons.mpr ⟨lw_p21, List.forall_mem_cons.mpr ⟨lw_p22, List.forall_mem_cons.mpr ⟨lw_p23, List.forall_mem_cons.mpr ⟨lw_p24, List.forall_mem_cons.mpr ⟨lw_p25, List.forall_mem_cons.mpr ⟨lw_p26, fun _ h => absurd h List.not_mem_nil⟩⟩⟩⟩⟩⟩⟩⟩⟩⟩⟩
def lw_privs : List (MethodName × Nat) := lw_privs_1 ++ (lw_privs_2)
def lw_tbl : List Cond := k2_sels lw_privs ++ tables_1
theorem lw_privs_ok : ∀ q ∈ lw_privs, lw_okq q := by
  show ∀ q ∈ lw_privs_1 ++ (lw_privs_2), lw_okq q
  exact List.forall_mem_append.mpr ⟨lw_r1, lw_r2⟩
/-! ===== BEGIN words of one list among another's, by their places ===== -/
theorem goodIn_r {big : List Cond} (ws : List Cond) (ps : List Nat) (hp : ws = ps.filterMap (fun i => big[i]?)) (h : ws.all goodWord = true) : GoodIn big ws := by
  intro w hw
  have h1 := List.all_eq_true.mp h w hw
  rw [hp] at hw
  obtain ⟨i, -, hi⟩ := List.mem_filterMap.mp hw
  have hm : w ∈ big := by first | exact List.mem_of_getElem? hi | exact List.getElem?_mem hi
  exact ⟨hm, good_of_word h1⟩
theorem goodIn_app {big a b : List Cond} (ha : GoodIn big a) (hb : GoodIn big b) : GoodIn big (a ++ b) := fun w h => (List.mem_append.mp h).elim (ha w) (hb w)
theorem goodIn_ca {big a b : List Cond} {c : Cond} (ha : GoodIn big (c :: a)) (hb : GoodIn big b) : GoodIn big (c :: (a ++ b)) := fun w h => (List.mem_cons.mp h).elim (fun e => ha w (List.mem_cons.mpr (Or.inl e))) (fun h => (List.mem_append.mp h).elim (fun h => ha w (List.mem_cons.mpr (Or.inr h))) (hb w))
theorem goodIn_sub {big ws : List Cond} (hm : ∀ w ∈ ws, w ∈ big) (h : ws.all goodWord = true) : GoodIn big ws := fun w hw => ⟨hm w hw, good_of_word (List.all_eq_true.mp h w hw)⟩
/-! ===== END ===== -/

/-! ===== BEGIN printed: names, fields, word lists, decode rows ===== -/
def RX0 : String := "HashedStore"
def TX0 : u_T := fun k => match k with
  | 0 => ("HashedStore", "treeDepth", "I", true)
  | 1 => ("HashedStore", "blockCount", "I", true)
  | 2 => ("HashedStore", "wordsPerBlock", "I", true)
  | 3 => ("HashedStore", "areaWords", "I", true)
  | 4 => ("HashedStore", "areaCells", "I", true)
  | 5 => ("HashedStore", "disk", "[I", true)
  | 6 => ("HashedStore", "plan", "[I", true)
  | 7 => ("HashedStore", "areaInUse", "I", false)
  | 8 => ("HashedStore", "keptRoot", "I", false)
  | 9 => ("HashedStore", "writeCount", "I", false)
  | 10 => ("HashedStore", "writesUntilCrash", "I", false)
  | _ => ("HashedStore", "isDown", "Z", false)
def tyX0 : Nat → FieldType := fun k => match k with
  | 0 => .int
  | 1 => .int
  | 2 => .int
  | 3 => .int
  | 4 => .int
  | 5 => .array .int
  | 6 => .array .int
  | 7 => .int
  | 8 => .int
  | 9 => .int
  | 10 => .int
  | _ => .boolean
abbrev wsX00 : List Cond := u_ws RX0 TX0 12
theorem nmX0 : ∀ a, a < 12 → ∀ b, b < 12 → a ≠ b → (TX0 a).2.1 ≠ (TX0 b).2.1 := by decide +kernel
theorem tyX0_ok : ∀ k, k < 12 → parseFieldDescriptor (TX0 k).2.2.1 = some (tyX0 k) := by decide +kernel
abbrev cX0_init : ByteArray := prog_1_method_1_code
def yX0_init : MethodName := ⟨RX0, "<init>", "(II)V"⟩
abbrev cX0_format : ByteArray := prog_1_method_2_code
def yX0_format : MethodName := ⟨RX0, "format", "()I"⟩
abbrev cX0_write : ByteArray := prog_1_method_3_code
def yX0_write : MethodName := ⟨RX0, "write", "(III)I"⟩
abbrev cX0_read : ByteArray := prog_1_method_4_code
def yX0_read : MethodName := ⟨RX0, "read", "(II)I"⟩
abbrev cX0_verify : ByteArray := prog_1_method_5_code
def yX0_verify : MethodName := ⟨RX0, "verify", "(I)Z"⟩
abbrev cX0_root : ByteArray := prog_1_method_6_code
def yX0_root : MethodName := ⟨RX0, "root", "()I"⟩
abbrev cX0_audit : ByteArray := prog_1_method_7_code
def yX0_audit : MethodName := ⟨RX0, "audit", "()I"⟩
abbrev cX0_tamper : ByteArray := prog_1_method_8_code
def yX0_tamper : MethodName := ⟨RX0, "tamper", "(II)V"⟩
abbrev cX0_crashAfter : ByteArray := prog_1_method_9_code
def yX0_crashAfter : MethodName := ⟨RX0, "crashAfter", "(I)V"⟩
abbrev cX0_recover : ByteArray := prog_1_method_10_code
def yX0_recover : MethodName := ⟨RX0, "recover", "(I)I"⟩
abbrev cX0_cells : ByteArray := prog_1_method_11_code
def yX0_cells : MethodName := ⟨RX0, "cells", "()I"⟩
abbrev cX0_peek : ByteArray := prog_1_method_12_code
def yX0_peek : MethodName := ⟨RX0, "peek", "(I)I"⟩
abbrev cX0_writes : ByteArray := prog_1_method_13_code
def yX0_writes : MethodName := ⟨RX0, "writes", "()I"⟩
abbrev cX0_slot : ByteArray := prog_1_method_14_code
def yX0_slot : MethodName := ⟨RX0, "slot", "()I"⟩
abbrev cX0_down : ByteArray := prog_1_method_15_code
def yX0_down : MethodName := ⟨RX0, "down", "()Z"⟩
abbrev cX0_startAnew : ByteArray := prog_1_method_16_code
def yX0_startAnew : MethodName := ⟨RX0, "startAnew", "()V"⟩
abbrev cX0_makeAllNodesOfFirstArea : ByteArray := prog_1_method_17_code
def yX0_makeAllNodesOfFirstArea : MethodName := ⟨RX0, "makeAllNodesOfFirstArea", "()V"⟩
abbrev cX0_turnTo : ByteArray := prog_1_method_18_code
def yX0_turnTo : MethodName := ⟨RX0, "turnTo", "(II)V"⟩
abbrev cX0_comeUp : ByteArray := prog_1_method_19_code
def yX0_comeUp : MethodName := ⟨RX0, "comeUp", "()V"⟩
abbrev cX0_hasBlock : ByteArray := prog_1_method_20_code
def yX0_hasBlock : MethodName := ⟨RX0, "hasBlock", "(I)Z"⟩
abbrev cX0_hasWord : ByteArray := prog_1_method_21_code
def yX0_hasWord : MethodName := ⟨RX0, "hasWord", "(II)Z"⟩
abbrev cX0_hasCell : ByteArray := prog_1_method_22_code
def yX0_hasCell : MethodName := ⟨RX0, "hasCell", "(I)Z"⟩
abbrev cX0_areaStart : ByteArray := prog_1_method_23_code
def yX0_areaStart : MethodName := ⟨RX0, "areaStart", "(I)I"⟩
abbrev cX0_wordCell : ByteArray := prog_1_method_24_code
def yX0_wordCell : MethodName := ⟨RX0, "wordCell", "(II)I"⟩
abbrev cX0_nodeCell : ByteArray := prog_1_method_25_code
def yX0_nodeCell : MethodName := ⟨RX0, "nodeCell", "(I)I"⟩
abbrev cX0_leafOf : ByteArray := prog_1_method_26_code
def yX0_leafOf : MethodName := ⟨RX0, "leafOf", "(I)I"⟩
abbrev cX0_isRight : ByteArray := prog_1_method_27_code
def yX0_isRight : MethodName := ⟨RX0, "isRight", "(I)Z"⟩
abbrev cX0_hasWordBelowZero : ByteArray := prog_1_method_28_code
def yX0_hasWordBelowZero : MethodName := ⟨RX0, "hasWordBelowZero", "(II)Z"⟩
abbrev cX0_rootByWayOf : ByteArray := prog_1_method_29_code
def yX0_rootByWayOf : MethodName := ⟨RX0, "rootByWayOf", "(II)I"⟩
abbrev cX0_planWord : ByteArray := prog_1_method_30_code
def yX0_planWord : MethodName := ⟨RX0, "planWord", "(III)V"⟩
abbrev cX0_carryOutPlan : ByteArray := prog_1_method_31_code
def yX0_carryOutPlan : MethodName := ⟨RX0, "carryOutPlan", "(I)Z"⟩
abbrev cX0_bringToPlan : ByteArray := prog_1_method_32_code
def yX0_bringToPlan : MethodName := ⟨RX0, "bringToPlan", "(II)Z"⟩
abbrev cX0_putCell : ByteArray := prog_1_method_33_code
def yX0_putCell : MethodName := ⟨RX0, "putCell", "(II)Z"⟩
abbrev cX0_blockHash : ByteArray := prog_1_method_34_code
def yX0_blockHash : MethodName := ⟨RX0, "blockHash", "([III)I"⟩
abbrev cX0_hashOfSons : ByteArray := prog_1_method_35_code
def yX0_hashOfSons : MethodName := ⟨RX0, "hashOfSons", "([II)I"⟩
abbrev cX0_mix : ByteArray := prog_1_method_36_code
def yX0_mix : MethodName := ⟨RX0, "mix", "(II)I"⟩
def RX1 : String := "HashedStoreModel"
def TX1 : u_T := fun k => match k with
  | 0 => ("HashedStoreModel", "depth", "I", true)
  | 1 => ("HashedStoreModel", "blocks", "I", true)
  | 2 => ("HashedStoreModel", "words", "I", true)
  | 3 => ("HashedStoreModel", "size", "I", true)
  | 4 => ("HashedStoreModel", "disk", "[I", true)
  | 5 => ("HashedStoreModel", "goal", "[I", true)
  | 6 => ("HashedStoreModel", "used", "I", false)
  | 7 => ("HashedStoreModel", "kept", "I", false)
  | 8 => ("HashedStoreModel", "done", "I", false)
  | 9 => ("HashedStoreModel", "left", "I", false)
  | _ => ("HashedStoreModel", "isDown", "Z", false)
def tyX1 : Nat → FieldType := fun k => match k with
  | 0 => .int
  | 1 => .int
  | 2 => .int
  | 3 => .int
  | 4 => .array .int
  | 5 => .array .int
  | 6 => .int
  | 7 => .int
  | 8 => .int
  | 9 => .int
  | _ => .boolean
abbrev wsX10 : List Cond := u_ws RX1 TX1 11
theorem nmX1 : ∀ a, a < 11 → ∀ b, b < 11 → a ≠ b → (TX1 a).2.1 ≠ (TX1 b).2.1 := by decide +kernel
theorem tyX1_ok : ∀ k, k < 11 → parseFieldDescriptor (TX1 k).2.2.1 = some (tyX1 k) := by decide +kernel
abbrev cX1_init : ByteArray := prog_3_method_1_code
def yX1_init : MethodName := ⟨RX1, "<init>", "(II)V"⟩
abbrev cX1_mix : ByteArray := prog_3_method_2_code
def yX1_mix : MethodName := ⟨RX1, "mix", "(II)I"⟩
abbrev cX1_node : ByteArray := prog_3_method_3_code
def yX1_node : MethodName := ⟨RX1, "node", "(I)I"⟩
abbrev cX1_hash : ByteArray := prog_3_method_4_code
def yX1_hash : MethodName := ⟨RX1, "hash", "(I)I"⟩
abbrev cX1_toGoal : ByteArray := prog_3_method_5_code
def yX1_toGoal : MethodName := ⟨RX1, "toGoal", "()V"⟩
abbrev cX1_format : ByteArray := prog_3_method_6_code
def yX1_format : MethodName := ⟨RX1, "format", "()I"⟩
abbrev cX1_isBlock : ByteArray := prog_3_method_7_code
def yX1_isBlock : MethodName := ⟨RX1, "isBlock", "(I)Z"⟩
abbrev cX1_way : ByteArray := prog_3_method_8_code
def yX1_way : MethodName := ⟨RX1, "way", "(IZ)I"⟩
abbrev cX1_isRight : ByteArray := prog_3_method_9_code
def yX1_isRight : MethodName := ⟨RX1, "isRight", "(I)Z"⟩
abbrev cX1_put : ByteArray := prog_3_method_10_code
def yX1_put : MethodName := ⟨RX1, "put", "(I)Z"⟩
abbrev cX1_write : ByteArray := prog_3_method_11_code
def yX1_write : MethodName := ⟨RX1, "write", "(III)I"⟩
abbrev cX1_read : ByteArray := prog_3_method_12_code
def yX1_read : MethodName := ⟨RX1, "read", "(II)I"⟩
abbrev cX1_verify : ByteArray := prog_3_method_13_code
def yX1_verify : MethodName := ⟨RX1, "verify", "(I)Z"⟩
abbrev cX1_root : ByteArray := prog_3_method_14_code
def yX1_root : MethodName := ⟨RX1, "root", "()I"⟩
abbrev cX1_audit : ByteArray := prog_3_method_15_code
def yX1_audit : MethodName := ⟨RX1, "audit", "()I"⟩
abbrev cX1_tamper : ByteArray := prog_3_method_16_code
def yX1_tamper : MethodName := ⟨RX1, "tamper", "(II)V"⟩
abbrev cX1_crashAfter : ByteArray := prog_3_method_17_code
def yX1_crashAfter : MethodName := ⟨RX1, "crashAfter", "(I)V"⟩
abbrev cX1_recover : ByteArray := prog_3_method_18_code
def yX1_recover : MethodName := ⟨RX1, "recover", "(I)I"⟩
abbrev cX1_cells : ByteArray := prog_3_method_19_code
def yX1_cells : MethodName := ⟨RX1, "cells", "()I"⟩
abbrev cX1_peek : ByteArray := prog_3_method_20_code
def yX1_peek : MethodName := ⟨RX1, "peek", "(I)I"⟩
abbrev cX1_writes : ByteArray := prog_3_method_21_code
def yX1_writes : MethodName := ⟨RX1, "writes", "()I"⟩
abbrev cX1_slot : ByteArray := prog_3_method_22_code
def yX1_slot : MethodName := ⟨RX1, "slot", "()I"⟩
abbrev cX1_down : ByteArray := prog_3_method_23_code
def yX1_down : MethodName := ⟨RX1, "down", "()Z"⟩
def RJ9 : String := "java/lang/Math"
def TJ9 : u_T := fun k => match k with
  | _ => ("", "", "", false)
def tyJ9 : Nat → FieldType := fun k => match k with
  | _ => .int
abbrev wsJ90 : List Cond := u_ws RJ9 TJ9 0
theorem nmJ9 : ∀ a, a < 0 → ∀ b, b < 0 → a ≠ b → (TJ9 a).2.1 ≠ (TJ9 b).2.1 := by decide +kernel
theorem tyJ9_ok : ∀ k, k < 0 → parseFieldDescriptor (TJ9 k).2.2.1 = some (tyJ9 k) := by decide +kernel
abbrev cJ9_max_7cf53 : ByteArray := prog_4_method_65_code
def yJ9_max_7cf53 : MethodName := ⟨RJ9, "max", "(II)I"⟩
abbrev cJ9_min_7cf53 : ByteArray := prog_4_method_69_code
def yJ9_min_7cf53 : MethodName := ⟨RJ9, "min", "(II)I"⟩
def RJ10 : String := "java/lang/System"
def TJ10 : u_T := fun k => match k with
  | _ => ("", "", "", false)
def tyJ10 : Nat → FieldType := fun k => match k with
  | _ => .int
abbrev wsJ100 : List Cond := u_ws RJ10 TJ10 0
theorem nmJ10 : ∀ a, a < 0 → ∀ b, b < 0 → a ≠ b → (TJ10 a).2.1 ≠ (TJ10 b).2.1 := by decide +kernel
theorem tyJ10_ok : ∀ k, k < 0 → parseFieldDescriptor (TJ10 k).2.2.1 = some (tyJ10 k) := by decide +kernel
def RJ7 : String := "java/util/Arrays"
def TJ7 : u_T := fun k => match k with
  | _ => ("", "", "", false)
def tyJ7 : Nat → FieldType := fun k => match k with
  | _ => .int
abbrev wsJ70 : List Cond := u_ws RJ7 TJ7 0
theorem nmJ7 : ∀ a, a < 0 → ∀ b, b < 0 → a ≠ b → (TJ7 a).2.1 ≠ (TJ7 b).2.1 := by decide +kernel
theorem tyJ7_ok : ∀ k, k < 0 → parseFieldDescriptor (TJ7 k).2.2.1 = some (tyJ7 k) := by decide +kernel
abbrev cJ7_fill_53178 : ByteArray := prog_6_method_103_code
def yJ7_fill_53178 : MethodName := ⟨RJ7, "fill", "([II)V"⟩
def RL : String := "HashedStoreLaw"
abbrev cL_cell : ByteArray := method_2_code
def yL_cell : MethodName := ⟨RL, "cell", "([II)I"⟩
abbrev cL_law : ByteArray := code
def yL_law : MethodName := ⟨RL, "law", "([I)Z"⟩
def wsJ7_fill_53178 : List Cond := .code yJ7_fill_53178 cJ7_fill_53178 4 none :: ([])
def wsX0_leafOf : List Cond := .code yX0_leafOf cX0_leafOf 2 (some .int) :: ([.fieldLink RX0 25 "HashedStore" "blockCount" "I"] ++ wsX00)
def wsX0_nodeCell : List Cond := .code yX0_nodeCell cX0_nodeCell 2 (some .int) :: ([.fieldLink RX0 28 "HashedStore" "areaWords" "I"] ++ wsX00)
def wsX0_wordCell : List Cond := .code yX0_wordCell cX0_wordCell 3 (some .int) :: ([.fieldLink RX0 22 "HashedStore" "wordsPerBlock" "I"] ++ wsX00)
def wsX0_mix : List Cond := .code yX0_mix cX0_mix 3 (some .int) :: ([.constant RX0 139 (739982445), .constant RX0 140 (695872825)])
def wsX0_blockHash : List Cond := .code yX0_blockHash cX0_blockHash 6 (some .int) :: ([.fieldLink RX0 22 "HashedStore" "wordsPerBlock" "I", .methodLink RX0 77 yX0_wordCell, .instanceMethod yX0_wordCell, .selects RX0 yX0_wordCell yX0_wordCell, .initialized RX0, .code yX0_wordCell cX0_wordCell 3 (some .int), .methodLink RX0 124 yX0_mix, .static yX0_mix, .code yX0_mix cX0_mix 3 (some .int), .constant RX0 139 (739982445), .constant RX0 140 (695872825)] ++ wsX00)
def wsX0_hashOfSons : List Cond := .code yX0_hashOfSons cX0_hashOfSons 3 (some .int) :: ([.methodLink RX0 70 yX0_nodeCell, .instanceMethod yX0_nodeCell, .selects RX0 yX0_nodeCell yX0_nodeCell, .initialized RX0, .code yX0_nodeCell cX0_nodeCell 2 (some .int), .fieldLink RX0 28 "HashedStore" "areaWords" "I", .methodLink RX0 124 yX0_mix, .static yX0_mix, .code yX0_mix cX0_mix 3 (some .int), .constant RX0 139 (739982445), .constant RX0 140 (695872825)] ++ wsX00)
def wsX0_makeAllNodesOfFirstArea_r1 : List Cond := [Cond.fieldLink RX0 25 "HashedStore" "blockCount" "I", Cond.fieldLink RX0 34 "HashedStore" "disk" "[I", Cond.methodLink RX0 107 yX0_leafOf, Cond.instanceMethod yX0_leafOf, Cond.selects RX0 yX0_leafOf yX0_leafOf, Cond.initialized RX0, Cond.code yX0_leafOf cX0_leafOf 2 (some .int), Cond.methodLink RX0 70 yX0_nodeCell, Cond.instanceMethod yX0_nodeCell, Cond.selects RX0 yX0_nodeCell yX0_nodeCell, Cond.code yX0_nodeCell cX0_nodeCell 2 (some .int), Cond.fieldLink RX0 28 "HashedStore" "areaWords" "I", Cond.methodLink RX0 110 yX0_blockHash, Cond.instanceMethod yX0_blockHash, Cond.selects RX0 yX0_blockHash yX0_blockHash, Cond.code yX0_blockHash cX0_blockHash 6 (some .int), Cond.fieldLink RX0 22 "HashedStore" "wordsPerBlock" "I", Cond.methodLink RX0 77 yX0_wordCell, Cond.instanceMethod yX0_wordCell, Cond.selects RX0 yX0_wordCell yX0_wordCell, Cond.code yX0_wordCell cX0_wordCell 3 (some .int), Cond.methodLink RX0 124 yX0_mix, Cond.static yX0_mix, Cond.code yX0_mix cX0_mix 3 (some .int)]
def wsX0_makeAllNodesOfFirstArea_r2 : List Cond := [Cond.constant RX0 139 (739982445), Cond.constant RX0 140 (695872825), Cond.methodLink RX0 114 yX0_hashOfSons, Cond.instanceMethod yX0_hashOfSons, Cond.selects RX0 yX0_hashOfSons yX0_hashOfSons, Cond.code yX0_hashOfSons cX0_hashOfSons 3 (some .int)]
def wsX0_makeAllNodesOfFirstArea : List Cond := .code yX0_makeAllNodesOfFirstArea cX0_makeAllNodesOfFirstArea 2 none :: ((wsX0_makeAllNodesOfFirstArea_r1 ++ wsX0_makeAllNodesOfFirstArea_r2) ++ wsX00)
def wsX0_turnTo : List Cond := .code yX0_turnTo cX0_turnTo 3 none :: ([.fieldLink RX0 60 "HashedStore" "areaInUse" "I", .fieldLink RX0 83 "HashedStore" "keptRoot" "I"] ++ wsX00)
def wsX0_comeUp : List Cond := .code yX0_comeUp cX0_comeUp 1 none :: ([.fieldLink RX0 48 "HashedStore" "isDown" "Z", .fieldLink RX0 89 "HashedStore" "writesUntilCrash" "I"] ++ wsX00)
def wsX0_startAnew_r1 : List Cond := [Cond.fieldLink RX0 34 "HashedStore" "disk" "[I", Cond.fieldLink RX0 95 "HashedStore" "writeCount" "I", Cond.methodLink RX0 98 yJ7_fill_53178, Cond.static yJ7_fill_53178, Cond.initialized RJ7, Cond.code yJ7_fill_53178 cJ7_fill_53178 4 none, Cond.methodLink RX0 104 yX0_makeAllNodesOfFirstArea, Cond.instanceMethod yX0_makeAllNodesOfFirstArea, Cond.selects RX0 yX0_makeAllNodesOfFirstArea yX0_makeAllNodesOfFirstArea, Cond.initialized RX0, Cond.code yX0_makeAllNodesOfFirstArea cX0_makeAllNodesOfFirstArea 2 none, Cond.fieldLink RX0 25 "HashedStore" "blockCount" "I", Cond.methodLink RX0 107 yX0_leafOf, Cond.instanceMethod yX0_leafOf, Cond.selects RX0 yX0_leafOf yX0_leafOf, Cond.code yX0_leafOf cX0_leafOf 2 (some .int), Cond.methodLink RX0 70 yX0_nodeCell, Cond.instanceMethod yX0_nodeCell, Cond.selects RX0 yX0_nodeCell yX0_nodeCell, Cond.code yX0_nodeCell cX0_nodeCell 2 (some .int), Cond.fieldLink RX0 28 "HashedStore" "areaWords" "I", Cond.methodLink RX0 110 yX0_blockHash, Cond.instanceMethod yX0_blockHash, Cond.selects RX0 yX0_blockHash yX0_blockHash]
def wsX0_startAnew_r2 : List Cond := [Cond.code yX0_blockHash cX0_blockHash 6 (some .int), Cond.fieldLink RX0 22 "HashedStore" "wordsPerBlock" "I", Cond.methodLink RX0 77 yX0_wordCell, Cond.instanceMethod yX0_wordCell, Cond.selects RX0 yX0_wordCell yX0_wordCell, Cond.code yX0_wordCell cX0_wordCell 3 (some .int), Cond.methodLink RX0 124 yX0_mix, Cond.static yX0_mix, Cond.code yX0_mix cX0_mix 3 (some .int), Cond.constant RX0 139 (739982445), Cond.constant RX0 140 (695872825), Cond.methodLink RX0 114 yX0_hashOfSons, Cond.instanceMethod yX0_hashOfSons, Cond.selects RX0 yX0_hashOfSons yX0_hashOfSons, Cond.code yX0_hashOfSons cX0_hashOfSons 3 (some .int), Cond.methodLink RX0 73 yX0_turnTo, Cond.instanceMethod yX0_turnTo, Cond.selects RX0 yX0_turnTo yX0_turnTo, Cond.code yX0_turnTo cX0_turnTo 3 none, Cond.fieldLink RX0 60 "HashedStore" "areaInUse" "I", Cond.fieldLink RX0 83 "HashedStore" "keptRoot" "I", Cond.methodLink RX0 92 yX0_comeUp, Cond.instanceMethod yX0_comeUp, Cond.selects RX0 yX0_comeUp yX0_comeUp]
def wsX0_startAnew_r3 : List Cond := [Cond.code yX0_comeUp cX0_comeUp 1 none, Cond.fieldLink RX0 48 "HashedStore" "isDown" "Z", Cond.fieldLink RX0 89 "HashedStore" "writesUntilCrash" "I"]
def wsX0_startAnew : List Cond := .code yX0_startAnew cX0_startAnew 1 none :: ((wsX0_startAnew_r1 ++ (wsX0_startAnew_r2 ++ wsX0_startAnew_r3)) ++ wsX00)
def wsX0_init_r1 : List Cond := [Cond.methodLink RX0 1 objectInit, Cond.instanceMethod objectInit, Cond.code objectInit ⟨#[0xb1]⟩ 1 none, Cond.methodLink RX0 9 Lib.Math.min.name, Cond.static Lib.Math.min.name, Cond.initialized "java/lang/Math", Cond.code Lib.Math.min.name Lib.Math.min.code 2 (some .int), Cond.methodLink RX0 15 Lib.Math.max.name, Cond.static Lib.Math.max.name, Cond.code Lib.Math.max.name Lib.Math.max.code 2 (some .int), Cond.fieldLink RX0 18 "HashedStore" "treeDepth" "I", Cond.fieldLink RX0 22 "HashedStore" "wordsPerBlock" "I", Cond.fieldLink RX0 25 "HashedStore" "blockCount" "I", Cond.fieldLink RX0 28 "HashedStore" "areaWords" "I", Cond.fieldLink RX0 31 "HashedStore" "areaCells" "I", Cond.arrayClass .int, Cond.fieldLink RX0 34 "HashedStore" "disk" "[I", Cond.fieldLink RX0 38 "HashedStore" "plan" "[I", Cond.methodLink RX0 41 yX0_startAnew, Cond.instanceMethod yX0_startAnew, Cond.selects RX0 yX0_startAnew yX0_startAnew, Cond.initialized RX0, Cond.code yX0_startAnew cX0_startAnew 1 none, Cond.fieldLink RX0 95 "HashedStore" "writeCount" "I"]
def wsX0_init_r2 : List Cond := [Cond.methodLink RX0 98 yJ7_fill_53178, Cond.static yJ7_fill_53178, Cond.initialized RJ7, Cond.code yJ7_fill_53178 cJ7_fill_53178 4 none, Cond.methodLink RX0 104 yX0_makeAllNodesOfFirstArea, Cond.instanceMethod yX0_makeAllNodesOfFirstArea, Cond.selects RX0 yX0_makeAllNodesOfFirstArea yX0_makeAllNodesOfFirstArea, Cond.code yX0_makeAllNodesOfFirstArea cX0_makeAllNodesOfFirstArea 2 none, Cond.methodLink RX0 107 yX0_leafOf, Cond.instanceMethod yX0_leafOf, Cond.selects RX0 yX0_leafOf yX0_leafOf, Cond.code yX0_leafOf cX0_leafOf 2 (some .int), Cond.methodLink RX0 70 yX0_nodeCell, Cond.instanceMethod yX0_nodeCell, Cond.selects RX0 yX0_nodeCell yX0_nodeCell, Cond.code yX0_nodeCell cX0_nodeCell 2 (some .int), Cond.methodLink RX0 110 yX0_blockHash, Cond.instanceMethod yX0_blockHash, Cond.selects RX0 yX0_blockHash yX0_blockHash, Cond.code yX0_blockHash cX0_blockHash 6 (some .int), Cond.methodLink RX0 77 yX0_wordCell, Cond.instanceMethod yX0_wordCell, Cond.selects RX0 yX0_wordCell yX0_wordCell, Cond.code yX0_wordCell cX0_wordCell 3 (some .int)]
def wsX0_init_r3 : List Cond := [Cond.methodLink RX0 124 yX0_mix, Cond.static yX0_mix, Cond.code yX0_mix cX0_mix 3 (some .int), Cond.constant RX0 139 (739982445), Cond.constant RX0 140 (695872825), Cond.methodLink RX0 114 yX0_hashOfSons, Cond.instanceMethod yX0_hashOfSons, Cond.selects RX0 yX0_hashOfSons yX0_hashOfSons, Cond.code yX0_hashOfSons cX0_hashOfSons 3 (some .int), Cond.methodLink RX0 73 yX0_turnTo, Cond.instanceMethod yX0_turnTo, Cond.selects RX0 yX0_turnTo yX0_turnTo, Cond.code yX0_turnTo cX0_turnTo 3 none, Cond.fieldLink RX0 60 "HashedStore" "areaInUse" "I", Cond.fieldLink RX0 83 "HashedStore" "keptRoot" "I", Cond.methodLink RX0 92 yX0_comeUp, Cond.instanceMethod yX0_comeUp, Cond.selects RX0 yX0_comeUp yX0_comeUp, Cond.code yX0_comeUp cX0_comeUp 1 none, Cond.fieldLink RX0 48 "HashedStore" "isDown" "Z", Cond.fieldLink RX0 89 "HashedStore" "writesUntilCrash" "I"]
def wsX0_init : List Cond := .code yX0_init cX0_init 3 none :: ((wsX0_init_r1 ++ (wsX0_init_r2 ++ wsX0_init_r3)) ++ wsX00)
def wsX0_format_r1 : List Cond := [Cond.methodLink RX0 41 yX0_startAnew, Cond.instanceMethod yX0_startAnew, Cond.selects RX0 yX0_startAnew yX0_startAnew, Cond.initialized RX0, Cond.code yX0_startAnew cX0_startAnew 1 none, Cond.fieldLink RX0 34 "HashedStore" "disk" "[I", Cond.fieldLink RX0 95 "HashedStore" "writeCount" "I", Cond.methodLink RX0 98 yJ7_fill_53178, Cond.static yJ7_fill_53178, Cond.initialized RJ7, Cond.code yJ7_fill_53178 cJ7_fill_53178 4 none, Cond.methodLink RX0 104 yX0_makeAllNodesOfFirstArea, Cond.instanceMethod yX0_makeAllNodesOfFirstArea, Cond.selects RX0 yX0_makeAllNodesOfFirstArea yX0_makeAllNodesOfFirstArea, Cond.code yX0_makeAllNodesOfFirstArea cX0_makeAllNodesOfFirstArea 2 none, Cond.fieldLink RX0 25 "HashedStore" "blockCount" "I", Cond.methodLink RX0 107 yX0_leafOf, Cond.instanceMethod yX0_leafOf, Cond.selects RX0 yX0_leafOf yX0_leafOf, Cond.code yX0_leafOf cX0_leafOf 2 (some .int), Cond.methodLink RX0 70 yX0_nodeCell, Cond.instanceMethod yX0_nodeCell, Cond.selects RX0 yX0_nodeCell yX0_nodeCell, Cond.code yX0_nodeCell cX0_nodeCell 2 (some .int)]
def wsX0_format_r2 : List Cond := [Cond.fieldLink RX0 28 "HashedStore" "areaWords" "I", Cond.methodLink RX0 110 yX0_blockHash, Cond.instanceMethod yX0_blockHash, Cond.selects RX0 yX0_blockHash yX0_blockHash, Cond.code yX0_blockHash cX0_blockHash 6 (some .int), Cond.fieldLink RX0 22 "HashedStore" "wordsPerBlock" "I", Cond.methodLink RX0 77 yX0_wordCell, Cond.instanceMethod yX0_wordCell, Cond.selects RX0 yX0_wordCell yX0_wordCell, Cond.code yX0_wordCell cX0_wordCell 3 (some .int), Cond.methodLink RX0 124 yX0_mix, Cond.static yX0_mix, Cond.code yX0_mix cX0_mix 3 (some .int), Cond.constant RX0 139 (739982445), Cond.constant RX0 140 (695872825), Cond.methodLink RX0 114 yX0_hashOfSons, Cond.instanceMethod yX0_hashOfSons, Cond.selects RX0 yX0_hashOfSons yX0_hashOfSons, Cond.code yX0_hashOfSons cX0_hashOfSons 3 (some .int), Cond.methodLink RX0 73 yX0_turnTo, Cond.instanceMethod yX0_turnTo, Cond.selects RX0 yX0_turnTo yX0_turnTo, Cond.code yX0_turnTo cX0_turnTo 3 none, Cond.fieldLink RX0 60 "HashedStore" "areaInUse" "I"]
def wsX0_format_r3 : List Cond := [Cond.fieldLink RX0 83 "HashedStore" "keptRoot" "I", Cond.methodLink RX0 92 yX0_comeUp, Cond.instanceMethod yX0_comeUp, Cond.selects RX0 yX0_comeUp yX0_comeUp, Cond.code yX0_comeUp cX0_comeUp 1 none, Cond.fieldLink RX0 48 "HashedStore" "isDown" "Z", Cond.fieldLink RX0 89 "HashedStore" "writesUntilCrash" "I"]
def wsX0_format : List Cond := .code yX0_format cX0_format 1 (some .int) :: ((wsX0_format_r1 ++ (wsX0_format_r2 ++ wsX0_format_r3)) ++ wsX00)
def wsX0_hasBlock : List Cond := .code yX0_hasBlock cX0_hasBlock 2 (some .boolean) :: ([.fieldLink RX0 25 "HashedStore" "blockCount" "I"] ++ wsX00)
def wsX0_hasWord : List Cond := .code yX0_hasWord cX0_hasWord 3 (some .boolean) :: ([.fieldLink RX0 22 "HashedStore" "wordsPerBlock" "I", .methodLink RX0 80 yX0_hasBlock, .instanceMethod yX0_hasBlock, .selects RX0 yX0_hasBlock yX0_hasBlock, .initialized RX0, .code yX0_hasBlock cX0_hasBlock 2 (some .boolean), .fieldLink RX0 25 "HashedStore" "blockCount" "I"] ++ wsX00)
def wsX0_areaStart : List Cond := .code yX0_areaStart cX0_areaStart 2 (some .int) :: ([.fieldLink RX0 31 "HashedStore" "areaCells" "I"] ++ wsX00)
def wsX0_hasWordBelowZero : List Cond := .code yX0_hasWordBelowZero cX0_hasWordBelowZero 4 (some .boolean) :: ([.fieldLink RX0 22 "HashedStore" "wordsPerBlock" "I", .fieldLink RX0 34 "HashedStore" "disk" "[I", .methodLink RX0 77 yX0_wordCell, .instanceMethod yX0_wordCell, .selects RX0 yX0_wordCell yX0_wordCell, .initialized RX0, .code yX0_wordCell cX0_wordCell 3 (some .int)] ++ wsX00)
def wsX0_rootByWayOf_r1 : List Cond := [Cond.fieldLink RX0 34 "HashedStore" "disk" "[I", Cond.fieldLink RX0 18 "HashedStore" "treeDepth" "I", Cond.methodLink RX0 110 yX0_blockHash, Cond.instanceMethod yX0_blockHash, Cond.selects RX0 yX0_blockHash yX0_blockHash, Cond.initialized RX0, Cond.code yX0_blockHash cX0_blockHash 6 (some .int), Cond.fieldLink RX0 22 "HashedStore" "wordsPerBlock" "I", Cond.methodLink RX0 77 yX0_wordCell, Cond.instanceMethod yX0_wordCell, Cond.selects RX0 yX0_wordCell yX0_wordCell, Cond.code yX0_wordCell cX0_wordCell 3 (some .int), Cond.methodLink RX0 124 yX0_mix, Cond.static yX0_mix, Cond.code yX0_mix cX0_mix 3 (some .int), Cond.constant RX0 139 (739982445), Cond.constant RX0 140 (695872825), Cond.methodLink RX0 107 yX0_leafOf, Cond.instanceMethod yX0_leafOf, Cond.selects RX0 yX0_leafOf yX0_leafOf, Cond.code yX0_leafOf cX0_leafOf 2 (some .int), Cond.fieldLink RX0 25 "HashedStore" "blockCount" "I", Cond.methodLink RX0 70 yX0_nodeCell, Cond.instanceMethod yX0_nodeCell]
def wsX0_rootByWayOf_r2 : List Cond := [Cond.selects RX0 yX0_nodeCell yX0_nodeCell, Cond.code yX0_nodeCell cX0_nodeCell 2 (some .int), Cond.fieldLink RX0 28 "HashedStore" "areaWords" "I"]
def wsX0_rootByWayOf : List Cond := .code yX0_rootByWayOf cX0_rootByWayOf 8 (some .int) :: ((wsX0_rootByWayOf_r1 ++ wsX0_rootByWayOf_r2) ++ wsX00)
def wsX0_isRight_r1 : List Cond := [Cond.fieldLink RX0 60 "HashedStore" "areaInUse" "I", Cond.fieldLink RX0 83 "HashedStore" "keptRoot" "I", Cond.methodLink RX0 63 yX0_areaStart, Cond.instanceMethod yX0_areaStart, Cond.selects RX0 yX0_areaStart yX0_areaStart, Cond.initialized RX0, Cond.code yX0_areaStart cX0_areaStart 2 (some .int), Cond.fieldLink RX0 31 "HashedStore" "areaCells" "I", Cond.methodLink RX0 118 yX0_hasWordBelowZero, Cond.instanceMethod yX0_hasWordBelowZero, Cond.selects RX0 yX0_hasWordBelowZero yX0_hasWordBelowZero, Cond.code yX0_hasWordBelowZero cX0_hasWordBelowZero 4 (some .boolean), Cond.fieldLink RX0 22 "HashedStore" "wordsPerBlock" "I", Cond.fieldLink RX0 34 "HashedStore" "disk" "[I", Cond.methodLink RX0 77 yX0_wordCell, Cond.instanceMethod yX0_wordCell, Cond.selects RX0 yX0_wordCell yX0_wordCell, Cond.code yX0_wordCell cX0_wordCell 3 (some .int), Cond.methodLink RX0 121 yX0_rootByWayOf, Cond.instanceMethod yX0_rootByWayOf, Cond.selects RX0 yX0_rootByWayOf yX0_rootByWayOf, Cond.code yX0_rootByWayOf cX0_rootByWayOf 8 (some .int), Cond.fieldLink RX0 18 "HashedStore" "treeDepth" "I", Cond.methodLink RX0 110 yX0_blockHash]
def wsX0_isRight_r2 : List Cond := [Cond.instanceMethod yX0_blockHash, Cond.selects RX0 yX0_blockHash yX0_blockHash, Cond.code yX0_blockHash cX0_blockHash 6 (some .int), Cond.methodLink RX0 124 yX0_mix, Cond.static yX0_mix, Cond.code yX0_mix cX0_mix 3 (some .int), Cond.constant RX0 139 (739982445), Cond.constant RX0 140 (695872825), Cond.methodLink RX0 107 yX0_leafOf, Cond.instanceMethod yX0_leafOf, Cond.selects RX0 yX0_leafOf yX0_leafOf, Cond.code yX0_leafOf cX0_leafOf 2 (some .int), Cond.fieldLink RX0 25 "HashedStore" "blockCount" "I", Cond.methodLink RX0 70 yX0_nodeCell, Cond.instanceMethod yX0_nodeCell, Cond.selects RX0 yX0_nodeCell yX0_nodeCell, Cond.code yX0_nodeCell cX0_nodeCell 2 (some .int), Cond.fieldLink RX0 28 "HashedStore" "areaWords" "I"]
def wsX0_isRight : List Cond := .code yX0_isRight cX0_isRight 3 (some .boolean) :: ((wsX0_isRight_r1 ++ wsX0_isRight_r2) ++ wsX00)
def wsX0_planWord_r1 : List Cond := [Cond.fieldLink RX0 34 "HashedStore" "disk" "[I", Cond.fieldLink RX0 60 "HashedStore" "areaInUse" "I", Cond.fieldLink RX0 38 "HashedStore" "plan" "[I", Cond.fieldLink RX0 31 "HashedStore" "areaCells" "I", Cond.methodLink RX0 127 arraycopyName, Cond.native arraycopyName, Cond.static arraycopyName, Cond.initialized "java/lang/System", Cond.fieldLink RX0 18 "HashedStore" "treeDepth" "I", Cond.methodLink RX0 63 yX0_areaStart, Cond.instanceMethod yX0_areaStart, Cond.selects RX0 yX0_areaStart yX0_areaStart, Cond.initialized RX0, Cond.code yX0_areaStart cX0_areaStart 2 (some .int), Cond.methodLink RX0 77 yX0_wordCell, Cond.instanceMethod yX0_wordCell, Cond.selects RX0 yX0_wordCell yX0_wordCell, Cond.code yX0_wordCell cX0_wordCell 3 (some .int), Cond.fieldLink RX0 22 "HashedStore" "wordsPerBlock" "I", Cond.methodLink RX0 107 yX0_leafOf, Cond.instanceMethod yX0_leafOf, Cond.selects RX0 yX0_leafOf yX0_leafOf, Cond.code yX0_leafOf cX0_leafOf 2 (some .int), Cond.fieldLink RX0 25 "HashedStore" "blockCount" "I"]
def wsX0_planWord_r2 : List Cond := [Cond.methodLink RX0 70 yX0_nodeCell, Cond.instanceMethod yX0_nodeCell, Cond.selects RX0 yX0_nodeCell yX0_nodeCell, Cond.code yX0_nodeCell cX0_nodeCell 2 (some .int), Cond.fieldLink RX0 28 "HashedStore" "areaWords" "I", Cond.methodLink RX0 110 yX0_blockHash, Cond.instanceMethod yX0_blockHash, Cond.selects RX0 yX0_blockHash yX0_blockHash, Cond.code yX0_blockHash cX0_blockHash 6 (some .int), Cond.methodLink RX0 124 yX0_mix, Cond.static yX0_mix, Cond.code yX0_mix cX0_mix 3 (some .int), Cond.constant RX0 139 (739982445), Cond.constant RX0 140 (695872825), Cond.methodLink RX0 114 yX0_hashOfSons, Cond.instanceMethod yX0_hashOfSons, Cond.selects RX0 yX0_hashOfSons yX0_hashOfSons, Cond.code yX0_hashOfSons cX0_hashOfSons 3 (some .int)]
def wsX0_planWord : List Cond := .code yX0_planWord cX0_planWord 6 none :: ((wsX0_planWord_r1 ++ wsX0_planWord_r2) ++ wsX00)
def wsX0_putCell : List Cond := .code yX0_putCell cX0_putCell 3 (some .boolean) :: ([.fieldLink RX0 89 "HashedStore" "writesUntilCrash" "I", .fieldLink RX0 48 "HashedStore" "isDown" "Z", .fieldLink RX0 34 "HashedStore" "disk" "[I", .fieldLink RX0 95 "HashedStore" "writeCount" "I"] ++ wsX00)
def wsX0_bringToPlan : List Cond := .code yX0_bringToPlan cX0_bringToPlan 3 (some .boolean) :: ([.fieldLink RX0 34 "HashedStore" "disk" "[I", .fieldLink RX0 38 "HashedStore" "plan" "[I", .methodLink RX0 136 yX0_putCell, .instanceMethod yX0_putCell, .selects RX0 yX0_putCell yX0_putCell, .initialized RX0, .code yX0_putCell cX0_putCell 3 (some .boolean), .fieldLink RX0 89 "HashedStore" "writesUntilCrash" "I", .fieldLink RX0 48 "HashedStore" "isDown" "Z", .fieldLink RX0 95 "HashedStore" "writeCount" "I"] ++ wsX00)
def wsX0_carryOutPlan : List Cond := .code yX0_carryOutPlan cX0_carryOutPlan 3 (some .boolean) :: ([.fieldLink RX0 28 "HashedStore" "areaWords" "I", .fieldLink RX0 31 "HashedStore" "areaCells" "I", .methodLink RX0 133 yX0_bringToPlan, .instanceMethod yX0_bringToPlan, .selects RX0 yX0_bringToPlan yX0_bringToPlan, .initialized RX0, .code yX0_bringToPlan cX0_bringToPlan 3 (some .boolean), .fieldLink RX0 34 "HashedStore" "disk" "[I", .fieldLink RX0 38 "HashedStore" "plan" "[I", .methodLink RX0 136 yX0_putCell, .instanceMethod yX0_putCell, .selects RX0 yX0_putCell yX0_putCell, .code yX0_putCell cX0_putCell 3 (some .boolean), .fieldLink RX0 89 "HashedStore" "writesUntilCrash" "I", .fieldLink RX0 48 "HashedStore" "isDown" "Z", .fieldLink RX0 95 "HashedStore" "writeCount" "I"] ++ wsX00)
def wsX0_write_r1 : List Cond := [Cond.fieldLink RX0 48 "HashedStore" "isDown" "Z", Cond.fieldLink RX0 60 "HashedStore" "areaInUse" "I", Cond.fieldLink RX0 38 "HashedStore" "plan" "[I", Cond.methodLink RX0 44 yX0_hasWord, Cond.instanceMethod yX0_hasWord, Cond.selects RX0 yX0_hasWord yX0_hasWord, Cond.initialized RX0, Cond.code yX0_hasWord cX0_hasWord 3 (some .boolean), Cond.fieldLink RX0 22 "HashedStore" "wordsPerBlock" "I", Cond.methodLink RX0 80 yX0_hasBlock, Cond.instanceMethod yX0_hasBlock, Cond.selects RX0 yX0_hasBlock yX0_hasBlock, Cond.code yX0_hasBlock cX0_hasBlock 2 (some .boolean), Cond.fieldLink RX0 25 "HashedStore" "blockCount" "I", Cond.methodLink RX0 52 yX0_isRight, Cond.instanceMethod yX0_isRight, Cond.selects RX0 yX0_isRight yX0_isRight, Cond.code yX0_isRight cX0_isRight 3 (some .boolean), Cond.fieldLink RX0 83 "HashedStore" "keptRoot" "I", Cond.methodLink RX0 63 yX0_areaStart, Cond.instanceMethod yX0_areaStart, Cond.selects RX0 yX0_areaStart yX0_areaStart, Cond.code yX0_areaStart cX0_areaStart 2 (some .int), Cond.fieldLink RX0 31 "HashedStore" "areaCells" "I"]
def wsX0_write_r2 : List Cond := [Cond.methodLink RX0 118 yX0_hasWordBelowZero, Cond.instanceMethod yX0_hasWordBelowZero, Cond.selects RX0 yX0_hasWordBelowZero yX0_hasWordBelowZero, Cond.code yX0_hasWordBelowZero cX0_hasWordBelowZero 4 (some .boolean), Cond.fieldLink RX0 34 "HashedStore" "disk" "[I", Cond.methodLink RX0 77 yX0_wordCell, Cond.instanceMethod yX0_wordCell, Cond.selects RX0 yX0_wordCell yX0_wordCell, Cond.code yX0_wordCell cX0_wordCell 3 (some .int), Cond.methodLink RX0 121 yX0_rootByWayOf, Cond.instanceMethod yX0_rootByWayOf, Cond.selects RX0 yX0_rootByWayOf yX0_rootByWayOf, Cond.code yX0_rootByWayOf cX0_rootByWayOf 8 (some .int), Cond.fieldLink RX0 18 "HashedStore" "treeDepth" "I", Cond.methodLink RX0 110 yX0_blockHash, Cond.instanceMethod yX0_blockHash, Cond.selects RX0 yX0_blockHash yX0_blockHash, Cond.code yX0_blockHash cX0_blockHash 6 (some .int), Cond.methodLink RX0 124 yX0_mix, Cond.static yX0_mix, Cond.code yX0_mix cX0_mix 3 (some .int), Cond.constant RX0 139 (739982445), Cond.constant RX0 140 (695872825), Cond.methodLink RX0 107 yX0_leafOf]
def wsX0_write_r3 : List Cond := [Cond.instanceMethod yX0_leafOf, Cond.selects RX0 yX0_leafOf yX0_leafOf, Cond.code yX0_leafOf cX0_leafOf 2 (some .int), Cond.methodLink RX0 70 yX0_nodeCell, Cond.instanceMethod yX0_nodeCell, Cond.selects RX0 yX0_nodeCell yX0_nodeCell, Cond.code yX0_nodeCell cX0_nodeCell 2 (some .int), Cond.fieldLink RX0 28 "HashedStore" "areaWords" "I", Cond.methodLink RX0 56 yX0_planWord, Cond.instanceMethod yX0_planWord, Cond.selects RX0 yX0_planWord yX0_planWord, Cond.code yX0_planWord cX0_planWord 6 none, Cond.methodLink RX0 127 arraycopyName, Cond.native arraycopyName, Cond.static arraycopyName, Cond.initialized "java/lang/System", Cond.methodLink RX0 114 yX0_hashOfSons, Cond.instanceMethod yX0_hashOfSons, Cond.selects RX0 yX0_hashOfSons yX0_hashOfSons, Cond.code yX0_hashOfSons cX0_hashOfSons 3 (some .int), Cond.methodLink RX0 67 yX0_carryOutPlan, Cond.instanceMethod yX0_carryOutPlan, Cond.selects RX0 yX0_carryOutPlan yX0_carryOutPlan, Cond.code yX0_carryOutPlan cX0_carryOutPlan 3 (some .boolean)]
def wsX0_write_r4 : List Cond := [Cond.methodLink RX0 133 yX0_bringToPlan, Cond.instanceMethod yX0_bringToPlan, Cond.selects RX0 yX0_bringToPlan yX0_bringToPlan, Cond.code yX0_bringToPlan cX0_bringToPlan 3 (some .boolean), Cond.methodLink RX0 136 yX0_putCell, Cond.instanceMethod yX0_putCell, Cond.selects RX0 yX0_putCell yX0_putCell, Cond.code yX0_putCell cX0_putCell 3 (some .boolean), Cond.fieldLink RX0 89 "HashedStore" "writesUntilCrash" "I", Cond.fieldLink RX0 95 "HashedStore" "writeCount" "I", Cond.methodLink RX0 73 yX0_turnTo, Cond.instanceMethod yX0_turnTo, Cond.selects RX0 yX0_turnTo yX0_turnTo, Cond.code yX0_turnTo cX0_turnTo 3 none]
def wsX0_write : List Cond := .code yX0_write cX0_write 5 (some .int) :: ((wsX0_write_r1 ++ (wsX0_write_r2 ++ (wsX0_write_r3 ++ wsX0_write_r4))) ++ wsX00)
def wsX0_read_r1 : List Cond := [Cond.fieldLink RX0 48 "HashedStore" "isDown" "Z", Cond.fieldLink RX0 34 "HashedStore" "disk" "[I", Cond.fieldLink RX0 60 "HashedStore" "areaInUse" "I", Cond.methodLink RX0 44 yX0_hasWord, Cond.instanceMethod yX0_hasWord, Cond.selects RX0 yX0_hasWord yX0_hasWord, Cond.initialized RX0, Cond.code yX0_hasWord cX0_hasWord 3 (some .boolean), Cond.fieldLink RX0 22 "HashedStore" "wordsPerBlock" "I", Cond.methodLink RX0 80 yX0_hasBlock, Cond.instanceMethod yX0_hasBlock, Cond.selects RX0 yX0_hasBlock yX0_hasBlock, Cond.code yX0_hasBlock cX0_hasBlock 2 (some .boolean), Cond.fieldLink RX0 25 "HashedStore" "blockCount" "I", Cond.methodLink RX0 52 yX0_isRight, Cond.instanceMethod yX0_isRight, Cond.selects RX0 yX0_isRight yX0_isRight, Cond.code yX0_isRight cX0_isRight 3 (some .boolean), Cond.fieldLink RX0 83 "HashedStore" "keptRoot" "I", Cond.methodLink RX0 63 yX0_areaStart, Cond.instanceMethod yX0_areaStart, Cond.selects RX0 yX0_areaStart yX0_areaStart, Cond.code yX0_areaStart cX0_areaStart 2 (some .int), Cond.fieldLink RX0 31 "HashedStore" "areaCells" "I"]
def wsX0_read_r2 : List Cond := [Cond.methodLink RX0 118 yX0_hasWordBelowZero, Cond.instanceMethod yX0_hasWordBelowZero, Cond.selects RX0 yX0_hasWordBelowZero yX0_hasWordBelowZero, Cond.code yX0_hasWordBelowZero cX0_hasWordBelowZero 4 (some .boolean), Cond.methodLink RX0 77 yX0_wordCell, Cond.instanceMethod yX0_wordCell, Cond.selects RX0 yX0_wordCell yX0_wordCell, Cond.code yX0_wordCell cX0_wordCell 3 (some .int), Cond.methodLink RX0 121 yX0_rootByWayOf, Cond.instanceMethod yX0_rootByWayOf, Cond.selects RX0 yX0_rootByWayOf yX0_rootByWayOf, Cond.code yX0_rootByWayOf cX0_rootByWayOf 8 (some .int), Cond.fieldLink RX0 18 "HashedStore" "treeDepth" "I", Cond.methodLink RX0 110 yX0_blockHash, Cond.instanceMethod yX0_blockHash, Cond.selects RX0 yX0_blockHash yX0_blockHash, Cond.code yX0_blockHash cX0_blockHash 6 (some .int), Cond.methodLink RX0 124 yX0_mix, Cond.static yX0_mix, Cond.code yX0_mix cX0_mix 3 (some .int), Cond.constant RX0 139 (739982445), Cond.constant RX0 140 (695872825), Cond.methodLink RX0 107 yX0_leafOf, Cond.instanceMethod yX0_leafOf]
def wsX0_read_r3 : List Cond := [Cond.selects RX0 yX0_leafOf yX0_leafOf, Cond.code yX0_leafOf cX0_leafOf 2 (some .int), Cond.methodLink RX0 70 yX0_nodeCell, Cond.instanceMethod yX0_nodeCell, Cond.selects RX0 yX0_nodeCell yX0_nodeCell, Cond.code yX0_nodeCell cX0_nodeCell 2 (some .int), Cond.fieldLink RX0 28 "HashedStore" "areaWords" "I"]
def wsX0_read : List Cond := .code yX0_read cX0_read 3 (some .int) :: ((wsX0_read_r1 ++ (wsX0_read_r2 ++ wsX0_read_r3)) ++ wsX00)
def wsX0_verify_r1 : List Cond := [Cond.fieldLink RX0 48 "HashedStore" "isDown" "Z", Cond.methodLink RX0 80 yX0_hasBlock, Cond.instanceMethod yX0_hasBlock, Cond.selects RX0 yX0_hasBlock yX0_hasBlock, Cond.initialized RX0, Cond.code yX0_hasBlock cX0_hasBlock 2 (some .boolean), Cond.fieldLink RX0 25 "HashedStore" "blockCount" "I", Cond.methodLink RX0 52 yX0_isRight, Cond.instanceMethod yX0_isRight, Cond.selects RX0 yX0_isRight yX0_isRight, Cond.code yX0_isRight cX0_isRight 3 (some .boolean), Cond.fieldLink RX0 60 "HashedStore" "areaInUse" "I", Cond.fieldLink RX0 83 "HashedStore" "keptRoot" "I", Cond.methodLink RX0 63 yX0_areaStart, Cond.instanceMethod yX0_areaStart, Cond.selects RX0 yX0_areaStart yX0_areaStart, Cond.code yX0_areaStart cX0_areaStart 2 (some .int), Cond.fieldLink RX0 31 "HashedStore" "areaCells" "I", Cond.methodLink RX0 118 yX0_hasWordBelowZero, Cond.instanceMethod yX0_hasWordBelowZero, Cond.selects RX0 yX0_hasWordBelowZero yX0_hasWordBelowZero, Cond.code yX0_hasWordBelowZero cX0_hasWordBelowZero 4 (some .boolean), Cond.fieldLink RX0 22 "HashedStore" "wordsPerBlock" "I", Cond.fieldLink RX0 34 "HashedStore" "disk" "[I"]
def wsX0_verify_r2 : List Cond := [Cond.methodLink RX0 77 yX0_wordCell, Cond.instanceMethod yX0_wordCell, Cond.selects RX0 yX0_wordCell yX0_wordCell, Cond.code yX0_wordCell cX0_wordCell 3 (some .int), Cond.methodLink RX0 121 yX0_rootByWayOf, Cond.instanceMethod yX0_rootByWayOf, Cond.selects RX0 yX0_rootByWayOf yX0_rootByWayOf, Cond.code yX0_rootByWayOf cX0_rootByWayOf 8 (some .int), Cond.fieldLink RX0 18 "HashedStore" "treeDepth" "I", Cond.methodLink RX0 110 yX0_blockHash, Cond.instanceMethod yX0_blockHash, Cond.selects RX0 yX0_blockHash yX0_blockHash, Cond.code yX0_blockHash cX0_blockHash 6 (some .int), Cond.methodLink RX0 124 yX0_mix, Cond.static yX0_mix, Cond.code yX0_mix cX0_mix 3 (some .int), Cond.constant RX0 139 (739982445), Cond.constant RX0 140 (695872825), Cond.methodLink RX0 107 yX0_leafOf, Cond.instanceMethod yX0_leafOf, Cond.selects RX0 yX0_leafOf yX0_leafOf, Cond.code yX0_leafOf cX0_leafOf 2 (some .int), Cond.methodLink RX0 70 yX0_nodeCell, Cond.instanceMethod yX0_nodeCell]
def wsX0_verify_r3 : List Cond := [Cond.selects RX0 yX0_nodeCell yX0_nodeCell, Cond.code yX0_nodeCell cX0_nodeCell 2 (some .int), Cond.fieldLink RX0 28 "HashedStore" "areaWords" "I"]
def wsX0_verify : List Cond := .code yX0_verify cX0_verify 2 (some .boolean) :: ((wsX0_verify_r1 ++ (wsX0_verify_r2 ++ wsX0_verify_r3)) ++ wsX00)
def wsX0_root : List Cond := .code yX0_root cX0_root 1 (some .int) :: ([.fieldLink RX0 83 "HashedStore" "keptRoot" "I"] ++ wsX00)
def wsX0_audit_r1 : List Cond := [Cond.fieldLink RX0 48 "HashedStore" "isDown" "Z", Cond.fieldLink RX0 25 "HashedStore" "blockCount" "I", Cond.methodLink RX0 52 yX0_isRight, Cond.instanceMethod yX0_isRight, Cond.selects RX0 yX0_isRight yX0_isRight, Cond.initialized RX0, Cond.code yX0_isRight cX0_isRight 3 (some .boolean), Cond.fieldLink RX0 60 "HashedStore" "areaInUse" "I", Cond.fieldLink RX0 83 "HashedStore" "keptRoot" "I", Cond.methodLink RX0 63 yX0_areaStart, Cond.instanceMethod yX0_areaStart, Cond.selects RX0 yX0_areaStart yX0_areaStart, Cond.code yX0_areaStart cX0_areaStart 2 (some .int), Cond.fieldLink RX0 31 "HashedStore" "areaCells" "I", Cond.methodLink RX0 118 yX0_hasWordBelowZero, Cond.instanceMethod yX0_hasWordBelowZero, Cond.selects RX0 yX0_hasWordBelowZero yX0_hasWordBelowZero, Cond.code yX0_hasWordBelowZero cX0_hasWordBelowZero 4 (some .boolean), Cond.fieldLink RX0 22 "HashedStore" "wordsPerBlock" "I", Cond.fieldLink RX0 34 "HashedStore" "disk" "[I", Cond.methodLink RX0 77 yX0_wordCell, Cond.instanceMethod yX0_wordCell, Cond.selects RX0 yX0_wordCell yX0_wordCell, Cond.code yX0_wordCell cX0_wordCell 3 (some .int)]
def wsX0_audit_r2 : List Cond := [Cond.methodLink RX0 121 yX0_rootByWayOf, Cond.instanceMethod yX0_rootByWayOf, Cond.selects RX0 yX0_rootByWayOf yX0_rootByWayOf, Cond.code yX0_rootByWayOf cX0_rootByWayOf 8 (some .int), Cond.fieldLink RX0 18 "HashedStore" "treeDepth" "I", Cond.methodLink RX0 110 yX0_blockHash, Cond.instanceMethod yX0_blockHash, Cond.selects RX0 yX0_blockHash yX0_blockHash, Cond.code yX0_blockHash cX0_blockHash 6 (some .int), Cond.methodLink RX0 124 yX0_mix, Cond.static yX0_mix, Cond.code yX0_mix cX0_mix 3 (some .int), Cond.constant RX0 139 (739982445), Cond.constant RX0 140 (695872825), Cond.methodLink RX0 107 yX0_leafOf, Cond.instanceMethod yX0_leafOf, Cond.selects RX0 yX0_leafOf yX0_leafOf, Cond.code yX0_leafOf cX0_leafOf 2 (some .int), Cond.methodLink RX0 70 yX0_nodeCell, Cond.instanceMethod yX0_nodeCell, Cond.selects RX0 yX0_nodeCell yX0_nodeCell, Cond.code yX0_nodeCell cX0_nodeCell 2 (some .int), Cond.fieldLink RX0 28 "HashedStore" "areaWords" "I"]
def wsX0_audit : List Cond := .code yX0_audit cX0_audit 2 (some .int) :: ((wsX0_audit_r1 ++ wsX0_audit_r2) ++ wsX00)
def wsX0_hasCell : List Cond := .code yX0_hasCell cX0_hasCell 2 (some .boolean) :: ([.fieldLink RX0 34 "HashedStore" "disk" "[I"] ++ wsX00)
def wsX0_tamper : List Cond := .code yX0_tamper cX0_tamper 3 none :: ([.fieldLink RX0 34 "HashedStore" "disk" "[I", .methodLink RX0 86 yX0_hasCell, .instanceMethod yX0_hasCell, .selects RX0 yX0_hasCell yX0_hasCell, .initialized RX0, .code yX0_hasCell cX0_hasCell 2 (some .boolean)] ++ wsX00)
def wsX0_crashAfter : List Cond := .code yX0_crashAfter cX0_crashAfter 2 none :: ([.fieldLink RX0 48 "HashedStore" "isDown" "Z", .fieldLink RX0 89 "HashedStore" "writesUntilCrash" "I"] ++ wsX00)
def wsX0_recover : List Cond := .code yX0_recover cX0_recover 3 (some .int) :: ([.fieldLink RX0 48 "HashedStore" "isDown" "Z", .fieldLink RX0 34 "HashedStore" "disk" "[I", .methodLink RX0 63 yX0_areaStart, .instanceMethod yX0_areaStart, .selects RX0 yX0_areaStart yX0_areaStart, .initialized RX0, .code yX0_areaStart cX0_areaStart 2 (some .int), .fieldLink RX0 31 "HashedStore" "areaCells" "I", .methodLink RX0 70 yX0_nodeCell, .instanceMethod yX0_nodeCell, .selects RX0 yX0_nodeCell yX0_nodeCell, .code yX0_nodeCell cX0_nodeCell 2 (some .int), .fieldLink RX0 28 "HashedStore" "areaWords" "I", .methodLink RX0 73 yX0_turnTo, .instanceMethod yX0_turnTo, .selects RX0 yX0_turnTo yX0_turnTo, .code yX0_turnTo cX0_turnTo 3 none, .fieldLink RX0 60 "HashedStore" "areaInUse" "I", .fieldLink RX0 83 "HashedStore" "keptRoot" "I", .methodLink RX0 92 yX0_comeUp, .instanceMethod yX0_comeUp, .selects RX0 yX0_comeUp yX0_comeUp, .code yX0_comeUp cX0_comeUp 1 none, .fieldLink RX0 89 "HashedStore" "writesUntilCrash" "I"] ++ wsX00)
def wsX0_cells : List Cond := .code yX0_cells cX0_cells 1 (some .int) :: ([.fieldLink RX0 34 "HashedStore" "disk" "[I"] ++ wsX00)
def wsX0_peek : List Cond := .code yX0_peek cX0_peek 2 (some .int) :: ([.fieldLink RX0 34 "HashedStore" "disk" "[I", .methodLink RX0 86 yX0_hasCell, .instanceMethod yX0_hasCell, .selects RX0 yX0_hasCell yX0_hasCell, .initialized RX0, .code yX0_hasCell cX0_hasCell 2 (some .boolean)] ++ wsX00)
def wsX0_writes : List Cond := .code yX0_writes cX0_writes 1 (some .int) :: ([.fieldLink RX0 95 "HashedStore" "writeCount" "I"] ++ wsX00)
def wsX0_slot : List Cond := .code yX0_slot cX0_slot 1 (some .int) :: ([.fieldLink RX0 60 "HashedStore" "areaInUse" "I"] ++ wsX00)
def wsX0_down : List Cond := .code yX0_down cX0_down 1 (some .boolean) :: ([.fieldLink RX0 48 "HashedStore" "isDown" "Z"] ++ wsX00)
def wsX1_node : List Cond := .code yX1_node cX1_node 2 (some .int) :: ([.fieldLink RX1 23 "HashedStoreModel" "blocks" "I", .fieldLink RX1 26 "HashedStoreModel" "words" "I"] ++ wsX10)
def wsX1_mix : List Cond := .code yX1_mix cX1_mix 3 (some .int) :: ([.constant RX1 36 (739982445), .constant RX1 37 (695872825)])
def wsX1_hash : List Cond := .code yX1_hash cX1_hash 4 (some .int) :: ([.fieldLink RX1 26 "HashedStoreModel" "words" "I", .fieldLink RX1 13 "HashedStoreModel" "goal" "[I", .methodLink RX1 38 yX1_mix, .static yX1_mix, .initialized RX1, .code yX1_mix cX1_mix 3 (some .int), .constant RX1 36 (739982445), .constant RX1 37 (695872825)] ++ wsX10)
def wsX1_format : List Cond := .code yX1_format cX1_format 2 (some .int) :: ([.fieldLink RX1 7 "HashedStoreModel" "disk" "[I", .fieldLink RX1 29 "HashedStoreModel" "size" "I", .fieldLink RX1 13 "HashedStoreModel" "goal" "[I", .fieldLink RX1 23 "HashedStoreModel" "blocks" "I", .fieldLink RX1 42 "HashedStoreModel" "used" "I", .fieldLink RX1 52 "HashedStoreModel" "kept" "I", .fieldLink RX1 55 "HashedStoreModel" "done" "I", .fieldLink RX1 16 "HashedStoreModel" "left" "I", .fieldLink RX1 58 "HashedStoreModel" "isDown" "Z", .methodLink RX1 45 yX1_node, .instanceMethod yX1_node, .selects RX1 yX1_node yX1_node, .initialized RX1, .code yX1_node cX1_node 2 (some .int), .fieldLink RX1 26 "HashedStoreModel" "words" "I", .methodLink RX1 49 yX1_hash, .instanceMethod yX1_hash, .selects RX1 yX1_hash yX1_hash, .code yX1_hash cX1_hash 4 (some .int), .methodLink RX1 38 yX1_mix, .static yX1_mix, .code yX1_mix cX1_mix 3 (some .int), .constant RX1 36 (739982445), .constant RX1 37 (695872825)] ++ wsX10)
def wsX1_init_r1 : List Cond := [Cond.methodLink RX1 1 objectInit, Cond.instanceMethod objectInit, Cond.code objectInit ⟨#[0xb1]⟩ 1 none, Cond.arrayClass .int, Cond.fieldLink RX1 7 "HashedStoreModel" "disk" "[I", Cond.fieldLink RX1 13 "HashedStoreModel" "goal" "[I", Cond.fieldLink RX1 16 "HashedStoreModel" "left" "I", Cond.fieldLink RX1 20 "HashedStoreModel" "depth" "I", Cond.fieldLink RX1 23 "HashedStoreModel" "blocks" "I", Cond.fieldLink RX1 26 "HashedStoreModel" "words" "I", Cond.fieldLink RX1 29 "HashedStoreModel" "size" "I", Cond.methodLink RX1 32 yX1_format, Cond.instanceMethod yX1_format, Cond.selects RX1 yX1_format yX1_format, Cond.initialized RX1, Cond.code yX1_format cX1_format 2 (some .int), Cond.fieldLink RX1 42 "HashedStoreModel" "used" "I", Cond.fieldLink RX1 52 "HashedStoreModel" "kept" "I", Cond.fieldLink RX1 55 "HashedStoreModel" "done" "I", Cond.fieldLink RX1 58 "HashedStoreModel" "isDown" "Z", Cond.methodLink RX1 45 yX1_node, Cond.instanceMethod yX1_node, Cond.selects RX1 yX1_node yX1_node, Cond.code yX1_node cX1_node 2 (some .int)]
def wsX1_init_r2 : List Cond := [Cond.methodLink RX1 49 yX1_hash, Cond.instanceMethod yX1_hash, Cond.selects RX1 yX1_hash yX1_hash, Cond.code yX1_hash cX1_hash 4 (some .int), Cond.methodLink RX1 38 yX1_mix, Cond.static yX1_mix, Cond.code yX1_mix cX1_mix 3 (some .int), Cond.constant RX1 36 (739982445), Cond.constant RX1 37 (695872825)]
def wsX1_init : List Cond := .code yX1_init cX1_init 4 none :: ((wsX1_init_r1 ++ wsX1_init_r2) ++ wsX10)
def wsX1_toGoal : List Cond := .code yX1_toGoal cX1_toGoal 2 none :: ([.fieldLink RX1 29 "HashedStoreModel" "size" "I", .fieldLink RX1 13 "HashedStoreModel" "goal" "[I", .fieldLink RX1 7 "HashedStoreModel" "disk" "[I", .fieldLink RX1 42 "HashedStoreModel" "used" "I"] ++ wsX10)
def wsX1_isBlock : List Cond := .code yX1_isBlock cX1_isBlock 2 (some .boolean) :: ([.fieldLink RX1 23 "HashedStoreModel" "blocks" "I"] ++ wsX10)
def wsX1_way : List Cond := .code yX1_way cX1_way 6 (some .int) :: ([.fieldLink RX1 23 "HashedStoreModel" "blocks" "I", .fieldLink RX1 13 "HashedStoreModel" "goal" "[I", .methodLink RX1 49 yX1_hash, .instanceMethod yX1_hash, .selects RX1 yX1_hash yX1_hash, .initialized RX1, .code yX1_hash cX1_hash 4 (some .int), .fieldLink RX1 26 "HashedStoreModel" "words" "I", .methodLink RX1 38 yX1_mix, .static yX1_mix, .code yX1_mix cX1_mix 3 (some .int), .constant RX1 36 (739982445), .constant RX1 37 (695872825), .methodLink RX1 45 yX1_node, .instanceMethod yX1_node, .selects RX1 yX1_node yX1_node, .code yX1_node cX1_node 2 (some .int)] ++ wsX10)
def wsX1_isRight_r1 : List Cond := [Cond.fieldLink RX1 26 "HashedStoreModel" "words" "I", Cond.fieldLink RX1 13 "HashedStoreModel" "goal" "[I", Cond.fieldLink RX1 52 "HashedStoreModel" "kept" "I", Cond.methodLink RX1 62 yX1_toGoal, Cond.instanceMethod yX1_toGoal, Cond.selects RX1 yX1_toGoal yX1_toGoal, Cond.initialized RX1, Cond.code yX1_toGoal cX1_toGoal 2 none, Cond.fieldLink RX1 29 "HashedStoreModel" "size" "I", Cond.fieldLink RX1 7 "HashedStoreModel" "disk" "[I", Cond.fieldLink RX1 42 "HashedStoreModel" "used" "I", Cond.methodLink RX1 65 yX1_way, Cond.instanceMethod yX1_way, Cond.selects RX1 yX1_way yX1_way, Cond.code yX1_way cX1_way 6 (some .int), Cond.fieldLink RX1 23 "HashedStoreModel" "blocks" "I", Cond.methodLink RX1 49 yX1_hash, Cond.instanceMethod yX1_hash, Cond.selects RX1 yX1_hash yX1_hash, Cond.code yX1_hash cX1_hash 4 (some .int), Cond.methodLink RX1 38 yX1_mix, Cond.static yX1_mix, Cond.code yX1_mix cX1_mix 3 (some .int), Cond.constant RX1 36 (739982445)]
def wsX1_isRight_r2 : List Cond := [Cond.constant RX1 37 (695872825), Cond.methodLink RX1 45 yX1_node, Cond.instanceMethod yX1_node, Cond.selects RX1 yX1_node yX1_node, Cond.code yX1_node cX1_node 2 (some .int)]
def wsX1_isRight : List Cond := .code yX1_isRight cX1_isRight 3 (some .boolean) :: ((wsX1_isRight_r1 ++ wsX1_isRight_r2) ++ wsX10)
def wsX1_put : List Cond := .code yX1_put cX1_put 3 (some .boolean) :: ([.fieldLink RX1 29 "HashedStoreModel" "size" "I", .fieldLink RX1 42 "HashedStoreModel" "used" "I", .fieldLink RX1 7 "HashedStoreModel" "disk" "[I", .fieldLink RX1 13 "HashedStoreModel" "goal" "[I", .fieldLink RX1 16 "HashedStoreModel" "left" "I", .fieldLink RX1 58 "HashedStoreModel" "isDown" "Z", .fieldLink RX1 55 "HashedStoreModel" "done" "I"] ++ wsX10)
def wsX1_write_r1 : List Cond := [Cond.fieldLink RX1 26 "HashedStoreModel" "words" "I", Cond.fieldLink RX1 58 "HashedStoreModel" "isDown" "Z", Cond.fieldLink RX1 13 "HashedStoreModel" "goal" "[I", Cond.fieldLink RX1 23 "HashedStoreModel" "blocks" "I", Cond.fieldLink RX1 42 "HashedStoreModel" "used" "I", Cond.fieldLink RX1 52 "HashedStoreModel" "kept" "I", Cond.methodLink RX1 69 yX1_isBlock, Cond.instanceMethod yX1_isBlock, Cond.selects RX1 yX1_isBlock yX1_isBlock, Cond.initialized RX1, Cond.code yX1_isBlock cX1_isBlock 2 (some .boolean), Cond.methodLink RX1 73 yX1_isRight, Cond.instanceMethod yX1_isRight, Cond.selects RX1 yX1_isRight yX1_isRight, Cond.code yX1_isRight cX1_isRight 3 (some .boolean), Cond.methodLink RX1 62 yX1_toGoal, Cond.instanceMethod yX1_toGoal, Cond.selects RX1 yX1_toGoal yX1_toGoal, Cond.code yX1_toGoal cX1_toGoal 2 none, Cond.fieldLink RX1 29 "HashedStoreModel" "size" "I", Cond.fieldLink RX1 7 "HashedStoreModel" "disk" "[I", Cond.methodLink RX1 65 yX1_way, Cond.instanceMethod yX1_way, Cond.selects RX1 yX1_way yX1_way]
def wsX1_write_r2 : List Cond := [Cond.code yX1_way cX1_way 6 (some .int), Cond.methodLink RX1 49 yX1_hash, Cond.instanceMethod yX1_hash, Cond.selects RX1 yX1_hash yX1_hash, Cond.code yX1_hash cX1_hash 4 (some .int), Cond.methodLink RX1 38 yX1_mix, Cond.static yX1_mix, Cond.code yX1_mix cX1_mix 3 (some .int), Cond.constant RX1 36 (739982445), Cond.constant RX1 37 (695872825), Cond.methodLink RX1 45 yX1_node, Cond.instanceMethod yX1_node, Cond.selects RX1 yX1_node yX1_node, Cond.code yX1_node cX1_node 2 (some .int), Cond.methodLink RX1 76 yX1_put, Cond.instanceMethod yX1_put, Cond.selects RX1 yX1_put yX1_put, Cond.code yX1_put cX1_put 3 (some .boolean), Cond.fieldLink RX1 16 "HashedStoreModel" "left" "I", Cond.fieldLink RX1 55 "HashedStoreModel" "done" "I"]
def wsX1_write : List Cond := .code yX1_write cX1_write 6 (some .int) :: ((wsX1_write_r1 ++ wsX1_write_r2) ++ wsX10)
def wsX1_read_r1 : List Cond := [Cond.fieldLink RX1 26 "HashedStoreModel" "words" "I", Cond.fieldLink RX1 58 "HashedStoreModel" "isDown" "Z", Cond.fieldLink RX1 13 "HashedStoreModel" "goal" "[I", Cond.methodLink RX1 69 yX1_isBlock, Cond.instanceMethod yX1_isBlock, Cond.selects RX1 yX1_isBlock yX1_isBlock, Cond.initialized RX1, Cond.code yX1_isBlock cX1_isBlock 2 (some .boolean), Cond.fieldLink RX1 23 "HashedStoreModel" "blocks" "I", Cond.methodLink RX1 73 yX1_isRight, Cond.instanceMethod yX1_isRight, Cond.selects RX1 yX1_isRight yX1_isRight, Cond.code yX1_isRight cX1_isRight 3 (some .boolean), Cond.fieldLink RX1 52 "HashedStoreModel" "kept" "I", Cond.methodLink RX1 62 yX1_toGoal, Cond.instanceMethod yX1_toGoal, Cond.selects RX1 yX1_toGoal yX1_toGoal, Cond.code yX1_toGoal cX1_toGoal 2 none, Cond.fieldLink RX1 29 "HashedStoreModel" "size" "I", Cond.fieldLink RX1 7 "HashedStoreModel" "disk" "[I", Cond.fieldLink RX1 42 "HashedStoreModel" "used" "I", Cond.methodLink RX1 65 yX1_way, Cond.instanceMethod yX1_way, Cond.selects RX1 yX1_way yX1_way]
def wsX1_read_r2 : List Cond := [Cond.code yX1_way cX1_way 6 (some .int), Cond.methodLink RX1 49 yX1_hash, Cond.instanceMethod yX1_hash, Cond.selects RX1 yX1_hash yX1_hash, Cond.code yX1_hash cX1_hash 4 (some .int), Cond.methodLink RX1 38 yX1_mix, Cond.static yX1_mix, Cond.code yX1_mix cX1_mix 3 (some .int), Cond.constant RX1 36 (739982445), Cond.constant RX1 37 (695872825), Cond.methodLink RX1 45 yX1_node, Cond.instanceMethod yX1_node, Cond.selects RX1 yX1_node yX1_node, Cond.code yX1_node cX1_node 2 (some .int)]
def wsX1_read : List Cond := .code yX1_read cX1_read 3 (some .int) :: ((wsX1_read_r1 ++ wsX1_read_r2) ++ wsX10)
def wsX1_verify_r1 : List Cond := [Cond.fieldLink RX1 58 "HashedStoreModel" "isDown" "Z", Cond.methodLink RX1 69 yX1_isBlock, Cond.instanceMethod yX1_isBlock, Cond.selects RX1 yX1_isBlock yX1_isBlock, Cond.initialized RX1, Cond.code yX1_isBlock cX1_isBlock 2 (some .boolean), Cond.fieldLink RX1 23 "HashedStoreModel" "blocks" "I", Cond.methodLink RX1 73 yX1_isRight, Cond.instanceMethod yX1_isRight, Cond.selects RX1 yX1_isRight yX1_isRight, Cond.code yX1_isRight cX1_isRight 3 (some .boolean), Cond.fieldLink RX1 26 "HashedStoreModel" "words" "I", Cond.fieldLink RX1 13 "HashedStoreModel" "goal" "[I", Cond.fieldLink RX1 52 "HashedStoreModel" "kept" "I", Cond.methodLink RX1 62 yX1_toGoal, Cond.instanceMethod yX1_toGoal, Cond.selects RX1 yX1_toGoal yX1_toGoal, Cond.code yX1_toGoal cX1_toGoal 2 none, Cond.fieldLink RX1 29 "HashedStoreModel" "size" "I", Cond.fieldLink RX1 7 "HashedStoreModel" "disk" "[I", Cond.fieldLink RX1 42 "HashedStoreModel" "used" "I", Cond.methodLink RX1 65 yX1_way, Cond.instanceMethod yX1_way, Cond.selects RX1 yX1_way yX1_way]
def wsX1_verify_r2 : List Cond := [Cond.code yX1_way cX1_way 6 (some .int), Cond.methodLink RX1 49 yX1_hash, Cond.instanceMethod yX1_hash, Cond.selects RX1 yX1_hash yX1_hash, Cond.code yX1_hash cX1_hash 4 (some .int), Cond.methodLink RX1 38 yX1_mix, Cond.static yX1_mix, Cond.code yX1_mix cX1_mix 3 (some .int), Cond.constant RX1 36 (739982445), Cond.constant RX1 37 (695872825), Cond.methodLink RX1 45 yX1_node, Cond.instanceMethod yX1_node, Cond.selects RX1 yX1_node yX1_node, Cond.code yX1_node cX1_node 2 (some .int)]
def wsX1_verify : List Cond := .code yX1_verify cX1_verify 2 (some .boolean) :: ((wsX1_verify_r1 ++ wsX1_verify_r2) ++ wsX10)
def wsX1_root : List Cond := .code yX1_root cX1_root 1 (some .int) :: ([.fieldLink RX1 52 "HashedStoreModel" "kept" "I"] ++ wsX10)
def wsX1_audit_r1 : List Cond := [Cond.fieldLink RX1 58 "HashedStoreModel" "isDown" "Z", Cond.fieldLink RX1 23 "HashedStoreModel" "blocks" "I", Cond.methodLink RX1 73 yX1_isRight, Cond.instanceMethod yX1_isRight, Cond.selects RX1 yX1_isRight yX1_isRight, Cond.initialized RX1, Cond.code yX1_isRight cX1_isRight 3 (some .boolean), Cond.fieldLink RX1 26 "HashedStoreModel" "words" "I", Cond.fieldLink RX1 13 "HashedStoreModel" "goal" "[I", Cond.fieldLink RX1 52 "HashedStoreModel" "kept" "I", Cond.methodLink RX1 62 yX1_toGoal, Cond.instanceMethod yX1_toGoal, Cond.selects RX1 yX1_toGoal yX1_toGoal, Cond.code yX1_toGoal cX1_toGoal 2 none, Cond.fieldLink RX1 29 "HashedStoreModel" "size" "I", Cond.fieldLink RX1 7 "HashedStoreModel" "disk" "[I", Cond.fieldLink RX1 42 "HashedStoreModel" "used" "I", Cond.methodLink RX1 65 yX1_way, Cond.instanceMethod yX1_way, Cond.selects RX1 yX1_way yX1_way, Cond.code yX1_way cX1_way 6 (some .int), Cond.methodLink RX1 49 yX1_hash, Cond.instanceMethod yX1_hash, Cond.selects RX1 yX1_hash yX1_hash]
def wsX1_audit_r2 : List Cond := [Cond.code yX1_hash cX1_hash 4 (some .int), Cond.methodLink RX1 38 yX1_mix, Cond.static yX1_mix, Cond.code yX1_mix cX1_mix 3 (some .int), Cond.constant RX1 36 (739982445), Cond.constant RX1 37 (695872825), Cond.methodLink RX1 45 yX1_node, Cond.instanceMethod yX1_node, Cond.selects RX1 yX1_node yX1_node, Cond.code yX1_node cX1_node 2 (some .int)]
def wsX1_audit : List Cond := .code yX1_audit cX1_audit 2 (some .int) :: ((wsX1_audit_r1 ++ wsX1_audit_r2) ++ wsX10)
def wsX1_tamper : List Cond := .code yX1_tamper cX1_tamper 3 none :: ([.fieldLink RX1 29 "HashedStoreModel" "size" "I", .fieldLink RX1 7 "HashedStoreModel" "disk" "[I"] ++ wsX10)
def wsX1_crashAfter : List Cond := .code yX1_crashAfter cX1_crashAfter 2 none :: ([.fieldLink RX1 58 "HashedStoreModel" "isDown" "Z", .fieldLink RX1 16 "HashedStoreModel" "left" "I"] ++ wsX10)
def wsX1_recover : List Cond := .code yX1_recover cX1_recover 3 (some .int) :: ([.fieldLink RX1 58 "HashedStoreModel" "isDown" "Z", .fieldLink RX1 7 "HashedStoreModel" "disk" "[I", .fieldLink RX1 29 "HashedStoreModel" "size" "I", .fieldLink RX1 42 "HashedStoreModel" "used" "I", .fieldLink RX1 52 "HashedStoreModel" "kept" "I", .fieldLink RX1 16 "HashedStoreModel" "left" "I", .methodLink RX1 45 yX1_node, .instanceMethod yX1_node, .selects RX1 yX1_node yX1_node, .initialized RX1, .code yX1_node cX1_node 2 (some .int), .fieldLink RX1 23 "HashedStoreModel" "blocks" "I", .fieldLink RX1 26 "HashedStoreModel" "words" "I"] ++ wsX10)
def wsX1_cells : List Cond := .code yX1_cells cX1_cells 1 (some .int) :: ([.fieldLink RX1 29 "HashedStoreModel" "size" "I"] ++ wsX10)
def wsX1_peek : List Cond := .code yX1_peek cX1_peek 2 (some .int) :: ([.fieldLink RX1 29 "HashedStoreModel" "size" "I", .fieldLink RX1 7 "HashedStoreModel" "disk" "[I"] ++ wsX10)
def wsX1_writes : List Cond := .code yX1_writes cX1_writes 1 (some .int) :: ([.fieldLink RX1 55 "HashedStoreModel" "done" "I"] ++ wsX10)
def wsX1_slot : List Cond := .code yX1_slot cX1_slot 1 (some .int) :: ([.fieldLink RX1 42 "HashedStoreModel" "used" "I"] ++ wsX10)
def wsX1_down : List Cond := .code yX1_down cX1_down 1 (some .boolean) :: ([.fieldLink RX1 58 "HashedStoreModel" "isDown" "Z"] ++ wsX10)
def wsJ9_max_7cf53 : List Cond := .code yJ9_max_7cf53 cJ9_max_7cf53 2 (some .int) :: ([])
def wsJ9_min_7cf53 : List Cond := .code yJ9_min_7cf53 cJ9_min_7cf53 2 (some .int) :: ([])
def wsL_cell : List Cond := .code yL_cell cL_cell 2 (some .int) :: ([])
def wsL_law_r1 : List Cond := [Cond.classLink RL 7 RX0, Cond.instantiable RX0 12, Cond.initialized RX0, Cond.classLink RL 18 RX1, Cond.instantiable RX1 11, Cond.initialized RX1, Cond.methodLink RL 9 yL_cell, Cond.static yL_cell, Cond.initialized RL, Cond.code yL_cell cL_cell 2 (some .int), Cond.methodLink RL 15 yX0_init, Cond.instanceMethod yX0_init, Cond.code yX0_init cX0_init 3 none, Cond.methodLink RX0 1 objectInit, Cond.instanceMethod objectInit, Cond.code objectInit ⟨#[0xb1]⟩ 1 none, Cond.methodLink RX0 9 Lib.Math.min.name, Cond.static Lib.Math.min.name, Cond.initialized "java/lang/Math", Cond.code Lib.Math.min.name Lib.Math.min.code 2 (some .int), Cond.methodLink RX0 15 Lib.Math.max.name, Cond.static Lib.Math.max.name, Cond.code Lib.Math.max.name Lib.Math.max.code 2 (some .int), Cond.fieldLink RX0 18 "HashedStore" "treeDepth" "I"]
def wsL_law_r2 : List Cond := [Cond.fieldLink RX0 22 "HashedStore" "wordsPerBlock" "I", Cond.fieldLink RX0 25 "HashedStore" "blockCount" "I", Cond.fieldLink RX0 28 "HashedStore" "areaWords" "I", Cond.fieldLink RX0 31 "HashedStore" "areaCells" "I", Cond.arrayClass .int, Cond.fieldLink RX0 34 "HashedStore" "disk" "[I", Cond.fieldLink RX0 38 "HashedStore" "plan" "[I", Cond.methodLink RX0 41 yX0_startAnew, Cond.instanceMethod yX0_startAnew, Cond.selects RX0 yX0_startAnew yX0_startAnew, Cond.code yX0_startAnew cX0_startAnew 1 none, Cond.fieldLink RX0 95 "HashedStore" "writeCount" "I", Cond.methodLink RX0 98 yJ7_fill_53178, Cond.static yJ7_fill_53178, Cond.initialized RJ7, Cond.code yJ7_fill_53178 cJ7_fill_53178 4 none, Cond.methodLink RX0 104 yX0_makeAllNodesOfFirstArea, Cond.instanceMethod yX0_makeAllNodesOfFirstArea, Cond.selects RX0 yX0_makeAllNodesOfFirstArea yX0_makeAllNodesOfFirstArea, Cond.code yX0_makeAllNodesOfFirstArea cX0_makeAllNodesOfFirstArea 2 none, Cond.methodLink RX0 107 yX0_leafOf, Cond.instanceMethod yX0_leafOf, Cond.selects RX0 yX0_leafOf yX0_leafOf, Cond.code yX0_leafOf cX0_leafOf 2 (some .int)]
def wsL_law_r3 : List Cond := [Cond.methodLink RX0 70 yX0_nodeCell, Cond.instanceMethod yX0_nodeCell, Cond.selects RX0 yX0_nodeCell yX0_nodeCell, Cond.code yX0_nodeCell cX0_nodeCell 2 (some .int), Cond.methodLink RX0 110 yX0_blockHash, Cond.instanceMethod yX0_blockHash, Cond.selects RX0 yX0_blockHash yX0_blockHash, Cond.code yX0_blockHash cX0_blockHash 6 (some .int), Cond.methodLink RX0 77 yX0_wordCell, Cond.instanceMethod yX0_wordCell, Cond.selects RX0 yX0_wordCell yX0_wordCell, Cond.code yX0_wordCell cX0_wordCell 3 (some .int), Cond.methodLink RX0 124 yX0_mix, Cond.static yX0_mix, Cond.code yX0_mix cX0_mix 3 (some .int), Cond.constant RX0 139 (739982445), Cond.constant RX0 140 (695872825), Cond.methodLink RX0 114 yX0_hashOfSons, Cond.instanceMethod yX0_hashOfSons, Cond.selects RX0 yX0_hashOfSons yX0_hashOfSons, Cond.code yX0_hashOfSons cX0_hashOfSons 3 (some .int), Cond.methodLink RX0 73 yX0_turnTo, Cond.instanceMethod yX0_turnTo, Cond.selects RX0 yX0_turnTo yX0_turnTo]
def wsL_law_r4 : List Cond := [Cond.code yX0_turnTo cX0_turnTo 3 none, Cond.fieldLink RX0 60 "HashedStore" "areaInUse" "I", Cond.fieldLink RX0 83 "HashedStore" "keptRoot" "I", Cond.methodLink RX0 92 yX0_comeUp, Cond.instanceMethod yX0_comeUp, Cond.selects RX0 yX0_comeUp yX0_comeUp, Cond.code yX0_comeUp cX0_comeUp 1 none, Cond.fieldLink RX0 48 "HashedStore" "isDown" "Z", Cond.fieldLink RX0 89 "HashedStore" "writesUntilCrash" "I", Cond.methodLink RL 20 yX1_init, Cond.instanceMethod yX1_init, Cond.code yX1_init cX1_init 4 none, Cond.methodLink RX1 1 objectInit, Cond.fieldLink RX1 7 "HashedStoreModel" "disk" "[I", Cond.fieldLink RX1 13 "HashedStoreModel" "goal" "[I", Cond.fieldLink RX1 16 "HashedStoreModel" "left" "I", Cond.fieldLink RX1 20 "HashedStoreModel" "depth" "I", Cond.fieldLink RX1 23 "HashedStoreModel" "blocks" "I", Cond.fieldLink RX1 26 "HashedStoreModel" "words" "I", Cond.fieldLink RX1 29 "HashedStoreModel" "size" "I", Cond.methodLink RX1 32 yX1_format, Cond.instanceMethod yX1_format, Cond.selects RX1 yX1_format yX1_format, Cond.code yX1_format cX1_format 2 (some .int)]
def wsL_law_r5 : List Cond := [Cond.fieldLink RX1 42 "HashedStoreModel" "used" "I", Cond.fieldLink RX1 52 "HashedStoreModel" "kept" "I", Cond.fieldLink RX1 55 "HashedStoreModel" "done" "I", Cond.fieldLink RX1 58 "HashedStoreModel" "isDown" "Z", Cond.methodLink RX1 45 yX1_node, Cond.instanceMethod yX1_node, Cond.selects RX1 yX1_node yX1_node, Cond.code yX1_node cX1_node 2 (some .int), Cond.methodLink RX1 49 yX1_hash, Cond.instanceMethod yX1_hash, Cond.selects RX1 yX1_hash yX1_hash, Cond.code yX1_hash cX1_hash 4 (some .int), Cond.methodLink RX1 38 yX1_mix, Cond.static yX1_mix, Cond.code yX1_mix cX1_mix 3 (some .int), Cond.constant RX1 36 (739982445), Cond.constant RX1 37 (695872825), Cond.methodLink RL 21 yX0_format, Cond.instanceMethod yX0_format, Cond.selects RX0 yX0_format yX0_format, Cond.code yX0_format cX0_format 1 (some .int), Cond.methodLink RL 25 yX1_format, Cond.methodLink RL 26 yX0_write, Cond.instanceMethod yX0_write]
def wsL_law_r6 : List Cond := [Cond.selects RX0 yX0_write yX0_write, Cond.code yX0_write cX0_write 5 (some .int), Cond.methodLink RX0 44 yX0_hasWord, Cond.instanceMethod yX0_hasWord, Cond.selects RX0 yX0_hasWord yX0_hasWord, Cond.code yX0_hasWord cX0_hasWord 3 (some .boolean), Cond.methodLink RX0 80 yX0_hasBlock, Cond.instanceMethod yX0_hasBlock, Cond.selects RX0 yX0_hasBlock yX0_hasBlock, Cond.code yX0_hasBlock cX0_hasBlock 2 (some .boolean), Cond.methodLink RX0 52 yX0_isRight, Cond.instanceMethod yX0_isRight, Cond.selects RX0 yX0_isRight yX0_isRight, Cond.code yX0_isRight cX0_isRight 3 (some .boolean), Cond.methodLink RX0 63 yX0_areaStart, Cond.instanceMethod yX0_areaStart, Cond.selects RX0 yX0_areaStart yX0_areaStart, Cond.code yX0_areaStart cX0_areaStart 2 (some .int), Cond.methodLink RX0 118 yX0_hasWordBelowZero, Cond.instanceMethod yX0_hasWordBelowZero, Cond.selects RX0 yX0_hasWordBelowZero yX0_hasWordBelowZero, Cond.code yX0_hasWordBelowZero cX0_hasWordBelowZero 4 (some .boolean), Cond.methodLink RX0 121 yX0_rootByWayOf, Cond.instanceMethod yX0_rootByWayOf]
def wsL_law_r7 : List Cond := [Cond.selects RX0 yX0_rootByWayOf yX0_rootByWayOf, Cond.code yX0_rootByWayOf cX0_rootByWayOf 8 (some .int), Cond.methodLink RX0 56 yX0_planWord, Cond.instanceMethod yX0_planWord, Cond.selects RX0 yX0_planWord yX0_planWord, Cond.code yX0_planWord cX0_planWord 6 none, Cond.methodLink RX0 127 arraycopyName, Cond.native arraycopyName, Cond.static arraycopyName, Cond.initialized "java/lang/System", Cond.methodLink RX0 67 yX0_carryOutPlan, Cond.instanceMethod yX0_carryOutPlan, Cond.selects RX0 yX0_carryOutPlan yX0_carryOutPlan, Cond.code yX0_carryOutPlan cX0_carryOutPlan 3 (some .boolean), Cond.methodLink RX0 133 yX0_bringToPlan, Cond.instanceMethod yX0_bringToPlan, Cond.selects RX0 yX0_bringToPlan yX0_bringToPlan, Cond.code yX0_bringToPlan cX0_bringToPlan 3 (some .boolean), Cond.methodLink RX0 136 yX0_putCell, Cond.instanceMethod yX0_putCell, Cond.selects RX0 yX0_putCell yX0_putCell, Cond.code yX0_putCell cX0_putCell 3 (some .boolean), Cond.methodLink RL 30 yX1_write, Cond.instanceMethod yX1_write]
def wsL_law_r8 : List Cond := [Cond.selects RX1 yX1_write yX1_write, Cond.code yX1_write cX1_write 6 (some .int), Cond.methodLink RX1 69 yX1_isBlock, Cond.instanceMethod yX1_isBlock, Cond.selects RX1 yX1_isBlock yX1_isBlock, Cond.code yX1_isBlock cX1_isBlock 2 (some .boolean), Cond.methodLink RX1 73 yX1_isRight, Cond.instanceMethod yX1_isRight, Cond.selects RX1 yX1_isRight yX1_isRight, Cond.code yX1_isRight cX1_isRight 3 (some .boolean), Cond.methodLink RX1 62 yX1_toGoal, Cond.instanceMethod yX1_toGoal, Cond.selects RX1 yX1_toGoal yX1_toGoal, Cond.code yX1_toGoal cX1_toGoal 2 none, Cond.methodLink RX1 65 yX1_way, Cond.instanceMethod yX1_way, Cond.selects RX1 yX1_way yX1_way, Cond.code yX1_way cX1_way 6 (some .int), Cond.methodLink RX1 76 yX1_put, Cond.instanceMethod yX1_put, Cond.selects RX1 yX1_put yX1_put, Cond.code yX1_put cX1_put 3 (some .boolean), Cond.methodLink RL 31 yX0_read, Cond.instanceMethod yX0_read]
def wsL_law_r9 : List Cond := [Cond.selects RX0 yX0_read yX0_read, Cond.code yX0_read cX0_read 3 (some .int), Cond.methodLink RL 35 yX1_read, Cond.instanceMethod yX1_read, Cond.selects RX1 yX1_read yX1_read, Cond.code yX1_read cX1_read 3 (some .int), Cond.methodLink RL 36 yX0_verify, Cond.instanceMethod yX0_verify, Cond.selects RX0 yX0_verify yX0_verify, Cond.code yX0_verify cX0_verify 2 (some .boolean), Cond.methodLink RL 40 yX1_verify, Cond.instanceMethod yX1_verify, Cond.selects RX1 yX1_verify yX1_verify, Cond.code yX1_verify cX1_verify 2 (some .boolean), Cond.methodLink RL 41 yX0_root, Cond.instanceMethod yX0_root, Cond.selects RX0 yX0_root yX0_root, Cond.code yX0_root cX0_root 1 (some .int), Cond.methodLink RL 44 yX1_root, Cond.instanceMethod yX1_root, Cond.selects RX1 yX1_root yX1_root, Cond.code yX1_root cX1_root 1 (some .int), Cond.methodLink RL 45 yX0_audit, Cond.instanceMethod yX0_audit]
def wsL_law_r10 : List Cond := [Cond.selects RX0 yX0_audit yX0_audit, Cond.code yX0_audit cX0_audit 2 (some .int), Cond.methodLink RL 48 yX1_audit, Cond.instanceMethod yX1_audit, Cond.selects RX1 yX1_audit yX1_audit, Cond.code yX1_audit cX1_audit 2 (some .int), Cond.methodLink RL 49 yX0_tamper, Cond.instanceMethod yX0_tamper, Cond.selects RX0 yX0_tamper yX0_tamper, Cond.code yX0_tamper cX0_tamper 3 none, Cond.methodLink RX0 86 yX0_hasCell, Cond.instanceMethod yX0_hasCell, Cond.selects RX0 yX0_hasCell yX0_hasCell, Cond.code yX0_hasCell cX0_hasCell 2 (some .boolean), Cond.methodLink RL 52 yX1_tamper, Cond.instanceMethod yX1_tamper, Cond.selects RX1 yX1_tamper yX1_tamper, Cond.code yX1_tamper cX1_tamper 3 none, Cond.methodLink RL 53 yX0_crashAfter, Cond.instanceMethod yX0_crashAfter, Cond.selects RX0 yX0_crashAfter yX0_crashAfter, Cond.code yX0_crashAfter cX0_crashAfter 2 none, Cond.methodLink RL 57 yX1_crashAfter, Cond.instanceMethod yX1_crashAfter]
def wsL_law_r11 : List Cond := [Cond.selects RX1 yX1_crashAfter yX1_crashAfter, Cond.code yX1_crashAfter cX1_crashAfter 2 none, Cond.methodLink RL 58 yX0_recover, Cond.instanceMethod yX0_recover, Cond.selects RX0 yX0_recover yX0_recover, Cond.code yX0_recover cX0_recover 3 (some .int), Cond.methodLink RL 62 yX1_recover, Cond.instanceMethod yX1_recover, Cond.selects RX1 yX1_recover yX1_recover, Cond.code yX1_recover cX1_recover 3 (some .int), Cond.methodLink RL 63 yX0_cells, Cond.instanceMethod yX0_cells, Cond.selects RX0 yX0_cells yX0_cells, Cond.code yX0_cells cX0_cells 1 (some .int), Cond.methodLink RL 66 yX1_cells, Cond.instanceMethod yX1_cells, Cond.selects RX1 yX1_cells yX1_cells, Cond.code yX1_cells cX1_cells 1 (some .int), Cond.methodLink RL 67 yX0_peek, Cond.instanceMethod yX0_peek, Cond.selects RX0 yX0_peek yX0_peek, Cond.code yX0_peek cX0_peek 2 (some .int), Cond.methodLink RL 70 yX1_peek, Cond.instanceMethod yX1_peek]
def wsL_law_r12 : List Cond := [Cond.selects RX1 yX1_peek yX1_peek, Cond.code yX1_peek cX1_peek 2 (some .int), Cond.methodLink RL 71 yX0_writes, Cond.instanceMethod yX0_writes, Cond.selects RX0 yX0_writes yX0_writes, Cond.code yX0_writes cX0_writes 1 (some .int), Cond.methodLink RL 74 yX1_writes, Cond.instanceMethod yX1_writes, Cond.selects RX1 yX1_writes yX1_writes, Cond.code yX1_writes cX1_writes 1 (some .int), Cond.methodLink RL 75 yX0_slot, Cond.instanceMethod yX0_slot, Cond.selects RX0 yX0_slot yX0_slot, Cond.code yX0_slot cX0_slot 1 (some .int), Cond.methodLink RL 78 yX1_slot, Cond.instanceMethod yX1_slot, Cond.selects RX1 yX1_slot yX1_slot, Cond.code yX1_slot cX1_slot 1 (some .int), Cond.methodLink RL 79 yX0_down, Cond.instanceMethod yX0_down, Cond.selects RX0 yX0_down yX0_down, Cond.code yX0_down cX0_down 1 (some .boolean), Cond.methodLink RL 83 yX1_down, Cond.instanceMethod yX1_down]
def wsL_law_r13 : List Cond := [Cond.selects RX1 yX1_down yX1_down, Cond.code yX1_down cX1_down 1 (some .boolean)]
def wsL_law : List Cond := (wsL_law_r1 ++ (wsL_law_r2 ++ (wsL_law_r3 ++ (wsL_law_r4 ++ (wsL_law_r5 ++ (wsL_law_r6 ++ (wsL_law_r7 ++ (wsL_law_r8 ++ (wsL_law_r9 ++ (wsL_law_r10 ++ (wsL_law_r11 ++ (wsL_law_r12 ++ wsL_law_r13)))))))))))) ++ wsX00 ++ wsX10 ++ ([] : List Cond)
set_option maxRecDepth 20000 in
theorem wsL_law_in : ∀ w ∈ wsL_law, w ∈ lw_tbl := fun w h => (goodIn_p wsL_law [234, 37, 40, 43, 46, 50, 53, 57, 61, 65, 69, 73, 76, 82, 86, 90, 239, 244, 248, 252, 255, 132, 136, 140, 144, 148, 152, 156, 160, 164, 171, 175, 179, 296, 300, 304, 308, 312, 316, 183, 320, 187, 324, 191, 328, 195, 332, 199, 203, 336, 207, 340, 211, 344, 215, 348, 219, 352, 223, 356, 227, 360, 231, 364] (by decide +kernel) (by decide +kernel) w h).1
theorem inlX0 : ∀ w ∈ wsX00, w ∈ wsL_law := fun _ h => List.mem_append_left _ (List.mem_append_left _ (List.mem_append_right _ h))
theorem inX0 : ∀ w ∈ wsX00, w ∈ lw_tbl := fun w h => wsL_law_in w (inlX0 w h)
theorem inlX1 : ∀ w ∈ wsX10, w ∈ wsL_law := fun _ h => List.mem_append_left _ (List.mem_append_right _ h)
theorem inX1 : ∀ w ∈ wsX10, w ∈ lw_tbl := fun w h => wsL_law_in w (inlX1 w h)
theorem inJ9 : ∀ w ∈ wsJ90, w ∈ lw_tbl := by decide +kernel
theorem inJ10 : ∀ w ∈ wsJ100, w ∈ lw_tbl := by decide +kernel
theorem inJ7 : ∀ w ∈ wsJ70, w ∈ lw_tbl := by decide +kernel
set_option maxRecDepth 20000 in
theorem ggX0_init_X0_startAnew : GoodIn wsX0_init wsX0_startAnew := goodIn_r _ [23, 17, 24, 25, 26, 27, 28, 29, 30, 31, 22, 32, 13, 33, 34, 35, 36, 37, 38, 39, 40, 14, 41, 42, 43, 44, 12, 45, 46, 47, 48, 49, 50, 51, 52, 53, 54, 55, 56, 57, 58, 59, 60, 61, 62, 63, 64, 65, 66, 67, 68, 69, 70, 71, 72, 73, 74, 75, 76, 77, 78, 79, 80, 81] (by decide +kernel) (by decide +kernel)
set_option maxRecDepth 20000 in
theorem gX0_init_X0_startAnew : GoodIn wsX0_init (wsV RX0 41 RX0 yX0_startAnew wsX0_startAnew) := goodIn_app (goodIn_of _ (by decide +kernel)) ggX0_init_X0_startAnew
theorem dX0_init_0 : decode cX0_init 0 = .ok (.aload_n 0, 1) := by decide +kernel
theorem dX0_init_1 : decode cX0_init 1 = .ok (.invokespecial 1, 3) := by decide +kernel
theorem dX0_init_4 : decode cX0_init 4 = .ok (.aload_n 0, 1) := by decide +kernel
theorem dX0_init_5 : decode cX0_init 5 = .ok (.iconst 0, 1) := by decide +kernel
theorem dX0_init_6 : decode cX0_init 6 = .ok (.iload_n 1, 1) := by decide +kernel
theorem dX0_init_7 : decode cX0_init 7 = .ok (.iconst 5, 1) := by decide +kernel
theorem dX0_init_8 : decode cX0_init 8 = .ok (.invokestatic 9, 3) := by decide +kernel
theorem dX0_init_11 : decode cX0_init 11 = .ok (.invokestatic 15, 3) := by decide +kernel
theorem dX0_init_14 : decode cX0_init 14 = .ok (.putfield 18, 3) := by decide +kernel
theorem dX0_init_17 : decode cX0_init 17 = .ok (.aload_n 0, 1) := by decide +kernel
theorem dX0_init_18 : decode cX0_init 18 = .ok (.iconst 1, 1) := by decide +kernel
theorem dX0_init_19 : decode cX0_init 19 = .ok (.iload_n 2, 1) := by decide +kernel
theorem dX0_init_20 : decode cX0_init 20 = .ok (.bipush 6, 2) := by decide +kernel
theorem dX0_init_22 : decode cX0_init 22 = .ok (.invokestatic 9, 3) := by decide +kernel
theorem dX0_init_25 : decode cX0_init 25 = .ok (.invokestatic 15, 3) := by decide +kernel
theorem dX0_init_28 : decode cX0_init 28 = .ok (.putfield 22, 3) := by decide +kernel
theorem dX0_init_31 : decode cX0_init 31 = .ok (.aload_n 0, 1) := by decide +kernel
theorem dX0_init_32 : decode cX0_init 32 = .ok (.iconst 1, 1) := by decide +kernel
theorem dX0_init_33 : decode cX0_init 33 = .ok (.aload_n 0, 1) := by decide +kernel
theorem dX0_init_34 : decode cX0_init 34 = .ok (.getfield 18, 3) := by decide +kernel
theorem dX0_init_37 : decode cX0_init 37 = .ok (.ishl, 1) := by decide +kernel
theorem dX0_init_38 : decode cX0_init 38 = .ok (.putfield 25, 3) := by decide +kernel
theorem dX0_init_41 : decode cX0_init 41 = .ok (.aload_n 0, 1) := by decide +kernel
theorem dX0_init_42 : decode cX0_init 42 = .ok (.aload_n 0, 1) := by decide +kernel
theorem dX0_init_43 : decode cX0_init 43 = .ok (.getfield 25, 3) := by decide +kernel
theorem dX0_init_46 : decode cX0_init 46 = .ok (.aload_n 0, 1) := by decide +kernel
theorem dX0_init_47 : decode cX0_init 47 = .ok (.getfield 22, 3) := by decide +kernel
theorem dX0_init_50 : decode cX0_init 50 = .ok (.imul, 1) := by decide +kernel
theorem dX0_init_51 : decode cX0_init 51 = .ok (.putfield 28, 3) := by decide +kernel
theorem dX0_init_54 : decode cX0_init 54 = .ok (.aload_n 0, 1) := by decide +kernel
theorem dX0_init_55 : decode cX0_init 55 = .ok (.aload_n 0, 1) := by decide +kernel
theorem dX0_init_56 : decode cX0_init 56 = .ok (.getfield 28, 3) := by decide +kernel
theorem dX0_init_59 : decode cX0_init 59 = .ok (.iconst 2, 1) := by decide +kernel
theorem dX0_init_60 : decode cX0_init 60 = .ok (.aload_n 0, 1) := by decide +kernel
theorem dX0_init_61 : decode cX0_init 61 = .ok (.getfield 25, 3) := by decide +kernel
theorem dX0_init_64 : decode cX0_init 64 = .ok (.imul, 1) := by decide +kernel
theorem dX0_init_65 : decode cX0_init 65 = .ok (.iadd, 1) := by decide +kernel
theorem dX0_init_66 : decode cX0_init 66 = .ok (.iconst 1, 1) := by decide +kernel
theorem dX0_init_67 : decode cX0_init 67 = .ok (.isub, 1) := by decide +kernel
theorem dX0_init_68 : decode cX0_init 68 = .ok (.putfield 31, 3) := by decide +kernel
theorem dX0_init_71 : decode cX0_init 71 = .ok (.aload_n 0, 1) := by decide +kernel
theorem dX0_init_72 : decode cX0_init 72 = .ok (.iconst 2, 1) := by decide +kernel
theorem dX0_init_73 : decode cX0_init 73 = .ok (.aload_n 0, 1) := by decide +kernel
theorem dX0_init_74 : decode cX0_init 74 = .ok (.getfield 31, 3) := by decide +kernel
theorem dX0_init_77 : decode cX0_init 77 = .ok (.imul, 1) := by decide +kernel
theorem dX0_init_78 : decode cX0_init 78 = .ok (.newarray .int, 2) := by decide +kernel
theorem dX0_init_80 : decode cX0_init 80 = .ok (.putfield 34, 3) := by decide +kernel
theorem dX0_init_83 : decode cX0_init 83 = .ok (.aload_n 0, 1) := by decide +kernel
theorem dX0_init_84 : decode cX0_init 84 = .ok (.aload_n 0, 1) := by decide +kernel
theorem dX0_init_85 : decode cX0_init 85 = .ok (.getfield 31, 3) := by decide +kernel
theorem dX0_init_88 : decode cX0_init 88 = .ok (.newarray .int, 2) := by decide +kernel
theorem dX0_init_90 : decode cX0_init 90 = .ok (.putfield 38, 3) := by decide +kernel
theorem dX0_init_93 : decode cX0_init 93 = .ok (.aload_n 0, 1) := by decide +kernel
theorem dX0_init_94 : decode cX0_init 94 = .ok (.invokevirtual 41, 3) := by decide +kernel
theorem dX0_init_97 : decode cX0_init 97 = .ok (.return_, 1) := by decide +kernel
set_option maxRecDepth 20000 in
theorem ggX0_format_X0_startAnew : GoodIn wsX0_format wsX0_startAnew := goodIn_r _ [5, 6, 7, 8, 9, 10, 11, 12, 13, 14, 4, 15, 16, 17, 18, 19, 20, 21, 22, 23, 24, 25, 26, 27, 28, 29, 30, 31, 32, 33, 34, 35, 36, 37, 38, 39, 40, 41, 42, 43, 44, 45, 46, 47, 48, 49, 50, 51, 52, 53, 54, 55, 56, 57, 58, 59, 60, 61, 62, 63, 64, 65, 66, 67] (by decide +kernel) (by decide +kernel)
set_option maxRecDepth 20000 in
theorem gX0_format_X0_startAnew : GoodIn wsX0_format (wsV RX0 41 RX0 yX0_startAnew wsX0_startAnew) := goodIn_app (goodIn_of _ (by decide +kernel)) ggX0_format_X0_startAnew
theorem dX0_format_0 : decode cX0_format 0 = .ok (.aload_n 0, 1) := by decide +kernel
theorem dX0_format_1 : decode cX0_format 1 = .ok (.invokevirtual 41, 3) := by decide +kernel
theorem dX0_format_4 : decode cX0_format 4 = .ok (.iconst 0, 1) := by decide +kernel
theorem dX0_format_5 : decode cX0_format 5 = .ok (.ireturn, 1) := by decide +kernel
set_option maxRecDepth 20000 in
theorem ggX0_write_X0_hasWord : GoodIn wsX0_write wsX0_hasWord := goodIn_r _ [8, 9, 10, 11, 12, 7, 13, 14, 87, 88, 89, 90, 91, 92, 93, 94, 95, 96, 97, 98] (by decide +kernel) (by decide +kernel)
set_option maxRecDepth 20000 in
theorem gX0_write_X0_hasWord : GoodIn wsX0_write (wsV RX0 44 RX0 yX0_hasWord wsX0_hasWord) := goodIn_app (goodIn_of _ (by decide +kernel)) ggX0_write_X0_hasWord
set_option maxRecDepth 20000 in
theorem ggX0_write_X0_isRight : GoodIn wsX0_write wsX0_isRight := goodIn_r _ [18, 2, 19, 20, 21, 22, 7, 23, 24, 25, 26, 27, 28, 9, 29, 30, 31, 32, 33, 34, 35, 36, 37, 38, 39, 40, 41, 42, 43, 44, 45, 46, 47, 48, 49, 50, 51, 14, 52, 53, 54, 55, 56, 87, 88, 89, 90, 91, 92, 93, 94, 95, 96, 97, 98] (by decide +kernel) (by decide +kernel)
set_option maxRecDepth 20000 in
theorem gX0_write_X0_isRight : GoodIn wsX0_write (wsV RX0 52 RX0 yX0_isRight wsX0_isRight) := goodIn_app (goodIn_of _ (by decide +kernel)) ggX0_write_X0_isRight
set_option maxRecDepth 20000 in
theorem ggX0_write_X0_planWord : GoodIn wsX0_write wsX0_planWord := goodIn_r _ [60, 29, 2, 3, 24, 61, 62, 63, 64, 38, 20, 21, 22, 7, 23, 30, 31, 32, 33, 9, 48, 49, 50, 51, 14, 52, 53, 54, 55, 56, 39, 40, 41, 42, 43, 44, 45, 46, 47, 65, 66, 67, 68, 87, 88, 89, 90, 91, 92, 93, 94, 95, 96, 97, 98] (by decide +kernel) (by decide +kernel)
set_option maxRecDepth 20000 in
theorem gX0_write_X0_planWord : GoodIn wsX0_write (wsV RX0 56 RX0 yX0_planWord wsX0_planWord) := goodIn_app (goodIn_of _ (by decide +kernel)) ggX0_write_X0_planWord
set_option maxRecDepth 20000 in
theorem ggX0_write_X0_areaStart : GoodIn wsX0_write wsX0_areaStart := goodIn_r _ [23, 24, 87, 88, 89, 90, 91, 92, 93, 94, 95, 96, 97, 98] (by decide +kernel) (by decide +kernel)
set_option maxRecDepth 20000 in
theorem gX0_write_X0_areaStart : GoodIn wsX0_write (wsV RX0 63 RX0 yX0_areaStart wsX0_areaStart) := goodIn_app (goodIn_of _ (by decide +kernel)) ggX0_write_X0_areaStart
set_option maxRecDepth 20000 in
theorem ggX0_write_X0_carryOutPlan : GoodIn wsX0_write wsX0_carryOutPlan := goodIn_r _ [72, 56, 24, 73, 74, 75, 7, 76, 29, 3, 77, 78, 79, 80, 81, 1, 82, 87, 88, 89, 90, 91, 92, 93, 94, 95, 96, 97, 98] (by decide +kernel) (by decide +kernel)
set_option maxRecDepth 20000 in
theorem gX0_write_X0_carryOutPlan : GoodIn wsX0_write (wsV RX0 67 RX0 yX0_carryOutPlan wsX0_carryOutPlan) := goodIn_app (goodIn_of _ (by decide +kernel)) ggX0_write_X0_carryOutPlan
set_option maxRecDepth 20000 in
theorem ggX0_write_X0_nodeCell : GoodIn wsX0_write wsX0_nodeCell := goodIn_r _ [55, 56, 87, 88, 89, 90, 91, 92, 93, 94, 95, 96, 97, 98] (by decide +kernel) (by decide +kernel)
set_option maxRecDepth 20000 in
theorem gX0_write_X0_nodeCell : GoodIn wsX0_write (wsV RX0 70 RX0 yX0_nodeCell wsX0_nodeCell) := goodIn_app (goodIn_of _ (by decide +kernel)) ggX0_write_X0_nodeCell
set_option maxRecDepth 20000 in
theorem ggX0_write_X0_turnTo : GoodIn wsX0_write wsX0_turnTo := goodIn_r _ [86, 2, 19, 87, 88, 89, 90, 91, 92, 93, 94, 95, 96, 97, 98] (by decide +kernel) (by decide +kernel)
set_option maxRecDepth 20000 in
theorem gX0_write_X0_turnTo : GoodIn wsX0_write (wsV RX0 73 RX0 yX0_turnTo wsX0_turnTo) := goodIn_app (goodIn_of _ (by decide +kernel)) ggX0_write_X0_turnTo
theorem dX0_write_0 : decode cX0_write 0 = .ok (.aload_n 0, 1) := by decide +kernel
theorem dX0_write_1 : decode cX0_write 1 = .ok (.iload_n 1, 1) := by decide +kernel
theorem dX0_write_2 : decode cX0_write 2 = .ok (.iload_n 2, 1) := by decide +kernel
theorem dX0_write_3 : decode cX0_write 3 = .ok (.invokevirtual 44, 3) := by decide +kernel
theorem dX0_write_6 : decode cX0_write 6 = .ok (.ifCond .eq 7, 3) := by decide +kernel
theorem dX0_write_9 : decode cX0_write 9 = .ok (.iload_n 3, 1) := by decide +kernel
theorem dX0_write_10 : decode cX0_write 10 = .ok (.ifCond .ge 6, 3) := by decide +kernel
theorem dX0_write_13 : decode cX0_write 13 = .ok (.bipush (-2), 2) := by decide +kernel
theorem dX0_write_15 : decode cX0_write 15 = .ok (.ireturn, 1) := by decide +kernel
theorem dX0_write_16 : decode cX0_write 16 = .ok (.aload_n 0, 1) := by decide +kernel
theorem dX0_write_17 : decode cX0_write 17 = .ok (.getfield 48, 3) := by decide +kernel
theorem dX0_write_20 : decode cX0_write 20 = .ok (.ifCond .eq 6, 3) := by decide +kernel
theorem dX0_write_23 : decode cX0_write 23 = .ok (.bipush (-4), 2) := by decide +kernel
theorem dX0_write_25 : decode cX0_write 25 = .ok (.ireturn, 1) := by decide +kernel
theorem dX0_write_26 : decode cX0_write 26 = .ok (.aload_n 0, 1) := by decide +kernel
theorem dX0_write_27 : decode cX0_write 27 = .ok (.iload_n 1, 1) := by decide +kernel
theorem dX0_write_28 : decode cX0_write 28 = .ok (.invokevirtual 52, 3) := by decide +kernel
theorem dX0_write_31 : decode cX0_write 31 = .ok (.ifCond .ne 6, 3) := by decide +kernel
theorem dX0_write_34 : decode cX0_write 34 = .ok (.bipush (-3), 2) := by decide +kernel
theorem dX0_write_36 : decode cX0_write 36 = .ok (.ireturn, 1) := by decide +kernel
theorem dX0_write_37 : decode cX0_write 37 = .ok (.aload_n 0, 1) := by decide +kernel
theorem dX0_write_38 : decode cX0_write 38 = .ok (.iload_n 1, 1) := by decide +kernel
theorem dX0_write_39 : decode cX0_write 39 = .ok (.iload_n 2, 1) := by decide +kernel
theorem dX0_write_40 : decode cX0_write 40 = .ok (.iload_n 3, 1) := by decide +kernel
theorem dX0_write_41 : decode cX0_write 41 = .ok (.invokevirtual 56, 3) := by decide +kernel
theorem dX0_write_44 : decode cX0_write 44 = .ok (.iconst 1, 1) := by decide +kernel
theorem dX0_write_45 : decode cX0_write 45 = .ok (.aload_n 0, 1) := by decide +kernel
theorem dX0_write_46 : decode cX0_write 46 = .ok (.getfield 60, 3) := by decide +kernel
theorem dX0_write_49 : decode cX0_write 49 = .ok (.isub, 1) := by decide +kernel
theorem dX0_write_50 : decode cX0_write 50 = .ok (.istore 4, 2) := by decide +kernel
theorem dX0_write_52 : decode cX0_write 52 = .ok (.aload_n 0, 1) := by decide +kernel
theorem dX0_write_53 : decode cX0_write 53 = .ok (.aload_n 0, 1) := by decide +kernel
theorem dX0_write_54 : decode cX0_write 54 = .ok (.iload 4, 2) := by decide +kernel
theorem dX0_write_56 : decode cX0_write 56 = .ok (.invokevirtual 63, 3) := by decide +kernel
theorem dX0_write_59 : decode cX0_write 59 = .ok (.invokevirtual 67, 3) := by decide +kernel
theorem dX0_write_62 : decode cX0_write 62 = .ok (.ifCond .ne 6, 3) := by decide +kernel
theorem dX0_write_65 : decode cX0_write 65 = .ok (.bipush (-4), 2) := by decide +kernel
theorem dX0_write_67 : decode cX0_write 67 = .ok (.ireturn, 1) := by decide +kernel
theorem dX0_write_68 : decode cX0_write 68 = .ok (.aload_n 0, 1) := by decide +kernel
theorem dX0_write_69 : decode cX0_write 69 = .ok (.iload 4, 2) := by decide +kernel
theorem dX0_write_71 : decode cX0_write 71 = .ok (.aload_n 0, 1) := by decide +kernel
theorem dX0_write_72 : decode cX0_write 72 = .ok (.getfield 38, 3) := by decide +kernel
theorem dX0_write_75 : decode cX0_write 75 = .ok (.aload_n 0, 1) := by decide +kernel
theorem dX0_write_76 : decode cX0_write 76 = .ok (.iconst 1, 1) := by decide +kernel
theorem dX0_write_77 : decode cX0_write 77 = .ok (.invokevirtual 70, 3) := by decide +kernel
theorem dX0_write_80 : decode cX0_write 80 = .ok (.iaload, 1) := by decide +kernel
theorem dX0_write_81 : decode cX0_write 81 = .ok (.invokevirtual 73, 3) := by decide +kernel
theorem dX0_write_84 : decode cX0_write 84 = .ok (.iconst 0, 1) := by decide +kernel
theorem dX0_write_85 : decode cX0_write 85 = .ok (.ireturn, 1) := by decide +kernel
set_option maxRecDepth 20000 in
theorem ggX0_read_X0_hasWord : GoodIn wsX0_read wsX0_hasWord := goodIn_r _ [8, 9, 10, 11, 12, 7, 13, 14, 56, 57, 58, 59, 60, 61, 62, 63, 64, 65, 66, 67] (by decide +kernel) (by decide +kernel)
set_option maxRecDepth 20000 in
theorem gX0_read_X0_hasWord : GoodIn wsX0_read (wsV RX0 44 RX0 yX0_hasWord wsX0_hasWord) := goodIn_app (goodIn_of _ (by decide +kernel)) ggX0_read_X0_hasWord
set_option maxRecDepth 20000 in
theorem ggX0_read_X0_isRight : GoodIn wsX0_read wsX0_isRight := goodIn_r _ [18, 3, 19, 20, 21, 22, 7, 23, 24, 25, 26, 27, 28, 9, 2, 29, 30, 31, 32, 33, 34, 35, 36, 37, 38, 39, 40, 41, 42, 43, 44, 45, 46, 47, 48, 49, 50, 14, 51, 52, 53, 54, 55, 56, 57, 58, 59, 60, 61, 62, 63, 64, 65, 66, 67] (by decide +kernel) (by decide +kernel)
set_option maxRecDepth 20000 in
theorem gX0_read_X0_isRight : GoodIn wsX0_read (wsV RX0 52 RX0 yX0_isRight wsX0_isRight) := goodIn_app (goodIn_of _ (by decide +kernel)) ggX0_read_X0_isRight
set_option maxRecDepth 20000 in
theorem ggX0_read_X0_areaStart : GoodIn wsX0_read wsX0_areaStart := goodIn_r _ [23, 24, 56, 57, 58, 59, 60, 61, 62, 63, 64, 65, 66, 67] (by decide +kernel) (by decide +kernel)
set_option maxRecDepth 20000 in
theorem gX0_read_X0_areaStart : GoodIn wsX0_read (wsV RX0 63 RX0 yX0_areaStart wsX0_areaStart) := goodIn_app (goodIn_of _ (by decide +kernel)) ggX0_read_X0_areaStart
set_option maxRecDepth 20000 in
theorem ggX0_read_X0_wordCell : GoodIn wsX0_read wsX0_wordCell := goodIn_r _ [32, 9, 56, 57, 58, 59, 60, 61, 62, 63, 64, 65, 66, 67] (by decide +kernel) (by decide +kernel)
set_option maxRecDepth 20000 in
theorem gX0_read_X0_wordCell : GoodIn wsX0_read (wsV RX0 77 RX0 yX0_wordCell wsX0_wordCell) := goodIn_app (goodIn_of _ (by decide +kernel)) ggX0_read_X0_wordCell
theorem dX0_read_0 : decode cX0_read 0 = .ok (.aload_n 0, 1) := by decide +kernel
theorem dX0_read_1 : decode cX0_read 1 = .ok (.iload_n 1, 1) := by decide +kernel
theorem dX0_read_2 : decode cX0_read 2 = .ok (.iload_n 2, 1) := by decide +kernel
theorem dX0_read_3 : decode cX0_read 3 = .ok (.invokevirtual 44, 3) := by decide +kernel
theorem dX0_read_6 : decode cX0_read 6 = .ok (.ifCond .ne 6, 3) := by decide +kernel
theorem dX0_read_9 : decode cX0_read 9 = .ok (.bipush (-2), 2) := by decide +kernel
theorem dX0_read_11 : decode cX0_read 11 = .ok (.ireturn, 1) := by decide +kernel
theorem dX0_read_12 : decode cX0_read 12 = .ok (.aload_n 0, 1) := by decide +kernel
theorem dX0_read_13 : decode cX0_read 13 = .ok (.getfield 48, 3) := by decide +kernel
theorem dX0_read_16 : decode cX0_read 16 = .ok (.ifCond .eq 6, 3) := by decide +kernel
theorem dX0_read_19 : decode cX0_read 19 = .ok (.bipush (-4), 2) := by decide +kernel
theorem dX0_read_21 : decode cX0_read 21 = .ok (.ireturn, 1) := by decide +kernel
theorem dX0_read_22 : decode cX0_read 22 = .ok (.aload_n 0, 1) := by decide +kernel
theorem dX0_read_23 : decode cX0_read 23 = .ok (.iload_n 1, 1) := by decide +kernel
theorem dX0_read_24 : decode cX0_read 24 = .ok (.invokevirtual 52, 3) := by decide +kernel
theorem dX0_read_27 : decode cX0_read 27 = .ok (.ifCond .ne 6, 3) := by decide +kernel
theorem dX0_read_30 : decode cX0_read 30 = .ok (.bipush (-3), 2) := by decide +kernel
theorem dX0_read_32 : decode cX0_read 32 = .ok (.ireturn, 1) := by decide +kernel
theorem dX0_read_33 : decode cX0_read 33 = .ok (.aload_n 0, 1) := by decide +kernel
theorem dX0_read_34 : decode cX0_read 34 = .ok (.getfield 34, 3) := by decide +kernel
theorem dX0_read_37 : decode cX0_read 37 = .ok (.aload_n 0, 1) := by decide +kernel
theorem dX0_read_38 : decode cX0_read 38 = .ok (.aload_n 0, 1) := by decide +kernel
theorem dX0_read_39 : decode cX0_read 39 = .ok (.getfield 60, 3) := by decide +kernel
theorem dX0_read_42 : decode cX0_read 42 = .ok (.invokevirtual 63, 3) := by decide +kernel
theorem dX0_read_45 : decode cX0_read 45 = .ok (.aload_n 0, 1) := by decide +kernel
theorem dX0_read_46 : decode cX0_read 46 = .ok (.iload_n 1, 1) := by decide +kernel
theorem dX0_read_47 : decode cX0_read 47 = .ok (.iload_n 2, 1) := by decide +kernel
theorem dX0_read_48 : decode cX0_read 48 = .ok (.invokevirtual 77, 3) := by decide +kernel
theorem dX0_read_51 : decode cX0_read 51 = .ok (.iadd, 1) := by decide +kernel
theorem dX0_read_52 : decode cX0_read 52 = .ok (.iaload, 1) := by decide +kernel
theorem dX0_read_53 : decode cX0_read 53 = .ok (.ireturn, 1) := by decide +kernel
set_option maxRecDepth 20000 in
theorem ggX0_verify_X0_hasBlock : GoodIn wsX0_verify wsX0_hasBlock := goodIn_r _ [6, 7, 52, 53, 54, 55, 56, 57, 58, 59, 60, 61, 62, 63] (by decide +kernel) (by decide +kernel)
set_option maxRecDepth 20000 in
theorem gX0_verify_X0_hasBlock : GoodIn wsX0_verify (wsV RX0 80 RX0 yX0_hasBlock wsX0_hasBlock) := goodIn_app (goodIn_of _ (by decide +kernel)) ggX0_verify_X0_hasBlock
set_option maxRecDepth 20000 in
theorem ggX0_verify_X0_isRight : GoodIn wsX0_verify wsX0_isRight := goodIn_r _ [11, 12, 13, 14, 15, 16, 5, 17, 18, 19, 20, 21, 22, 23, 24, 25, 26, 27, 28, 29, 30, 31, 32, 33, 34, 35, 36, 37, 38, 39, 40, 41, 42, 43, 44, 45, 46, 7, 47, 48, 49, 50, 51, 52, 53, 54, 55, 56, 57, 58, 59, 60, 61, 62, 63] (by decide +kernel) (by decide +kernel)
set_option maxRecDepth 20000 in
theorem gX0_verify_X0_isRight : GoodIn wsX0_verify (wsV RX0 52 RX0 yX0_isRight wsX0_isRight) := goodIn_app (goodIn_of _ (by decide +kernel)) ggX0_verify_X0_isRight
theorem dX0_verify_0 : decode cX0_verify 0 = .ok (.aload_n 0, 1) := by decide +kernel
theorem dX0_verify_1 : decode cX0_verify 1 = .ok (.iload_n 1, 1) := by decide +kernel
theorem dX0_verify_2 : decode cX0_verify 2 = .ok (.invokevirtual 80, 3) := by decide +kernel
theorem dX0_verify_5 : decode cX0_verify 5 = .ok (.ifCond .eq 22, 3) := by decide +kernel
theorem dX0_verify_8 : decode cX0_verify 8 = .ok (.aload_n 0, 1) := by decide +kernel
theorem dX0_verify_9 : decode cX0_verify 9 = .ok (.getfield 48, 3) := by decide +kernel
theorem dX0_verify_12 : decode cX0_verify 12 = .ok (.ifCond .ne 15, 3) := by decide +kernel
theorem dX0_verify_15 : decode cX0_verify 15 = .ok (.aload_n 0, 1) := by decide +kernel
theorem dX0_verify_16 : decode cX0_verify 16 = .ok (.iload_n 1, 1) := by decide +kernel
theorem dX0_verify_17 : decode cX0_verify 17 = .ok (.invokevirtual 52, 3) := by decide +kernel
theorem dX0_verify_20 : decode cX0_verify 20 = .ok (.ifCond .eq 7, 3) := by decide +kernel
theorem dX0_verify_23 : decode cX0_verify 23 = .ok (.iconst 1, 1) := by decide +kernel
theorem dX0_verify_24 : decode cX0_verify 24 = .ok (.goto 4, 3) := by decide +kernel
theorem dX0_verify_27 : decode cX0_verify 27 = .ok (.iconst 0, 1) := by decide +kernel
theorem dX0_verify_28 : decode cX0_verify 28 = .ok (.ireturn, 1) := by decide +kernel
theorem dX0_root_0 : decode cX0_root 0 = .ok (.aload_n 0, 1) := by decide +kernel
theorem dX0_root_1 : decode cX0_root 1 = .ok (.getfield 83, 3) := by decide +kernel
theorem dX0_root_4 : decode cX0_root 4 = .ok (.ireturn, 1) := by decide +kernel
set_option maxRecDepth 20000 in
theorem ggX0_audit_X0_isRight : GoodIn wsX0_audit wsX0_isRight := goodIn_r _ [7, 8, 9, 10, 11, 12, 6, 13, 14, 15, 16, 17, 18, 19, 20, 21, 22, 23, 24, 25, 26, 27, 28, 29, 30, 31, 32, 33, 34, 35, 36, 37, 38, 39, 40, 41, 42, 2, 43, 44, 45, 46, 47, 48, 49, 50, 51, 52, 53, 54, 55, 56, 57, 58, 59] (by decide +kernel) (by decide +kernel)
set_option maxRecDepth 20000 in
theorem gX0_audit_X0_isRight : GoodIn wsX0_audit (wsV RX0 52 RX0 yX0_isRight wsX0_isRight) := goodIn_app (goodIn_of _ (by decide +kernel)) ggX0_audit_X0_isRight
theorem dX0_audit_0 : decode cX0_audit 0 = .ok (.aload_n 0, 1) := by decide +kernel
theorem dX0_audit_1 : decode cX0_audit 1 = .ok (.getfield 48, 3) := by decide +kernel
theorem dX0_audit_4 : decode cX0_audit 4 = .ok (.ifCond .eq 6, 3) := by decide +kernel
theorem dX0_audit_7 : decode cX0_audit 7 = .ok (.bipush (-4), 2) := by decide +kernel
theorem dX0_audit_9 : decode cX0_audit 9 = .ok (.ireturn, 1) := by decide +kernel
theorem dX0_audit_10 : decode cX0_audit 10 = .ok (.iconst 0, 1) := by decide +kernel
theorem dX0_audit_11 : decode cX0_audit 11 = .ok (.istore_n 1, 1) := by decide +kernel
theorem dX0_audit_12 : decode cX0_audit 12 = .ok (.iload_n 1, 1) := by decide +kernel
theorem dX0_audit_13 : decode cX0_audit 13 = .ok (.aload_n 0, 1) := by decide +kernel
theorem dX0_audit_14 : decode cX0_audit 14 = .ok (.getfield 25, 3) := by decide +kernel
theorem dX0_audit_17 : decode cX0_audit 17 = .ok (.if_icmp .ge 19, 3) := by decide +kernel
theorem dX0_audit_20 : decode cX0_audit 20 = .ok (.aload_n 0, 1) := by decide +kernel
theorem dX0_audit_21 : decode cX0_audit 21 = .ok (.iload_n 1, 1) := by decide +kernel
theorem dX0_audit_22 : decode cX0_audit 22 = .ok (.invokevirtual 52, 3) := by decide +kernel
theorem dX0_audit_25 : decode cX0_audit 25 = .ok (.ifCond .ne 5, 3) := by decide +kernel
theorem dX0_audit_28 : decode cX0_audit 28 = .ok (.iload_n 1, 1) := by decide +kernel
theorem dX0_audit_29 : decode cX0_audit 29 = .ok (.ireturn, 1) := by decide +kernel
theorem dX0_audit_30 : decode cX0_audit 30 = .ok (.iinc 1 1, 3) := by decide +kernel
theorem dX0_audit_33 : decode cX0_audit 33 = .ok (.goto (-21), 3) := by decide +kernel
theorem dX0_audit_36 : decode cX0_audit 36 = .ok (.iconst (-1), 1) := by decide +kernel
theorem dX0_audit_37 : decode cX0_audit 37 = .ok (.ireturn, 1) := by decide +kernel
set_option maxRecDepth 20000 in
theorem ggX0_tamper_X0_hasCell : GoodIn wsX0_tamper wsX0_hasCell := goodIn_r _ [6, 1, 7, 8, 9, 10, 11, 12, 13, 14, 15, 16, 17, 18] (by decide +kernel) (by decide +kernel)
set_option maxRecDepth 20000 in
theorem gX0_tamper_X0_hasCell : GoodIn wsX0_tamper (wsV RX0 86 RX0 yX0_hasCell wsX0_hasCell) := goodIn_app (goodIn_of _ (by decide +kernel)) ggX0_tamper_X0_hasCell
theorem dX0_tamper_0 : decode cX0_tamper 0 = .ok (.aload_n 0, 1) := by decide +kernel
theorem dX0_tamper_1 : decode cX0_tamper 1 = .ok (.iload_n 1, 1) := by decide +kernel
theorem dX0_tamper_2 : decode cX0_tamper 2 = .ok (.invokevirtual 86, 3) := by decide +kernel
theorem dX0_tamper_5 : decode cX0_tamper 5 = .ok (.ifCond .eq 10, 3) := by decide +kernel
theorem dX0_tamper_8 : decode cX0_tamper 8 = .ok (.aload_n 0, 1) := by decide +kernel
theorem dX0_tamper_9 : decode cX0_tamper 9 = .ok (.getfield 34, 3) := by decide +kernel
theorem dX0_tamper_12 : decode cX0_tamper 12 = .ok (.iload_n 1, 1) := by decide +kernel
theorem dX0_tamper_13 : decode cX0_tamper 13 = .ok (.iload_n 2, 1) := by decide +kernel
theorem dX0_tamper_14 : decode cX0_tamper 14 = .ok (.iastore, 1) := by decide +kernel
theorem dX0_tamper_15 : decode cX0_tamper 15 = .ok (.return_, 1) := by decide +kernel
theorem dX0_crashAfter_0 : decode cX0_crashAfter 0 = .ok (.iload_n 1, 1) := by decide +kernel
theorem dX0_crashAfter_1 : decode cX0_crashAfter 1 = .ok (.ifCond .lt 15, 3) := by decide +kernel
theorem dX0_crashAfter_4 : decode cX0_crashAfter 4 = .ok (.aload_n 0, 1) := by decide +kernel
theorem dX0_crashAfter_5 : decode cX0_crashAfter 5 = .ok (.getfield 48, 3) := by decide +kernel
theorem dX0_crashAfter_8 : decode cX0_crashAfter 8 = .ok (.ifCond .ne 8, 3) := by decide +kernel
theorem dX0_crashAfter_11 : decode cX0_crashAfter 11 = .ok (.aload_n 0, 1) := by decide +kernel
theorem dX0_crashAfter_12 : decode cX0_crashAfter 12 = .ok (.iload_n 1, 1) := by decide +kernel
theorem dX0_crashAfter_13 : decode cX0_crashAfter 13 = .ok (.putfield 89, 3) := by decide +kernel
theorem dX0_crashAfter_16 : decode cX0_crashAfter 16 = .ok (.return_, 1) := by decide +kernel
set_option maxRecDepth 20000 in
theorem ggX0_recover_X0_areaStart : GoodIn wsX0_recover wsX0_areaStart := goodIn_r _ [7, 8, 25, 26, 27, 28, 29, 30, 31, 32, 33, 34, 35, 36] (by decide +kernel) (by decide +kernel)
set_option maxRecDepth 20000 in
theorem gX0_recover_X0_areaStart : GoodIn wsX0_recover (wsV RX0 63 RX0 yX0_areaStart wsX0_areaStart) := goodIn_app (goodIn_of _ (by decide +kernel)) ggX0_recover_X0_areaStart
set_option maxRecDepth 20000 in
theorem ggX0_recover_X0_nodeCell : GoodIn wsX0_recover wsX0_nodeCell := goodIn_r _ [12, 13, 25, 26, 27, 28, 29, 30, 31, 32, 33, 34, 35, 36] (by decide +kernel) (by decide +kernel)
set_option maxRecDepth 20000 in
theorem gX0_recover_X0_nodeCell : GoodIn wsX0_recover (wsV RX0 70 RX0 yX0_nodeCell wsX0_nodeCell) := goodIn_app (goodIn_of _ (by decide +kernel)) ggX0_recover_X0_nodeCell
set_option maxRecDepth 20000 in
theorem ggX0_recover_X0_turnTo : GoodIn wsX0_recover wsX0_turnTo := goodIn_r _ [17, 18, 19, 25, 26, 27, 28, 29, 30, 31, 32, 33, 34, 35, 36] (by decide +kernel) (by decide +kernel)
set_option maxRecDepth 20000 in
theorem gX0_recover_X0_turnTo : GoodIn wsX0_recover (wsV RX0 73 RX0 yX0_turnTo wsX0_turnTo) := goodIn_app (goodIn_of _ (by decide +kernel)) ggX0_recover_X0_turnTo
set_option maxRecDepth 20000 in
theorem ggX0_recover_X0_comeUp : GoodIn wsX0_recover wsX0_comeUp := goodIn_r _ [23, 1, 24, 25, 26, 27, 28, 29, 30, 31, 32, 33, 34, 35, 36] (by decide +kernel) (by decide +kernel)
set_option maxRecDepth 20000 in
theorem gX0_recover_X0_comeUp : GoodIn wsX0_recover (wsV RX0 92 RX0 yX0_comeUp wsX0_comeUp) := goodIn_app (goodIn_of _ (by decide +kernel)) ggX0_recover_X0_comeUp
theorem dX0_recover_0 : decode cX0_recover 0 = .ok (.aload_n 0, 1) := by decide +kernel
theorem dX0_recover_1 : decode cX0_recover 1 = .ok (.getfield 48, 3) := by decide +kernel
theorem dX0_recover_4 : decode cX0_recover 4 = .ok (.ifCond .ne 6, 3) := by decide +kernel
theorem dX0_recover_7 : decode cX0_recover 7 = .ok (.bipush (-2), 2) := by decide +kernel
theorem dX0_recover_9 : decode cX0_recover 9 = .ok (.ireturn, 1) := by decide +kernel
theorem dX0_recover_10 : decode cX0_recover 10 = .ok (.iconst 0, 1) := by decide +kernel
theorem dX0_recover_11 : decode cX0_recover 11 = .ok (.istore_n 2, 1) := by decide +kernel
theorem dX0_recover_12 : decode cX0_recover 12 = .ok (.iload_n 2, 1) := by decide +kernel
theorem dX0_recover_13 : decode cX0_recover 13 = .ok (.iconst 2, 1) := by decide +kernel
theorem dX0_recover_14 : decode cX0_recover 14 = .ok (.if_icmp .ge 41, 3) := by decide +kernel
theorem dX0_recover_17 : decode cX0_recover 17 = .ok (.aload_n 0, 1) := by decide +kernel
theorem dX0_recover_18 : decode cX0_recover 18 = .ok (.getfield 34, 3) := by decide +kernel
theorem dX0_recover_21 : decode cX0_recover 21 = .ok (.aload_n 0, 1) := by decide +kernel
theorem dX0_recover_22 : decode cX0_recover 22 = .ok (.iload_n 2, 1) := by decide +kernel
theorem dX0_recover_23 : decode cX0_recover 23 = .ok (.invokevirtual 63, 3) := by decide +kernel
theorem dX0_recover_26 : decode cX0_recover 26 = .ok (.aload_n 0, 1) := by decide +kernel
theorem dX0_recover_27 : decode cX0_recover 27 = .ok (.iconst 1, 1) := by decide +kernel
theorem dX0_recover_28 : decode cX0_recover 28 = .ok (.invokevirtual 70, 3) := by decide +kernel
theorem dX0_recover_31 : decode cX0_recover 31 = .ok (.iadd, 1) := by decide +kernel
theorem dX0_recover_32 : decode cX0_recover 32 = .ok (.iaload, 1) := by decide +kernel
theorem dX0_recover_33 : decode cX0_recover 33 = .ok (.iload_n 1, 1) := by decide +kernel
theorem dX0_recover_34 : decode cX0_recover 34 = .ok (.if_icmp .ne 15, 3) := by decide +kernel
theorem dX0_recover_37 : decode cX0_recover 37 = .ok (.aload_n 0, 1) := by decide +kernel
theorem dX0_recover_38 : decode cX0_recover 38 = .ok (.iload_n 2, 1) := by decide +kernel
theorem dX0_recover_39 : decode cX0_recover 39 = .ok (.iload_n 1, 1) := by decide +kernel
theorem dX0_recover_40 : decode cX0_recover 40 = .ok (.invokevirtual 73, 3) := by decide +kernel
theorem dX0_recover_43 : decode cX0_recover 43 = .ok (.aload_n 0, 1) := by decide +kernel
theorem dX0_recover_44 : decode cX0_recover 44 = .ok (.invokevirtual 92, 3) := by decide +kernel
theorem dX0_recover_47 : decode cX0_recover 47 = .ok (.iconst 0, 1) := by decide +kernel
theorem dX0_recover_48 : decode cX0_recover 48 = .ok (.ireturn, 1) := by decide +kernel
theorem dX0_recover_49 : decode cX0_recover 49 = .ok (.iinc 2 1, 3) := by decide +kernel
theorem dX0_recover_52 : decode cX0_recover 52 = .ok (.goto (-40), 3) := by decide +kernel
theorem dX0_recover_55 : decode cX0_recover 55 = .ok (.bipush (-5), 2) := by decide +kernel
theorem dX0_recover_57 : decode cX0_recover 57 = .ok (.ireturn, 1) := by decide +kernel
theorem dX0_cells_0 : decode cX0_cells 0 = .ok (.aload_n 0, 1) := by decide +kernel
theorem dX0_cells_1 : decode cX0_cells 1 = .ok (.getfield 34, 3) := by decide +kernel
theorem dX0_cells_4 : decode cX0_cells 4 = .ok (.arraylength, 1) := by decide +kernel
theorem dX0_cells_5 : decode cX0_cells 5 = .ok (.ireturn, 1) := by decide +kernel
set_option maxRecDepth 20000 in
theorem ggX0_peek_X0_hasCell : GoodIn wsX0_peek wsX0_hasCell := goodIn_r _ [6, 1, 7, 8, 9, 10, 11, 12, 13, 14, 15, 16, 17, 18] (by decide +kernel) (by decide +kernel)
set_option maxRecDepth 20000 in
theorem gX0_peek_X0_hasCell : GoodIn wsX0_peek (wsV RX0 86 RX0 yX0_hasCell wsX0_hasCell) := goodIn_app (goodIn_of _ (by decide +kernel)) ggX0_peek_X0_hasCell
theorem dX0_peek_0 : decode cX0_peek 0 = .ok (.aload_n 0, 1) := by decide +kernel
theorem dX0_peek_1 : decode cX0_peek 1 = .ok (.iload_n 1, 1) := by decide +kernel
theorem dX0_peek_2 : decode cX0_peek 2 = .ok (.invokevirtual 86, 3) := by decide +kernel
theorem dX0_peek_5 : decode cX0_peek 5 = .ok (.ifCond .eq 12, 3) := by decide +kernel
theorem dX0_peek_8 : decode cX0_peek 8 = .ok (.aload_n 0, 1) := by decide +kernel
theorem dX0_peek_9 : decode cX0_peek 9 = .ok (.getfield 34, 3) := by decide +kernel
theorem dX0_peek_12 : decode cX0_peek 12 = .ok (.iload_n 1, 1) := by decide +kernel
theorem dX0_peek_13 : decode cX0_peek 13 = .ok (.iaload, 1) := by decide +kernel
theorem dX0_peek_14 : decode cX0_peek 14 = .ok (.goto 4, 3) := by decide +kernel
theorem dX0_peek_17 : decode cX0_peek 17 = .ok (.iconst 0, 1) := by decide +kernel
theorem dX0_peek_18 : decode cX0_peek 18 = .ok (.ireturn, 1) := by decide +kernel
theorem dX0_writes_0 : decode cX0_writes 0 = .ok (.aload_n 0, 1) := by decide +kernel
theorem dX0_writes_1 : decode cX0_writes 1 = .ok (.getfield 95, 3) := by decide +kernel
theorem dX0_writes_4 : decode cX0_writes 4 = .ok (.ireturn, 1) := by decide +kernel
theorem dX0_slot_0 : decode cX0_slot 0 = .ok (.aload_n 0, 1) := by decide +kernel
theorem dX0_slot_1 : decode cX0_slot 1 = .ok (.getfield 60, 3) := by decide +kernel
theorem dX0_slot_4 : decode cX0_slot 4 = .ok (.ireturn, 1) := by decide +kernel
theorem dX0_down_0 : decode cX0_down 0 = .ok (.aload_n 0, 1) := by decide +kernel
theorem dX0_down_1 : decode cX0_down 1 = .ok (.getfield 48, 3) := by decide +kernel
theorem dX0_down_4 : decode cX0_down 4 = .ok (.ireturn, 1) := by decide +kernel
set_option maxRecDepth 20000 in
theorem ggX0_startAnew_J7_fill_53178 : GoodIn wsX0_startAnew wsJ7_fill_53178 := goodIn_r _ [6] (by decide +kernel) (by decide +kernel)
set_option maxRecDepth 20000 in
theorem gX0_startAnew_J7_fill_53178 : GoodIn wsX0_startAnew (va_wsS RX0 98 yJ7_fill_53178 wsJ7_fill_53178) := goodIn_app (goodIn_of _ (by decide +kernel)) ggX0_startAnew_J7_fill_53178
set_option maxRecDepth 20000 in
theorem ggX0_startAnew_X0_makeAllNodesOfFirstArea : GoodIn wsX0_startAnew wsX0_makeAllNodesOfFirstArea := goodIn_r _ [11, 12, 1, 13, 14, 15, 10, 16, 17, 18, 19, 20, 21, 22, 23, 24, 25, 26, 27, 28, 29, 30, 31, 32, 33, 34, 35, 36, 37, 38, 39, 52, 53, 54, 55, 56, 57, 58, 59, 60, 61, 62, 63] (by decide +kernel) (by decide +kernel)
set_option maxRecDepth 20000 in
theorem gX0_startAnew_X0_makeAllNodesOfFirstArea : GoodIn wsX0_startAnew (wsV RX0 104 RX0 yX0_makeAllNodesOfFirstArea wsX0_makeAllNodesOfFirstArea) := goodIn_app (goodIn_of _ (by decide +kernel)) ggX0_startAnew_X0_makeAllNodesOfFirstArea
set_option maxRecDepth 20000 in
theorem ggX0_startAnew_X0_nodeCell : GoodIn wsX0_startAnew wsX0_nodeCell := goodIn_r _ [20, 21, 52, 53, 54, 55, 56, 57, 58, 59, 60, 61, 62, 63] (by decide +kernel) (by decide +kernel)
set_option maxRecDepth 20000 in
theorem gX0_startAnew_X0_nodeCell : GoodIn wsX0_startAnew (wsV RX0 70 RX0 yX0_nodeCell wsX0_nodeCell) := goodIn_app (goodIn_of _ (by decide +kernel)) ggX0_startAnew_X0_nodeCell
set_option maxRecDepth 20000 in
theorem ggX0_startAnew_X0_turnTo : GoodIn wsX0_startAnew wsX0_turnTo := goodIn_r _ [43, 44, 45, 52, 53, 54, 55, 56, 57, 58, 59, 60, 61, 62, 63] (by decide +kernel) (by decide +kernel)
set_option maxRecDepth 20000 in
theorem gX0_startAnew_X0_turnTo : GoodIn wsX0_startAnew (wsV RX0 73 RX0 yX0_turnTo wsX0_turnTo) := goodIn_app (goodIn_of _ (by decide +kernel)) ggX0_startAnew_X0_turnTo
set_option maxRecDepth 20000 in
theorem ggX0_startAnew_X0_comeUp : GoodIn wsX0_startAnew wsX0_comeUp := goodIn_r _ [49, 50, 51, 52, 53, 54, 55, 56, 57, 58, 59, 60, 61, 62, 63] (by decide +kernel) (by decide +kernel)
set_option maxRecDepth 20000 in
theorem gX0_startAnew_X0_comeUp : GoodIn wsX0_startAnew (wsV RX0 92 RX0 yX0_comeUp wsX0_comeUp) := goodIn_app (goodIn_of _ (by decide +kernel)) ggX0_startAnew_X0_comeUp
theorem dX0_startAnew_0 : decode cX0_startAnew 0 = .ok (.aload_n 0, 1) := by decide +kernel
theorem dX0_startAnew_1 : decode cX0_startAnew 1 = .ok (.getfield 34, 3) := by decide +kernel
theorem dX0_startAnew_4 : decode cX0_startAnew 4 = .ok (.iconst 0, 1) := by decide +kernel
theorem dX0_startAnew_5 : decode cX0_startAnew 5 = .ok (.invokestatic 98, 3) := by decide +kernel
theorem dX0_startAnew_8 : decode cX0_startAnew 8 = .ok (.aload_n 0, 1) := by decide +kernel
theorem dX0_startAnew_9 : decode cX0_startAnew 9 = .ok (.invokevirtual 104, 3) := by decide +kernel
theorem dX0_startAnew_12 : decode cX0_startAnew 12 = .ok (.aload_n 0, 1) := by decide +kernel
theorem dX0_startAnew_13 : decode cX0_startAnew 13 = .ok (.iconst 0, 1) := by decide +kernel
theorem dX0_startAnew_14 : decode cX0_startAnew 14 = .ok (.aload_n 0, 1) := by decide +kernel
theorem dX0_startAnew_15 : decode cX0_startAnew 15 = .ok (.getfield 34, 3) := by decide +kernel
theorem dX0_startAnew_18 : decode cX0_startAnew 18 = .ok (.aload_n 0, 1) := by decide +kernel
theorem dX0_startAnew_19 : decode cX0_startAnew 19 = .ok (.iconst 1, 1) := by decide +kernel
theorem dX0_startAnew_20 : decode cX0_startAnew 20 = .ok (.invokevirtual 70, 3) := by decide +kernel
theorem dX0_startAnew_23 : decode cX0_startAnew 23 = .ok (.iaload, 1) := by decide +kernel
theorem dX0_startAnew_24 : decode cX0_startAnew 24 = .ok (.invokevirtual 73, 3) := by decide +kernel
theorem dX0_startAnew_27 : decode cX0_startAnew 27 = .ok (.aload_n 0, 1) := by decide +kernel
theorem dX0_startAnew_28 : decode cX0_startAnew 28 = .ok (.iconst 0, 1) := by decide +kernel
theorem dX0_startAnew_29 : decode cX0_startAnew 29 = .ok (.putfield 95, 3) := by decide +kernel
theorem dX0_startAnew_32 : decode cX0_startAnew 32 = .ok (.aload_n 0, 1) := by decide +kernel
theorem dX0_startAnew_33 : decode cX0_startAnew 33 = .ok (.invokevirtual 92, 3) := by decide +kernel
theorem dX0_startAnew_36 : decode cX0_startAnew 36 = .ok (.return_, 1) := by decide +kernel
set_option maxRecDepth 20000 in
theorem ggX0_makeAllNodesOfFirstArea_X0_leafOf : GoodIn wsX0_makeAllNodesOfFirstArea wsX0_leafOf := goodIn_r _ [7, 1, 31, 32, 33, 34, 35, 36, 37, 38, 39, 40, 41, 42] (by decide +kernel) (by decide +kernel)
set_option maxRecDepth 20000 in
theorem gX0_makeAllNodesOfFirstArea_X0_leafOf : GoodIn wsX0_makeAllNodesOfFirstArea (wsV RX0 107 RX0 yX0_leafOf wsX0_leafOf) := goodIn_app (goodIn_of _ (by decide +kernel)) ggX0_makeAllNodesOfFirstArea_X0_leafOf
set_option maxRecDepth 20000 in
theorem ggX0_makeAllNodesOfFirstArea_X0_nodeCell : GoodIn wsX0_makeAllNodesOfFirstArea wsX0_nodeCell := goodIn_r _ [11, 12, 31, 32, 33, 34, 35, 36, 37, 38, 39, 40, 41, 42] (by decide +kernel) (by decide +kernel)
set_option maxRecDepth 20000 in
theorem gX0_makeAllNodesOfFirstArea_X0_nodeCell : GoodIn wsX0_makeAllNodesOfFirstArea (wsV RX0 70 RX0 yX0_nodeCell wsX0_nodeCell) := goodIn_app (goodIn_of _ (by decide +kernel)) ggX0_makeAllNodesOfFirstArea_X0_nodeCell
set_option maxRecDepth 20000 in
theorem ggX0_makeAllNodesOfFirstArea_X0_blockHash : GoodIn wsX0_makeAllNodesOfFirstArea wsX0_blockHash := goodIn_r _ [16, 17, 18, 19, 20, 6, 21, 22, 23, 24, 25, 26, 31, 32, 33, 34, 35, 36, 37, 38, 39, 40, 41, 42] (by decide +kernel) (by decide +kernel)
set_option maxRecDepth 20000 in
theorem gX0_makeAllNodesOfFirstArea_X0_blockHash : GoodIn wsX0_makeAllNodesOfFirstArea (wsV RX0 110 RX0 yX0_blockHash wsX0_blockHash) := goodIn_app (goodIn_of _ (by decide +kernel)) ggX0_makeAllNodesOfFirstArea_X0_blockHash
set_option maxRecDepth 20000 in
theorem ggX0_makeAllNodesOfFirstArea_X0_hashOfSons : GoodIn wsX0_makeAllNodesOfFirstArea wsX0_hashOfSons := goodIn_r _ [30, 8, 9, 10, 6, 11, 12, 22, 23, 24, 25, 26, 31, 32, 33, 34, 35, 36, 37, 38, 39, 40, 41, 42] (by decide +kernel) (by decide +kernel)
set_option maxRecDepth 20000 in
theorem gX0_makeAllNodesOfFirstArea_X0_hashOfSons : GoodIn wsX0_makeAllNodesOfFirstArea (wsV RX0 114 RX0 yX0_hashOfSons wsX0_hashOfSons) := goodIn_app (goodIn_of _ (by decide +kernel)) ggX0_makeAllNodesOfFirstArea_X0_hashOfSons
theorem dX0_makeAllNodesOfFirstArea_0 : decode cX0_makeAllNodesOfFirstArea 0 = .ok (.iconst 0, 1) := by decide +kernel
theorem dX0_makeAllNodesOfFirstArea_1 : decode cX0_makeAllNodesOfFirstArea 1 = .ok (.istore_n 1, 1) := by decide +kernel
theorem dX0_makeAllNodesOfFirstArea_2 : decode cX0_makeAllNodesOfFirstArea 2 = .ok (.iload_n 1, 1) := by decide +kernel
theorem dX0_makeAllNodesOfFirstArea_3 : decode cX0_makeAllNodesOfFirstArea 3 = .ok (.aload_n 0, 1) := by decide +kernel
theorem dX0_makeAllNodesOfFirstArea_4 : decode cX0_makeAllNodesOfFirstArea 4 = .ok (.getfield 25, 3) := by decide +kernel
theorem dX0_makeAllNodesOfFirstArea_7 : decode cX0_makeAllNodesOfFirstArea 7 = .ok (.if_icmp .ge 33, 3) := by decide +kernel
theorem dX0_makeAllNodesOfFirstArea_10 : decode cX0_makeAllNodesOfFirstArea 10 = .ok (.aload_n 0, 1) := by decide +kernel
theorem dX0_makeAllNodesOfFirstArea_11 : decode cX0_makeAllNodesOfFirstArea 11 = .ok (.getfield 34, 3) := by decide +kernel
theorem dX0_makeAllNodesOfFirstArea_14 : decode cX0_makeAllNodesOfFirstArea 14 = .ok (.aload_n 0, 1) := by decide +kernel
theorem dX0_makeAllNodesOfFirstArea_15 : decode cX0_makeAllNodesOfFirstArea 15 = .ok (.aload_n 0, 1) := by decide +kernel
theorem dX0_makeAllNodesOfFirstArea_16 : decode cX0_makeAllNodesOfFirstArea 16 = .ok (.iload_n 1, 1) := by decide +kernel
theorem dX0_makeAllNodesOfFirstArea_17 : decode cX0_makeAllNodesOfFirstArea 17 = .ok (.invokevirtual 107, 3) := by decide +kernel
theorem dX0_makeAllNodesOfFirstArea_20 : decode cX0_makeAllNodesOfFirstArea 20 = .ok (.invokevirtual 70, 3) := by decide +kernel
theorem dX0_makeAllNodesOfFirstArea_23 : decode cX0_makeAllNodesOfFirstArea 23 = .ok (.aload_n 0, 1) := by decide +kernel
theorem dX0_makeAllNodesOfFirstArea_24 : decode cX0_makeAllNodesOfFirstArea 24 = .ok (.aload_n 0, 1) := by decide +kernel
theorem dX0_makeAllNodesOfFirstArea_25 : decode cX0_makeAllNodesOfFirstArea 25 = .ok (.getfield 34, 3) := by decide +kernel
theorem dX0_makeAllNodesOfFirstArea_28 : decode cX0_makeAllNodesOfFirstArea 28 = .ok (.iconst 0, 1) := by decide +kernel
theorem dX0_makeAllNodesOfFirstArea_29 : decode cX0_makeAllNodesOfFirstArea 29 = .ok (.iload_n 1, 1) := by decide +kernel
theorem dX0_makeAllNodesOfFirstArea_30 : decode cX0_makeAllNodesOfFirstArea 30 = .ok (.invokevirtual 110, 3) := by decide +kernel
theorem dX0_makeAllNodesOfFirstArea_33 : decode cX0_makeAllNodesOfFirstArea 33 = .ok (.iastore, 1) := by decide +kernel
theorem dX0_makeAllNodesOfFirstArea_34 : decode cX0_makeAllNodesOfFirstArea 34 = .ok (.iinc 1 1, 3) := by decide +kernel
theorem dX0_makeAllNodesOfFirstArea_37 : decode cX0_makeAllNodesOfFirstArea 37 = .ok (.goto (-35), 3) := by decide +kernel
theorem dX0_makeAllNodesOfFirstArea_40 : decode cX0_makeAllNodesOfFirstArea 40 = .ok (.aload_n 0, 1) := by decide +kernel
theorem dX0_makeAllNodesOfFirstArea_41 : decode cX0_makeAllNodesOfFirstArea 41 = .ok (.getfield 25, 3) := by decide +kernel
theorem dX0_makeAllNodesOfFirstArea_44 : decode cX0_makeAllNodesOfFirstArea 44 = .ok (.iconst 1, 1) := by decide +kernel
theorem dX0_makeAllNodesOfFirstArea_45 : decode cX0_makeAllNodesOfFirstArea 45 = .ok (.isub, 1) := by decide +kernel
theorem dX0_makeAllNodesOfFirstArea_46 : decode cX0_makeAllNodesOfFirstArea 46 = .ok (.istore_n 1, 1) := by decide +kernel
theorem dX0_makeAllNodesOfFirstArea_47 : decode cX0_makeAllNodesOfFirstArea 47 = .ok (.iload_n 1, 1) := by decide +kernel
theorem dX0_makeAllNodesOfFirstArea_48 : decode cX0_makeAllNodesOfFirstArea 48 = .ok (.iconst 1, 1) := by decide +kernel
theorem dX0_makeAllNodesOfFirstArea_49 : decode cX0_makeAllNodesOfFirstArea 49 = .ok (.if_icmp .lt 28, 3) := by decide +kernel
theorem dX0_makeAllNodesOfFirstArea_52 : decode cX0_makeAllNodesOfFirstArea 52 = .ok (.aload_n 0, 1) := by decide +kernel
theorem dX0_makeAllNodesOfFirstArea_53 : decode cX0_makeAllNodesOfFirstArea 53 = .ok (.getfield 34, 3) := by decide +kernel
theorem dX0_makeAllNodesOfFirstArea_56 : decode cX0_makeAllNodesOfFirstArea 56 = .ok (.aload_n 0, 1) := by decide +kernel
theorem dX0_makeAllNodesOfFirstArea_57 : decode cX0_makeAllNodesOfFirstArea 57 = .ok (.iload_n 1, 1) := by decide +kernel
theorem dX0_makeAllNodesOfFirstArea_58 : decode cX0_makeAllNodesOfFirstArea 58 = .ok (.invokevirtual 70, 3) := by decide +kernel
theorem dX0_makeAllNodesOfFirstArea_61 : decode cX0_makeAllNodesOfFirstArea 61 = .ok (.aload_n 0, 1) := by decide +kernel
theorem dX0_makeAllNodesOfFirstArea_62 : decode cX0_makeAllNodesOfFirstArea 62 = .ok (.aload_n 0, 1) := by decide +kernel
theorem dX0_makeAllNodesOfFirstArea_63 : decode cX0_makeAllNodesOfFirstArea 63 = .ok (.getfield 34, 3) := by decide +kernel
theorem dX0_makeAllNodesOfFirstArea_66 : decode cX0_makeAllNodesOfFirstArea 66 = .ok (.iload_n 1, 1) := by decide +kernel
theorem dX0_makeAllNodesOfFirstArea_67 : decode cX0_makeAllNodesOfFirstArea 67 = .ok (.invokevirtual 114, 3) := by decide +kernel
theorem dX0_makeAllNodesOfFirstArea_70 : decode cX0_makeAllNodesOfFirstArea 70 = .ok (.iastore, 1) := by decide +kernel
theorem dX0_makeAllNodesOfFirstArea_71 : decode cX0_makeAllNodesOfFirstArea 71 = .ok (.iinc 1 (-1), 3) := by decide +kernel
theorem dX0_makeAllNodesOfFirstArea_74 : decode cX0_makeAllNodesOfFirstArea 74 = .ok (.goto (-27), 3) := by decide +kernel
theorem dX0_makeAllNodesOfFirstArea_77 : decode cX0_makeAllNodesOfFirstArea 77 = .ok (.return_, 1) := by decide +kernel
theorem dX0_turnTo_0 : decode cX0_turnTo 0 = .ok (.aload_n 0, 1) := by decide +kernel
theorem dX0_turnTo_1 : decode cX0_turnTo 1 = .ok (.iload_n 1, 1) := by decide +kernel
theorem dX0_turnTo_2 : decode cX0_turnTo 2 = .ok (.putfield 60, 3) := by decide +kernel
theorem dX0_turnTo_5 : decode cX0_turnTo 5 = .ok (.aload_n 0, 1) := by decide +kernel
theorem dX0_turnTo_6 : decode cX0_turnTo 6 = .ok (.iload_n 2, 1) := by decide +kernel
theorem dX0_turnTo_7 : decode cX0_turnTo 7 = .ok (.putfield 83, 3) := by decide +kernel
theorem dX0_turnTo_10 : decode cX0_turnTo 10 = .ok (.return_, 1) := by decide +kernel
theorem dX0_comeUp_0 : decode cX0_comeUp 0 = .ok (.aload_n 0, 1) := by decide +kernel
theorem dX0_comeUp_1 : decode cX0_comeUp 1 = .ok (.iconst 0, 1) := by decide +kernel
theorem dX0_comeUp_2 : decode cX0_comeUp 2 = .ok (.putfield 48, 3) := by decide +kernel
theorem dX0_comeUp_5 : decode cX0_comeUp 5 = .ok (.aload_n 0, 1) := by decide +kernel
theorem dX0_comeUp_6 : decode cX0_comeUp 6 = .ok (.iconst (-1), 1) := by decide +kernel
theorem dX0_comeUp_7 : decode cX0_comeUp 7 = .ok (.putfield 89, 3) := by decide +kernel
theorem dX0_comeUp_10 : decode cX0_comeUp 10 = .ok (.return_, 1) := by decide +kernel
theorem dX0_hasBlock_0 : decode cX0_hasBlock 0 = .ok (.iload_n 1, 1) := by decide +kernel
theorem dX0_hasBlock_1 : decode cX0_hasBlock 1 = .ok (.ifCond .lt 15, 3) := by decide +kernel
theorem dX0_hasBlock_4 : decode cX0_hasBlock 4 = .ok (.iload_n 1, 1) := by decide +kernel
theorem dX0_hasBlock_5 : decode cX0_hasBlock 5 = .ok (.aload_n 0, 1) := by decide +kernel
theorem dX0_hasBlock_6 : decode cX0_hasBlock 6 = .ok (.getfield 25, 3) := by decide +kernel
theorem dX0_hasBlock_9 : decode cX0_hasBlock 9 = .ok (.if_icmp .ge 7, 3) := by decide +kernel
theorem dX0_hasBlock_12 : decode cX0_hasBlock 12 = .ok (.iconst 1, 1) := by decide +kernel
theorem dX0_hasBlock_13 : decode cX0_hasBlock 13 = .ok (.goto 4, 3) := by decide +kernel
theorem dX0_hasBlock_16 : decode cX0_hasBlock 16 = .ok (.iconst 0, 1) := by decide +kernel
theorem dX0_hasBlock_17 : decode cX0_hasBlock 17 = .ok (.ireturn, 1) := by decide +kernel
set_option maxRecDepth 20000 in
theorem ggX0_hasWord_X0_hasBlock : GoodIn wsX0_hasWord wsX0_hasBlock := goodIn_r _ [6, 7, 8, 9, 10, 11, 12, 13, 14, 15, 16, 17, 18, 19] (by decide +kernel) (by decide +kernel)
set_option maxRecDepth 20000 in
theorem gX0_hasWord_X0_hasBlock : GoodIn wsX0_hasWord (wsV RX0 80 RX0 yX0_hasBlock wsX0_hasBlock) := goodIn_app (goodIn_of _ (by decide +kernel)) ggX0_hasWord_X0_hasBlock
theorem dX0_hasWord_0 : decode cX0_hasWord 0 = .ok (.aload_n 0, 1) := by decide +kernel
theorem dX0_hasWord_1 : decode cX0_hasWord 1 = .ok (.iload_n 1, 1) := by decide +kernel
theorem dX0_hasWord_2 : decode cX0_hasWord 2 = .ok (.invokevirtual 80, 3) := by decide +kernel
theorem dX0_hasWord_5 : decode cX0_hasWord 5 = .ok (.ifCond .eq 19, 3) := by decide +kernel
theorem dX0_hasWord_8 : decode cX0_hasWord 8 = .ok (.iload_n 2, 1) := by decide +kernel
theorem dX0_hasWord_9 : decode cX0_hasWord 9 = .ok (.ifCond .lt 15, 3) := by decide +kernel
theorem dX0_hasWord_12 : decode cX0_hasWord 12 = .ok (.iload_n 2, 1) := by decide +kernel
theorem dX0_hasWord_13 : decode cX0_hasWord 13 = .ok (.aload_n 0, 1) := by decide +kernel
theorem dX0_hasWord_14 : decode cX0_hasWord 14 = .ok (.getfield 22, 3) := by decide +kernel
theorem dX0_hasWord_17 : decode cX0_hasWord 17 = .ok (.if_icmp .ge 7, 3) := by decide +kernel
theorem dX0_hasWord_20 : decode cX0_hasWord 20 = .ok (.iconst 1, 1) := by decide +kernel
theorem dX0_hasWord_21 : decode cX0_hasWord 21 = .ok (.goto 4, 3) := by decide +kernel
theorem dX0_hasWord_24 : decode cX0_hasWord 24 = .ok (.iconst 0, 1) := by decide +kernel
theorem dX0_hasWord_25 : decode cX0_hasWord 25 = .ok (.ireturn, 1) := by decide +kernel
theorem dX0_hasCell_0 : decode cX0_hasCell 0 = .ok (.iload_n 1, 1) := by decide +kernel
theorem dX0_hasCell_1 : decode cX0_hasCell 1 = .ok (.ifCond .lt 16, 3) := by decide +kernel
theorem dX0_hasCell_4 : decode cX0_hasCell 4 = .ok (.iload_n 1, 1) := by decide +kernel
theorem dX0_hasCell_5 : decode cX0_hasCell 5 = .ok (.aload_n 0, 1) := by decide +kernel
theorem dX0_hasCell_6 : decode cX0_hasCell 6 = .ok (.getfield 34, 3) := by decide +kernel
theorem dX0_hasCell_9 : decode cX0_hasCell 9 = .ok (.arraylength, 1) := by decide +kernel
theorem dX0_hasCell_10 : decode cX0_hasCell 10 = .ok (.if_icmp .ge 7, 3) := by decide +kernel
theorem dX0_hasCell_13 : decode cX0_hasCell 13 = .ok (.iconst 1, 1) := by decide +kernel
theorem dX0_hasCell_14 : decode cX0_hasCell 14 = .ok (.goto 4, 3) := by decide +kernel
theorem dX0_hasCell_17 : decode cX0_hasCell 17 = .ok (.iconst 0, 1) := by decide +kernel
theorem dX0_hasCell_18 : decode cX0_hasCell 18 = .ok (.ireturn, 1) := by decide +kernel
theorem dX0_areaStart_0 : decode cX0_areaStart 0 = .ok (.iload_n 1, 1) := by decide +kernel
theorem dX0_areaStart_1 : decode cX0_areaStart 1 = .ok (.aload_n 0, 1) := by decide +kernel
theorem dX0_areaStart_2 : decode cX0_areaStart 2 = .ok (.getfield 31, 3) := by decide +kernel
theorem dX0_areaStart_5 : decode cX0_areaStart 5 = .ok (.imul, 1) := by decide +kernel
theorem dX0_areaStart_6 : decode cX0_areaStart 6 = .ok (.ireturn, 1) := by decide +kernel
theorem dX0_wordCell_0 : decode cX0_wordCell 0 = .ok (.iload_n 1, 1) := by decide +kernel
theorem dX0_wordCell_1 : decode cX0_wordCell 1 = .ok (.aload_n 0, 1) := by decide +kernel
theorem dX0_wordCell_2 : decode cX0_wordCell 2 = .ok (.getfield 22, 3) := by decide +kernel
theorem dX0_wordCell_5 : decode cX0_wordCell 5 = .ok (.imul, 1) := by decide +kernel
theorem dX0_wordCell_6 : decode cX0_wordCell 6 = .ok (.iload_n 2, 1) := by decide +kernel
theorem dX0_wordCell_7 : decode cX0_wordCell 7 = .ok (.iadd, 1) := by decide +kernel
theorem dX0_wordCell_8 : decode cX0_wordCell 8 = .ok (.ireturn, 1) := by decide +kernel
theorem dX0_nodeCell_0 : decode cX0_nodeCell 0 = .ok (.aload_n 0, 1) := by decide +kernel
theorem dX0_nodeCell_1 : decode cX0_nodeCell 1 = .ok (.getfield 28, 3) := by decide +kernel
theorem dX0_nodeCell_4 : decode cX0_nodeCell 4 = .ok (.iload_n 1, 1) := by decide +kernel
theorem dX0_nodeCell_5 : decode cX0_nodeCell 5 = .ok (.iadd, 1) := by decide +kernel
theorem dX0_nodeCell_6 : decode cX0_nodeCell 6 = .ok (.iconst 1, 1) := by decide +kernel
theorem dX0_nodeCell_7 : decode cX0_nodeCell 7 = .ok (.isub, 1) := by decide +kernel
theorem dX0_nodeCell_8 : decode cX0_nodeCell 8 = .ok (.ireturn, 1) := by decide +kernel
theorem dX0_leafOf_0 : decode cX0_leafOf 0 = .ok (.aload_n 0, 1) := by decide +kernel
theorem dX0_leafOf_1 : decode cX0_leafOf 1 = .ok (.getfield 25, 3) := by decide +kernel
theorem dX0_leafOf_4 : decode cX0_leafOf 4 = .ok (.iload_n 1, 1) := by decide +kernel
theorem dX0_leafOf_5 : decode cX0_leafOf 5 = .ok (.iadd, 1) := by decide +kernel
theorem dX0_leafOf_6 : decode cX0_leafOf 6 = .ok (.ireturn, 1) := by decide +kernel
set_option maxRecDepth 20000 in
theorem ggX0_isRight_X0_areaStart : GoodIn wsX0_isRight wsX0_areaStart := goodIn_r _ [7, 8, 43, 44, 45, 46, 47, 48, 49, 50, 51, 52, 53, 54] (by decide +kernel) (by decide +kernel)
set_option maxRecDepth 20000 in
theorem gX0_isRight_X0_areaStart : GoodIn wsX0_isRight (wsV RX0 63 RX0 yX0_areaStart wsX0_areaStart) := goodIn_app (goodIn_of _ (by decide +kernel)) ggX0_isRight_X0_areaStart
set_option maxRecDepth 20000 in
theorem ggX0_isRight_X0_hasWordBelowZero : GoodIn wsX0_isRight wsX0_hasWordBelowZero := goodIn_r _ [12, 13, 14, 15, 16, 17, 6, 18, 43, 44, 45, 46, 47, 48, 49, 50, 51, 52, 53, 54] (by decide +kernel) (by decide +kernel)
set_option maxRecDepth 20000 in
theorem gX0_isRight_X0_hasWordBelowZero : GoodIn wsX0_isRight (wsV RX0 118 RX0 yX0_hasWordBelowZero wsX0_hasWordBelowZero) := goodIn_app (goodIn_of _ (by decide +kernel)) ggX0_isRight_X0_hasWordBelowZero
set_option maxRecDepth 20000 in
theorem ggX0_isRight_X0_rootByWayOf : GoodIn wsX0_isRight wsX0_rootByWayOf := goodIn_r _ [22, 14, 23, 24, 25, 26, 6, 27, 13, 15, 16, 17, 18, 28, 29, 30, 31, 32, 33, 34, 35, 36, 37, 38, 39, 40, 41, 42, 43, 44, 45, 46, 47, 48, 49, 50, 51, 52, 53, 54] (by decide +kernel) (by decide +kernel)
set_option maxRecDepth 20000 in
theorem gX0_isRight_X0_rootByWayOf : GoodIn wsX0_isRight (wsV RX0 121 RX0 yX0_rootByWayOf wsX0_rootByWayOf) := goodIn_app (goodIn_of _ (by decide +kernel)) ggX0_isRight_X0_rootByWayOf
theorem dX0_isRight_0 : decode cX0_isRight 0 = .ok (.aload_n 0, 1) := by decide +kernel
theorem dX0_isRight_1 : decode cX0_isRight 1 = .ok (.aload_n 0, 1) := by decide +kernel
theorem dX0_isRight_2 : decode cX0_isRight 2 = .ok (.getfield 60, 3) := by decide +kernel
theorem dX0_isRight_5 : decode cX0_isRight 5 = .ok (.invokevirtual 63, 3) := by decide +kernel
theorem dX0_isRight_8 : decode cX0_isRight 8 = .ok (.istore_n 2, 1) := by decide +kernel
theorem dX0_isRight_9 : decode cX0_isRight 9 = .ok (.aload_n 0, 1) := by decide +kernel
theorem dX0_isRight_10 : decode cX0_isRight 10 = .ok (.iload_n 2, 1) := by decide +kernel
theorem dX0_isRight_11 : decode cX0_isRight 11 = .ok (.iload_n 1, 1) := by decide +kernel
theorem dX0_isRight_12 : decode cX0_isRight 12 = .ok (.invokevirtual 118, 3) := by decide +kernel
theorem dX0_isRight_15 : decode cX0_isRight 15 = .ok (.ifCond .ne 20, 3) := by decide +kernel
theorem dX0_isRight_18 : decode cX0_isRight 18 = .ok (.aload_n 0, 1) := by decide +kernel
theorem dX0_isRight_19 : decode cX0_isRight 19 = .ok (.iload_n 2, 1) := by decide +kernel
theorem dX0_isRight_20 : decode cX0_isRight 20 = .ok (.iload_n 1, 1) := by decide +kernel
theorem dX0_isRight_21 : decode cX0_isRight 21 = .ok (.invokevirtual 121, 3) := by decide +kernel
theorem dX0_isRight_24 : decode cX0_isRight 24 = .ok (.aload_n 0, 1) := by decide +kernel
theorem dX0_isRight_25 : decode cX0_isRight 25 = .ok (.getfield 83, 3) := by decide +kernel
theorem dX0_isRight_28 : decode cX0_isRight 28 = .ok (.if_icmp .ne 7, 3) := by decide +kernel
theorem dX0_isRight_31 : decode cX0_isRight 31 = .ok (.iconst 1, 1) := by decide +kernel
theorem dX0_isRight_32 : decode cX0_isRight 32 = .ok (.goto 4, 3) := by decide +kernel
theorem dX0_isRight_35 : decode cX0_isRight 35 = .ok (.iconst 0, 1) := by decide +kernel
theorem dX0_isRight_36 : decode cX0_isRight 36 = .ok (.ireturn, 1) := by decide +kernel
set_option maxRecDepth 20000 in
theorem ggX0_hasWordBelowZero_X0_wordCell : GoodIn wsX0_hasWordBelowZero wsX0_wordCell := goodIn_r _ [7, 1, 8, 9, 10, 11, 12, 13, 14, 15, 16, 17, 18, 19] (by decide +kernel) (by decide +kernel)
set_option maxRecDepth 20000 in
theorem gX0_hasWordBelowZero_X0_wordCell : GoodIn wsX0_hasWordBelowZero (wsV RX0 77 RX0 yX0_wordCell wsX0_wordCell) := goodIn_app (goodIn_of _ (by decide +kernel)) ggX0_hasWordBelowZero_X0_wordCell
theorem dX0_hasWordBelowZero_0 : decode cX0_hasWordBelowZero 0 = .ok (.iconst 0, 1) := by decide +kernel
theorem dX0_hasWordBelowZero_1 : decode cX0_hasWordBelowZero 1 = .ok (.istore_n 3, 1) := by decide +kernel
theorem dX0_hasWordBelowZero_2 : decode cX0_hasWordBelowZero 2 = .ok (.iload_n 3, 1) := by decide +kernel
theorem dX0_hasWordBelowZero_3 : decode cX0_hasWordBelowZero 3 = .ok (.aload_n 0, 1) := by decide +kernel
theorem dX0_hasWordBelowZero_4 : decode cX0_hasWordBelowZero 4 = .ok (.getfield 22, 3) := by decide +kernel
theorem dX0_hasWordBelowZero_7 : decode cX0_hasWordBelowZero 7 = .ok (.if_icmp .ge 27, 3) := by decide +kernel
theorem dX0_hasWordBelowZero_10 : decode cX0_hasWordBelowZero 10 = .ok (.aload_n 0, 1) := by decide +kernel
theorem dX0_hasWordBelowZero_11 : decode cX0_hasWordBelowZero 11 = .ok (.getfield 34, 3) := by decide +kernel
theorem dX0_hasWordBelowZero_14 : decode cX0_hasWordBelowZero 14 = .ok (.iload_n 1, 1) := by decide +kernel
theorem dX0_hasWordBelowZero_15 : decode cX0_hasWordBelowZero 15 = .ok (.aload_n 0, 1) := by decide +kernel
theorem dX0_hasWordBelowZero_16 : decode cX0_hasWordBelowZero 16 = .ok (.iload_n 2, 1) := by decide +kernel
theorem dX0_hasWordBelowZero_17 : decode cX0_hasWordBelowZero 17 = .ok (.iload_n 3, 1) := by decide +kernel
theorem dX0_hasWordBelowZero_18 : decode cX0_hasWordBelowZero 18 = .ok (.invokevirtual 77, 3) := by decide +kernel
theorem dX0_hasWordBelowZero_21 : decode cX0_hasWordBelowZero 21 = .ok (.iadd, 1) := by decide +kernel
theorem dX0_hasWordBelowZero_22 : decode cX0_hasWordBelowZero 22 = .ok (.iaload, 1) := by decide +kernel
theorem dX0_hasWordBelowZero_23 : decode cX0_hasWordBelowZero 23 = .ok (.ifCond .ge 5, 3) := by decide +kernel
theorem dX0_hasWordBelowZero_26 : decode cX0_hasWordBelowZero 26 = .ok (.iconst 1, 1) := by decide +kernel
theorem dX0_hasWordBelowZero_27 : decode cX0_hasWordBelowZero 27 = .ok (.ireturn, 1) := by decide +kernel
theorem dX0_hasWordBelowZero_28 : decode cX0_hasWordBelowZero 28 = .ok (.iinc 3 1, 3) := by decide +kernel
theorem dX0_hasWordBelowZero_31 : decode cX0_hasWordBelowZero 31 = .ok (.goto (-29), 3) := by decide +kernel
theorem dX0_hasWordBelowZero_34 : decode cX0_hasWordBelowZero 34 = .ok (.iconst 0, 1) := by decide +kernel
theorem dX0_hasWordBelowZero_35 : decode cX0_hasWordBelowZero 35 = .ok (.ireturn, 1) := by decide +kernel
set_option maxRecDepth 20000 in
theorem ggX0_rootByWayOf_X0_blockHash : GoodIn wsX0_rootByWayOf wsX0_blockHash := goodIn_r _ [7, 8, 9, 10, 11, 6, 12, 13, 14, 15, 16, 17, 28, 29, 30, 31, 32, 33, 34, 35, 36, 37, 38, 39] (by decide +kernel) (by decide +kernel)
set_option maxRecDepth 20000 in
theorem gX0_rootByWayOf_X0_blockHash : GoodIn wsX0_rootByWayOf (wsV RX0 110 RX0 yX0_blockHash wsX0_blockHash) := goodIn_app (goodIn_of _ (by decide +kernel)) ggX0_rootByWayOf_X0_blockHash
set_option maxRecDepth 20000 in
theorem ggX0_rootByWayOf_X0_leafOf : GoodIn wsX0_rootByWayOf wsX0_leafOf := goodIn_r _ [21, 22, 28, 29, 30, 31, 32, 33, 34, 35, 36, 37, 38, 39] (by decide +kernel) (by decide +kernel)
set_option maxRecDepth 20000 in
theorem gX0_rootByWayOf_X0_leafOf : GoodIn wsX0_rootByWayOf (wsV RX0 107 RX0 yX0_leafOf wsX0_leafOf) := goodIn_app (goodIn_of _ (by decide +kernel)) ggX0_rootByWayOf_X0_leafOf
set_option maxRecDepth 20000 in
theorem ggX0_rootByWayOf_X0_nodeCell : GoodIn wsX0_rootByWayOf wsX0_nodeCell := goodIn_r _ [26, 27, 28, 29, 30, 31, 32, 33, 34, 35, 36, 37, 38, 39] (by decide +kernel) (by decide +kernel)
set_option maxRecDepth 20000 in
theorem gX0_rootByWayOf_X0_nodeCell : GoodIn wsX0_rootByWayOf (wsV RX0 70 RX0 yX0_nodeCell wsX0_nodeCell) := goodIn_app (goodIn_of _ (by decide +kernel)) ggX0_rootByWayOf_X0_nodeCell
set_option maxRecDepth 20000 in
theorem ggX0_rootByWayOf_X0_mix : GoodIn wsX0_rootByWayOf wsX0_mix := goodIn_r _ [15, 16, 17] (by decide +kernel) (by decide +kernel)
set_option maxRecDepth 20000 in
theorem gX0_rootByWayOf_X0_mix : GoodIn wsX0_rootByWayOf (va_wsS RX0 124 yX0_mix wsX0_mix) := goodIn_app (goodIn_of _ (by decide +kernel)) ggX0_rootByWayOf_X0_mix
theorem dX0_rootByWayOf_0 : decode cX0_rootByWayOf 0 = .ok (.aload_n 0, 1) := by decide +kernel
theorem dX0_rootByWayOf_1 : decode cX0_rootByWayOf 1 = .ok (.aload_n 0, 1) := by decide +kernel
theorem dX0_rootByWayOf_2 : decode cX0_rootByWayOf 2 = .ok (.getfield 34, 3) := by decide +kernel
theorem dX0_rootByWayOf_5 : decode cX0_rootByWayOf 5 = .ok (.iload_n 1, 1) := by decide +kernel
theorem dX0_rootByWayOf_6 : decode cX0_rootByWayOf 6 = .ok (.iload_n 2, 1) := by decide +kernel
theorem dX0_rootByWayOf_7 : decode cX0_rootByWayOf 7 = .ok (.invokevirtual 110, 3) := by decide +kernel
theorem dX0_rootByWayOf_10 : decode cX0_rootByWayOf 10 = .ok (.istore_n 3, 1) := by decide +kernel
theorem dX0_rootByWayOf_11 : decode cX0_rootByWayOf 11 = .ok (.aload_n 0, 1) := by decide +kernel
theorem dX0_rootByWayOf_12 : decode cX0_rootByWayOf 12 = .ok (.iload_n 2, 1) := by decide +kernel
theorem dX0_rootByWayOf_13 : decode cX0_rootByWayOf 13 = .ok (.invokevirtual 107, 3) := by decide +kernel
theorem dX0_rootByWayOf_16 : decode cX0_rootByWayOf 16 = .ok (.istore 4, 2) := by decide +kernel
theorem dX0_rootByWayOf_18 : decode cX0_rootByWayOf 18 = .ok (.iconst 0, 1) := by decide +kernel
theorem dX0_rootByWayOf_19 : decode cX0_rootByWayOf 19 = .ok (.istore 5, 2) := by decide +kernel
theorem dX0_rootByWayOf_21 : decode cX0_rootByWayOf 21 = .ok (.iload 5, 2) := by decide +kernel
theorem dX0_rootByWayOf_23 : decode cX0_rootByWayOf 23 = .ok (.aload_n 0, 1) := by decide +kernel
theorem dX0_rootByWayOf_24 : decode cX0_rootByWayOf 24 = .ok (.getfield 18, 3) := by decide +kernel
theorem dX0_rootByWayOf_27 : decode cX0_rootByWayOf 27 = .ok (.if_icmp .ge 79, 3) := by decide +kernel
theorem dX0_rootByWayOf_30 : decode cX0_rootByWayOf 30 = .ok (.iload 4, 2) := by decide +kernel
theorem dX0_rootByWayOf_32 : decode cX0_rootByWayOf 32 = .ok (.iconst 2, 1) := by decide +kernel
theorem dX0_rootByWayOf_33 : decode cX0_rootByWayOf 33 = .ok (.irem, 1) := by decide +kernel
theorem dX0_rootByWayOf_34 : decode cX0_rootByWayOf 34 = .ok (.ifCond .ne 7, 3) := by decide +kernel
theorem dX0_rootByWayOf_37 : decode cX0_rootByWayOf 37 = .ok (.iconst 1, 1) := by decide +kernel
theorem dX0_rootByWayOf_38 : decode cX0_rootByWayOf 38 = .ok (.goto 4, 3) := by decide +kernel
theorem dX0_rootByWayOf_41 : decode cX0_rootByWayOf 41 = .ok (.iconst 0, 1) := by decide +kernel
theorem dX0_rootByWayOf_42 : decode cX0_rootByWayOf 42 = .ok (.istore 6, 2) := by decide +kernel
theorem dX0_rootByWayOf_44 : decode cX0_rootByWayOf 44 = .ok (.aload_n 0, 1) := by decide +kernel
theorem dX0_rootByWayOf_45 : decode cX0_rootByWayOf 45 = .ok (.getfield 34, 3) := by decide +kernel
theorem dX0_rootByWayOf_48 : decode cX0_rootByWayOf 48 = .ok (.iload_n 1, 1) := by decide +kernel
theorem dX0_rootByWayOf_49 : decode cX0_rootByWayOf 49 = .ok (.aload_n 0, 1) := by decide +kernel
theorem dX0_rootByWayOf_50 : decode cX0_rootByWayOf 50 = .ok (.iload 6, 2) := by decide +kernel
theorem dX0_rootByWayOf_52 : decode cX0_rootByWayOf 52 = .ok (.ifCond .eq 10, 3) := by decide +kernel
theorem dX0_rootByWayOf_55 : decode cX0_rootByWayOf 55 = .ok (.iload 4, 2) := by decide +kernel
theorem dX0_rootByWayOf_57 : decode cX0_rootByWayOf 57 = .ok (.iconst 1, 1) := by decide +kernel
theorem dX0_rootByWayOf_58 : decode cX0_rootByWayOf 58 = .ok (.iadd, 1) := by decide +kernel
theorem dX0_rootByWayOf_59 : decode cX0_rootByWayOf 59 = .ok (.goto 7, 3) := by decide +kernel
theorem dX0_rootByWayOf_62 : decode cX0_rootByWayOf 62 = .ok (.iload 4, 2) := by decide +kernel
theorem dX0_rootByWayOf_64 : decode cX0_rootByWayOf 64 = .ok (.iconst 1, 1) := by decide +kernel
theorem dX0_rootByWayOf_65 : decode cX0_rootByWayOf 65 = .ok (.isub, 1) := by decide +kernel
theorem dX0_rootByWayOf_66 : decode cX0_rootByWayOf 66 = .ok (.invokevirtual 70, 3) := by decide +kernel
theorem dX0_rootByWayOf_69 : decode cX0_rootByWayOf 69 = .ok (.iadd, 1) := by decide +kernel
theorem dX0_rootByWayOf_70 : decode cX0_rootByWayOf 70 = .ok (.iaload, 1) := by decide +kernel
theorem dX0_rootByWayOf_71 : decode cX0_rootByWayOf 71 = .ok (.istore 7, 2) := by decide +kernel
theorem dX0_rootByWayOf_73 : decode cX0_rootByWayOf 73 = .ok (.iload 6, 2) := by decide +kernel
theorem dX0_rootByWayOf_75 : decode cX0_rootByWayOf 75 = .ok (.ifCond .eq 12, 3) := by decide +kernel
theorem dX0_rootByWayOf_78 : decode cX0_rootByWayOf 78 = .ok (.iload_n 3, 1) := by decide +kernel
theorem dX0_rootByWayOf_79 : decode cX0_rootByWayOf 79 = .ok (.iload 7, 2) := by decide +kernel
theorem dX0_rootByWayOf_81 : decode cX0_rootByWayOf 81 = .ok (.invokestatic 124, 3) := by decide +kernel
theorem dX0_rootByWayOf_84 : decode cX0_rootByWayOf 84 = .ok (.goto 9, 3) := by decide +kernel
theorem dX0_rootByWayOf_87 : decode cX0_rootByWayOf 87 = .ok (.iload 7, 2) := by decide +kernel
theorem dX0_rootByWayOf_89 : decode cX0_rootByWayOf 89 = .ok (.iload_n 3, 1) := by decide +kernel
theorem dX0_rootByWayOf_90 : decode cX0_rootByWayOf 90 = .ok (.invokestatic 124, 3) := by decide +kernel
theorem dX0_rootByWayOf_93 : decode cX0_rootByWayOf 93 = .ok (.istore_n 3, 1) := by decide +kernel
theorem dX0_rootByWayOf_94 : decode cX0_rootByWayOf 94 = .ok (.iload 4, 2) := by decide +kernel
theorem dX0_rootByWayOf_96 : decode cX0_rootByWayOf 96 = .ok (.iconst 2, 1) := by decide +kernel
theorem dX0_rootByWayOf_97 : decode cX0_rootByWayOf 97 = .ok (.idiv, 1) := by decide +kernel
theorem dX0_rootByWayOf_98 : decode cX0_rootByWayOf 98 = .ok (.istore 4, 2) := by decide +kernel
theorem dX0_rootByWayOf_100 : decode cX0_rootByWayOf 100 = .ok (.iinc 5 1, 3) := by decide +kernel
theorem dX0_rootByWayOf_103 : decode cX0_rootByWayOf 103 = .ok (.goto (-82), 3) := by decide +kernel
theorem dX0_rootByWayOf_106 : decode cX0_rootByWayOf 106 = .ok (.iload_n 3, 1) := by decide +kernel
theorem dX0_rootByWayOf_107 : decode cX0_rootByWayOf 107 = .ok (.ireturn, 1) := by decide +kernel
set_option maxRecDepth 20000 in
theorem ggX0_planWord_X0_areaStart : GoodIn wsX0_planWord wsX0_areaStart := goodIn_r _ [14, 4, 43, 44, 45, 46, 47, 48, 49, 50, 51, 52, 53, 54] (by decide +kernel) (by decide +kernel)
set_option maxRecDepth 20000 in
theorem gX0_planWord_X0_areaStart : GoodIn wsX0_planWord (wsV RX0 63 RX0 yX0_areaStart wsX0_areaStart) := goodIn_app (goodIn_of _ (by decide +kernel)) ggX0_planWord_X0_areaStart
set_option maxRecDepth 20000 in
theorem ggX0_planWord_X0_wordCell : GoodIn wsX0_planWord wsX0_wordCell := goodIn_r _ [18, 19, 43, 44, 45, 46, 47, 48, 49, 50, 51, 52, 53, 54] (by decide +kernel) (by decide +kernel)
set_option maxRecDepth 20000 in
theorem gX0_planWord_X0_wordCell : GoodIn wsX0_planWord (wsV RX0 77 RX0 yX0_wordCell wsX0_wordCell) := goodIn_app (goodIn_of _ (by decide +kernel)) ggX0_planWord_X0_wordCell
set_option maxRecDepth 20000 in
theorem ggX0_planWord_X0_leafOf : GoodIn wsX0_planWord wsX0_leafOf := goodIn_r _ [23, 24, 43, 44, 45, 46, 47, 48, 49, 50, 51, 52, 53, 54] (by decide +kernel) (by decide +kernel)
set_option maxRecDepth 20000 in
theorem gX0_planWord_X0_leafOf : GoodIn wsX0_planWord (wsV RX0 107 RX0 yX0_leafOf wsX0_leafOf) := goodIn_app (goodIn_of _ (by decide +kernel)) ggX0_planWord_X0_leafOf
set_option maxRecDepth 20000 in
theorem ggX0_planWord_X0_nodeCell : GoodIn wsX0_planWord wsX0_nodeCell := goodIn_r _ [28, 29, 43, 44, 45, 46, 47, 48, 49, 50, 51, 52, 53, 54] (by decide +kernel) (by decide +kernel)
set_option maxRecDepth 20000 in
theorem gX0_planWord_X0_nodeCell : GoodIn wsX0_planWord (wsV RX0 70 RX0 yX0_nodeCell wsX0_nodeCell) := goodIn_app (goodIn_of _ (by decide +kernel)) ggX0_planWord_X0_nodeCell
set_option maxRecDepth 20000 in
theorem ggX0_planWord_X0_blockHash : GoodIn wsX0_planWord wsX0_blockHash := goodIn_r _ [33, 19, 15, 16, 17, 13, 18, 34, 35, 36, 37, 38, 43, 44, 45, 46, 47, 48, 49, 50, 51, 52, 53, 54] (by decide +kernel) (by decide +kernel)
set_option maxRecDepth 20000 in
theorem gX0_planWord_X0_blockHash : GoodIn wsX0_planWord (wsV RX0 110 RX0 yX0_blockHash wsX0_blockHash) := goodIn_app (goodIn_of _ (by decide +kernel)) ggX0_planWord_X0_blockHash
set_option maxRecDepth 20000 in
theorem ggX0_planWord_X0_hashOfSons : GoodIn wsX0_planWord wsX0_hashOfSons := goodIn_r _ [42, 25, 26, 27, 13, 28, 29, 34, 35, 36, 37, 38, 43, 44, 45, 46, 47, 48, 49, 50, 51, 52, 53, 54] (by decide +kernel) (by decide +kernel)
set_option maxRecDepth 20000 in
theorem gX0_planWord_X0_hashOfSons : GoodIn wsX0_planWord (wsV RX0 114 RX0 yX0_hashOfSons wsX0_hashOfSons) := goodIn_app (goodIn_of _ (by decide +kernel)) ggX0_planWord_X0_hashOfSons
theorem dX0_planWord_0 : decode cX0_planWord 0 = .ok (.aload_n 0, 1) := by decide +kernel
theorem dX0_planWord_1 : decode cX0_planWord 1 = .ok (.getfield 34, 3) := by decide +kernel
theorem dX0_planWord_4 : decode cX0_planWord 4 = .ok (.aload_n 0, 1) := by decide +kernel
theorem dX0_planWord_5 : decode cX0_planWord 5 = .ok (.aload_n 0, 1) := by decide +kernel
theorem dX0_planWord_6 : decode cX0_planWord 6 = .ok (.getfield 60, 3) := by decide +kernel
theorem dX0_planWord_9 : decode cX0_planWord 9 = .ok (.invokevirtual 63, 3) := by decide +kernel
theorem dX0_planWord_12 : decode cX0_planWord 12 = .ok (.aload_n 0, 1) := by decide +kernel
theorem dX0_planWord_13 : decode cX0_planWord 13 = .ok (.getfield 38, 3) := by decide +kernel
theorem dX0_planWord_16 : decode cX0_planWord 16 = .ok (.iconst 0, 1) := by decide +kernel
theorem dX0_planWord_17 : decode cX0_planWord 17 = .ok (.aload_n 0, 1) := by decide +kernel
theorem dX0_planWord_18 : decode cX0_planWord 18 = .ok (.getfield 31, 3) := by decide +kernel
theorem dX0_planWord_21 : decode cX0_planWord 21 = .ok (.invokestatic 127, 3) := by decide +kernel
theorem dX0_planWord_24 : decode cX0_planWord 24 = .ok (.aload_n 0, 1) := by decide +kernel
theorem dX0_planWord_25 : decode cX0_planWord 25 = .ok (.getfield 38, 3) := by decide +kernel
theorem dX0_planWord_28 : decode cX0_planWord 28 = .ok (.aload_n 0, 1) := by decide +kernel
theorem dX0_planWord_29 : decode cX0_planWord 29 = .ok (.iload_n 1, 1) := by decide +kernel
theorem dX0_planWord_30 : decode cX0_planWord 30 = .ok (.iload_n 2, 1) := by decide +kernel
theorem dX0_planWord_31 : decode cX0_planWord 31 = .ok (.invokevirtual 77, 3) := by decide +kernel
theorem dX0_planWord_34 : decode cX0_planWord 34 = .ok (.iload_n 3, 1) := by decide +kernel
theorem dX0_planWord_35 : decode cX0_planWord 35 = .ok (.iastore, 1) := by decide +kernel
theorem dX0_planWord_36 : decode cX0_planWord 36 = .ok (.aload_n 0, 1) := by decide +kernel
theorem dX0_planWord_37 : decode cX0_planWord 37 = .ok (.iload_n 1, 1) := by decide +kernel
theorem dX0_planWord_38 : decode cX0_planWord 38 = .ok (.invokevirtual 107, 3) := by decide +kernel
theorem dX0_planWord_41 : decode cX0_planWord 41 = .ok (.istore 4, 2) := by decide +kernel
theorem dX0_planWord_43 : decode cX0_planWord 43 = .ok (.aload_n 0, 1) := by decide +kernel
theorem dX0_planWord_44 : decode cX0_planWord 44 = .ok (.getfield 38, 3) := by decide +kernel
theorem dX0_planWord_47 : decode cX0_planWord 47 = .ok (.aload_n 0, 1) := by decide +kernel
theorem dX0_planWord_48 : decode cX0_planWord 48 = .ok (.iload 4, 2) := by decide +kernel
theorem dX0_planWord_50 : decode cX0_planWord 50 = .ok (.invokevirtual 70, 3) := by decide +kernel
theorem dX0_planWord_53 : decode cX0_planWord 53 = .ok (.aload_n 0, 1) := by decide +kernel
theorem dX0_planWord_54 : decode cX0_planWord 54 = .ok (.aload_n 0, 1) := by decide +kernel
theorem dX0_planWord_55 : decode cX0_planWord 55 = .ok (.getfield 38, 3) := by decide +kernel
theorem dX0_planWord_58 : decode cX0_planWord 58 = .ok (.iconst 0, 1) := by decide +kernel
theorem dX0_planWord_59 : decode cX0_planWord 59 = .ok (.iload_n 1, 1) := by decide +kernel
theorem dX0_planWord_60 : decode cX0_planWord 60 = .ok (.invokevirtual 110, 3) := by decide +kernel
theorem dX0_planWord_63 : decode cX0_planWord 63 = .ok (.iastore, 1) := by decide +kernel
theorem dX0_planWord_64 : decode cX0_planWord 64 = .ok (.iconst 0, 1) := by decide +kernel
theorem dX0_planWord_65 : decode cX0_planWord 65 = .ok (.istore 5, 2) := by decide +kernel
theorem dX0_planWord_67 : decode cX0_planWord 67 = .ok (.iload 5, 2) := by decide +kernel
theorem dX0_planWord_69 : decode cX0_planWord 69 = .ok (.aload_n 0, 1) := by decide +kernel
theorem dX0_planWord_70 : decode cX0_planWord 70 = .ok (.getfield 18, 3) := by decide +kernel
theorem dX0_planWord_73 : decode cX0_planWord 73 = .ok (.if_icmp .ge 36, 3) := by decide +kernel
theorem dX0_planWord_76 : decode cX0_planWord 76 = .ok (.iload 4, 2) := by decide +kernel
theorem dX0_planWord_78 : decode cX0_planWord 78 = .ok (.iconst 2, 1) := by decide +kernel
theorem dX0_planWord_79 : decode cX0_planWord 79 = .ok (.idiv, 1) := by decide +kernel
theorem dX0_planWord_80 : decode cX0_planWord 80 = .ok (.istore 4, 2) := by decide +kernel
theorem dX0_planWord_82 : decode cX0_planWord 82 = .ok (.aload_n 0, 1) := by decide +kernel
theorem dX0_planWord_83 : decode cX0_planWord 83 = .ok (.getfield 38, 3) := by decide +kernel
theorem dX0_planWord_86 : decode cX0_planWord 86 = .ok (.aload_n 0, 1) := by decide +kernel
theorem dX0_planWord_87 : decode cX0_planWord 87 = .ok (.iload 4, 2) := by decide +kernel
theorem dX0_planWord_89 : decode cX0_planWord 89 = .ok (.invokevirtual 70, 3) := by decide +kernel
theorem dX0_planWord_92 : decode cX0_planWord 92 = .ok (.aload_n 0, 1) := by decide +kernel
theorem dX0_planWord_93 : decode cX0_planWord 93 = .ok (.aload_n 0, 1) := by decide +kernel
theorem dX0_planWord_94 : decode cX0_planWord 94 = .ok (.getfield 38, 3) := by decide +kernel
theorem dX0_planWord_97 : decode cX0_planWord 97 = .ok (.iload 4, 2) := by decide +kernel
theorem dX0_planWord_99 : decode cX0_planWord 99 = .ok (.invokevirtual 114, 3) := by decide +kernel
theorem dX0_planWord_102 : decode cX0_planWord 102 = .ok (.iastore, 1) := by decide +kernel
theorem dX0_planWord_103 : decode cX0_planWord 103 = .ok (.iinc 5 1, 3) := by decide +kernel
theorem dX0_planWord_106 : decode cX0_planWord 106 = .ok (.goto (-39), 3) := by decide +kernel
theorem dX0_planWord_109 : decode cX0_planWord 109 = .ok (.return_, 1) := by decide +kernel
set_option maxRecDepth 20000 in
theorem ggX0_carryOutPlan_X0_bringToPlan : GoodIn wsX0_carryOutPlan wsX0_bringToPlan := goodIn_r _ [7, 8, 9, 10, 11, 12, 6, 13, 14, 15, 16, 17, 18, 19, 20, 21, 22, 23, 24, 25, 26, 27, 28] (by decide +kernel) (by decide +kernel)
set_option maxRecDepth 20000 in
theorem gX0_carryOutPlan_X0_bringToPlan : GoodIn wsX0_carryOutPlan (wsV RX0 133 RX0 yX0_bringToPlan wsX0_bringToPlan) := goodIn_app (goodIn_of _ (by decide +kernel)) ggX0_carryOutPlan_X0_bringToPlan
theorem dX0_carryOutPlan_0 : decode cX0_carryOutPlan 0 = .ok (.iconst 0, 1) := by decide +kernel
theorem dX0_carryOutPlan_1 : decode cX0_carryOutPlan 1 = .ok (.istore_n 2, 1) := by decide +kernel
theorem dX0_carryOutPlan_2 : decode cX0_carryOutPlan 2 = .ok (.iload_n 2, 1) := by decide +kernel
theorem dX0_carryOutPlan_3 : decode cX0_carryOutPlan 3 = .ok (.aload_n 0, 1) := by decide +kernel
theorem dX0_carryOutPlan_4 : decode cX0_carryOutPlan 4 = .ok (.getfield 28, 3) := by decide +kernel
theorem dX0_carryOutPlan_7 : decode cX0_carryOutPlan 7 = .ok (.if_icmp .ge 20, 3) := by decide +kernel
theorem dX0_carryOutPlan_10 : decode cX0_carryOutPlan 10 = .ok (.aload_n 0, 1) := by decide +kernel
theorem dX0_carryOutPlan_11 : decode cX0_carryOutPlan 11 = .ok (.iload_n 1, 1) := by decide +kernel
theorem dX0_carryOutPlan_12 : decode cX0_carryOutPlan 12 = .ok (.iload_n 2, 1) := by decide +kernel
theorem dX0_carryOutPlan_13 : decode cX0_carryOutPlan 13 = .ok (.invokevirtual 133, 3) := by decide +kernel
theorem dX0_carryOutPlan_16 : decode cX0_carryOutPlan 16 = .ok (.ifCond .ne 5, 3) := by decide +kernel
theorem dX0_carryOutPlan_19 : decode cX0_carryOutPlan 19 = .ok (.iconst 0, 1) := by decide +kernel
theorem dX0_carryOutPlan_20 : decode cX0_carryOutPlan 20 = .ok (.ireturn, 1) := by decide +kernel
theorem dX0_carryOutPlan_21 : decode cX0_carryOutPlan 21 = .ok (.iinc 2 1, 3) := by decide +kernel
theorem dX0_carryOutPlan_24 : decode cX0_carryOutPlan 24 = .ok (.goto (-22), 3) := by decide +kernel
theorem dX0_carryOutPlan_27 : decode cX0_carryOutPlan 27 = .ok (.aload_n 0, 1) := by decide +kernel
theorem dX0_carryOutPlan_28 : decode cX0_carryOutPlan 28 = .ok (.getfield 31, 3) := by decide +kernel
theorem dX0_carryOutPlan_31 : decode cX0_carryOutPlan 31 = .ok (.iconst 1, 1) := by decide +kernel
theorem dX0_carryOutPlan_32 : decode cX0_carryOutPlan 32 = .ok (.isub, 1) := by decide +kernel
theorem dX0_carryOutPlan_33 : decode cX0_carryOutPlan 33 = .ok (.istore_n 2, 1) := by decide +kernel
theorem dX0_carryOutPlan_34 : decode cX0_carryOutPlan 34 = .ok (.iload_n 2, 1) := by decide +kernel
theorem dX0_carryOutPlan_35 : decode cX0_carryOutPlan 35 = .ok (.aload_n 0, 1) := by decide +kernel
theorem dX0_carryOutPlan_36 : decode cX0_carryOutPlan 36 = .ok (.getfield 28, 3) := by decide +kernel
theorem dX0_carryOutPlan_39 : decode cX0_carryOutPlan 39 = .ok (.if_icmp .lt 20, 3) := by decide +kernel
theorem dX0_carryOutPlan_42 : decode cX0_carryOutPlan 42 = .ok (.aload_n 0, 1) := by decide +kernel
theorem dX0_carryOutPlan_43 : decode cX0_carryOutPlan 43 = .ok (.iload_n 1, 1) := by decide +kernel
theorem dX0_carryOutPlan_44 : decode cX0_carryOutPlan 44 = .ok (.iload_n 2, 1) := by decide +kernel
theorem dX0_carryOutPlan_45 : decode cX0_carryOutPlan 45 = .ok (.invokevirtual 133, 3) := by decide +kernel
theorem dX0_carryOutPlan_48 : decode cX0_carryOutPlan 48 = .ok (.ifCond .ne 5, 3) := by decide +kernel
theorem dX0_carryOutPlan_51 : decode cX0_carryOutPlan 51 = .ok (.iconst 0, 1) := by decide +kernel
theorem dX0_carryOutPlan_52 : decode cX0_carryOutPlan 52 = .ok (.ireturn, 1) := by decide +kernel
theorem dX0_carryOutPlan_53 : decode cX0_carryOutPlan 53 = .ok (.iinc 2 (-1), 3) := by decide +kernel
theorem dX0_carryOutPlan_56 : decode cX0_carryOutPlan 56 = .ok (.goto (-22), 3) := by decide +kernel
theorem dX0_carryOutPlan_59 : decode cX0_carryOutPlan 59 = .ok (.iconst 1, 1) := by decide +kernel
theorem dX0_carryOutPlan_60 : decode cX0_carryOutPlan 60 = .ok (.ireturn, 1) := by decide +kernel
set_option maxRecDepth 20000 in
theorem ggX0_bringToPlan_X0_putCell : GoodIn wsX0_bringToPlan wsX0_putCell := goodIn_r _ [7, 8, 9, 1, 10, 11, 12, 13, 14, 15, 16, 17, 18, 19, 20, 21, 22] (by decide +kernel) (by decide +kernel)
set_option maxRecDepth 20000 in
theorem gX0_bringToPlan_X0_putCell : GoodIn wsX0_bringToPlan (wsV RX0 136 RX0 yX0_putCell wsX0_putCell) := goodIn_app (goodIn_of _ (by decide +kernel)) ggX0_bringToPlan_X0_putCell
theorem dX0_bringToPlan_0 : decode cX0_bringToPlan 0 = .ok (.aload_n 0, 1) := by decide +kernel
theorem dX0_bringToPlan_1 : decode cX0_bringToPlan 1 = .ok (.getfield 34, 3) := by decide +kernel
theorem dX0_bringToPlan_4 : decode cX0_bringToPlan 4 = .ok (.iload_n 1, 1) := by decide +kernel
theorem dX0_bringToPlan_5 : decode cX0_bringToPlan 5 = .ok (.iload_n 2, 1) := by decide +kernel
theorem dX0_bringToPlan_6 : decode cX0_bringToPlan 6 = .ok (.iadd, 1) := by decide +kernel
theorem dX0_bringToPlan_7 : decode cX0_bringToPlan 7 = .ok (.iaload, 1) := by decide +kernel
theorem dX0_bringToPlan_8 : decode cX0_bringToPlan 8 = .ok (.aload_n 0, 1) := by decide +kernel
theorem dX0_bringToPlan_9 : decode cX0_bringToPlan 9 = .ok (.getfield 38, 3) := by decide +kernel
theorem dX0_bringToPlan_12 : decode cX0_bringToPlan 12 = .ok (.iload_n 2, 1) := by decide +kernel
theorem dX0_bringToPlan_13 : decode cX0_bringToPlan 13 = .ok (.iaload, 1) := by decide +kernel
theorem dX0_bringToPlan_14 : decode cX0_bringToPlan 14 = .ok (.if_icmp .eq 19, 3) := by decide +kernel
theorem dX0_bringToPlan_17 : decode cX0_bringToPlan 17 = .ok (.aload_n 0, 1) := by decide +kernel
theorem dX0_bringToPlan_18 : decode cX0_bringToPlan 18 = .ok (.iload_n 1, 1) := by decide +kernel
theorem dX0_bringToPlan_19 : decode cX0_bringToPlan 19 = .ok (.iload_n 2, 1) := by decide +kernel
theorem dX0_bringToPlan_20 : decode cX0_bringToPlan 20 = .ok (.iadd, 1) := by decide +kernel
theorem dX0_bringToPlan_21 : decode cX0_bringToPlan 21 = .ok (.aload_n 0, 1) := by decide +kernel
theorem dX0_bringToPlan_22 : decode cX0_bringToPlan 22 = .ok (.getfield 38, 3) := by decide +kernel
theorem dX0_bringToPlan_25 : decode cX0_bringToPlan 25 = .ok (.iload_n 2, 1) := by decide +kernel
theorem dX0_bringToPlan_26 : decode cX0_bringToPlan 26 = .ok (.iaload, 1) := by decide +kernel
theorem dX0_bringToPlan_27 : decode cX0_bringToPlan 27 = .ok (.invokevirtual 136, 3) := by decide +kernel
theorem dX0_bringToPlan_30 : decode cX0_bringToPlan 30 = .ok (.ifCond .eq 7, 3) := by decide +kernel
theorem dX0_bringToPlan_33 : decode cX0_bringToPlan 33 = .ok (.iconst 1, 1) := by decide +kernel
theorem dX0_bringToPlan_34 : decode cX0_bringToPlan 34 = .ok (.goto 4, 3) := by decide +kernel
theorem dX0_bringToPlan_37 : decode cX0_bringToPlan 37 = .ok (.iconst 0, 1) := by decide +kernel
theorem dX0_bringToPlan_38 : decode cX0_bringToPlan 38 = .ok (.ireturn, 1) := by decide +kernel
theorem dX0_putCell_0 : decode cX0_putCell 0 = .ok (.aload_n 0, 1) := by decide +kernel
theorem dX0_putCell_1 : decode cX0_putCell 1 = .ok (.getfield 89, 3) := by decide +kernel
theorem dX0_putCell_4 : decode cX0_putCell 4 = .ok (.ifCond .ne 10, 3) := by decide +kernel
theorem dX0_putCell_7 : decode cX0_putCell 7 = .ok (.aload_n 0, 1) := by decide +kernel
theorem dX0_putCell_8 : decode cX0_putCell 8 = .ok (.iconst 1, 1) := by decide +kernel
theorem dX0_putCell_9 : decode cX0_putCell 9 = .ok (.putfield 48, 3) := by decide +kernel
theorem dX0_putCell_12 : decode cX0_putCell 12 = .ok (.iconst 0, 1) := by decide +kernel
theorem dX0_putCell_13 : decode cX0_putCell 13 = .ok (.ireturn, 1) := by decide +kernel
theorem dX0_putCell_14 : decode cX0_putCell 14 = .ok (.aload_n 0, 1) := by decide +kernel
theorem dX0_putCell_15 : decode cX0_putCell 15 = .ok (.getfield 89, 3) := by decide +kernel
theorem dX0_putCell_18 : decode cX0_putCell 18 = .ok (.iconst (-1), 1) := by decide +kernel
theorem dX0_putCell_19 : decode cX0_putCell 19 = .ok (.if_icmp .eq 13, 3) := by decide +kernel
theorem dX0_putCell_22 : decode cX0_putCell 22 = .ok (.aload_n 0, 1) := by decide +kernel
theorem dX0_putCell_23 : decode cX0_putCell 23 = .ok (.dup, 1) := by decide +kernel
theorem dX0_putCell_24 : decode cX0_putCell 24 = .ok (.getfield 89, 3) := by decide +kernel
theorem dX0_putCell_27 : decode cX0_putCell 27 = .ok (.iconst 1, 1) := by decide +kernel
theorem dX0_putCell_28 : decode cX0_putCell 28 = .ok (.isub, 1) := by decide +kernel
theorem dX0_putCell_29 : decode cX0_putCell 29 = .ok (.putfield 89, 3) := by decide +kernel
theorem dX0_putCell_32 : decode cX0_putCell 32 = .ok (.aload_n 0, 1) := by decide +kernel
theorem dX0_putCell_33 : decode cX0_putCell 33 = .ok (.getfield 34, 3) := by decide +kernel
theorem dX0_putCell_36 : decode cX0_putCell 36 = .ok (.iload_n 1, 1) := by decide +kernel
theorem dX0_putCell_37 : decode cX0_putCell 37 = .ok (.iload_n 2, 1) := by decide +kernel
theorem dX0_putCell_38 : decode cX0_putCell 38 = .ok (.iastore, 1) := by decide +kernel
theorem dX0_putCell_39 : decode cX0_putCell 39 = .ok (.aload_n 0, 1) := by decide +kernel
theorem dX0_putCell_40 : decode cX0_putCell 40 = .ok (.dup, 1) := by decide +kernel
theorem dX0_putCell_41 : decode cX0_putCell 41 = .ok (.getfield 95, 3) := by decide +kernel
theorem dX0_putCell_44 : decode cX0_putCell 44 = .ok (.iconst 1, 1) := by decide +kernel
theorem dX0_putCell_45 : decode cX0_putCell 45 = .ok (.iadd, 1) := by decide +kernel
theorem dX0_putCell_46 : decode cX0_putCell 46 = .ok (.putfield 95, 3) := by decide +kernel
theorem dX0_putCell_49 : decode cX0_putCell 49 = .ok (.iconst 1, 1) := by decide +kernel
theorem dX0_putCell_50 : decode cX0_putCell 50 = .ok (.ireturn, 1) := by decide +kernel
set_option maxRecDepth 20000 in
theorem ggX0_blockHash_X0_wordCell : GoodIn wsX0_blockHash wsX0_wordCell := goodIn_r _ [6, 1, 12, 13, 14, 15, 16, 17, 18, 19, 20, 21, 22, 23] (by decide +kernel) (by decide +kernel)
set_option maxRecDepth 20000 in
theorem gX0_blockHash_X0_wordCell : GoodIn wsX0_blockHash (wsV RX0 77 RX0 yX0_wordCell wsX0_wordCell) := goodIn_app (goodIn_of _ (by decide +kernel)) ggX0_blockHash_X0_wordCell
set_option maxRecDepth 20000 in
theorem ggX0_blockHash_X0_mix : GoodIn wsX0_blockHash wsX0_mix := goodIn_r _ [9, 10, 11] (by decide +kernel) (by decide +kernel)
set_option maxRecDepth 20000 in
theorem gX0_blockHash_X0_mix : GoodIn wsX0_blockHash (va_wsS RX0 124 yX0_mix wsX0_mix) := goodIn_app (goodIn_of _ (by decide +kernel)) ggX0_blockHash_X0_mix
theorem dX0_blockHash_0 : decode cX0_blockHash 0 = .ok (.iload_n 3, 1) := by decide +kernel
theorem dX0_blockHash_1 : decode cX0_blockHash 1 = .ok (.istore 4, 2) := by decide +kernel
theorem dX0_blockHash_3 : decode cX0_blockHash 3 = .ok (.iconst 0, 1) := by decide +kernel
theorem dX0_blockHash_4 : decode cX0_blockHash 4 = .ok (.istore 5, 2) := by decide +kernel
theorem dX0_blockHash_6 : decode cX0_blockHash 6 = .ok (.iload 5, 2) := by decide +kernel
theorem dX0_blockHash_8 : decode cX0_blockHash 8 = .ok (.aload_n 0, 1) := by decide +kernel
theorem dX0_blockHash_9 : decode cX0_blockHash 9 = .ok (.getfield 22, 3) := by decide +kernel
theorem dX0_blockHash_12 : decode cX0_blockHash 12 = .ok (.if_icmp .ge 27, 3) := by decide +kernel
theorem dX0_blockHash_15 : decode cX0_blockHash 15 = .ok (.iload 4, 2) := by decide +kernel
theorem dX0_blockHash_17 : decode cX0_blockHash 17 = .ok (.aload_n 1, 1) := by decide +kernel
theorem dX0_blockHash_18 : decode cX0_blockHash 18 = .ok (.iload_n 2, 1) := by decide +kernel
theorem dX0_blockHash_19 : decode cX0_blockHash 19 = .ok (.aload_n 0, 1) := by decide +kernel
theorem dX0_blockHash_20 : decode cX0_blockHash 20 = .ok (.iload_n 3, 1) := by decide +kernel
theorem dX0_blockHash_21 : decode cX0_blockHash 21 = .ok (.iload 5, 2) := by decide +kernel
theorem dX0_blockHash_23 : decode cX0_blockHash 23 = .ok (.invokevirtual 77, 3) := by decide +kernel
theorem dX0_blockHash_26 : decode cX0_blockHash 26 = .ok (.iadd, 1) := by decide +kernel
theorem dX0_blockHash_27 : decode cX0_blockHash 27 = .ok (.iaload, 1) := by decide +kernel
theorem dX0_blockHash_28 : decode cX0_blockHash 28 = .ok (.invokestatic 124, 3) := by decide +kernel
theorem dX0_blockHash_31 : decode cX0_blockHash 31 = .ok (.istore 4, 2) := by decide +kernel
theorem dX0_blockHash_33 : decode cX0_blockHash 33 = .ok (.iinc 5 1, 3) := by decide +kernel
theorem dX0_blockHash_36 : decode cX0_blockHash 36 = .ok (.goto (-30), 3) := by decide +kernel
theorem dX0_blockHash_39 : decode cX0_blockHash 39 = .ok (.iload 4, 2) := by decide +kernel
theorem dX0_blockHash_41 : decode cX0_blockHash 41 = .ok (.ireturn, 1) := by decide +kernel
set_option maxRecDepth 20000 in
theorem ggX0_hashOfSons_X0_nodeCell : GoodIn wsX0_hashOfSons wsX0_nodeCell := goodIn_r _ [5, 6, 12, 13, 14, 15, 16, 17, 18, 19, 20, 21, 22, 23] (by decide +kernel) (by decide +kernel)
set_option maxRecDepth 20000 in
theorem gX0_hashOfSons_X0_nodeCell : GoodIn wsX0_hashOfSons (wsV RX0 70 RX0 yX0_nodeCell wsX0_nodeCell) := goodIn_app (goodIn_of _ (by decide +kernel)) ggX0_hashOfSons_X0_nodeCell
set_option maxRecDepth 20000 in
theorem ggX0_hashOfSons_X0_mix : GoodIn wsX0_hashOfSons wsX0_mix := goodIn_r _ [9, 10, 11] (by decide +kernel) (by decide +kernel)
set_option maxRecDepth 20000 in
theorem gX0_hashOfSons_X0_mix : GoodIn wsX0_hashOfSons (va_wsS RX0 124 yX0_mix wsX0_mix) := goodIn_app (goodIn_of _ (by decide +kernel)) ggX0_hashOfSons_X0_mix
theorem dX0_hashOfSons_0 : decode cX0_hashOfSons 0 = .ok (.aload_n 1, 1) := by decide +kernel
theorem dX0_hashOfSons_1 : decode cX0_hashOfSons 1 = .ok (.aload_n 0, 1) := by decide +kernel
theorem dX0_hashOfSons_2 : decode cX0_hashOfSons 2 = .ok (.iconst 2, 1) := by decide +kernel
theorem dX0_hashOfSons_3 : decode cX0_hashOfSons 3 = .ok (.iload_n 2, 1) := by decide +kernel
theorem dX0_hashOfSons_4 : decode cX0_hashOfSons 4 = .ok (.imul, 1) := by decide +kernel
theorem dX0_hashOfSons_5 : decode cX0_hashOfSons 5 = .ok (.invokevirtual 70, 3) := by decide +kernel
theorem dX0_hashOfSons_8 : decode cX0_hashOfSons 8 = .ok (.iaload, 1) := by decide +kernel
theorem dX0_hashOfSons_9 : decode cX0_hashOfSons 9 = .ok (.aload_n 1, 1) := by decide +kernel
theorem dX0_hashOfSons_10 : decode cX0_hashOfSons 10 = .ok (.aload_n 0, 1) := by decide +kernel
theorem dX0_hashOfSons_11 : decode cX0_hashOfSons 11 = .ok (.iconst 2, 1) := by decide +kernel
theorem dX0_hashOfSons_12 : decode cX0_hashOfSons 12 = .ok (.iload_n 2, 1) := by decide +kernel
theorem dX0_hashOfSons_13 : decode cX0_hashOfSons 13 = .ok (.imul, 1) := by decide +kernel
theorem dX0_hashOfSons_14 : decode cX0_hashOfSons 14 = .ok (.iconst 1, 1) := by decide +kernel
theorem dX0_hashOfSons_15 : decode cX0_hashOfSons 15 = .ok (.iadd, 1) := by decide +kernel
theorem dX0_hashOfSons_16 : decode cX0_hashOfSons 16 = .ok (.invokevirtual 70, 3) := by decide +kernel
theorem dX0_hashOfSons_19 : decode cX0_hashOfSons 19 = .ok (.iaload, 1) := by decide +kernel
theorem dX0_hashOfSons_20 : decode cX0_hashOfSons 20 = .ok (.invokestatic 124, 3) := by decide +kernel
theorem dX0_hashOfSons_23 : decode cX0_hashOfSons 23 = .ok (.ireturn, 1) := by decide +kernel
theorem dX0_mix_0 : decode cX0_mix 0 = .ok (.iload_n 0, 1) := by decide +kernel
theorem dX0_mix_1 : decode cX0_mix 1 = .ok (.iload_n 1, 1) := by decide +kernel
theorem dX0_mix_2 : decode cX0_mix 2 = .ok (.bipush 13, 2) := by decide +kernel
theorem dX0_mix_4 : decode cX0_mix 4 = .ok (.ishl, 1) := by decide +kernel
theorem dX0_mix_5 : decode cX0_mix 5 = .ok (.iload_n 1, 1) := by decide +kernel
theorem dX0_mix_6 : decode cX0_mix 6 = .ok (.bipush 19, 2) := by decide +kernel
theorem dX0_mix_8 : decode cX0_mix 8 = .ok (.iushr, 1) := by decide +kernel
theorem dX0_mix_9 : decode cX0_mix 9 = .ok (.ior, 1) := by decide +kernel
theorem dX0_mix_10 : decode cX0_mix 10 = .ok (.ixor, 1) := by decide +kernel
theorem dX0_mix_11 : decode cX0_mix 11 = .ok (.ldc 139, 2) := by decide +kernel
theorem dX0_mix_13 : decode cX0_mix 13 = .ok (.imul, 1) := by decide +kernel
theorem dX0_mix_14 : decode cX0_mix 14 = .ok (.istore_n 2, 1) := by decide +kernel
theorem dX0_mix_15 : decode cX0_mix 15 = .ok (.iload_n 2, 1) := by decide +kernel
theorem dX0_mix_16 : decode cX0_mix 16 = .ok (.iload_n 2, 1) := by decide +kernel
theorem dX0_mix_17 : decode cX0_mix 17 = .ok (.bipush 15, 2) := by decide +kernel
theorem dX0_mix_19 : decode cX0_mix 19 = .ok (.iushr, 1) := by decide +kernel
theorem dX0_mix_20 : decode cX0_mix 20 = .ok (.ixor, 1) := by decide +kernel
theorem dX0_mix_21 : decode cX0_mix 21 = .ok (.istore_n 2, 1) := by decide +kernel
theorem dX0_mix_22 : decode cX0_mix 22 = .ok (.iload_n 2, 1) := by decide +kernel
theorem dX0_mix_23 : decode cX0_mix 23 = .ok (.iload_n 1, 1) := by decide +kernel
theorem dX0_mix_24 : decode cX0_mix 24 = .ok (.iadd, 1) := by decide +kernel
theorem dX0_mix_25 : decode cX0_mix 25 = .ok (.ldc 140, 2) := by decide +kernel
theorem dX0_mix_27 : decode cX0_mix 27 = .ok (.imul, 1) := by decide +kernel
theorem dX0_mix_28 : decode cX0_mix 28 = .ok (.istore_n 2, 1) := by decide +kernel
theorem dX0_mix_29 : decode cX0_mix 29 = .ok (.iload_n 2, 1) := by decide +kernel
theorem dX0_mix_30 : decode cX0_mix 30 = .ok (.iload_n 2, 1) := by decide +kernel
theorem dX0_mix_31 : decode cX0_mix 31 = .ok (.bipush 14, 2) := by decide +kernel
theorem dX0_mix_33 : decode cX0_mix 33 = .ok (.iushr, 1) := by decide +kernel
theorem dX0_mix_34 : decode cX0_mix 34 = .ok (.ixor, 1) := by decide +kernel
theorem dX0_mix_35 : decode cX0_mix 35 = .ok (.ireturn, 1) := by decide +kernel
set_option maxRecDepth 20000 in
theorem ggX1_init_X1_format : GoodIn wsX1_init wsX1_format := goodIn_r _ [16, 5, 11, 6, 9, 17, 18, 19, 7, 20, 21, 22, 23, 15, 24, 10, 25, 26, 27, 28, 29, 30, 31, 32, 33, 34, 35, 36, 37, 38, 39, 40, 41, 42, 43, 44] (by decide +kernel) (by decide +kernel)
set_option maxRecDepth 20000 in
theorem gX1_init_X1_format : GoodIn wsX1_init (wsV RX1 32 RX1 yX1_format wsX1_format) := goodIn_app (goodIn_of _ (by decide +kernel)) ggX1_init_X1_format
theorem dX1_init_0 : decode cX1_init 0 = .ok (.aload_n 0, 1) := by decide +kernel
theorem dX1_init_1 : decode cX1_init 1 = .ok (.invokespecial 1, 3) := by decide +kernel
theorem dX1_init_4 : decode cX1_init 4 = .ok (.aload_n 0, 1) := by decide +kernel
theorem dX1_init_5 : decode cX1_init 5 = .ok (.sipush 600, 3) := by decide +kernel
theorem dX1_init_8 : decode cX1_init 8 = .ok (.newarray .int, 2) := by decide +kernel
theorem dX1_init_10 : decode cX1_init 10 = .ok (.putfield 7, 3) := by decide +kernel
theorem dX1_init_13 : decode cX1_init 13 = .ok (.aload_n 0, 1) := by decide +kernel
theorem dX1_init_14 : decode cX1_init 14 = .ok (.sipush 300, 3) := by decide +kernel
theorem dX1_init_17 : decode cX1_init 17 = .ok (.newarray .int, 2) := by decide +kernel
theorem dX1_init_19 : decode cX1_init 19 = .ok (.putfield 13, 3) := by decide +kernel
theorem dX1_init_22 : decode cX1_init 22 = .ok (.aload_n 0, 1) := by decide +kernel
theorem dX1_init_23 : decode cX1_init 23 = .ok (.iconst (-1), 1) := by decide +kernel
theorem dX1_init_24 : decode cX1_init 24 = .ok (.putfield 16, 3) := by decide +kernel
theorem dX1_init_27 : decode cX1_init 27 = .ok (.aload_n 0, 1) := by decide +kernel
theorem dX1_init_28 : decode cX1_init 28 = .ok (.iload_n 1, 1) := by decide +kernel
theorem dX1_init_29 : decode cX1_init 29 = .ok (.ifCond .ge 7, 3) := by decide +kernel
theorem dX1_init_32 : decode cX1_init 32 = .ok (.iconst 0, 1) := by decide +kernel
theorem dX1_init_33 : decode cX1_init 33 = .ok (.goto 13, 3) := by decide +kernel
theorem dX1_init_36 : decode cX1_init 36 = .ok (.iload_n 1, 1) := by decide +kernel
theorem dX1_init_37 : decode cX1_init 37 = .ok (.iconst 5, 1) := by decide +kernel
theorem dX1_init_38 : decode cX1_init 38 = .ok (.if_icmp .le 7, 3) := by decide +kernel
theorem dX1_init_41 : decode cX1_init 41 = .ok (.iconst 5, 1) := by decide +kernel
theorem dX1_init_42 : decode cX1_init 42 = .ok (.goto 4, 3) := by decide +kernel
theorem dX1_init_45 : decode cX1_init 45 = .ok (.iload_n 1, 1) := by decide +kernel
theorem dX1_init_46 : decode cX1_init 46 = .ok (.putfield 20, 3) := by decide +kernel
theorem dX1_init_49 : decode cX1_init 49 = .ok (.aload_n 0, 1) := by decide +kernel
theorem dX1_init_50 : decode cX1_init 50 = .ok (.iconst 1, 1) := by decide +kernel
theorem dX1_init_51 : decode cX1_init 51 = .ok (.aload_n 0, 1) := by decide +kernel
theorem dX1_init_52 : decode cX1_init 52 = .ok (.getfield 20, 3) := by decide +kernel
theorem dX1_init_55 : decode cX1_init 55 = .ok (.ishl, 1) := by decide +kernel
theorem dX1_init_56 : decode cX1_init 56 = .ok (.putfield 23, 3) := by decide +kernel
theorem dX1_init_59 : decode cX1_init 59 = .ok (.aload_n 0, 1) := by decide +kernel
theorem dX1_init_60 : decode cX1_init 60 = .ok (.iload_n 2, 1) := by decide +kernel
theorem dX1_init_61 : decode cX1_init 61 = .ok (.iconst 1, 1) := by decide +kernel
theorem dX1_init_62 : decode cX1_init 62 = .ok (.if_icmp .ge 7, 3) := by decide +kernel
theorem dX1_init_65 : decode cX1_init 65 = .ok (.iconst 1, 1) := by decide +kernel
theorem dX1_init_66 : decode cX1_init 66 = .ok (.goto 15, 3) := by decide +kernel
theorem dX1_init_69 : decode cX1_init 69 = .ok (.iload_n 2, 1) := by decide +kernel
theorem dX1_init_70 : decode cX1_init 70 = .ok (.bipush 6, 2) := by decide +kernel
theorem dX1_init_72 : decode cX1_init 72 = .ok (.if_icmp .le 8, 3) := by decide +kernel
theorem dX1_init_75 : decode cX1_init 75 = .ok (.bipush 6, 2) := by decide +kernel
theorem dX1_init_77 : decode cX1_init 77 = .ok (.goto 4, 3) := by decide +kernel
theorem dX1_init_80 : decode cX1_init 80 = .ok (.iload_n 2, 1) := by decide +kernel
theorem dX1_init_81 : decode cX1_init 81 = .ok (.putfield 26, 3) := by decide +kernel
theorem dX1_init_84 : decode cX1_init 84 = .ok (.aload_n 0, 1) := by decide +kernel
theorem dX1_init_85 : decode cX1_init 85 = .ok (.aload_n 0, 1) := by decide +kernel
theorem dX1_init_86 : decode cX1_init 86 = .ok (.getfield 23, 3) := by decide +kernel
theorem dX1_init_89 : decode cX1_init 89 = .ok (.aload_n 0, 1) := by decide +kernel
theorem dX1_init_90 : decode cX1_init 90 = .ok (.getfield 26, 3) := by decide +kernel
theorem dX1_init_93 : decode cX1_init 93 = .ok (.imul, 1) := by decide +kernel
theorem dX1_init_94 : decode cX1_init 94 = .ok (.iconst 2, 1) := by decide +kernel
theorem dX1_init_95 : decode cX1_init 95 = .ok (.aload_n 0, 1) := by decide +kernel
theorem dX1_init_96 : decode cX1_init 96 = .ok (.getfield 23, 3) := by decide +kernel
theorem dX1_init_99 : decode cX1_init 99 = .ok (.imul, 1) := by decide +kernel
theorem dX1_init_100 : decode cX1_init 100 = .ok (.iadd, 1) := by decide +kernel
theorem dX1_init_101 : decode cX1_init 101 = .ok (.iconst 1, 1) := by decide +kernel
theorem dX1_init_102 : decode cX1_init 102 = .ok (.isub, 1) := by decide +kernel
theorem dX1_init_103 : decode cX1_init 103 = .ok (.putfield 29, 3) := by decide +kernel
theorem dX1_init_106 : decode cX1_init 106 = .ok (.aload_n 0, 1) := by decide +kernel
theorem dX1_init_107 : decode cX1_init 107 = .ok (.invokevirtual 32, 3) := by decide +kernel
theorem dX1_init_110 : decode cX1_init 110 = .ok (.istore_n 3, 1) := by decide +kernel
theorem dX1_init_111 : decode cX1_init 111 = .ok (.return_, 1) := by decide +kernel
theorem dX1_mix_0 : decode cX1_mix 0 = .ok (.iload_n 0, 1) := by decide +kernel
theorem dX1_mix_1 : decode cX1_mix 1 = .ok (.iload_n 1, 1) := by decide +kernel
theorem dX1_mix_2 : decode cX1_mix 2 = .ok (.bipush 13, 2) := by decide +kernel
theorem dX1_mix_4 : decode cX1_mix 4 = .ok (.ishl, 1) := by decide +kernel
theorem dX1_mix_5 : decode cX1_mix 5 = .ok (.iload_n 1, 1) := by decide +kernel
theorem dX1_mix_6 : decode cX1_mix 6 = .ok (.bipush 19, 2) := by decide +kernel
theorem dX1_mix_8 : decode cX1_mix 8 = .ok (.iushr, 1) := by decide +kernel
theorem dX1_mix_9 : decode cX1_mix 9 = .ok (.ior, 1) := by decide +kernel
theorem dX1_mix_10 : decode cX1_mix 10 = .ok (.ixor, 1) := by decide +kernel
theorem dX1_mix_11 : decode cX1_mix 11 = .ok (.ldc 36, 2) := by decide +kernel
theorem dX1_mix_13 : decode cX1_mix 13 = .ok (.imul, 1) := by decide +kernel
theorem dX1_mix_14 : decode cX1_mix 14 = .ok (.istore_n 2, 1) := by decide +kernel
theorem dX1_mix_15 : decode cX1_mix 15 = .ok (.iload_n 2, 1) := by decide +kernel
theorem dX1_mix_16 : decode cX1_mix 16 = .ok (.iload_n 2, 1) := by decide +kernel
theorem dX1_mix_17 : decode cX1_mix 17 = .ok (.bipush 15, 2) := by decide +kernel
theorem dX1_mix_19 : decode cX1_mix 19 = .ok (.iushr, 1) := by decide +kernel
theorem dX1_mix_20 : decode cX1_mix 20 = .ok (.ixor, 1) := by decide +kernel
theorem dX1_mix_21 : decode cX1_mix 21 = .ok (.istore_n 2, 1) := by decide +kernel
theorem dX1_mix_22 : decode cX1_mix 22 = .ok (.iload_n 2, 1) := by decide +kernel
theorem dX1_mix_23 : decode cX1_mix 23 = .ok (.iload_n 1, 1) := by decide +kernel
theorem dX1_mix_24 : decode cX1_mix 24 = .ok (.iadd, 1) := by decide +kernel
theorem dX1_mix_25 : decode cX1_mix 25 = .ok (.ldc 37, 2) := by decide +kernel
theorem dX1_mix_27 : decode cX1_mix 27 = .ok (.imul, 1) := by decide +kernel
theorem dX1_mix_28 : decode cX1_mix 28 = .ok (.istore_n 2, 1) := by decide +kernel
theorem dX1_mix_29 : decode cX1_mix 29 = .ok (.iload_n 2, 1) := by decide +kernel
theorem dX1_mix_30 : decode cX1_mix 30 = .ok (.iload_n 2, 1) := by decide +kernel
theorem dX1_mix_31 : decode cX1_mix 31 = .ok (.bipush 14, 2) := by decide +kernel
theorem dX1_mix_33 : decode cX1_mix 33 = .ok (.iushr, 1) := by decide +kernel
theorem dX1_mix_34 : decode cX1_mix 34 = .ok (.ixor, 1) := by decide +kernel
theorem dX1_mix_35 : decode cX1_mix 35 = .ok (.ireturn, 1) := by decide +kernel
theorem dX1_node_0 : decode cX1_node 0 = .ok (.aload_n 0, 1) := by decide +kernel
theorem dX1_node_1 : decode cX1_node 1 = .ok (.getfield 23, 3) := by decide +kernel
theorem dX1_node_4 : decode cX1_node 4 = .ok (.aload_n 0, 1) := by decide +kernel
theorem dX1_node_5 : decode cX1_node 5 = .ok (.getfield 26, 3) := by decide +kernel
theorem dX1_node_8 : decode cX1_node 8 = .ok (.imul, 1) := by decide +kernel
theorem dX1_node_9 : decode cX1_node 9 = .ok (.iload_n 1, 1) := by decide +kernel
theorem dX1_node_10 : decode cX1_node 10 = .ok (.iadd, 1) := by decide +kernel
theorem dX1_node_11 : decode cX1_node 11 = .ok (.iconst 1, 1) := by decide +kernel
theorem dX1_node_12 : decode cX1_node 12 = .ok (.isub, 1) := by decide +kernel
theorem dX1_node_13 : decode cX1_node 13 = .ok (.ireturn, 1) := by decide +kernel
set_option maxRecDepth 20000 in
theorem ggX1_hash_X1_mix : GoodIn wsX1_hash wsX1_mix := goodIn_r _ [6, 7, 8] (by decide +kernel) (by decide +kernel)
set_option maxRecDepth 20000 in
theorem gX1_hash_X1_mix : GoodIn wsX1_hash (va_wsS RX1 38 yX1_mix wsX1_mix) := goodIn_app (goodIn_of _ (by decide +kernel)) ggX1_hash_X1_mix
theorem dX1_hash_0 : decode cX1_hash 0 = .ok (.iload_n 1, 1) := by decide +kernel
theorem dX1_hash_1 : decode cX1_hash 1 = .ok (.istore_n 2, 1) := by decide +kernel
theorem dX1_hash_2 : decode cX1_hash 2 = .ok (.iconst 0, 1) := by decide +kernel
theorem dX1_hash_3 : decode cX1_hash 3 = .ok (.istore_n 3, 1) := by decide +kernel
theorem dX1_hash_4 : decode cX1_hash 4 = .ok (.iload_n 3, 1) := by decide +kernel
theorem dX1_hash_5 : decode cX1_hash 5 = .ok (.aload_n 0, 1) := by decide +kernel
theorem dX1_hash_6 : decode cX1_hash 6 = .ok (.getfield 26, 3) := by decide +kernel
theorem dX1_hash_9 : decode cX1_hash 9 = .ok (.if_icmp .ge 27, 3) := by decide +kernel
theorem dX1_hash_12 : decode cX1_hash 12 = .ok (.iload_n 2, 1) := by decide +kernel
theorem dX1_hash_13 : decode cX1_hash 13 = .ok (.aload_n 0, 1) := by decide +kernel
theorem dX1_hash_14 : decode cX1_hash 14 = .ok (.getfield 13, 3) := by decide +kernel
theorem dX1_hash_17 : decode cX1_hash 17 = .ok (.iload_n 1, 1) := by decide +kernel
theorem dX1_hash_18 : decode cX1_hash 18 = .ok (.aload_n 0, 1) := by decide +kernel
theorem dX1_hash_19 : decode cX1_hash 19 = .ok (.getfield 26, 3) := by decide +kernel
theorem dX1_hash_22 : decode cX1_hash 22 = .ok (.imul, 1) := by decide +kernel
theorem dX1_hash_23 : decode cX1_hash 23 = .ok (.iload_n 3, 1) := by decide +kernel
theorem dX1_hash_24 : decode cX1_hash 24 = .ok (.iadd, 1) := by decide +kernel
theorem dX1_hash_25 : decode cX1_hash 25 = .ok (.iaload, 1) := by decide +kernel
theorem dX1_hash_26 : decode cX1_hash 26 = .ok (.invokestatic 38, 3) := by decide +kernel
theorem dX1_hash_29 : decode cX1_hash 29 = .ok (.istore_n 2, 1) := by decide +kernel
theorem dX1_hash_30 : decode cX1_hash 30 = .ok (.iinc 3 1, 3) := by decide +kernel
theorem dX1_hash_33 : decode cX1_hash 33 = .ok (.goto (-29), 3) := by decide +kernel
theorem dX1_hash_36 : decode cX1_hash 36 = .ok (.iload_n 2, 1) := by decide +kernel
theorem dX1_hash_37 : decode cX1_hash 37 = .ok (.ireturn, 1) := by decide +kernel
theorem dX1_toGoal_0 : decode cX1_toGoal 0 = .ok (.iconst 0, 1) := by decide +kernel
theorem dX1_toGoal_1 : decode cX1_toGoal 1 = .ok (.istore_n 1, 1) := by decide +kernel
theorem dX1_toGoal_2 : decode cX1_toGoal 2 = .ok (.iload_n 1, 1) := by decide +kernel
theorem dX1_toGoal_3 : decode cX1_toGoal 3 = .ok (.aload_n 0, 1) := by decide +kernel
theorem dX1_toGoal_4 : decode cX1_toGoal 4 = .ok (.getfield 29, 3) := by decide +kernel
theorem dX1_toGoal_7 : decode cX1_toGoal 7 = .ok (.if_icmp .ge 31, 3) := by decide +kernel
theorem dX1_toGoal_10 : decode cX1_toGoal 10 = .ok (.aload_n 0, 1) := by decide +kernel
theorem dX1_toGoal_11 : decode cX1_toGoal 11 = .ok (.getfield 13, 3) := by decide +kernel
theorem dX1_toGoal_14 : decode cX1_toGoal 14 = .ok (.iload_n 1, 1) := by decide +kernel
theorem dX1_toGoal_15 : decode cX1_toGoal 15 = .ok (.aload_n 0, 1) := by decide +kernel
theorem dX1_toGoal_16 : decode cX1_toGoal 16 = .ok (.getfield 7, 3) := by decide +kernel
theorem dX1_toGoal_19 : decode cX1_toGoal 19 = .ok (.aload_n 0, 1) := by decide +kernel
theorem dX1_toGoal_20 : decode cX1_toGoal 20 = .ok (.getfield 29, 3) := by decide +kernel
theorem dX1_toGoal_23 : decode cX1_toGoal 23 = .ok (.aload_n 0, 1) := by decide +kernel
theorem dX1_toGoal_24 : decode cX1_toGoal 24 = .ok (.getfield 42, 3) := by decide +kernel
theorem dX1_toGoal_27 : decode cX1_toGoal 27 = .ok (.imul, 1) := by decide +kernel
theorem dX1_toGoal_28 : decode cX1_toGoal 28 = .ok (.iload_n 1, 1) := by decide +kernel
theorem dX1_toGoal_29 : decode cX1_toGoal 29 = .ok (.iadd, 1) := by decide +kernel
theorem dX1_toGoal_30 : decode cX1_toGoal 30 = .ok (.iaload, 1) := by decide +kernel
theorem dX1_toGoal_31 : decode cX1_toGoal 31 = .ok (.iastore, 1) := by decide +kernel
theorem dX1_toGoal_32 : decode cX1_toGoal 32 = .ok (.iinc 1 1, 3) := by decide +kernel
theorem dX1_toGoal_35 : decode cX1_toGoal 35 = .ok (.goto (-33), 3) := by decide +kernel
theorem dX1_toGoal_38 : decode cX1_toGoal 38 = .ok (.return_, 1) := by decide +kernel
set_option maxRecDepth 20000 in
theorem ggX1_format_X1_node : GoodIn wsX1_format wsX1_node := goodIn_r _ [14, 4, 15, 25, 26, 27, 28, 29, 30, 31, 32, 33, 34, 35] (by decide +kernel) (by decide +kernel)
set_option maxRecDepth 20000 in
theorem gX1_format_X1_node : GoodIn wsX1_format (wsV RX1 45 RX1 yX1_node wsX1_node) := goodIn_app (goodIn_of _ (by decide +kernel)) ggX1_format_X1_node
set_option maxRecDepth 20000 in
theorem ggX1_format_X1_hash : GoodIn wsX1_format wsX1_hash := goodIn_r _ [19, 15, 3, 20, 21, 13, 22, 23, 24, 25, 26, 27, 28, 29, 30, 31, 32, 33, 34, 35] (by decide +kernel) (by decide +kernel)
set_option maxRecDepth 20000 in
theorem gX1_format_X1_hash : GoodIn wsX1_format (wsV RX1 49 RX1 yX1_hash wsX1_hash) := goodIn_app (goodIn_of _ (by decide +kernel)) ggX1_format_X1_hash
set_option maxRecDepth 20000 in
theorem ggX1_format_X1_mix : GoodIn wsX1_format wsX1_mix := goodIn_r _ [22, 23, 24] (by decide +kernel) (by decide +kernel)
set_option maxRecDepth 20000 in
theorem gX1_format_X1_mix : GoodIn wsX1_format (va_wsS RX1 38 yX1_mix wsX1_mix) := goodIn_app (goodIn_of _ (by decide +kernel)) ggX1_format_X1_mix
theorem dX1_format_0 : decode cX1_format 0 = .ok (.iconst 0, 1) := by decide +kernel
theorem dX1_format_1 : decode cX1_format 1 = .ok (.istore_n 1, 1) := by decide +kernel
theorem dX1_format_2 : decode cX1_format 2 = .ok (.iload_n 1, 1) := by decide +kernel
theorem dX1_format_3 : decode cX1_format 3 = .ok (.sipush 600, 3) := by decide +kernel
theorem dX1_format_6 : decode cX1_format 6 = .ok (.if_icmp .ge 16, 3) := by decide +kernel
theorem dX1_format_9 : decode cX1_format 9 = .ok (.aload_n 0, 1) := by decide +kernel
theorem dX1_format_10 : decode cX1_format 10 = .ok (.getfield 7, 3) := by decide +kernel
theorem dX1_format_13 : decode cX1_format 13 = .ok (.iload_n 1, 1) := by decide +kernel
theorem dX1_format_14 : decode cX1_format 14 = .ok (.iconst 0, 1) := by decide +kernel
theorem dX1_format_15 : decode cX1_format 15 = .ok (.iastore, 1) := by decide +kernel
theorem dX1_format_16 : decode cX1_format 16 = .ok (.iinc 1 1, 3) := by decide +kernel
theorem dX1_format_19 : decode cX1_format 19 = .ok (.goto (-17), 3) := by decide +kernel
theorem dX1_format_22 : decode cX1_format 22 = .ok (.iconst 0, 1) := by decide +kernel
theorem dX1_format_23 : decode cX1_format 23 = .ok (.istore_n 1, 1) := by decide +kernel
theorem dX1_format_24 : decode cX1_format 24 = .ok (.iload_n 1, 1) := by decide +kernel
theorem dX1_format_25 : decode cX1_format 25 = .ok (.aload_n 0, 1) := by decide +kernel
theorem dX1_format_26 : decode cX1_format 26 = .ok (.getfield 29, 3) := by decide +kernel
theorem dX1_format_29 : decode cX1_format 29 = .ok (.if_icmp .ge 16, 3) := by decide +kernel
theorem dX1_format_32 : decode cX1_format 32 = .ok (.aload_n 0, 1) := by decide +kernel
theorem dX1_format_33 : decode cX1_format 33 = .ok (.getfield 13, 3) := by decide +kernel
theorem dX1_format_36 : decode cX1_format 36 = .ok (.iload_n 1, 1) := by decide +kernel
theorem dX1_format_37 : decode cX1_format 37 = .ok (.iconst 0, 1) := by decide +kernel
theorem dX1_format_38 : decode cX1_format 38 = .ok (.iastore, 1) := by decide +kernel
theorem dX1_format_39 : decode cX1_format 39 = .ok (.iinc 1 1, 3) := by decide +kernel
theorem dX1_format_42 : decode cX1_format 42 = .ok (.goto (-18), 3) := by decide +kernel
theorem dX1_format_45 : decode cX1_format 45 = .ok (.iconst 2, 1) := by decide +kernel
theorem dX1_format_46 : decode cX1_format 46 = .ok (.aload_n 0, 1) := by decide +kernel
theorem dX1_format_47 : decode cX1_format 47 = .ok (.getfield 23, 3) := by decide +kernel
theorem dX1_format_50 : decode cX1_format 50 = .ok (.imul, 1) := by decide +kernel
theorem dX1_format_51 : decode cX1_format 51 = .ok (.iconst 1, 1) := by decide +kernel
theorem dX1_format_52 : decode cX1_format 52 = .ok (.isub, 1) := by decide +kernel
theorem dX1_format_53 : decode cX1_format 53 = .ok (.istore_n 1, 1) := by decide +kernel
theorem dX1_format_54 : decode cX1_format 54 = .ok (.iload_n 1, 1) := by decide +kernel
theorem dX1_format_55 : decode cX1_format 55 = .ok (.ifCond .le 69, 3) := by decide +kernel
theorem dX1_format_58 : decode cX1_format 58 = .ok (.aload_n 0, 1) := by decide +kernel
theorem dX1_format_59 : decode cX1_format 59 = .ok (.getfield 13, 3) := by decide +kernel
theorem dX1_format_62 : decode cX1_format 62 = .ok (.aload_n 0, 1) := by decide +kernel
theorem dX1_format_63 : decode cX1_format 63 = .ok (.iload_n 1, 1) := by decide +kernel
theorem dX1_format_64 : decode cX1_format 64 = .ok (.invokevirtual 45, 3) := by decide +kernel
theorem dX1_format_67 : decode cX1_format 67 = .ok (.iload_n 1, 1) := by decide +kernel
theorem dX1_format_68 : decode cX1_format 68 = .ok (.aload_n 0, 1) := by decide +kernel
theorem dX1_format_69 : decode cX1_format 69 = .ok (.getfield 23, 3) := by decide +kernel
theorem dX1_format_72 : decode cX1_format 72 = .ok (.if_icmp .lt 16, 3) := by decide +kernel
theorem dX1_format_75 : decode cX1_format 75 = .ok (.aload_n 0, 1) := by decide +kernel
theorem dX1_format_76 : decode cX1_format 76 = .ok (.iload_n 1, 1) := by decide +kernel
theorem dX1_format_77 : decode cX1_format 77 = .ok (.aload_n 0, 1) := by decide +kernel
theorem dX1_format_78 : decode cX1_format 78 = .ok (.getfield 23, 3) := by decide +kernel
theorem dX1_format_81 : decode cX1_format 81 = .ok (.isub, 1) := by decide +kernel
theorem dX1_format_82 : decode cX1_format 82 = .ok (.invokevirtual 49, 3) := by decide +kernel
theorem dX1_format_85 : decode cX1_format 85 = .ok (.goto 32, 3) := by decide +kernel
theorem dX1_format_88 : decode cX1_format 88 = .ok (.aload_n 0, 1) := by decide +kernel
theorem dX1_format_89 : decode cX1_format 89 = .ok (.getfield 13, 3) := by decide +kernel
theorem dX1_format_92 : decode cX1_format 92 = .ok (.aload_n 0, 1) := by decide +kernel
theorem dX1_format_93 : decode cX1_format 93 = .ok (.iconst 2, 1) := by decide +kernel
theorem dX1_format_94 : decode cX1_format 94 = .ok (.iload_n 1, 1) := by decide +kernel
theorem dX1_format_95 : decode cX1_format 95 = .ok (.imul, 1) := by decide +kernel
theorem dX1_format_96 : decode cX1_format 96 = .ok (.invokevirtual 45, 3) := by decide +kernel
theorem dX1_format_99 : decode cX1_format 99 = .ok (.iaload, 1) := by decide +kernel
theorem dX1_format_100 : decode cX1_format 100 = .ok (.aload_n 0, 1) := by decide +kernel
theorem dX1_format_101 : decode cX1_format 101 = .ok (.getfield 13, 3) := by decide +kernel
theorem dX1_format_104 : decode cX1_format 104 = .ok (.aload_n 0, 1) := by decide +kernel
theorem dX1_format_105 : decode cX1_format 105 = .ok (.iconst 2, 1) := by decide +kernel
theorem dX1_format_106 : decode cX1_format 106 = .ok (.iload_n 1, 1) := by decide +kernel
theorem dX1_format_107 : decode cX1_format 107 = .ok (.imul, 1) := by decide +kernel
theorem dX1_format_108 : decode cX1_format 108 = .ok (.iconst 1, 1) := by decide +kernel
theorem dX1_format_109 : decode cX1_format 109 = .ok (.iadd, 1) := by decide +kernel
theorem dX1_format_110 : decode cX1_format 110 = .ok (.invokevirtual 45, 3) := by decide +kernel
theorem dX1_format_113 : decode cX1_format 113 = .ok (.iaload, 1) := by decide +kernel
theorem dX1_format_114 : decode cX1_format 114 = .ok (.invokestatic 38, 3) := by decide +kernel
theorem dX1_format_117 : decode cX1_format 117 = .ok (.iastore, 1) := by decide +kernel
theorem dX1_format_118 : decode cX1_format 118 = .ok (.iinc 1 (-1), 3) := by decide +kernel
theorem dX1_format_121 : decode cX1_format 121 = .ok (.goto (-67), 3) := by decide +kernel
theorem dX1_format_124 : decode cX1_format 124 = .ok (.iconst 0, 1) := by decide +kernel
theorem dX1_format_125 : decode cX1_format 125 = .ok (.istore_n 1, 1) := by decide +kernel
theorem dX1_format_126 : decode cX1_format 126 = .ok (.iload_n 1, 1) := by decide +kernel
theorem dX1_format_127 : decode cX1_format 127 = .ok (.aload_n 0, 1) := by decide +kernel
theorem dX1_format_128 : decode cX1_format 128 = .ok (.getfield 29, 3) := by decide +kernel
theorem dX1_format_131 : decode cX1_format 131 = .ok (.if_icmp .ge 21, 3) := by decide +kernel
theorem dX1_format_134 : decode cX1_format 134 = .ok (.aload_n 0, 1) := by decide +kernel
theorem dX1_format_135 : decode cX1_format 135 = .ok (.getfield 7, 3) := by decide +kernel
theorem dX1_format_138 : decode cX1_format 138 = .ok (.iload_n 1, 1) := by decide +kernel
theorem dX1_format_139 : decode cX1_format 139 = .ok (.aload_n 0, 1) := by decide +kernel
theorem dX1_format_140 : decode cX1_format 140 = .ok (.getfield 13, 3) := by decide +kernel
theorem dX1_format_143 : decode cX1_format 143 = .ok (.iload_n 1, 1) := by decide +kernel
theorem dX1_format_144 : decode cX1_format 144 = .ok (.iaload, 1) := by decide +kernel
theorem dX1_format_145 : decode cX1_format 145 = .ok (.iastore, 1) := by decide +kernel
theorem dX1_format_146 : decode cX1_format 146 = .ok (.iinc 1 1, 3) := by decide +kernel
theorem dX1_format_149 : decode cX1_format 149 = .ok (.goto (-23), 3) := by decide +kernel
theorem dX1_format_152 : decode cX1_format 152 = .ok (.aload_n 0, 1) := by decide +kernel
theorem dX1_format_153 : decode cX1_format 153 = .ok (.iconst 0, 1) := by decide +kernel
theorem dX1_format_154 : decode cX1_format 154 = .ok (.putfield 42, 3) := by decide +kernel
theorem dX1_format_157 : decode cX1_format 157 = .ok (.aload_n 0, 1) := by decide +kernel
theorem dX1_format_158 : decode cX1_format 158 = .ok (.aload_n 0, 1) := by decide +kernel
theorem dX1_format_159 : decode cX1_format 159 = .ok (.getfield 13, 3) := by decide +kernel
theorem dX1_format_162 : decode cX1_format 162 = .ok (.aload_n 0, 1) := by decide +kernel
theorem dX1_format_163 : decode cX1_format 163 = .ok (.iconst 1, 1) := by decide +kernel
theorem dX1_format_164 : decode cX1_format 164 = .ok (.invokevirtual 45, 3) := by decide +kernel
theorem dX1_format_167 : decode cX1_format 167 = .ok (.iaload, 1) := by decide +kernel
theorem dX1_format_168 : decode cX1_format 168 = .ok (.putfield 52, 3) := by decide +kernel
theorem dX1_format_171 : decode cX1_format 171 = .ok (.aload_n 0, 1) := by decide +kernel
theorem dX1_format_172 : decode cX1_format 172 = .ok (.iconst 0, 1) := by decide +kernel
theorem dX1_format_173 : decode cX1_format 173 = .ok (.putfield 55, 3) := by decide +kernel
theorem dX1_format_176 : decode cX1_format 176 = .ok (.aload_n 0, 1) := by decide +kernel
theorem dX1_format_177 : decode cX1_format 177 = .ok (.iconst (-1), 1) := by decide +kernel
theorem dX1_format_178 : decode cX1_format 178 = .ok (.putfield 16, 3) := by decide +kernel
theorem dX1_format_181 : decode cX1_format 181 = .ok (.aload_n 0, 1) := by decide +kernel
theorem dX1_format_182 : decode cX1_format 182 = .ok (.iconst 0, 1) := by decide +kernel
theorem dX1_format_183 : decode cX1_format 183 = .ok (.putfield 58, 3) := by decide +kernel
theorem dX1_format_186 : decode cX1_format 186 = .ok (.iconst 0, 1) := by decide +kernel
theorem dX1_format_187 : decode cX1_format 187 = .ok (.ireturn, 1) := by decide +kernel
theorem dX1_isBlock_0 : decode cX1_isBlock 0 = .ok (.iload_n 1, 1) := by decide +kernel
theorem dX1_isBlock_1 : decode cX1_isBlock 1 = .ok (.ifCond .lt 15, 3) := by decide +kernel
theorem dX1_isBlock_4 : decode cX1_isBlock 4 = .ok (.iload_n 1, 1) := by decide +kernel
theorem dX1_isBlock_5 : decode cX1_isBlock 5 = .ok (.aload_n 0, 1) := by decide +kernel
theorem dX1_isBlock_6 : decode cX1_isBlock 6 = .ok (.getfield 23, 3) := by decide +kernel
theorem dX1_isBlock_9 : decode cX1_isBlock 9 = .ok (.if_icmp .ge 7, 3) := by decide +kernel
theorem dX1_isBlock_12 : decode cX1_isBlock 12 = .ok (.iconst 1, 1) := by decide +kernel
theorem dX1_isBlock_13 : decode cX1_isBlock 13 = .ok (.goto 4, 3) := by decide +kernel
theorem dX1_isBlock_16 : decode cX1_isBlock 16 = .ok (.iconst 0, 1) := by decide +kernel
theorem dX1_isBlock_17 : decode cX1_isBlock 17 = .ok (.ireturn, 1) := by decide +kernel
set_option maxRecDepth 20000 in
theorem ggX1_way_X1_hash : GoodIn wsX1_way wsX1_hash := goodIn_r _ [7, 8, 2, 9, 10, 6, 11, 12, 13, 18, 19, 20, 21, 22, 23, 24, 25, 26, 27, 28] (by decide +kernel) (by decide +kernel)
set_option maxRecDepth 20000 in
theorem gX1_way_X1_hash : GoodIn wsX1_way (wsV RX1 49 RX1 yX1_hash wsX1_hash) := goodIn_app (goodIn_of _ (by decide +kernel)) ggX1_way_X1_hash
set_option maxRecDepth 20000 in
theorem ggX1_way_X1_node : GoodIn wsX1_way wsX1_node := goodIn_r _ [17, 1, 8, 18, 19, 20, 21, 22, 23, 24, 25, 26, 27, 28] (by decide +kernel) (by decide +kernel)
set_option maxRecDepth 20000 in
theorem gX1_way_X1_node : GoodIn wsX1_way (wsV RX1 45 RX1 yX1_node wsX1_node) := goodIn_app (goodIn_of _ (by decide +kernel)) ggX1_way_X1_node
set_option maxRecDepth 20000 in
theorem ggX1_way_X1_mix : GoodIn wsX1_way wsX1_mix := goodIn_r _ [11, 12, 13] (by decide +kernel) (by decide +kernel)
set_option maxRecDepth 20000 in
theorem gX1_way_X1_mix : GoodIn wsX1_way (va_wsS RX1 38 yX1_mix wsX1_mix) := goodIn_app (goodIn_of _ (by decide +kernel)) ggX1_way_X1_mix
theorem dX1_way_0 : decode cX1_way 0 = .ok (.aload_n 0, 1) := by decide +kernel
theorem dX1_way_1 : decode cX1_way 1 = .ok (.iload_n 1, 1) := by decide +kernel
theorem dX1_way_2 : decode cX1_way 2 = .ok (.invokevirtual 49, 3) := by decide +kernel
theorem dX1_way_5 : decode cX1_way 5 = .ok (.istore_n 3, 1) := by decide +kernel
theorem dX1_way_6 : decode cX1_way 6 = .ok (.aload_n 0, 1) := by decide +kernel
theorem dX1_way_7 : decode cX1_way 7 = .ok (.getfield 23, 3) := by decide +kernel
theorem dX1_way_10 : decode cX1_way 10 = .ok (.iload_n 1, 1) := by decide +kernel
theorem dX1_way_11 : decode cX1_way 11 = .ok (.iadd, 1) := by decide +kernel
theorem dX1_way_12 : decode cX1_way 12 = .ok (.istore 4, 2) := by decide +kernel
theorem dX1_way_14 : decode cX1_way 14 = .ok (.iload 4, 2) := by decide +kernel
theorem dX1_way_16 : decode cX1_way 16 = .ok (.ifCond .le 86, 3) := by decide +kernel
theorem dX1_way_19 : decode cX1_way 19 = .ok (.iload_n 2, 1) := by decide +kernel
theorem dX1_way_20 : decode cX1_way 20 = .ok (.ifCond .eq 15, 3) := by decide +kernel
theorem dX1_way_23 : decode cX1_way 23 = .ok (.aload_n 0, 1) := by decide +kernel
theorem dX1_way_24 : decode cX1_way 24 = .ok (.getfield 13, 3) := by decide +kernel
theorem dX1_way_27 : decode cX1_way 27 = .ok (.aload_n 0, 1) := by decide +kernel
theorem dX1_way_28 : decode cX1_way 28 = .ok (.iload 4, 2) := by decide +kernel
theorem dX1_way_30 : decode cX1_way 30 = .ok (.invokevirtual 45, 3) := by decide +kernel
theorem dX1_way_33 : decode cX1_way 33 = .ok (.iload_n 3, 1) := by decide +kernel
theorem dX1_way_34 : decode cX1_way 34 = .ok (.iastore, 1) := by decide +kernel
theorem dX1_way_35 : decode cX1_way 35 = .ok (.iload 4, 2) := by decide +kernel
theorem dX1_way_37 : decode cX1_way 37 = .ok (.iconst 1, 1) := by decide +kernel
theorem dX1_way_38 : decode cX1_way 38 = .ok (.if_icmp .le 55, 3) := by decide +kernel
theorem dX1_way_41 : decode cX1_way 41 = .ok (.aload_n 0, 1) := by decide +kernel
theorem dX1_way_42 : decode cX1_way 42 = .ok (.getfield 13, 3) := by decide +kernel
theorem dX1_way_45 : decode cX1_way 45 = .ok (.aload_n 0, 1) := by decide +kernel
theorem dX1_way_46 : decode cX1_way 46 = .ok (.iload 4, 2) := by decide +kernel
theorem dX1_way_48 : decode cX1_way 48 = .ok (.iconst 2, 1) := by decide +kernel
theorem dX1_way_49 : decode cX1_way 49 = .ok (.irem, 1) := by decide +kernel
theorem dX1_way_50 : decode cX1_way 50 = .ok (.ifCond .ne 10, 3) := by decide +kernel
theorem dX1_way_53 : decode cX1_way 53 = .ok (.iload 4, 2) := by decide +kernel
theorem dX1_way_55 : decode cX1_way 55 = .ok (.iconst 1, 1) := by decide +kernel
theorem dX1_way_56 : decode cX1_way 56 = .ok (.iadd, 1) := by decide +kernel
theorem dX1_way_57 : decode cX1_way 57 = .ok (.goto 7, 3) := by decide +kernel
theorem dX1_way_60 : decode cX1_way 60 = .ok (.iload 4, 2) := by decide +kernel
theorem dX1_way_62 : decode cX1_way 62 = .ok (.iconst 1, 1) := by decide +kernel
theorem dX1_way_63 : decode cX1_way 63 = .ok (.isub, 1) := by decide +kernel
theorem dX1_way_64 : decode cX1_way 64 = .ok (.invokevirtual 45, 3) := by decide +kernel
theorem dX1_way_67 : decode cX1_way 67 = .ok (.iaload, 1) := by decide +kernel
theorem dX1_way_68 : decode cX1_way 68 = .ok (.istore 5, 2) := by decide +kernel
theorem dX1_way_70 : decode cX1_way 70 = .ok (.iload 4, 2) := by decide +kernel
theorem dX1_way_72 : decode cX1_way 72 = .ok (.iconst 2, 1) := by decide +kernel
theorem dX1_way_73 : decode cX1_way 73 = .ok (.irem, 1) := by decide +kernel
theorem dX1_way_74 : decode cX1_way 74 = .ok (.ifCond .ne 12, 3) := by decide +kernel
theorem dX1_way_77 : decode cX1_way 77 = .ok (.iload_n 3, 1) := by decide +kernel
theorem dX1_way_78 : decode cX1_way 78 = .ok (.iload 5, 2) := by decide +kernel
theorem dX1_way_80 : decode cX1_way 80 = .ok (.invokestatic 38, 3) := by decide +kernel
theorem dX1_way_83 : decode cX1_way 83 = .ok (.goto 9, 3) := by decide +kernel
theorem dX1_way_86 : decode cX1_way 86 = .ok (.iload 5, 2) := by decide +kernel
theorem dX1_way_88 : decode cX1_way 88 = .ok (.iload_n 3, 1) := by decide +kernel
theorem dX1_way_89 : decode cX1_way 89 = .ok (.invokestatic 38, 3) := by decide +kernel
theorem dX1_way_92 : decode cX1_way 92 = .ok (.istore_n 3, 1) := by decide +kernel
theorem dX1_way_93 : decode cX1_way 93 = .ok (.iload 4, 2) := by decide +kernel
theorem dX1_way_95 : decode cX1_way 95 = .ok (.iconst 2, 1) := by decide +kernel
theorem dX1_way_96 : decode cX1_way 96 = .ok (.idiv, 1) := by decide +kernel
theorem dX1_way_97 : decode cX1_way 97 = .ok (.istore 4, 2) := by decide +kernel
theorem dX1_way_99 : decode cX1_way 99 = .ok (.goto (-85), 3) := by decide +kernel
theorem dX1_way_102 : decode cX1_way 102 = .ok (.iload_n 3, 1) := by decide +kernel
theorem dX1_way_103 : decode cX1_way 103 = .ok (.ireturn, 1) := by decide +kernel
set_option maxRecDepth 20000 in
theorem ggX1_isRight_X1_toGoal : GoodIn wsX1_isRight wsX1_toGoal := goodIn_r _ [8, 9, 2, 10, 11, 30, 31, 32, 33, 34, 35, 36, 37, 38, 39, 40] (by decide +kernel) (by decide +kernel)
set_option maxRecDepth 20000 in
theorem gX1_isRight_X1_toGoal : GoodIn wsX1_isRight (wsV RX1 62 RX1 yX1_toGoal wsX1_toGoal) := goodIn_app (goodIn_of _ (by decide +kernel)) ggX1_isRight_X1_toGoal
set_option maxRecDepth 20000 in
theorem ggX1_isRight_X1_way : GoodIn wsX1_isRight wsX1_way := goodIn_r _ [15, 16, 2, 17, 18, 19, 7, 20, 1, 21, 22, 23, 24, 25, 26, 27, 28, 29, 30, 31, 32, 33, 34, 35, 36, 37, 38, 39, 40] (by decide +kernel) (by decide +kernel)
set_option maxRecDepth 20000 in
theorem gX1_isRight_X1_way : GoodIn wsX1_isRight (wsV RX1 65 RX1 yX1_way wsX1_way) := goodIn_app (goodIn_of _ (by decide +kernel)) ggX1_isRight_X1_way
theorem dX1_isRight_0 : decode cX1_isRight 0 = .ok (.aload_n 0, 1) := by decide +kernel
theorem dX1_isRight_1 : decode cX1_isRight 1 = .ok (.invokevirtual 62, 3) := by decide +kernel
theorem dX1_isRight_4 : decode cX1_isRight 4 = .ok (.iconst 0, 1) := by decide +kernel
theorem dX1_isRight_5 : decode cX1_isRight 5 = .ok (.istore_n 2, 1) := by decide +kernel
theorem dX1_isRight_6 : decode cX1_isRight 6 = .ok (.iload_n 2, 1) := by decide +kernel
theorem dX1_isRight_7 : decode cX1_isRight 7 = .ok (.aload_n 0, 1) := by decide +kernel
theorem dX1_isRight_8 : decode cX1_isRight 8 = .ok (.getfield 26, 3) := by decide +kernel
theorem dX1_isRight_11 : decode cX1_isRight 11 = .ok (.if_icmp .ge 27, 3) := by decide +kernel
theorem dX1_isRight_14 : decode cX1_isRight 14 = .ok (.aload_n 0, 1) := by decide +kernel
theorem dX1_isRight_15 : decode cX1_isRight 15 = .ok (.getfield 13, 3) := by decide +kernel
theorem dX1_isRight_18 : decode cX1_isRight 18 = .ok (.iload_n 1, 1) := by decide +kernel
theorem dX1_isRight_19 : decode cX1_isRight 19 = .ok (.aload_n 0, 1) := by decide +kernel
theorem dX1_isRight_20 : decode cX1_isRight 20 = .ok (.getfield 26, 3) := by decide +kernel
theorem dX1_isRight_23 : decode cX1_isRight 23 = .ok (.imul, 1) := by decide +kernel
theorem dX1_isRight_24 : decode cX1_isRight 24 = .ok (.iload_n 2, 1) := by decide +kernel
theorem dX1_isRight_25 : decode cX1_isRight 25 = .ok (.iadd, 1) := by decide +kernel
theorem dX1_isRight_26 : decode cX1_isRight 26 = .ok (.iaload, 1) := by decide +kernel
theorem dX1_isRight_27 : decode cX1_isRight 27 = .ok (.ifCond .ge 5, 3) := by decide +kernel
theorem dX1_isRight_30 : decode cX1_isRight 30 = .ok (.iconst 0, 1) := by decide +kernel
theorem dX1_isRight_31 : decode cX1_isRight 31 = .ok (.ireturn, 1) := by decide +kernel
theorem dX1_isRight_32 : decode cX1_isRight 32 = .ok (.iinc 2 1, 3) := by decide +kernel
theorem dX1_isRight_35 : decode cX1_isRight 35 = .ok (.goto (-29), 3) := by decide +kernel
theorem dX1_isRight_38 : decode cX1_isRight 38 = .ok (.aload_n 0, 1) := by decide +kernel
theorem dX1_isRight_39 : decode cX1_isRight 39 = .ok (.iload_n 1, 1) := by decide +kernel
theorem dX1_isRight_40 : decode cX1_isRight 40 = .ok (.iconst 0, 1) := by decide +kernel
theorem dX1_isRight_41 : decode cX1_isRight 41 = .ok (.invokevirtual 65, 3) := by decide +kernel
theorem dX1_isRight_44 : decode cX1_isRight 44 = .ok (.aload_n 0, 1) := by decide +kernel
theorem dX1_isRight_45 : decode cX1_isRight 45 = .ok (.getfield 52, 3) := by decide +kernel
theorem dX1_isRight_48 : decode cX1_isRight 48 = .ok (.if_icmp .ne 7, 3) := by decide +kernel
theorem dX1_isRight_51 : decode cX1_isRight 51 = .ok (.iconst 1, 1) := by decide +kernel
theorem dX1_isRight_52 : decode cX1_isRight 52 = .ok (.goto 4, 3) := by decide +kernel
theorem dX1_isRight_55 : decode cX1_isRight 55 = .ok (.iconst 0, 1) := by decide +kernel
theorem dX1_isRight_56 : decode cX1_isRight 56 = .ok (.ireturn, 1) := by decide +kernel
theorem dX1_put_0 : decode cX1_put 0 = .ok (.aload_n 0, 1) := by decide +kernel
theorem dX1_put_1 : decode cX1_put 1 = .ok (.getfield 29, 3) := by decide +kernel
theorem dX1_put_4 : decode cX1_put 4 = .ok (.iconst 1, 1) := by decide +kernel
theorem dX1_put_5 : decode cX1_put 5 = .ok (.aload_n 0, 1) := by decide +kernel
theorem dX1_put_6 : decode cX1_put 6 = .ok (.getfield 42, 3) := by decide +kernel
theorem dX1_put_9 : decode cX1_put 9 = .ok (.isub, 1) := by decide +kernel
theorem dX1_put_10 : decode cX1_put 10 = .ok (.imul, 1) := by decide +kernel
theorem dX1_put_11 : decode cX1_put 11 = .ok (.iload_n 1, 1) := by decide +kernel
theorem dX1_put_12 : decode cX1_put 12 = .ok (.iadd, 1) := by decide +kernel
theorem dX1_put_13 : decode cX1_put 13 = .ok (.istore_n 2, 1) := by decide +kernel
theorem dX1_put_14 : decode cX1_put 14 = .ok (.aload_n 0, 1) := by decide +kernel
theorem dX1_put_15 : decode cX1_put 15 = .ok (.getfield 7, 3) := by decide +kernel
theorem dX1_put_18 : decode cX1_put 18 = .ok (.iload_n 2, 1) := by decide +kernel
theorem dX1_put_19 : decode cX1_put 19 = .ok (.iaload, 1) := by decide +kernel
theorem dX1_put_20 : decode cX1_put 20 = .ok (.aload_n 0, 1) := by decide +kernel
theorem dX1_put_21 : decode cX1_put 21 = .ok (.getfield 13, 3) := by decide +kernel
theorem dX1_put_24 : decode cX1_put 24 = .ok (.iload_n 1, 1) := by decide +kernel
theorem dX1_put_25 : decode cX1_put 25 = .ok (.iaload, 1) := by decide +kernel
theorem dX1_put_26 : decode cX1_put 26 = .ok (.if_icmp .ne 5, 3) := by decide +kernel
theorem dX1_put_29 : decode cX1_put 29 = .ok (.iconst 1, 1) := by decide +kernel
theorem dX1_put_30 : decode cX1_put 30 = .ok (.ireturn, 1) := by decide +kernel
theorem dX1_put_31 : decode cX1_put 31 = .ok (.aload_n 0, 1) := by decide +kernel
theorem dX1_put_32 : decode cX1_put 32 = .ok (.getfield 16, 3) := by decide +kernel
theorem dX1_put_35 : decode cX1_put 35 = .ok (.ifCond .ne 10, 3) := by decide +kernel
theorem dX1_put_38 : decode cX1_put 38 = .ok (.aload_n 0, 1) := by decide +kernel
theorem dX1_put_39 : decode cX1_put 39 = .ok (.iconst 1, 1) := by decide +kernel
theorem dX1_put_40 : decode cX1_put 40 = .ok (.putfield 58, 3) := by decide +kernel
theorem dX1_put_43 : decode cX1_put 43 = .ok (.iconst 0, 1) := by decide +kernel
theorem dX1_put_44 : decode cX1_put 44 = .ok (.ireturn, 1) := by decide +kernel
theorem dX1_put_45 : decode cX1_put 45 = .ok (.aload_n 0, 1) := by decide +kernel
theorem dX1_put_46 : decode cX1_put 46 = .ok (.aload_n 0, 1) := by decide +kernel
theorem dX1_put_47 : decode cX1_put 47 = .ok (.getfield 16, 3) := by decide +kernel
theorem dX1_put_50 : decode cX1_put 50 = .ok (.ifCond .le 12, 3) := by decide +kernel
theorem dX1_put_53 : decode cX1_put 53 = .ok (.aload_n 0, 1) := by decide +kernel
theorem dX1_put_54 : decode cX1_put 54 = .ok (.getfield 16, 3) := by decide +kernel
theorem dX1_put_57 : decode cX1_put 57 = .ok (.iconst 1, 1) := by decide +kernel
theorem dX1_put_58 : decode cX1_put 58 = .ok (.isub, 1) := by decide +kernel
theorem dX1_put_59 : decode cX1_put 59 = .ok (.goto 7, 3) := by decide +kernel
theorem dX1_put_62 : decode cX1_put 62 = .ok (.aload_n 0, 1) := by decide +kernel
theorem dX1_put_63 : decode cX1_put 63 = .ok (.getfield 16, 3) := by decide +kernel
theorem dX1_put_66 : decode cX1_put 66 = .ok (.putfield 16, 3) := by decide +kernel
theorem dX1_put_69 : decode cX1_put 69 = .ok (.aload_n 0, 1) := by decide +kernel
theorem dX1_put_70 : decode cX1_put 70 = .ok (.getfield 7, 3) := by decide +kernel
theorem dX1_put_73 : decode cX1_put 73 = .ok (.iload_n 2, 1) := by decide +kernel
theorem dX1_put_74 : decode cX1_put 74 = .ok (.aload_n 0, 1) := by decide +kernel
theorem dX1_put_75 : decode cX1_put 75 = .ok (.getfield 13, 3) := by decide +kernel
theorem dX1_put_78 : decode cX1_put 78 = .ok (.iload_n 1, 1) := by decide +kernel
theorem dX1_put_79 : decode cX1_put 79 = .ok (.iaload, 1) := by decide +kernel
theorem dX1_put_80 : decode cX1_put 80 = .ok (.iastore, 1) := by decide +kernel
theorem dX1_put_81 : decode cX1_put 81 = .ok (.aload_n 0, 1) := by decide +kernel
theorem dX1_put_82 : decode cX1_put 82 = .ok (.dup, 1) := by decide +kernel
theorem dX1_put_83 : decode cX1_put 83 = .ok (.getfield 55, 3) := by decide +kernel
theorem dX1_put_86 : decode cX1_put 86 = .ok (.iconst 1, 1) := by decide +kernel
theorem dX1_put_87 : decode cX1_put 87 = .ok (.iadd, 1) := by decide +kernel
theorem dX1_put_88 : decode cX1_put 88 = .ok (.putfield 55, 3) := by decide +kernel
theorem dX1_put_91 : decode cX1_put 91 = .ok (.iconst 1, 1) := by decide +kernel
theorem dX1_put_92 : decode cX1_put 92 = .ok (.ireturn, 1) := by decide +kernel
set_option maxRecDepth 20000 in
theorem ggX1_write_X1_isBlock : GoodIn wsX1_write wsX1_isBlock := goodIn_r _ [11, 4, 45, 46, 47, 48, 49, 50, 51, 52, 53, 54, 55] (by decide +kernel) (by decide +kernel)
set_option maxRecDepth 20000 in
theorem gX1_write_X1_isBlock : GoodIn wsX1_write (wsV RX1 69 RX1 yX1_isBlock wsX1_isBlock) := goodIn_app (goodIn_of _ (by decide +kernel)) ggX1_write_X1_isBlock
set_option maxRecDepth 20000 in
theorem ggX1_write_X1_isRight : GoodIn wsX1_write wsX1_isRight := goodIn_r _ [15, 1, 3, 6, 16, 17, 18, 10, 19, 20, 21, 5, 22, 23, 24, 25, 4, 26, 27, 28, 29, 30, 31, 32, 33, 34, 35, 36, 37, 38, 45, 46, 47, 48, 49, 50, 51, 52, 53, 54, 55] (by decide +kernel) (by decide +kernel)
set_option maxRecDepth 20000 in
theorem gX1_write_X1_isRight : GoodIn wsX1_write (wsV RX1 73 RX1 yX1_isRight wsX1_isRight) := goodIn_app (goodIn_of _ (by decide +kernel)) ggX1_write_X1_isRight
set_option maxRecDepth 20000 in
theorem ggX1_write_X1_way : GoodIn wsX1_write wsX1_way := goodIn_r _ [25, 4, 3, 26, 27, 28, 10, 29, 1, 30, 31, 32, 33, 34, 35, 36, 37, 38, 45, 46, 47, 48, 49, 50, 51, 52, 53, 54, 55] (by decide +kernel) (by decide +kernel)
set_option maxRecDepth 20000 in
theorem gX1_write_X1_way : GoodIn wsX1_write (wsV RX1 65 RX1 yX1_way wsX1_way) := goodIn_app (goodIn_of _ (by decide +kernel)) ggX1_write_X1_way
set_option maxRecDepth 20000 in
theorem ggX1_write_X1_put : GoodIn wsX1_write wsX1_put := goodIn_r _ [42, 20, 5, 21, 3, 43, 2, 44, 45, 46, 47, 48, 49, 50, 51, 52, 53, 54, 55] (by decide +kernel) (by decide +kernel)
set_option maxRecDepth 20000 in
theorem gX1_write_X1_put : GoodIn wsX1_write (wsV RX1 76 RX1 yX1_put wsX1_put) := goodIn_app (goodIn_of _ (by decide +kernel)) ggX1_write_X1_put
set_option maxRecDepth 20000 in
theorem ggX1_write_X1_node : GoodIn wsX1_write wsX1_node := goodIn_r _ [38, 4, 1, 45, 46, 47, 48, 49, 50, 51, 52, 53, 54, 55] (by decide +kernel) (by decide +kernel)
set_option maxRecDepth 20000 in
theorem gX1_write_X1_node : GoodIn wsX1_write (wsV RX1 45 RX1 yX1_node wsX1_node) := goodIn_app (goodIn_of _ (by decide +kernel)) ggX1_write_X1_node
theorem dX1_write_0 : decode cX1_write 0 = .ok (.aload_n 0, 1) := by decide +kernel
theorem dX1_write_1 : decode cX1_write 1 = .ok (.iload_n 1, 1) := by decide +kernel
theorem dX1_write_2 : decode cX1_write 2 = .ok (.invokevirtual 69, 3) := by decide +kernel
theorem dX1_write_5 : decode cX1_write 5 = .ok (.ifCond .eq 19, 3) := by decide +kernel
theorem dX1_write_8 : decode cX1_write 8 = .ok (.iload_n 2, 1) := by decide +kernel
theorem dX1_write_9 : decode cX1_write 9 = .ok (.ifCond .lt 15, 3) := by decide +kernel
theorem dX1_write_12 : decode cX1_write 12 = .ok (.iload_n 2, 1) := by decide +kernel
theorem dX1_write_13 : decode cX1_write 13 = .ok (.aload_n 0, 1) := by decide +kernel
theorem dX1_write_14 : decode cX1_write 14 = .ok (.getfield 26, 3) := by decide +kernel
theorem dX1_write_17 : decode cX1_write 17 = .ok (.if_icmp .ge 7, 3) := by decide +kernel
theorem dX1_write_20 : decode cX1_write 20 = .ok (.iload_n 3, 1) := by decide +kernel
theorem dX1_write_21 : decode cX1_write 21 = .ok (.ifCond .ge 6, 3) := by decide +kernel
theorem dX1_write_24 : decode cX1_write 24 = .ok (.bipush (-2), 2) := by decide +kernel
theorem dX1_write_26 : decode cX1_write 26 = .ok (.ireturn, 1) := by decide +kernel
theorem dX1_write_27 : decode cX1_write 27 = .ok (.aload_n 0, 1) := by decide +kernel
theorem dX1_write_28 : decode cX1_write 28 = .ok (.getfield 58, 3) := by decide +kernel
theorem dX1_write_31 : decode cX1_write 31 = .ok (.ifCond .eq 6, 3) := by decide +kernel
theorem dX1_write_34 : decode cX1_write 34 = .ok (.bipush (-4), 2) := by decide +kernel
theorem dX1_write_36 : decode cX1_write 36 = .ok (.ireturn, 1) := by decide +kernel
theorem dX1_write_37 : decode cX1_write 37 = .ok (.aload_n 0, 1) := by decide +kernel
theorem dX1_write_38 : decode cX1_write 38 = .ok (.iload_n 1, 1) := by decide +kernel
theorem dX1_write_39 : decode cX1_write 39 = .ok (.invokevirtual 73, 3) := by decide +kernel
theorem dX1_write_42 : decode cX1_write 42 = .ok (.ifCond .ne 6, 3) := by decide +kernel
theorem dX1_write_45 : decode cX1_write 45 = .ok (.bipush (-3), 2) := by decide +kernel
theorem dX1_write_47 : decode cX1_write 47 = .ok (.ireturn, 1) := by decide +kernel
theorem dX1_write_48 : decode cX1_write 48 = .ok (.aload_n 0, 1) := by decide +kernel
theorem dX1_write_49 : decode cX1_write 49 = .ok (.getfield 13, 3) := by decide +kernel
theorem dX1_write_52 : decode cX1_write 52 = .ok (.iload_n 1, 1) := by decide +kernel
theorem dX1_write_53 : decode cX1_write 53 = .ok (.aload_n 0, 1) := by decide +kernel
theorem dX1_write_54 : decode cX1_write 54 = .ok (.getfield 26, 3) := by decide +kernel
theorem dX1_write_57 : decode cX1_write 57 = .ok (.imul, 1) := by decide +kernel
theorem dX1_write_58 : decode cX1_write 58 = .ok (.iload_n 2, 1) := by decide +kernel
theorem dX1_write_59 : decode cX1_write 59 = .ok (.iadd, 1) := by decide +kernel
theorem dX1_write_60 : decode cX1_write 60 = .ok (.iload_n 3, 1) := by decide +kernel
theorem dX1_write_61 : decode cX1_write 61 = .ok (.iastore, 1) := by decide +kernel
theorem dX1_write_62 : decode cX1_write 62 = .ok (.aload_n 0, 1) := by decide +kernel
theorem dX1_write_63 : decode cX1_write 63 = .ok (.iload_n 1, 1) := by decide +kernel
theorem dX1_write_64 : decode cX1_write 64 = .ok (.iconst 1, 1) := by decide +kernel
theorem dX1_write_65 : decode cX1_write 65 = .ok (.invokevirtual 65, 3) := by decide +kernel
theorem dX1_write_68 : decode cX1_write 68 = .ok (.istore 4, 2) := by decide +kernel
theorem dX1_write_70 : decode cX1_write 70 = .ok (.iconst 0, 1) := by decide +kernel
theorem dX1_write_71 : decode cX1_write 71 = .ok (.istore 5, 2) := by decide +kernel
theorem dX1_write_73 : decode cX1_write 73 = .ok (.iload 5, 2) := by decide +kernel
theorem dX1_write_75 : decode cX1_write 75 = .ok (.aload_n 0, 1) := by decide +kernel
theorem dX1_write_76 : decode cX1_write 76 = .ok (.getfield 23, 3) := by decide +kernel
theorem dX1_write_79 : decode cX1_write 79 = .ok (.aload_n 0, 1) := by decide +kernel
theorem dX1_write_80 : decode cX1_write 80 = .ok (.getfield 26, 3) := by decide +kernel
theorem dX1_write_83 : decode cX1_write 83 = .ok (.imul, 1) := by decide +kernel
theorem dX1_write_84 : decode cX1_write 84 = .ok (.if_icmp .ge 21, 3) := by decide +kernel
theorem dX1_write_87 : decode cX1_write 87 = .ok (.aload_n 0, 1) := by decide +kernel
theorem dX1_write_88 : decode cX1_write 88 = .ok (.iload 5, 2) := by decide +kernel
theorem dX1_write_90 : decode cX1_write 90 = .ok (.invokevirtual 76, 3) := by decide +kernel
theorem dX1_write_93 : decode cX1_write 93 = .ok (.ifCond .ne 6, 3) := by decide +kernel
theorem dX1_write_96 : decode cX1_write 96 = .ok (.bipush (-4), 2) := by decide +kernel
theorem dX1_write_98 : decode cX1_write 98 = .ok (.ireturn, 1) := by decide +kernel
theorem dX1_write_99 : decode cX1_write 99 = .ok (.iinc 5 1, 3) := by decide +kernel
theorem dX1_write_102 : decode cX1_write 102 = .ok (.goto (-29), 3) := by decide +kernel
theorem dX1_write_105 : decode cX1_write 105 = .ok (.iconst 2, 1) := by decide +kernel
theorem dX1_write_106 : decode cX1_write 106 = .ok (.aload_n 0, 1) := by decide +kernel
theorem dX1_write_107 : decode cX1_write 107 = .ok (.getfield 23, 3) := by decide +kernel
theorem dX1_write_110 : decode cX1_write 110 = .ok (.imul, 1) := by decide +kernel
theorem dX1_write_111 : decode cX1_write 111 = .ok (.iconst 1, 1) := by decide +kernel
theorem dX1_write_112 : decode cX1_write 112 = .ok (.isub, 1) := by decide +kernel
theorem dX1_write_113 : decode cX1_write 113 = .ok (.istore 5, 2) := by decide +kernel
theorem dX1_write_115 : decode cX1_write 115 = .ok (.iload 5, 2) := by decide +kernel
theorem dX1_write_117 : decode cX1_write 117 = .ok (.ifCond .le 25, 3) := by decide +kernel
theorem dX1_write_120 : decode cX1_write 120 = .ok (.aload_n 0, 1) := by decide +kernel
theorem dX1_write_121 : decode cX1_write 121 = .ok (.aload_n 0, 1) := by decide +kernel
theorem dX1_write_122 : decode cX1_write 122 = .ok (.iload 5, 2) := by decide +kernel
theorem dX1_write_124 : decode cX1_write 124 = .ok (.invokevirtual 45, 3) := by decide +kernel
theorem dX1_write_127 : decode cX1_write 127 = .ok (.invokevirtual 76, 3) := by decide +kernel
theorem dX1_write_130 : decode cX1_write 130 = .ok (.ifCond .ne 6, 3) := by decide +kernel
theorem dX1_write_133 : decode cX1_write 133 = .ok (.bipush (-4), 2) := by decide +kernel
theorem dX1_write_135 : decode cX1_write 135 = .ok (.ireturn, 1) := by decide +kernel
theorem dX1_write_136 : decode cX1_write 136 = .ok (.iinc 5 (-1), 3) := by decide +kernel
theorem dX1_write_139 : decode cX1_write 139 = .ok (.goto (-24), 3) := by decide +kernel
theorem dX1_write_142 : decode cX1_write 142 = .ok (.aload_n 0, 1) := by decide +kernel
theorem dX1_write_143 : decode cX1_write 143 = .ok (.iconst 1, 1) := by decide +kernel
theorem dX1_write_144 : decode cX1_write 144 = .ok (.aload_n 0, 1) := by decide +kernel
theorem dX1_write_145 : decode cX1_write 145 = .ok (.getfield 42, 3) := by decide +kernel
theorem dX1_write_148 : decode cX1_write 148 = .ok (.isub, 1) := by decide +kernel
theorem dX1_write_149 : decode cX1_write 149 = .ok (.putfield 42, 3) := by decide +kernel
theorem dX1_write_152 : decode cX1_write 152 = .ok (.aload_n 0, 1) := by decide +kernel
theorem dX1_write_153 : decode cX1_write 153 = .ok (.iload 4, 2) := by decide +kernel
theorem dX1_write_155 : decode cX1_write 155 = .ok (.putfield 52, 3) := by decide +kernel
theorem dX1_write_158 : decode cX1_write 158 = .ok (.iconst 0, 1) := by decide +kernel
theorem dX1_write_159 : decode cX1_write 159 = .ok (.ireturn, 1) := by decide +kernel
set_option maxRecDepth 20000 in
theorem ggX1_read_X1_isBlock : GoodIn wsX1_read wsX1_isBlock := goodIn_r _ [8, 9, 39, 40, 41, 42, 43, 44, 45, 46, 47, 48, 49] (by decide +kernel) (by decide +kernel)
set_option maxRecDepth 20000 in
theorem gX1_read_X1_isBlock : GoodIn wsX1_read (wsV RX1 69 RX1 yX1_isBlock wsX1_isBlock) := goodIn_app (goodIn_of _ (by decide +kernel)) ggX1_read_X1_isBlock
set_option maxRecDepth 20000 in
theorem ggX1_read_X1_isRight : GoodIn wsX1_read wsX1_isRight := goodIn_r _ [13, 1, 3, 14, 15, 16, 17, 7, 18, 19, 20, 21, 22, 23, 24, 25, 9, 26, 27, 28, 29, 30, 31, 32, 33, 34, 35, 36, 37, 38, 39, 40, 41, 42, 43, 44, 45, 46, 47, 48, 49] (by decide +kernel) (by decide +kernel)
set_option maxRecDepth 20000 in
theorem gX1_read_X1_isRight : GoodIn wsX1_read (wsV RX1 73 RX1 yX1_isRight wsX1_isRight) := goodIn_app (goodIn_of _ (by decide +kernel)) ggX1_read_X1_isRight
theorem dX1_read_0 : decode cX1_read 0 = .ok (.aload_n 0, 1) := by decide +kernel
theorem dX1_read_1 : decode cX1_read 1 = .ok (.iload_n 1, 1) := by decide +kernel
theorem dX1_read_2 : decode cX1_read 2 = .ok (.invokevirtual 69, 3) := by decide +kernel
theorem dX1_read_5 : decode cX1_read 5 = .ok (.ifCond .eq 15, 3) := by decide +kernel
theorem dX1_read_8 : decode cX1_read 8 = .ok (.iload_n 2, 1) := by decide +kernel
theorem dX1_read_9 : decode cX1_read 9 = .ok (.ifCond .lt 11, 3) := by decide +kernel
theorem dX1_read_12 : decode cX1_read 12 = .ok (.iload_n 2, 1) := by decide +kernel
theorem dX1_read_13 : decode cX1_read 13 = .ok (.aload_n 0, 1) := by decide +kernel
theorem dX1_read_14 : decode cX1_read 14 = .ok (.getfield 26, 3) := by decide +kernel
theorem dX1_read_17 : decode cX1_read 17 = .ok (.if_icmp .lt 6, 3) := by decide +kernel
theorem dX1_read_20 : decode cX1_read 20 = .ok (.bipush (-2), 2) := by decide +kernel
theorem dX1_read_22 : decode cX1_read 22 = .ok (.ireturn, 1) := by decide +kernel
theorem dX1_read_23 : decode cX1_read 23 = .ok (.aload_n 0, 1) := by decide +kernel
theorem dX1_read_24 : decode cX1_read 24 = .ok (.getfield 58, 3) := by decide +kernel
theorem dX1_read_27 : decode cX1_read 27 = .ok (.ifCond .eq 8, 3) := by decide +kernel
theorem dX1_read_30 : decode cX1_read 30 = .ok (.bipush (-4), 2) := by decide +kernel
theorem dX1_read_32 : decode cX1_read 32 = .ok (.goto 29, 3) := by decide +kernel
theorem dX1_read_35 : decode cX1_read 35 = .ok (.aload_n 0, 1) := by decide +kernel
theorem dX1_read_36 : decode cX1_read 36 = .ok (.iload_n 1, 1) := by decide +kernel
theorem dX1_read_37 : decode cX1_read 37 = .ok (.invokevirtual 73, 3) := by decide +kernel
theorem dX1_read_40 : decode cX1_read 40 = .ok (.ifCond .eq 19, 3) := by decide +kernel
theorem dX1_read_43 : decode cX1_read 43 = .ok (.aload_n 0, 1) := by decide +kernel
theorem dX1_read_44 : decode cX1_read 44 = .ok (.getfield 13, 3) := by decide +kernel
theorem dX1_read_47 : decode cX1_read 47 = .ok (.iload_n 1, 1) := by decide +kernel
theorem dX1_read_48 : decode cX1_read 48 = .ok (.aload_n 0, 1) := by decide +kernel
theorem dX1_read_49 : decode cX1_read 49 = .ok (.getfield 26, 3) := by decide +kernel
theorem dX1_read_52 : decode cX1_read 52 = .ok (.imul, 1) := by decide +kernel
theorem dX1_read_53 : decode cX1_read 53 = .ok (.iload_n 2, 1) := by decide +kernel
theorem dX1_read_54 : decode cX1_read 54 = .ok (.iadd, 1) := by decide +kernel
theorem dX1_read_55 : decode cX1_read 55 = .ok (.iaload, 1) := by decide +kernel
theorem dX1_read_56 : decode cX1_read 56 = .ok (.goto 5, 3) := by decide +kernel
theorem dX1_read_59 : decode cX1_read 59 = .ok (.bipush (-3), 2) := by decide +kernel
theorem dX1_read_61 : decode cX1_read 61 = .ok (.ireturn, 1) := by decide +kernel
set_option maxRecDepth 20000 in
theorem ggX1_verify_X1_isBlock : GoodIn wsX1_verify wsX1_isBlock := goodIn_r _ [6, 7, 39, 40, 41, 42, 43, 44, 45, 46, 47, 48, 49] (by decide +kernel) (by decide +kernel)
set_option maxRecDepth 20000 in
theorem gX1_verify_X1_isBlock : GoodIn wsX1_verify (wsV RX1 69 RX1 yX1_isBlock wsX1_isBlock) := goodIn_app (goodIn_of _ (by decide +kernel)) ggX1_verify_X1_isBlock
set_option maxRecDepth 20000 in
theorem ggX1_verify_X1_isRight : GoodIn wsX1_verify wsX1_isRight := goodIn_r _ [11, 12, 13, 14, 15, 16, 17, 5, 18, 19, 20, 21, 22, 23, 24, 25, 7, 26, 27, 28, 29, 30, 31, 32, 33, 34, 35, 36, 37, 38, 39, 40, 41, 42, 43, 44, 45, 46, 47, 48, 49] (by decide +kernel) (by decide +kernel)
set_option maxRecDepth 20000 in
theorem gX1_verify_X1_isRight : GoodIn wsX1_verify (wsV RX1 73 RX1 yX1_isRight wsX1_isRight) := goodIn_app (goodIn_of _ (by decide +kernel)) ggX1_verify_X1_isRight
theorem dX1_verify_0 : decode cX1_verify 0 = .ok (.aload_n 0, 1) := by decide +kernel
theorem dX1_verify_1 : decode cX1_verify 1 = .ok (.iload_n 1, 1) := by decide +kernel
theorem dX1_verify_2 : decode cX1_verify 2 = .ok (.invokevirtual 69, 3) := by decide +kernel
theorem dX1_verify_5 : decode cX1_verify 5 = .ok (.ifCond .eq 22, 3) := by decide +kernel
theorem dX1_verify_8 : decode cX1_verify 8 = .ok (.aload_n 0, 1) := by decide +kernel
theorem dX1_verify_9 : decode cX1_verify 9 = .ok (.getfield 58, 3) := by decide +kernel
theorem dX1_verify_12 : decode cX1_verify 12 = .ok (.ifCond .ne 15, 3) := by decide +kernel
theorem dX1_verify_15 : decode cX1_verify 15 = .ok (.aload_n 0, 1) := by decide +kernel
theorem dX1_verify_16 : decode cX1_verify 16 = .ok (.iload_n 1, 1) := by decide +kernel
theorem dX1_verify_17 : decode cX1_verify 17 = .ok (.invokevirtual 73, 3) := by decide +kernel
theorem dX1_verify_20 : decode cX1_verify 20 = .ok (.ifCond .eq 7, 3) := by decide +kernel
theorem dX1_verify_23 : decode cX1_verify 23 = .ok (.iconst 1, 1) := by decide +kernel
theorem dX1_verify_24 : decode cX1_verify 24 = .ok (.goto 4, 3) := by decide +kernel
theorem dX1_verify_27 : decode cX1_verify 27 = .ok (.iconst 0, 1) := by decide +kernel
theorem dX1_verify_28 : decode cX1_verify 28 = .ok (.ireturn, 1) := by decide +kernel
theorem dX1_root_0 : decode cX1_root 0 = .ok (.aload_n 0, 1) := by decide +kernel
theorem dX1_root_1 : decode cX1_root 1 = .ok (.getfield 52, 3) := by decide +kernel
theorem dX1_root_4 : decode cX1_root 4 = .ok (.ireturn, 1) := by decide +kernel
set_option maxRecDepth 20000 in
theorem ggX1_audit_X1_isRight : GoodIn wsX1_audit wsX1_isRight := goodIn_r _ [7, 8, 9, 10, 11, 12, 13, 6, 14, 15, 16, 17, 18, 19, 20, 21, 2, 22, 23, 24, 25, 26, 27, 28, 29, 30, 31, 32, 33, 34, 35, 36, 37, 38, 39, 40, 41, 42, 43, 44, 45] (by decide +kernel) (by decide +kernel)
set_option maxRecDepth 20000 in
theorem gX1_audit_X1_isRight : GoodIn wsX1_audit (wsV RX1 73 RX1 yX1_isRight wsX1_isRight) := goodIn_app (goodIn_of _ (by decide +kernel)) ggX1_audit_X1_isRight
theorem dX1_audit_0 : decode cX1_audit 0 = .ok (.aload_n 0, 1) := by decide +kernel
theorem dX1_audit_1 : decode cX1_audit 1 = .ok (.getfield 58, 3) := by decide +kernel
theorem dX1_audit_4 : decode cX1_audit 4 = .ok (.ifCond .eq 6, 3) := by decide +kernel
theorem dX1_audit_7 : decode cX1_audit 7 = .ok (.bipush (-4), 2) := by decide +kernel
theorem dX1_audit_9 : decode cX1_audit 9 = .ok (.ireturn, 1) := by decide +kernel
theorem dX1_audit_10 : decode cX1_audit 10 = .ok (.iconst 0, 1) := by decide +kernel
theorem dX1_audit_11 : decode cX1_audit 11 = .ok (.istore_n 1, 1) := by decide +kernel
theorem dX1_audit_12 : decode cX1_audit 12 = .ok (.iload_n 1, 1) := by decide +kernel
theorem dX1_audit_13 : decode cX1_audit 13 = .ok (.aload_n 0, 1) := by decide +kernel
theorem dX1_audit_14 : decode cX1_audit 14 = .ok (.getfield 23, 3) := by decide +kernel
theorem dX1_audit_17 : decode cX1_audit 17 = .ok (.if_icmp .ge 19, 3) := by decide +kernel
theorem dX1_audit_20 : decode cX1_audit 20 = .ok (.aload_n 0, 1) := by decide +kernel
theorem dX1_audit_21 : decode cX1_audit 21 = .ok (.iload_n 1, 1) := by decide +kernel
theorem dX1_audit_22 : decode cX1_audit 22 = .ok (.invokevirtual 73, 3) := by decide +kernel
theorem dX1_audit_25 : decode cX1_audit 25 = .ok (.ifCond .ne 5, 3) := by decide +kernel
theorem dX1_audit_28 : decode cX1_audit 28 = .ok (.iload_n 1, 1) := by decide +kernel
theorem dX1_audit_29 : decode cX1_audit 29 = .ok (.ireturn, 1) := by decide +kernel
theorem dX1_audit_30 : decode cX1_audit 30 = .ok (.iinc 1 1, 3) := by decide +kernel
theorem dX1_audit_33 : decode cX1_audit 33 = .ok (.goto (-21), 3) := by decide +kernel
theorem dX1_audit_36 : decode cX1_audit 36 = .ok (.iconst (-1), 1) := by decide +kernel
theorem dX1_audit_37 : decode cX1_audit 37 = .ok (.ireturn, 1) := by decide +kernel
theorem dX1_tamper_0 : decode cX1_tamper 0 = .ok (.iload_n 1, 1) := by decide +kernel
theorem dX1_tamper_1 : decode cX1_tamper 1 = .ok (.ifCond .lt 20, 3) := by decide +kernel
theorem dX1_tamper_4 : decode cX1_tamper 4 = .ok (.iload_n 1, 1) := by decide +kernel
theorem dX1_tamper_5 : decode cX1_tamper 5 = .ok (.iconst 2, 1) := by decide +kernel
theorem dX1_tamper_6 : decode cX1_tamper 6 = .ok (.aload_n 0, 1) := by decide +kernel
theorem dX1_tamper_7 : decode cX1_tamper 7 = .ok (.getfield 29, 3) := by decide +kernel
theorem dX1_tamper_10 : decode cX1_tamper 10 = .ok (.imul, 1) := by decide +kernel
theorem dX1_tamper_11 : decode cX1_tamper 11 = .ok (.if_icmp .ge 10, 3) := by decide +kernel
theorem dX1_tamper_14 : decode cX1_tamper 14 = .ok (.aload_n 0, 1) := by decide +kernel
theorem dX1_tamper_15 : decode cX1_tamper 15 = .ok (.getfield 7, 3) := by decide +kernel
theorem dX1_tamper_18 : decode cX1_tamper 18 = .ok (.iload_n 1, 1) := by decide +kernel
theorem dX1_tamper_19 : decode cX1_tamper 19 = .ok (.iload_n 2, 1) := by decide +kernel
theorem dX1_tamper_20 : decode cX1_tamper 20 = .ok (.iastore, 1) := by decide +kernel
theorem dX1_tamper_21 : decode cX1_tamper 21 = .ok (.return_, 1) := by decide +kernel
theorem dX1_crashAfter_0 : decode cX1_crashAfter 0 = .ok (.iload_n 1, 1) := by decide +kernel
theorem dX1_crashAfter_1 : decode cX1_crashAfter 1 = .ok (.ifCond .lt 15, 3) := by decide +kernel
theorem dX1_crashAfter_4 : decode cX1_crashAfter 4 = .ok (.aload_n 0, 1) := by decide +kernel
theorem dX1_crashAfter_5 : decode cX1_crashAfter 5 = .ok (.getfield 58, 3) := by decide +kernel
theorem dX1_crashAfter_8 : decode cX1_crashAfter 8 = .ok (.ifCond .ne 8, 3) := by decide +kernel
theorem dX1_crashAfter_11 : decode cX1_crashAfter 11 = .ok (.aload_n 0, 1) := by decide +kernel
theorem dX1_crashAfter_12 : decode cX1_crashAfter 12 = .ok (.iload_n 1, 1) := by decide +kernel
theorem dX1_crashAfter_13 : decode cX1_crashAfter 13 = .ok (.putfield 16, 3) := by decide +kernel
theorem dX1_crashAfter_16 : decode cX1_crashAfter 16 = .ok (.return_, 1) := by decide +kernel
set_option maxRecDepth 20000 in
theorem ggX1_recover_X1_node : GoodIn wsX1_recover wsX1_node := goodIn_r _ [11, 12, 13, 14, 15, 16, 17, 18, 19, 20, 21, 22, 23, 24] (by decide +kernel) (by decide +kernel)
set_option maxRecDepth 20000 in
theorem gX1_recover_X1_node : GoodIn wsX1_recover (wsV RX1 45 RX1 yX1_node wsX1_node) := goodIn_app (goodIn_of _ (by decide +kernel)) ggX1_recover_X1_node
theorem dX1_recover_0 : decode cX1_recover 0 = .ok (.aload_n 0, 1) := by decide +kernel
theorem dX1_recover_1 : decode cX1_recover 1 = .ok (.getfield 58, 3) := by decide +kernel
theorem dX1_recover_4 : decode cX1_recover 4 = .ok (.ifCond .ne 6, 3) := by decide +kernel
theorem dX1_recover_7 : decode cX1_recover 7 = .ok (.bipush (-2), 2) := by decide +kernel
theorem dX1_recover_9 : decode cX1_recover 9 = .ok (.ireturn, 1) := by decide +kernel
theorem dX1_recover_10 : decode cX1_recover 10 = .ok (.iconst 0, 1) := by decide +kernel
theorem dX1_recover_11 : decode cX1_recover 11 = .ok (.istore_n 2, 1) := by decide +kernel
theorem dX1_recover_12 : decode cX1_recover 12 = .ok (.iload_n 2, 1) := by decide +kernel
theorem dX1_recover_13 : decode cX1_recover 13 = .ok (.iconst 2, 1) := by decide +kernel
theorem dX1_recover_14 : decode cX1_recover 14 = .ok (.if_icmp .ge 52, 3) := by decide +kernel
theorem dX1_recover_17 : decode cX1_recover 17 = .ok (.aload_n 0, 1) := by decide +kernel
theorem dX1_recover_18 : decode cX1_recover 18 = .ok (.getfield 7, 3) := by decide +kernel
theorem dX1_recover_21 : decode cX1_recover 21 = .ok (.aload_n 0, 1) := by decide +kernel
theorem dX1_recover_22 : decode cX1_recover 22 = .ok (.getfield 29, 3) := by decide +kernel
theorem dX1_recover_25 : decode cX1_recover 25 = .ok (.iload_n 2, 1) := by decide +kernel
theorem dX1_recover_26 : decode cX1_recover 26 = .ok (.imul, 1) := by decide +kernel
theorem dX1_recover_27 : decode cX1_recover 27 = .ok (.aload_n 0, 1) := by decide +kernel
theorem dX1_recover_28 : decode cX1_recover 28 = .ok (.iconst 1, 1) := by decide +kernel
theorem dX1_recover_29 : decode cX1_recover 29 = .ok (.invokevirtual 45, 3) := by decide +kernel
theorem dX1_recover_32 : decode cX1_recover 32 = .ok (.iadd, 1) := by decide +kernel
theorem dX1_recover_33 : decode cX1_recover 33 = .ok (.iaload, 1) := by decide +kernel
theorem dX1_recover_34 : decode cX1_recover 34 = .ok (.iload_n 1, 1) := by decide +kernel
theorem dX1_recover_35 : decode cX1_recover 35 = .ok (.if_icmp .ne 25, 3) := by decide +kernel
theorem dX1_recover_38 : decode cX1_recover 38 = .ok (.aload_n 0, 1) := by decide +kernel
theorem dX1_recover_39 : decode cX1_recover 39 = .ok (.iload_n 2, 1) := by decide +kernel
theorem dX1_recover_40 : decode cX1_recover 40 = .ok (.putfield 42, 3) := by decide +kernel
theorem dX1_recover_43 : decode cX1_recover 43 = .ok (.aload_n 0, 1) := by decide +kernel
theorem dX1_recover_44 : decode cX1_recover 44 = .ok (.iload_n 1, 1) := by decide +kernel
theorem dX1_recover_45 : decode cX1_recover 45 = .ok (.putfield 52, 3) := by decide +kernel
theorem dX1_recover_48 : decode cX1_recover 48 = .ok (.aload_n 0, 1) := by decide +kernel
theorem dX1_recover_49 : decode cX1_recover 49 = .ok (.iconst 0, 1) := by decide +kernel
theorem dX1_recover_50 : decode cX1_recover 50 = .ok (.putfield 58, 3) := by decide +kernel
theorem dX1_recover_53 : decode cX1_recover 53 = .ok (.aload_n 0, 1) := by decide +kernel
theorem dX1_recover_54 : decode cX1_recover 54 = .ok (.iconst (-1), 1) := by decide +kernel
theorem dX1_recover_55 : decode cX1_recover 55 = .ok (.putfield 16, 3) := by decide +kernel
theorem dX1_recover_58 : decode cX1_recover 58 = .ok (.iconst 0, 1) := by decide +kernel
theorem dX1_recover_59 : decode cX1_recover 59 = .ok (.ireturn, 1) := by decide +kernel
theorem dX1_recover_60 : decode cX1_recover 60 = .ok (.iinc 2 1, 3) := by decide +kernel
theorem dX1_recover_63 : decode cX1_recover 63 = .ok (.goto (-51), 3) := by decide +kernel
theorem dX1_recover_66 : decode cX1_recover 66 = .ok (.bipush (-5), 2) := by decide +kernel
theorem dX1_recover_68 : decode cX1_recover 68 = .ok (.ireturn, 1) := by decide +kernel
theorem dX1_cells_0 : decode cX1_cells 0 = .ok (.iconst 2, 1) := by decide +kernel
theorem dX1_cells_1 : decode cX1_cells 1 = .ok (.aload_n 0, 1) := by decide +kernel
theorem dX1_cells_2 : decode cX1_cells 2 = .ok (.getfield 29, 3) := by decide +kernel
theorem dX1_cells_5 : decode cX1_cells 5 = .ok (.imul, 1) := by decide +kernel
theorem dX1_cells_6 : decode cX1_cells 6 = .ok (.ireturn, 1) := by decide +kernel
theorem dX1_peek_0 : decode cX1_peek 0 = .ok (.iload_n 1, 1) := by decide +kernel
theorem dX1_peek_1 : decode cX1_peek 1 = .ok (.ifCond .lt 13, 3) := by decide +kernel
theorem dX1_peek_4 : decode cX1_peek 4 = .ok (.iload_n 1, 1) := by decide +kernel
theorem dX1_peek_5 : decode cX1_peek 5 = .ok (.iconst 2, 1) := by decide +kernel
theorem dX1_peek_6 : decode cX1_peek 6 = .ok (.aload_n 0, 1) := by decide +kernel
theorem dX1_peek_7 : decode cX1_peek 7 = .ok (.getfield 29, 3) := by decide +kernel
theorem dX1_peek_10 : decode cX1_peek 10 = .ok (.imul, 1) := by decide +kernel
theorem dX1_peek_11 : decode cX1_peek 11 = .ok (.if_icmp .lt 7, 3) := by decide +kernel
theorem dX1_peek_14 : decode cX1_peek 14 = .ok (.iconst 0, 1) := by decide +kernel
theorem dX1_peek_15 : decode cX1_peek 15 = .ok (.goto 9, 3) := by decide +kernel
theorem dX1_peek_18 : decode cX1_peek 18 = .ok (.aload_n 0, 1) := by decide +kernel
theorem dX1_peek_19 : decode cX1_peek 19 = .ok (.getfield 7, 3) := by decide +kernel
theorem dX1_peek_22 : decode cX1_peek 22 = .ok (.iload_n 1, 1) := by decide +kernel
theorem dX1_peek_23 : decode cX1_peek 23 = .ok (.iaload, 1) := by decide +kernel
theorem dX1_peek_24 : decode cX1_peek 24 = .ok (.ireturn, 1) := by decide +kernel
theorem dX1_writes_0 : decode cX1_writes 0 = .ok (.aload_n 0, 1) := by decide +kernel
theorem dX1_writes_1 : decode cX1_writes 1 = .ok (.getfield 55, 3) := by decide +kernel
theorem dX1_writes_4 : decode cX1_writes 4 = .ok (.ireturn, 1) := by decide +kernel
theorem dX1_slot_0 : decode cX1_slot 0 = .ok (.aload_n 0, 1) := by decide +kernel
theorem dX1_slot_1 : decode cX1_slot 1 = .ok (.getfield 42, 3) := by decide +kernel
theorem dX1_slot_4 : decode cX1_slot 4 = .ok (.ireturn, 1) := by decide +kernel
theorem dX1_down_0 : decode cX1_down 0 = .ok (.aload_n 0, 1) := by decide +kernel
theorem dX1_down_1 : decode cX1_down 1 = .ok (.getfield 58, 3) := by decide +kernel
theorem dX1_down_4 : decode cX1_down 4 = .ok (.ireturn, 1) := by decide +kernel
theorem dJ9_max_7cf53_0 : decode cJ9_max_7cf53 0 = .ok (.iload_n 0, 1) := by decide +kernel
theorem dJ9_max_7cf53_1 : decode cJ9_max_7cf53 1 = .ok (.iload_n 1, 1) := by decide +kernel
theorem dJ9_max_7cf53_2 : decode cJ9_max_7cf53 2 = .ok (.if_icmp .lt 7, 3) := by decide +kernel
theorem dJ9_max_7cf53_5 : decode cJ9_max_7cf53 5 = .ok (.iload_n 0, 1) := by decide +kernel
theorem dJ9_max_7cf53_6 : decode cJ9_max_7cf53 6 = .ok (.goto 4, 3) := by decide +kernel
theorem dJ9_max_7cf53_9 : decode cJ9_max_7cf53 9 = .ok (.iload_n 1, 1) := by decide +kernel
theorem dJ9_max_7cf53_10 : decode cJ9_max_7cf53 10 = .ok (.ireturn, 1) := by decide +kernel
theorem dJ9_min_7cf53_0 : decode cJ9_min_7cf53 0 = .ok (.iload_n 0, 1) := by decide +kernel
theorem dJ9_min_7cf53_1 : decode cJ9_min_7cf53 1 = .ok (.iload_n 1, 1) := by decide +kernel
theorem dJ9_min_7cf53_2 : decode cJ9_min_7cf53 2 = .ok (.if_icmp .gt 7, 3) := by decide +kernel
theorem dJ9_min_7cf53_5 : decode cJ9_min_7cf53 5 = .ok (.iload_n 0, 1) := by decide +kernel
theorem dJ9_min_7cf53_6 : decode cJ9_min_7cf53 6 = .ok (.goto 4, 3) := by decide +kernel
theorem dJ9_min_7cf53_9 : decode cJ9_min_7cf53 9 = .ok (.iload_n 1, 1) := by decide +kernel
theorem dJ9_min_7cf53_10 : decode cJ9_min_7cf53 10 = .ok (.ireturn, 1) := by decide +kernel
theorem dJ7_fill_53178_0 : decode cJ7_fill_53178 0 = .ok (.iconst 0, 1) := by decide +kernel
theorem dJ7_fill_53178_1 : decode cJ7_fill_53178 1 = .ok (.istore_n 2, 1) := by decide +kernel
theorem dJ7_fill_53178_2 : decode cJ7_fill_53178 2 = .ok (.aload_n 0, 1) := by decide +kernel
theorem dJ7_fill_53178_3 : decode cJ7_fill_53178 3 = .ok (.arraylength, 1) := by decide +kernel
theorem dJ7_fill_53178_4 : decode cJ7_fill_53178 4 = .ok (.istore_n 3, 1) := by decide +kernel
theorem dJ7_fill_53178_5 : decode cJ7_fill_53178 5 = .ok (.iload_n 2, 1) := by decide +kernel
theorem dJ7_fill_53178_6 : decode cJ7_fill_53178 6 = .ok (.iload_n 3, 1) := by decide +kernel
theorem dJ7_fill_53178_7 : decode cJ7_fill_53178 7 = .ok (.if_icmp .ge 13, 3) := by decide +kernel
theorem dJ7_fill_53178_10 : decode cJ7_fill_53178 10 = .ok (.aload_n 0, 1) := by decide +kernel
theorem dJ7_fill_53178_11 : decode cJ7_fill_53178 11 = .ok (.iload_n 2, 1) := by decide +kernel
theorem dJ7_fill_53178_12 : decode cJ7_fill_53178 12 = .ok (.iload_n 1, 1) := by decide +kernel
theorem dJ7_fill_53178_13 : decode cJ7_fill_53178 13 = .ok (.iastore, 1) := by decide +kernel
theorem dJ7_fill_53178_14 : decode cJ7_fill_53178 14 = .ok (.iinc 2 1, 3) := by decide +kernel
theorem dJ7_fill_53178_17 : decode cJ7_fill_53178 17 = .ok (.goto (-12), 3) := by decide +kernel
theorem dJ7_fill_53178_20 : decode cJ7_fill_53178 20 = .ok (.return_, 1) := by decide +kernel
theorem dL_cell_0 : decode cL_cell 0 = .ok (.iload_n 1, 1) := by decide +kernel
theorem dL_cell_1 : decode cL_cell 1 = .ok (.aload_n 0, 1) := by decide +kernel
theorem dL_cell_2 : decode cL_cell 2 = .ok (.arraylength, 1) := by decide +kernel
theorem dL_cell_3 : decode cL_cell 3 = .ok (.if_icmp .ge 9, 3) := by decide +kernel
theorem dL_cell_6 : decode cL_cell 6 = .ok (.aload_n 0, 1) := by decide +kernel
theorem dL_cell_7 : decode cL_cell 7 = .ok (.iload_n 1, 1) := by decide +kernel
theorem dL_cell_8 : decode cL_cell 8 = .ok (.iaload, 1) := by decide +kernel
theorem dL_cell_9 : decode cL_cell 9 = .ok (.goto 4, 3) := by decide +kernel
theorem dL_cell_12 : decode cL_cell 12 = .ok (.iconst 0, 1) := by decide +kernel
theorem dL_cell_13 : decode cL_cell 13 = .ok (.ireturn, 1) := by decide +kernel
set_option maxRecDepth 20000 in
theorem ggL_law_L_cell : GoodIn wsL_law wsL_cell := goodIn_r _ [9] (by decide +kernel) (by decide +kernel)
set_option maxRecDepth 20000 in
theorem gL_law_L_cell : GoodIn wsL_law (va_wsS RL 9 yL_cell wsL_cell) := goodIn_app (goodIn_of _ (by decide +kernel)) ggL_law_L_cell
set_option maxRecDepth 20000 in
theorem ggL_law_X0_init : GoodIn wsL_law wsX0_init := goodIn_r _ [12, 13, 14, 15, 16, 17, 18, 19, 20, 21, 22, 23, 24, 25, 26, 27, 28, 29, 30, 31, 32, 33, 2, 34, 35, 36, 37, 38, 39, 40, 41, 42, 43, 44, 45, 46, 47, 48, 49, 50, 51, 52, 53, 54, 55, 56, 57, 58, 59, 60, 61, 62, 63, 64, 65, 66, 67, 68, 69, 70, 71, 72, 73, 74, 75, 76, 77, 78, 79, 80, 290, 291, 292, 293, 294, 295, 296, 297, 298, 299, 300, 301] (by decide +kernel) (by decide +kernel)
set_option maxRecDepth 20000 in
theorem gL_law_X0_init : GoodIn wsL_law (wsX0_init) := ggL_law_X0_init
set_option maxRecDepth 20000 in
theorem ggL_law_X1_init : GoodIn wsL_law wsX1_init := goodIn_r _ [83, 84, 14, 15, 28, 85, 86, 87, 88, 89, 90, 91, 92, 93, 94, 5, 95, 96, 97, 98, 99, 100, 101, 102, 103, 104, 105, 106, 107, 108, 109, 110, 111, 112, 302, 303, 304, 305, 306, 307, 308, 309, 310, 311, 312] (by decide +kernel) (by decide +kernel)
set_option maxRecDepth 20000 in
theorem gL_law_X1_init : GoodIn wsL_law (wsX1_init) := ggL_law_X1_init
set_option maxRecDepth 20000 in
theorem ggL_law_X0_format : GoodIn wsL_law wsX0_format := goodIn_r _ [116, 31, 32, 33, 2, 34, 29, 35, 36, 37, 38, 39, 40, 41, 42, 43, 25, 44, 45, 46, 47, 48, 49, 50, 51, 26, 52, 53, 54, 55, 24, 56, 57, 58, 59, 60, 61, 62, 63, 64, 65, 66, 67, 68, 69, 70, 71, 72, 73, 74, 75, 76, 77, 78, 79, 80, 290, 291, 292, 293, 294, 295, 296, 297, 298, 299, 300, 301] (by decide +kernel) (by decide +kernel)
set_option maxRecDepth 20000 in
theorem gL_law_X0_format : GoodIn wsL_law (wsV RL 21 RX0 yX0_format wsX0_format) := goodIn_app (goodIn_of _ (by decide +kernel)) ggL_law_X0_format
set_option maxRecDepth 20000 in
theorem ggL_law_X1_format : GoodIn wsL_law wsX1_format := goodIn_r _ [95, 85, 91, 86, 89, 96, 97, 98, 87, 99, 100, 101, 102, 5, 103, 90, 104, 105, 106, 107, 108, 109, 110, 111, 112, 302, 303, 304, 305, 306, 307, 308, 309, 310, 311, 312] (by decide +kernel) (by decide +kernel)
set_option maxRecDepth 20000 in
theorem gL_law_X1_format : GoodIn wsL_law (wsV RL 25 RX1 yX1_format wsX1_format) := goodIn_app (goodIn_of _ (by decide +kernel)) ggL_law_X1_format
set_option maxRecDepth 20000 in
theorem ggL_law_X0_write : GoodIn wsL_law wsX0_write := goodIn_r _ [121, 79, 73, 30, 122, 123, 124, 2, 125, 24, 126, 127, 128, 129, 25, 130, 131, 132, 133, 74, 134, 135, 136, 137, 27, 138, 139, 140, 141, 29, 56, 57, 58, 59, 142, 143, 144, 145, 23, 52, 53, 54, 55, 60, 61, 62, 63, 64, 44, 45, 46, 47, 48, 49, 50, 51, 26, 146, 147, 148, 149, 150, 151, 152, 153, 65, 66, 67, 68, 154, 155, 156, 157, 158, 159, 160, 161, 162, 163, 164, 165, 80, 35, 69, 70, 71, 72, 290, 291, 292, 293, 294, 295, 296, 297, 298, 299, 300, 301] (by decide +kernel) (by decide +kernel)
set_option maxRecDepth 20000 in
theorem gL_law_X0_write : GoodIn wsL_law (wsV RL 26 RX0 yX0_write wsX0_write) := goodIn_app (goodIn_of _ (by decide +kernel)) ggL_law_X0_write
set_option maxRecDepth 20000 in
theorem ggL_law_X1_write : GoodIn wsL_law wsX1_write := goodIn_r _ [169, 90, 99, 86, 89, 96, 97, 170, 171, 172, 5, 173, 174, 175, 176, 177, 178, 179, 180, 181, 91, 85, 182, 183, 184, 185, 104, 105, 106, 107, 108, 109, 110, 111, 112, 100, 101, 102, 103, 186, 187, 188, 189, 87, 98, 302, 303, 304, 305, 306, 307, 308, 309, 310, 311, 312] (by decide +kernel) (by decide +kernel)
set_option maxRecDepth 20000 in
theorem gL_law_X1_write : GoodIn wsL_law (wsV RL 30 RX1 yX1_write wsX1_write) := goodIn_app (goodIn_of _ (by decide +kernel)) ggL_law_X1_write
set_option maxRecDepth 20000 in
theorem ggL_law_X0_read : GoodIn wsL_law wsX0_read := goodIn_r _ [193, 79, 29, 73, 122, 123, 124, 2, 125, 24, 126, 127, 128, 129, 25, 130, 131, 132, 133, 74, 134, 135, 136, 137, 27, 138, 139, 140, 141, 56, 57, 58, 59, 142, 143, 144, 145, 23, 52, 53, 54, 55, 60, 61, 62, 63, 64, 44, 45, 46, 47, 48, 49, 50, 51, 26, 290, 291, 292, 293, 294, 295, 296, 297, 298, 299, 300, 301] (by decide +kernel) (by decide +kernel)
set_option maxRecDepth 20000 in
theorem gL_law_X0_read : GoodIn wsL_law (wsV RL 31 RX0 yX0_read wsX0_read) := goodIn_app (goodIn_of _ (by decide +kernel)) ggL_law_X0_read
set_option maxRecDepth 20000 in
theorem ggL_law_X1_read : GoodIn wsL_law wsX1_read := goodIn_r _ [197, 90, 99, 86, 170, 171, 172, 5, 173, 89, 174, 175, 176, 177, 97, 178, 179, 180, 181, 91, 85, 96, 182, 183, 184, 185, 104, 105, 106, 107, 108, 109, 110, 111, 112, 100, 101, 102, 103, 302, 303, 304, 305, 306, 307, 308, 309, 310, 311, 312] (by decide +kernel) (by decide +kernel)
set_option maxRecDepth 20000 in
theorem gL_law_X1_read : GoodIn wsL_law (wsV RL 35 RX1 yX1_read wsX1_read) := goodIn_app (goodIn_of _ (by decide +kernel)) ggL_law_X1_read
set_option maxRecDepth 20000 in
theorem ggL_law_X0_verify : GoodIn wsL_law wsX0_verify := goodIn_r _ [201, 79, 126, 127, 128, 2, 129, 25, 130, 131, 132, 133, 73, 74, 134, 135, 136, 137, 27, 138, 139, 140, 141, 24, 29, 56, 57, 58, 59, 142, 143, 144, 145, 23, 52, 53, 54, 55, 60, 61, 62, 63, 64, 44, 45, 46, 47, 48, 49, 50, 51, 26, 290, 291, 292, 293, 294, 295, 296, 297, 298, 299, 300, 301] (by decide +kernel) (by decide +kernel)
set_option maxRecDepth 20000 in
theorem gL_law_X0_verify : GoodIn wsL_law (wsV RL 36 RX0 yX0_verify wsX0_verify) := goodIn_app (goodIn_of _ (by decide +kernel)) ggL_law_X0_verify
set_option maxRecDepth 20000 in
theorem ggL_law_X1_verify : GoodIn wsL_law wsX1_verify := goodIn_r _ [205, 99, 170, 171, 172, 5, 173, 89, 174, 175, 176, 177, 90, 86, 97, 178, 179, 180, 181, 91, 85, 96, 182, 183, 184, 185, 104, 105, 106, 107, 108, 109, 110, 111, 112, 100, 101, 102, 103, 302, 303, 304, 305, 306, 307, 308, 309, 310, 311, 312] (by decide +kernel) (by decide +kernel)
set_option maxRecDepth 20000 in
theorem gL_law_X1_verify : GoodIn wsL_law (wsV RL 40 RX1 yX1_verify wsX1_verify) := goodIn_app (goodIn_of _ (by decide +kernel)) ggL_law_X1_verify
set_option maxRecDepth 20000 in
theorem ggL_law_X0_root : GoodIn wsL_law wsX0_root := goodIn_r _ [209, 74, 290, 291, 292, 293, 294, 295, 296, 297, 298, 299, 300, 301] (by decide +kernel) (by decide +kernel)
set_option maxRecDepth 20000 in
theorem gL_law_X0_root : GoodIn wsL_law (wsV RL 41 RX0 yX0_root wsX0_root) := goodIn_app (goodIn_of _ (by decide +kernel)) ggL_law_X0_root
set_option maxRecDepth 20000 in
theorem ggL_law_X1_root : GoodIn wsL_law wsX1_root := goodIn_r _ [213, 97, 302, 303, 304, 305, 306, 307, 308, 309, 310, 311, 312] (by decide +kernel) (by decide +kernel)
set_option maxRecDepth 20000 in
theorem gL_law_X1_root : GoodIn wsL_law (wsV RL 44 RX1 yX1_root wsX1_root) := goodIn_app (goodIn_of _ (by decide +kernel)) ggL_law_X1_root
set_option maxRecDepth 20000 in
theorem ggL_law_X0_audit : GoodIn wsL_law wsX0_audit := goodIn_r _ [217, 79, 25, 130, 131, 132, 2, 133, 73, 74, 134, 135, 136, 137, 27, 138, 139, 140, 141, 24, 29, 56, 57, 58, 59, 142, 143, 144, 145, 23, 52, 53, 54, 55, 60, 61, 62, 63, 64, 44, 45, 46, 47, 48, 49, 50, 51, 26, 290, 291, 292, 293, 294, 295, 296, 297, 298, 299, 300, 301] (by decide +kernel) (by decide +kernel)
set_option maxRecDepth 20000 in
theorem gL_law_X0_audit : GoodIn wsL_law (wsV RL 45 RX0 yX0_audit wsX0_audit) := goodIn_app (goodIn_of _ (by decide +kernel)) ggL_law_X0_audit
set_option maxRecDepth 20000 in
theorem ggL_law_X1_audit : GoodIn wsL_law wsX1_audit := goodIn_r _ [221, 99, 89, 174, 175, 176, 5, 177, 90, 86, 97, 178, 179, 180, 181, 91, 85, 96, 182, 183, 184, 185, 104, 105, 106, 107, 108, 109, 110, 111, 112, 100, 101, 102, 103, 302, 303, 304, 305, 306, 307, 308, 309, 310, 311, 312] (by decide +kernel) (by decide +kernel)
set_option maxRecDepth 20000 in
theorem gL_law_X1_audit : GoodIn wsL_law (wsV RL 48 RX1 yX1_audit wsX1_audit) := goodIn_app (goodIn_of _ (by decide +kernel)) ggL_law_X1_audit
set_option maxRecDepth 20000 in
theorem ggL_law_X0_tamper : GoodIn wsL_law wsX0_tamper := goodIn_r _ [225, 29, 226, 227, 228, 2, 229, 290, 291, 292, 293, 294, 295, 296, 297, 298, 299, 300, 301] (by decide +kernel) (by decide +kernel)
set_option maxRecDepth 20000 in
theorem gL_law_X0_tamper : GoodIn wsL_law (wsV RL 49 RX0 yX0_tamper wsX0_tamper) := goodIn_app (goodIn_of _ (by decide +kernel)) ggL_law_X0_tamper
set_option maxRecDepth 20000 in
theorem ggL_law_X1_tamper : GoodIn wsL_law wsX1_tamper := goodIn_r _ [233, 91, 85, 302, 303, 304, 305, 306, 307, 308, 309, 310, 311, 312] (by decide +kernel) (by decide +kernel)
set_option maxRecDepth 20000 in
theorem gL_law_X1_tamper : GoodIn wsL_law (wsV RL 52 RX1 yX1_tamper wsX1_tamper) := goodIn_app (goodIn_of _ (by decide +kernel)) ggL_law_X1_tamper
set_option maxRecDepth 20000 in
theorem ggL_law_X0_crashAfter : GoodIn wsL_law wsX0_crashAfter := goodIn_r _ [237, 79, 80, 290, 291, 292, 293, 294, 295, 296, 297, 298, 299, 300, 301] (by decide +kernel) (by decide +kernel)
set_option maxRecDepth 20000 in
theorem gL_law_X0_crashAfter : GoodIn wsL_law (wsV RL 53 RX0 yX0_crashAfter wsX0_crashAfter) := goodIn_app (goodIn_of _ (by decide +kernel)) ggL_law_X0_crashAfter
set_option maxRecDepth 20000 in
theorem ggL_law_X1_crashAfter : GoodIn wsL_law wsX1_crashAfter := goodIn_r _ [241, 99, 87, 302, 303, 304, 305, 306, 307, 308, 309, 310, 311, 312] (by decide +kernel) (by decide +kernel)
set_option maxRecDepth 20000 in
theorem gL_law_X1_crashAfter : GoodIn wsL_law (wsV RL 57 RX1 yX1_crashAfter wsX1_crashAfter) := goodIn_app (goodIn_of _ (by decide +kernel)) ggL_law_X1_crashAfter
set_option maxRecDepth 20000 in
theorem ggL_law_X0_recover : GoodIn wsL_law wsX0_recover := goodIn_r _ [245, 79, 29, 134, 135, 136, 2, 137, 27, 48, 49, 50, 51, 26, 69, 70, 71, 72, 73, 74, 75, 76, 77, 78, 80, 290, 291, 292, 293, 294, 295, 296, 297, 298, 299, 300, 301] (by decide +kernel) (by decide +kernel)
set_option maxRecDepth 20000 in
theorem gL_law_X0_recover : GoodIn wsL_law (wsV RL 58 RX0 yX0_recover wsX0_recover) := goodIn_app (goodIn_of _ (by decide +kernel)) ggL_law_X0_recover
set_option maxRecDepth 20000 in
theorem ggL_law_X1_recover : GoodIn wsL_law wsX1_recover := goodIn_r _ [249, 99, 85, 91, 96, 97, 87, 100, 101, 102, 5, 103, 89, 90, 302, 303, 304, 305, 306, 307, 308, 309, 310, 311, 312] (by decide +kernel) (by decide +kernel)
set_option maxRecDepth 20000 in
theorem gL_law_X1_recover : GoodIn wsL_law (wsV RL 62 RX1 yX1_recover wsX1_recover) := goodIn_app (goodIn_of _ (by decide +kernel)) ggL_law_X1_recover
set_option maxRecDepth 20000 in
theorem ggL_law_X0_cells : GoodIn wsL_law wsX0_cells := goodIn_r _ [253, 29, 290, 291, 292, 293, 294, 295, 296, 297, 298, 299, 300, 301] (by decide +kernel) (by decide +kernel)
set_option maxRecDepth 20000 in
theorem gL_law_X0_cells : GoodIn wsL_law (wsV RL 63 RX0 yX0_cells wsX0_cells) := goodIn_app (goodIn_of _ (by decide +kernel)) ggL_law_X0_cells
set_option maxRecDepth 20000 in
theorem ggL_law_X1_cells : GoodIn wsL_law wsX1_cells := goodIn_r _ [257, 91, 302, 303, 304, 305, 306, 307, 308, 309, 310, 311, 312] (by decide +kernel) (by decide +kernel)
set_option maxRecDepth 20000 in
theorem gL_law_X1_cells : GoodIn wsL_law (wsV RL 66 RX1 yX1_cells wsX1_cells) := goodIn_app (goodIn_of _ (by decide +kernel)) ggL_law_X1_cells
set_option maxRecDepth 20000 in
theorem ggL_law_X0_peek : GoodIn wsL_law wsX0_peek := goodIn_r _ [261, 29, 226, 227, 228, 2, 229, 290, 291, 292, 293, 294, 295, 296, 297, 298, 299, 300, 301] (by decide +kernel) (by decide +kernel)
set_option maxRecDepth 20000 in
theorem gL_law_X0_peek : GoodIn wsL_law (wsV RL 67 RX0 yX0_peek wsX0_peek) := goodIn_app (goodIn_of _ (by decide +kernel)) ggL_law_X0_peek
set_option maxRecDepth 20000 in
theorem ggL_law_X1_peek : GoodIn wsL_law wsX1_peek := goodIn_r _ [265, 91, 85, 302, 303, 304, 305, 306, 307, 308, 309, 310, 311, 312] (by decide +kernel) (by decide +kernel)
set_option maxRecDepth 20000 in
theorem gL_law_X1_peek : GoodIn wsL_law (wsV RL 70 RX1 yX1_peek wsX1_peek) := goodIn_app (goodIn_of _ (by decide +kernel)) ggL_law_X1_peek
set_option maxRecDepth 20000 in
theorem ggL_law_X0_writes : GoodIn wsL_law wsX0_writes := goodIn_r _ [269, 35, 290, 291, 292, 293, 294, 295, 296, 297, 298, 299, 300, 301] (by decide +kernel) (by decide +kernel)
set_option maxRecDepth 20000 in
theorem gL_law_X0_writes : GoodIn wsL_law (wsV RL 71 RX0 yX0_writes wsX0_writes) := goodIn_app (goodIn_of _ (by decide +kernel)) ggL_law_X0_writes
set_option maxRecDepth 20000 in
theorem ggL_law_X1_writes : GoodIn wsL_law wsX1_writes := goodIn_r _ [273, 98, 302, 303, 304, 305, 306, 307, 308, 309, 310, 311, 312] (by decide +kernel) (by decide +kernel)
set_option maxRecDepth 20000 in
theorem gL_law_X1_writes : GoodIn wsL_law (wsV RL 74 RX1 yX1_writes wsX1_writes) := goodIn_app (goodIn_of _ (by decide +kernel)) ggL_law_X1_writes
set_option maxRecDepth 20000 in
theorem ggL_law_X0_slot : GoodIn wsL_law wsX0_slot := goodIn_r _ [277, 73, 290, 291, 292, 293, 294, 295, 296, 297, 298, 299, 300, 301] (by decide +kernel) (by decide +kernel)
set_option maxRecDepth 20000 in
theorem gL_law_X0_slot : GoodIn wsL_law (wsV RL 75 RX0 yX0_slot wsX0_slot) := goodIn_app (goodIn_of _ (by decide +kernel)) ggL_law_X0_slot
set_option maxRecDepth 20000 in
theorem ggL_law_X1_slot : GoodIn wsL_law wsX1_slot := goodIn_r _ [281, 96, 302, 303, 304, 305, 306, 307, 308, 309, 310, 311, 312] (by decide +kernel) (by decide +kernel)
set_option maxRecDepth 20000 in
theorem gL_law_X1_slot : GoodIn wsL_law (wsV RL 78 RX1 yX1_slot wsX1_slot) := goodIn_app (goodIn_of _ (by decide +kernel)) ggL_law_X1_slot
set_option maxRecDepth 20000 in
theorem ggL_law_X0_down : GoodIn wsL_law wsX0_down := goodIn_r _ [285, 79, 290, 291, 292, 293, 294, 295, 296, 297, 298, 299, 300, 301] (by decide +kernel) (by decide +kernel)
set_option maxRecDepth 20000 in
theorem gL_law_X0_down : GoodIn wsL_law (wsV RL 79 RX0 yX0_down wsX0_down) := goodIn_app (goodIn_of _ (by decide +kernel)) ggL_law_X0_down
set_option maxRecDepth 20000 in
theorem ggL_law_X1_down : GoodIn wsL_law wsX1_down := goodIn_r _ [289, 99, 302, 303, 304, 305, 306, 307, 308, 309, 310, 311, 312] (by decide +kernel) (by decide +kernel)
set_option maxRecDepth 20000 in
theorem gL_law_X1_down : GoodIn wsL_law (wsV RL 83 RX1 yX1_down wsX1_down) := goodIn_app (goodIn_of _ (by decide +kernel)) ggL_law_X1_down
theorem dL_law_0 : decode cL_law 0 = .ok (.new 7, 3) := by decide +kernel
theorem dL_law_3 : decode cL_law 3 = .ok (.dup, 1) := by decide +kernel
theorem dL_law_4 : decode cL_law 4 = .ok (.aload_n 0, 1) := by decide +kernel
theorem dL_law_5 : decode cL_law 5 = .ok (.iconst 0, 1) := by decide +kernel
theorem dL_law_6 : decode cL_law 6 = .ok (.invokestatic 9, 3) := by decide +kernel
theorem dL_law_9 : decode cL_law 9 = .ok (.aload_n 0, 1) := by decide +kernel
theorem dL_law_10 : decode cL_law 10 = .ok (.iconst 1, 1) := by decide +kernel
theorem dL_law_11 : decode cL_law 11 = .ok (.invokestatic 9, 3) := by decide +kernel
theorem dL_law_14 : decode cL_law 14 = .ok (.invokespecial 15, 3) := by decide +kernel
theorem dL_law_17 : decode cL_law 17 = .ok (.astore_n 1, 1) := by decide +kernel
theorem dL_law_18 : decode cL_law 18 = .ok (.new 18, 3) := by decide +kernel
theorem dL_law_21 : decode cL_law 21 = .ok (.dup, 1) := by decide +kernel
theorem dL_law_22 : decode cL_law 22 = .ok (.aload_n 0, 1) := by decide +kernel
theorem dL_law_23 : decode cL_law 23 = .ok (.iconst 0, 1) := by decide +kernel
theorem dL_law_24 : decode cL_law 24 = .ok (.invokestatic 9, 3) := by decide +kernel
theorem dL_law_27 : decode cL_law 27 = .ok (.aload_n 0, 1) := by decide +kernel
theorem dL_law_28 : decode cL_law 28 = .ok (.iconst 1, 1) := by decide +kernel
theorem dL_law_29 : decode cL_law 29 = .ok (.invokestatic 9, 3) := by decide +kernel
theorem dL_law_32 : decode cL_law 32 = .ok (.invokespecial 20, 3) := by decide +kernel
theorem dL_law_35 : decode cL_law 35 = .ok (.astore_n 2, 1) := by decide +kernel
theorem dL_law_36 : decode cL_law 36 = .ok (.iconst 2, 1) := by decide +kernel
theorem dL_law_37 : decode cL_law 37 = .ok (.istore_n 3, 1) := by decide +kernel
theorem dL_law_38 : decode cL_law 38 = .ok (.iload_n 3, 1) := by decide +kernel
theorem dL_law_39 : decode cL_law 39 = .ok (.aload_n 0, 1) := by decide +kernel
theorem dL_law_40 : decode cL_law 40 = .ok (.arraylength, 1) := by decide +kernel
theorem dL_law_41 : decode cL_law 41 = .ok (.iconst 4, 1) := by decide +kernel
theorem dL_law_42 : decode cL_law 42 = .ok (.isub, 1) := by decide +kernel
theorem dL_law_43 : decode cL_law 43 = .ok (.if_icmp .gt 375, 3) := by decide +kernel
theorem dL_law_46 : decode cL_law 46 = .ok (.aload_n 0, 1) := by decide +kernel
theorem dL_law_47 : decode cL_law 47 = .ok (.iload_n 3, 1) := by decide +kernel
theorem dL_law_48 : decode cL_law 48 = .ok (.iaload, 1) := by decide +kernel
theorem dL_law_49 : decode cL_law 49 = .ok (.bipush 15, 2) := by decide +kernel
theorem dL_law_51 : decode cL_law 51 = .ok (.iand, 1) := by decide +kernel
theorem dL_law_52 : decode cL_law 52 = .ok (.tableswitch 360 0 13 #[72, 85, 128, 161, 184, 197, 210, 241, 262, 285, 298, 321, 334, 347], 72) := by decide +kernel
theorem dL_law_124 : decode cL_law 124 = .ok (.aload_n 1, 1) := by decide +kernel
theorem dL_law_125 : decode cL_law 125 = .ok (.invokevirtual 21, 3) := by decide +kernel
theorem dL_law_128 : decode cL_law 128 = .ok (.aload_n 2, 1) := by decide +kernel
theorem dL_law_129 : decode cL_law 129 = .ok (.invokevirtual 25, 3) := by decide +kernel
theorem dL_law_132 : decode cL_law 132 = .ok (.if_icmp .eq 280, 3) := by decide +kernel
theorem dL_law_135 : decode cL_law 135 = .ok (.iconst 0, 1) := by decide +kernel
theorem dL_law_136 : decode cL_law 136 = .ok (.ireturn, 1) := by decide +kernel
theorem dL_law_137 : decode cL_law 137 = .ok (.aload_n 1, 1) := by decide +kernel
theorem dL_law_138 : decode cL_law 138 = .ok (.aload_n 0, 1) := by decide +kernel
theorem dL_law_139 : decode cL_law 139 = .ok (.iload_n 3, 1) := by decide +kernel
theorem dL_law_140 : decode cL_law 140 = .ok (.iconst 1, 1) := by decide +kernel
theorem dL_law_141 : decode cL_law 141 = .ok (.iadd, 1) := by decide +kernel
theorem dL_law_142 : decode cL_law 142 = .ok (.iaload, 1) := by decide +kernel
theorem dL_law_143 : decode cL_law 143 = .ok (.aload_n 0, 1) := by decide +kernel
theorem dL_law_144 : decode cL_law 144 = .ok (.iload_n 3, 1) := by decide +kernel
theorem dL_law_145 : decode cL_law 145 = .ok (.iconst 2, 1) := by decide +kernel
theorem dL_law_146 : decode cL_law 146 = .ok (.iadd, 1) := by decide +kernel
theorem dL_law_147 : decode cL_law 147 = .ok (.iaload, 1) := by decide +kernel
theorem dL_law_148 : decode cL_law 148 = .ok (.aload_n 0, 1) := by decide +kernel
theorem dL_law_149 : decode cL_law 149 = .ok (.iload_n 3, 1) := by decide +kernel
theorem dL_law_150 : decode cL_law 150 = .ok (.iconst 3, 1) := by decide +kernel
theorem dL_law_151 : decode cL_law 151 = .ok (.iadd, 1) := by decide +kernel
theorem dL_law_152 : decode cL_law 152 = .ok (.iaload, 1) := by decide +kernel
theorem dL_law_153 : decode cL_law 153 = .ok (.invokevirtual 26, 3) := by decide +kernel
theorem dL_law_156 : decode cL_law 156 = .ok (.aload_n 2, 1) := by decide +kernel
theorem dL_law_157 : decode cL_law 157 = .ok (.aload_n 0, 1) := by decide +kernel
theorem dL_law_158 : decode cL_law 158 = .ok (.iload_n 3, 1) := by decide +kernel
theorem dL_law_159 : decode cL_law 159 = .ok (.iconst 1, 1) := by decide +kernel
theorem dL_law_160 : decode cL_law 160 = .ok (.iadd, 1) := by decide +kernel
theorem dL_law_161 : decode cL_law 161 = .ok (.iaload, 1) := by decide +kernel
theorem dL_law_162 : decode cL_law 162 = .ok (.aload_n 0, 1) := by decide +kernel
theorem dL_law_163 : decode cL_law 163 = .ok (.iload_n 3, 1) := by decide +kernel
theorem dL_law_164 : decode cL_law 164 = .ok (.iconst 2, 1) := by decide +kernel
theorem dL_law_165 : decode cL_law 165 = .ok (.iadd, 1) := by decide +kernel
theorem dL_law_166 : decode cL_law 166 = .ok (.iaload, 1) := by decide +kernel
theorem dL_law_167 : decode cL_law 167 = .ok (.aload_n 0, 1) := by decide +kernel
theorem dL_law_168 : decode cL_law 168 = .ok (.iload_n 3, 1) := by decide +kernel
theorem dL_law_169 : decode cL_law 169 = .ok (.iconst 3, 1) := by decide +kernel
theorem dL_law_170 : decode cL_law 170 = .ok (.iadd, 1) := by decide +kernel
theorem dL_law_171 : decode cL_law 171 = .ok (.iaload, 1) := by decide +kernel
theorem dL_law_172 : decode cL_law 172 = .ok (.invokevirtual 30, 3) := by decide +kernel
theorem dL_law_175 : decode cL_law 175 = .ok (.if_icmp .eq 237, 3) := by decide +kernel
theorem dL_law_178 : decode cL_law 178 = .ok (.iconst 0, 1) := by decide +kernel
theorem dL_law_179 : decode cL_law 179 = .ok (.ireturn, 1) := by decide +kernel
theorem dL_law_180 : decode cL_law 180 = .ok (.aload_n 1, 1) := by decide +kernel
theorem dL_law_181 : decode cL_law 181 = .ok (.aload_n 0, 1) := by decide +kernel
theorem dL_law_182 : decode cL_law 182 = .ok (.iload_n 3, 1) := by decide +kernel
theorem dL_law_183 : decode cL_law 183 = .ok (.iconst 1, 1) := by decide +kernel
theorem dL_law_184 : decode cL_law 184 = .ok (.iadd, 1) := by decide +kernel
theorem dL_law_185 : decode cL_law 185 = .ok (.iaload, 1) := by decide +kernel
theorem dL_law_186 : decode cL_law 186 = .ok (.aload_n 0, 1) := by decide +kernel
theorem dL_law_187 : decode cL_law 187 = .ok (.iload_n 3, 1) := by decide +kernel
theorem dL_law_188 : decode cL_law 188 = .ok (.iconst 2, 1) := by decide +kernel
theorem dL_law_189 : decode cL_law 189 = .ok (.iadd, 1) := by decide +kernel
theorem dL_law_190 : decode cL_law 190 = .ok (.iaload, 1) := by decide +kernel
theorem dL_law_191 : decode cL_law 191 = .ok (.invokevirtual 31, 3) := by decide +kernel
theorem dL_law_194 : decode cL_law 194 = .ok (.aload_n 2, 1) := by decide +kernel
theorem dL_law_195 : decode cL_law 195 = .ok (.aload_n 0, 1) := by decide +kernel
theorem dL_law_196 : decode cL_law 196 = .ok (.iload_n 3, 1) := by decide +kernel
theorem dL_law_197 : decode cL_law 197 = .ok (.iconst 1, 1) := by decide +kernel
theorem dL_law_198 : decode cL_law 198 = .ok (.iadd, 1) := by decide +kernel
theorem dL_law_199 : decode cL_law 199 = .ok (.iaload, 1) := by decide +kernel
theorem dL_law_200 : decode cL_law 200 = .ok (.aload_n 0, 1) := by decide +kernel
theorem dL_law_201 : decode cL_law 201 = .ok (.iload_n 3, 1) := by decide +kernel
theorem dL_law_202 : decode cL_law 202 = .ok (.iconst 2, 1) := by decide +kernel
theorem dL_law_203 : decode cL_law 203 = .ok (.iadd, 1) := by decide +kernel
theorem dL_law_204 : decode cL_law 204 = .ok (.iaload, 1) := by decide +kernel
theorem dL_law_205 : decode cL_law 205 = .ok (.invokevirtual 35, 3) := by decide +kernel
theorem dL_law_208 : decode cL_law 208 = .ok (.if_icmp .eq 204, 3) := by decide +kernel
theorem dL_law_211 : decode cL_law 211 = .ok (.iconst 0, 1) := by decide +kernel
theorem dL_law_212 : decode cL_law 212 = .ok (.ireturn, 1) := by decide +kernel
theorem dL_law_213 : decode cL_law 213 = .ok (.aload_n 1, 1) := by decide +kernel
theorem dL_law_214 : decode cL_law 214 = .ok (.aload_n 0, 1) := by decide +kernel
theorem dL_law_215 : decode cL_law 215 = .ok (.iload_n 3, 1) := by decide +kernel
theorem dL_law_216 : decode cL_law 216 = .ok (.iconst 1, 1) := by decide +kernel
theorem dL_law_217 : decode cL_law 217 = .ok (.iadd, 1) := by decide +kernel
theorem dL_law_218 : decode cL_law 218 = .ok (.iaload, 1) := by decide +kernel
theorem dL_law_219 : decode cL_law 219 = .ok (.invokevirtual 36, 3) := by decide +kernel
theorem dL_law_222 : decode cL_law 222 = .ok (.aload_n 2, 1) := by decide +kernel
theorem dL_law_223 : decode cL_law 223 = .ok (.aload_n 0, 1) := by decide +kernel
theorem dL_law_224 : decode cL_law 224 = .ok (.iload_n 3, 1) := by decide +kernel
theorem dL_law_225 : decode cL_law 225 = .ok (.iconst 1, 1) := by decide +kernel
theorem dL_law_226 : decode cL_law 226 = .ok (.iadd, 1) := by decide +kernel
theorem dL_law_227 : decode cL_law 227 = .ok (.iaload, 1) := by decide +kernel
theorem dL_law_228 : decode cL_law 228 = .ok (.invokevirtual 40, 3) := by decide +kernel
theorem dL_law_231 : decode cL_law 231 = .ok (.if_icmp .eq 181, 3) := by decide +kernel
theorem dL_law_234 : decode cL_law 234 = .ok (.iconst 0, 1) := by decide +kernel
theorem dL_law_235 : decode cL_law 235 = .ok (.ireturn, 1) := by decide +kernel
theorem dL_law_236 : decode cL_law 236 = .ok (.aload_n 1, 1) := by decide +kernel
theorem dL_law_237 : decode cL_law 237 = .ok (.invokevirtual 41, 3) := by decide +kernel
theorem dL_law_240 : decode cL_law 240 = .ok (.aload_n 2, 1) := by decide +kernel
theorem dL_law_241 : decode cL_law 241 = .ok (.invokevirtual 44, 3) := by decide +kernel
theorem dL_law_244 : decode cL_law 244 = .ok (.if_icmp .eq 168, 3) := by decide +kernel
theorem dL_law_247 : decode cL_law 247 = .ok (.iconst 0, 1) := by decide +kernel
theorem dL_law_248 : decode cL_law 248 = .ok (.ireturn, 1) := by decide +kernel
theorem dL_law_249 : decode cL_law 249 = .ok (.aload_n 1, 1) := by decide +kernel
theorem dL_law_250 : decode cL_law 250 = .ok (.invokevirtual 45, 3) := by decide +kernel
theorem dL_law_253 : decode cL_law 253 = .ok (.aload_n 2, 1) := by decide +kernel
theorem dL_law_254 : decode cL_law 254 = .ok (.invokevirtual 48, 3) := by decide +kernel
theorem dL_law_257 : decode cL_law 257 = .ok (.if_icmp .eq 155, 3) := by decide +kernel
theorem dL_law_260 : decode cL_law 260 = .ok (.iconst 0, 1) := by decide +kernel
theorem dL_law_261 : decode cL_law 261 = .ok (.ireturn, 1) := by decide +kernel
theorem dL_law_262 : decode cL_law 262 = .ok (.aload_n 1, 1) := by decide +kernel
theorem dL_law_263 : decode cL_law 263 = .ok (.aload_n 0, 1) := by decide +kernel
theorem dL_law_264 : decode cL_law 264 = .ok (.iload_n 3, 1) := by decide +kernel
theorem dL_law_265 : decode cL_law 265 = .ok (.iconst 1, 1) := by decide +kernel
theorem dL_law_266 : decode cL_law 266 = .ok (.iadd, 1) := by decide +kernel
theorem dL_law_267 : decode cL_law 267 = .ok (.iaload, 1) := by decide +kernel
theorem dL_law_268 : decode cL_law 268 = .ok (.aload_n 0, 1) := by decide +kernel
theorem dL_law_269 : decode cL_law 269 = .ok (.iload_n 3, 1) := by decide +kernel
theorem dL_law_270 : decode cL_law 270 = .ok (.iconst 2, 1) := by decide +kernel
theorem dL_law_271 : decode cL_law 271 = .ok (.iadd, 1) := by decide +kernel
theorem dL_law_272 : decode cL_law 272 = .ok (.iaload, 1) := by decide +kernel
theorem dL_law_273 : decode cL_law 273 = .ok (.invokevirtual 49, 3) := by decide +kernel
theorem dL_law_276 : decode cL_law 276 = .ok (.aload_n 2, 1) := by decide +kernel
theorem dL_law_277 : decode cL_law 277 = .ok (.aload_n 0, 1) := by decide +kernel
theorem dL_law_278 : decode cL_law 278 = .ok (.iload_n 3, 1) := by decide +kernel
theorem dL_law_279 : decode cL_law 279 = .ok (.iconst 1, 1) := by decide +kernel
theorem dL_law_280 : decode cL_law 280 = .ok (.iadd, 1) := by decide +kernel
theorem dL_law_281 : decode cL_law 281 = .ok (.iaload, 1) := by decide +kernel
theorem dL_law_282 : decode cL_law 282 = .ok (.aload_n 0, 1) := by decide +kernel
theorem dL_law_283 : decode cL_law 283 = .ok (.iload_n 3, 1) := by decide +kernel
theorem dL_law_284 : decode cL_law 284 = .ok (.iconst 2, 1) := by decide +kernel
theorem dL_law_285 : decode cL_law 285 = .ok (.iadd, 1) := by decide +kernel
theorem dL_law_286 : decode cL_law 286 = .ok (.iaload, 1) := by decide +kernel
theorem dL_law_287 : decode cL_law 287 = .ok (.invokevirtual 52, 3) := by decide +kernel
theorem dL_law_290 : decode cL_law 290 = .ok (.goto 122, 3) := by decide +kernel
theorem dL_law_293 : decode cL_law 293 = .ok (.aload_n 1, 1) := by decide +kernel
theorem dL_law_294 : decode cL_law 294 = .ok (.aload_n 0, 1) := by decide +kernel
theorem dL_law_295 : decode cL_law 295 = .ok (.iload_n 3, 1) := by decide +kernel
theorem dL_law_296 : decode cL_law 296 = .ok (.iconst 1, 1) := by decide +kernel
theorem dL_law_297 : decode cL_law 297 = .ok (.iadd, 1) := by decide +kernel
theorem dL_law_298 : decode cL_law 298 = .ok (.iaload, 1) := by decide +kernel
theorem dL_law_299 : decode cL_law 299 = .ok (.invokevirtual 53, 3) := by decide +kernel
theorem dL_law_302 : decode cL_law 302 = .ok (.aload_n 2, 1) := by decide +kernel
theorem dL_law_303 : decode cL_law 303 = .ok (.aload_n 0, 1) := by decide +kernel
theorem dL_law_304 : decode cL_law 304 = .ok (.iload_n 3, 1) := by decide +kernel
theorem dL_law_305 : decode cL_law 305 = .ok (.iconst 1, 1) := by decide +kernel
theorem dL_law_306 : decode cL_law 306 = .ok (.iadd, 1) := by decide +kernel
theorem dL_law_307 : decode cL_law 307 = .ok (.iaload, 1) := by decide +kernel
theorem dL_law_308 : decode cL_law 308 = .ok (.invokevirtual 57, 3) := by decide +kernel
theorem dL_law_311 : decode cL_law 311 = .ok (.goto 101, 3) := by decide +kernel
theorem dL_law_314 : decode cL_law 314 = .ok (.aload_n 1, 1) := by decide +kernel
theorem dL_law_315 : decode cL_law 315 = .ok (.aload_n 0, 1) := by decide +kernel
theorem dL_law_316 : decode cL_law 316 = .ok (.iload_n 3, 1) := by decide +kernel
theorem dL_law_317 : decode cL_law 317 = .ok (.iconst 1, 1) := by decide +kernel
theorem dL_law_318 : decode cL_law 318 = .ok (.iadd, 1) := by decide +kernel
theorem dL_law_319 : decode cL_law 319 = .ok (.iaload, 1) := by decide +kernel
theorem dL_law_320 : decode cL_law 320 = .ok (.invokevirtual 58, 3) := by decide +kernel
theorem dL_law_323 : decode cL_law 323 = .ok (.aload_n 2, 1) := by decide +kernel
theorem dL_law_324 : decode cL_law 324 = .ok (.aload_n 0, 1) := by decide +kernel
theorem dL_law_325 : decode cL_law 325 = .ok (.iload_n 3, 1) := by decide +kernel
theorem dL_law_326 : decode cL_law 326 = .ok (.iconst 1, 1) := by decide +kernel
theorem dL_law_327 : decode cL_law 327 = .ok (.iadd, 1) := by decide +kernel
theorem dL_law_328 : decode cL_law 328 = .ok (.iaload, 1) := by decide +kernel
theorem dL_law_329 : decode cL_law 329 = .ok (.invokevirtual 62, 3) := by decide +kernel
theorem dL_law_332 : decode cL_law 332 = .ok (.if_icmp .eq 80, 3) := by decide +kernel
theorem dL_law_335 : decode cL_law 335 = .ok (.iconst 0, 1) := by decide +kernel
theorem dL_law_336 : decode cL_law 336 = .ok (.ireturn, 1) := by decide +kernel
theorem dL_law_337 : decode cL_law 337 = .ok (.aload_n 1, 1) := by decide +kernel
theorem dL_law_338 : decode cL_law 338 = .ok (.invokevirtual 63, 3) := by decide +kernel
theorem dL_law_341 : decode cL_law 341 = .ok (.aload_n 2, 1) := by decide +kernel
theorem dL_law_342 : decode cL_law 342 = .ok (.invokevirtual 66, 3) := by decide +kernel
theorem dL_law_345 : decode cL_law 345 = .ok (.if_icmp .eq 67, 3) := by decide +kernel
theorem dL_law_348 : decode cL_law 348 = .ok (.iconst 0, 1) := by decide +kernel
theorem dL_law_349 : decode cL_law 349 = .ok (.ireturn, 1) := by decide +kernel
theorem dL_law_350 : decode cL_law 350 = .ok (.aload_n 1, 1) := by decide +kernel
theorem dL_law_351 : decode cL_law 351 = .ok (.aload_n 0, 1) := by decide +kernel
theorem dL_law_352 : decode cL_law 352 = .ok (.iload_n 3, 1) := by decide +kernel
theorem dL_law_353 : decode cL_law 353 = .ok (.iconst 1, 1) := by decide +kernel
theorem dL_law_354 : decode cL_law 354 = .ok (.iadd, 1) := by decide +kernel
theorem dL_law_355 : decode cL_law 355 = .ok (.iaload, 1) := by decide +kernel
theorem dL_law_356 : decode cL_law 356 = .ok (.invokevirtual 67, 3) := by decide +kernel
theorem dL_law_359 : decode cL_law 359 = .ok (.aload_n 2, 1) := by decide +kernel
theorem dL_law_360 : decode cL_law 360 = .ok (.aload_n 0, 1) := by decide +kernel
theorem dL_law_361 : decode cL_law 361 = .ok (.iload_n 3, 1) := by decide +kernel
theorem dL_law_362 : decode cL_law 362 = .ok (.iconst 1, 1) := by decide +kernel
theorem dL_law_363 : decode cL_law 363 = .ok (.iadd, 1) := by decide +kernel
theorem dL_law_364 : decode cL_law 364 = .ok (.iaload, 1) := by decide +kernel
theorem dL_law_365 : decode cL_law 365 = .ok (.invokevirtual 70, 3) := by decide +kernel
theorem dL_law_368 : decode cL_law 368 = .ok (.if_icmp .eq 44, 3) := by decide +kernel
theorem dL_law_371 : decode cL_law 371 = .ok (.iconst 0, 1) := by decide +kernel
theorem dL_law_372 : decode cL_law 372 = .ok (.ireturn, 1) := by decide +kernel
theorem dL_law_373 : decode cL_law 373 = .ok (.aload_n 1, 1) := by decide +kernel
theorem dL_law_374 : decode cL_law 374 = .ok (.invokevirtual 71, 3) := by decide +kernel
theorem dL_law_377 : decode cL_law 377 = .ok (.aload_n 2, 1) := by decide +kernel
theorem dL_law_378 : decode cL_law 378 = .ok (.invokevirtual 74, 3) := by decide +kernel
theorem dL_law_381 : decode cL_law 381 = .ok (.if_icmp .eq 31, 3) := by decide +kernel
theorem dL_law_384 : decode cL_law 384 = .ok (.iconst 0, 1) := by decide +kernel
theorem dL_law_385 : decode cL_law 385 = .ok (.ireturn, 1) := by decide +kernel
theorem dL_law_386 : decode cL_law 386 = .ok (.aload_n 1, 1) := by decide +kernel
theorem dL_law_387 : decode cL_law 387 = .ok (.invokevirtual 75, 3) := by decide +kernel
theorem dL_law_390 : decode cL_law 390 = .ok (.aload_n 2, 1) := by decide +kernel
theorem dL_law_391 : decode cL_law 391 = .ok (.invokevirtual 78, 3) := by decide +kernel
theorem dL_law_394 : decode cL_law 394 = .ok (.if_icmp .eq 18, 3) := by decide +kernel
theorem dL_law_397 : decode cL_law 397 = .ok (.iconst 0, 1) := by decide +kernel
theorem dL_law_398 : decode cL_law 398 = .ok (.ireturn, 1) := by decide +kernel
theorem dL_law_399 : decode cL_law 399 = .ok (.aload_n 1, 1) := by decide +kernel
theorem dL_law_400 : decode cL_law 400 = .ok (.invokevirtual 79, 3) := by decide +kernel
theorem dL_law_403 : decode cL_law 403 = .ok (.aload_n 2, 1) := by decide +kernel
theorem dL_law_404 : decode cL_law 404 = .ok (.invokevirtual 83, 3) := by decide +kernel
theorem dL_law_407 : decode cL_law 407 = .ok (.if_icmp .eq 5, 3) := by decide +kernel
theorem dL_law_410 : decode cL_law 410 = .ok (.iconst 0, 1) := by decide +kernel
theorem dL_law_411 : decode cL_law 411 = .ok (.ireturn, 1) := by decide +kernel
theorem dL_law_412 : decode cL_law 412 = .ok (.iinc 3 4, 3) := by decide +kernel
theorem dL_law_415 : decode cL_law 415 = .ok (.goto (-377), 3) := by decide +kernel
theorem dL_law_418 : decode cL_law 418 = .ok (.iconst 1, 1) := by decide +kernel
theorem dL_law_419 : decode cL_law 419 = .ok (.ireturn, 1) := by decide +kernel
abbrev vwCl : List vw_C := [(RX0, TX0, 12), (RX1, TX1, 11)]
end
section
/-! the mathematics of both sides: MIX, hashes, ways, plans, writings -/
def hs_m1 (a b : Int32) : Int32 := (a ^^^ ((b <<< ((13 : Int32) &&& 31)) ||| (b.toUInt32 >>> ((19 : Int32).toUInt32 &&& Int32.toUInt32 31)).toInt32)) * 739982445
def hs_m2 (x : Int32) : Int32 := x ^^^ (x.toUInt32 >>> ((15 : Int32).toUInt32 &&& Int32.toUInt32 31)).toInt32
def hs_m3 (x b : Int32) : Int32 := (x + b) * 695872825
def hs_m4 (x : Int32) : Int32 := x ^^^ (x.toUInt32 >>> ((14 : Int32).toUInt32 &&& Int32.toUInt32 31)).toInt32
theorem hs_mx_ex : ∃ f : Int32 → Int32 → Int32, ∀ a b, f a b = hs_m4 (hs_m3 (hs_m2 (hs_m1 a b)) b) := ⟨fun a b => hs_m4 (hs_m3 (hs_m2 (hs_m1 a b)) b), fun _ _ => rfl⟩
/-- MIX, sealed: nothing unfolds it but hs_mx_eq -/
noncomputable def hs_mx : Int32 → Int32 → Int32 := Classical.choose hs_mx_ex
theorem hs_mx_eq (a b : Int32) : hs_mx a b = hs_m4 (hs_m3 (hs_m2 (hs_m1 a b)) b) := Classical.choose_spec hs_mx_ex a b
def hs_b (x : Bool) : Int32 := if x = true then 1 else 0
def hs_ok (d N w nw sz : Nat) : Prop := d ≤ 5 ∧ N = 2 ^ d ∧ 1 ≤ w ∧ w ≤ 6 ∧ nw = N * w ∧ sz = nw + 2 * N - 1
theorem hs_okf {d N w nw sz : Nat} (h : hs_ok d N w nw sz) : d ≤ 5 ∧ 1 ≤ N ∧ N ≤ 32 ∧ 1 ≤ w ∧ w ≤ 6 ∧ 1 ≤ nw ∧ nw ≤ 192 ∧ sz = nw + 2 * N - 1 ∧ sz ≤ 255 := by
  obtain ⟨h1, h2, h3, h4, h5, h6⟩ := h
  have hN : 1 ≤ N := by rw [h2]; exact Nat.one_le_two_pow
  have hN2 : N ≤ 32 := by
    have : 2 ^ d ≤ 2 ^ 5 := Nat.pow_le_pow_right (by omega) h1
    rw [h2]; omega
  have a : N * w ≤ 32 * 6 := Nat.mul_le_mul hN2 h4
  have b : 1 * 1 ≤ N * w := Nat.mul_le_mul hN h3
  omega
theorem hs_row {d N w nw sz b : Nat} (h : hs_ok d N w nw sz) (hb : b < N) : b * w + w ≤ nw := by
  obtain ⟨h1, h2, h3, h4, h5, h6⟩ := h
  have a : (b + 1) * w ≤ N * w := Nat.mul_le_mul_right w hb
  rw [Nat.add_mul, Nat.one_mul] at a
  omega
/-- a node of the n-th level from above -/
def hs_lv (n k : Nat) : Prop := 2 ^ n ≤ k ∧ k < 2 * 2 ^ n
theorem hs_lv_s {n k : Nat} (h : hs_lv (n + 1) k) : hs_lv n (k / 2) ∧ 2 ≤ k := by
  obtain ⟨h1, h2⟩ := h
  have e : 2 ^ (n + 1) = 2 * 2 ^ n := by rw [Nat.pow_succ]; omega
  have e1 : 1 ≤ 2 ^ n := Nat.one_le_two_pow
  rw [e] at h1 h2
  refine ⟨⟨?_, ?_⟩, ?_⟩ <;> omega
theorem hs_lv_0 {k : Nat} (h : hs_lv 0 k) : k = 1 := by
  obtain ⟨h1, h2⟩ := h
  have e : 2 ^ 0 = 1 := rfl
  omega
theorem hs_lv_b {d N w nw sz b : Nat} (h : hs_ok d N w nw sz) (hb : b < N) : hs_lv d (N + b) := by
  obtain ⟨h1, h2, h3, h4, h5, h6⟩ := h
  refine ⟨?_, ?_⟩ <;> rw [← h2] <;> omega
noncomputable def hs_bl (v : Nat → Int32) : Nat → Nat → Int32 → Int32
  | 0, _, h => h
  | n + 1, p, h => hs_bl v n (p + 1) (hs_mx h (v p))
def hs_ng (v : Nat → Int32) : Nat → Nat → Bool
  | 0, _ => false
  | n + 1, p => if v p < 0 then true else hs_ng v n (p + 1)
noncomputable def hs_st (nw : Nat) (v : Nat → Int32) (k : Nat) (h : Int32) : Int32 := if k % 2 = 0 then hs_mx h (v (nw + (k + 1) - 1)) else hs_mx (v (nw + (k - 1) - 1)) h
noncomputable def hs_up (nw : Nat) (v : Nat → Int32) : Nat → Nat → Int32 → Int32
  | 0, _, h => h
  | n + 1, k, h => hs_up nw v n (k / 2) (hs_st nw v k h)
noncomputable def hs_pw (nw : Nat) : Nat → Nat → Int32 → (Nat → Int32) → (Nat → Int32) × Int32
  | 0, k, h, g => (upd g (nw + k - 1) h, h)
  | n + 1, k, h, g => hs_pw nw n (k / 2) (hs_st nw (upd g (nw + k - 1) h) k h) (upd g (nw + k - 1) h)
noncomputable def hs_px (nw : Nat) : Nat → Nat → (Nat → Int32) → (Nat → Int32)
  | 0, _, g => g
  | n + 1, k, g => hs_px nw n (k / 2) (upd g (nw + k / 2 - 1) (hs_mx (g (nw + 2 * (k / 2) - 1)) (g (nw + (2 * (k / 2) + 1) - 1))))
noncomputable def hs_rt (d N w nw : Nat) (v : Nat → Int32) (b : Nat) : Int32 := hs_up nw v d (N + b) (hs_bl v w (b * w) (nI b))
noncomputable def hs_rg (d N w nw : Nat) (v : Nat → Int32) (k : Int32) (b : Nat) : Bool := if hs_ng v w (b * w) = true then false else decide (hs_rt d N w nw v b = k)
def hs_au (P : Nat → Bool) : Nat → Nat → Int32
  | 0, _ => -1
  | n + 1, b => if P b = true then hs_au P n (b + 1) else nI b
theorem hs_bl_c {v v' : Nat → Int32} : ∀ (n p : Nat) (h : Int32), (∀ j, p ≤ j → j < p + n → v j = v' j) → hs_bl v n p h = hs_bl v' n p h := by
  intro n
  induction n with
  | zero => intro p h H; rfl
  | succ n ih =>
    intro p h H
    rw [hs_bl, hs_bl, H p (Nat.le_refl p) (by omega)]
    exact ih (p + 1) _ (fun j h1 h2 => H j (by omega) (by omega))
theorem hs_ng_c {v v' : Nat → Int32} : ∀ (n p : Nat), (∀ j, p ≤ j → j < p + n → v j = v' j) → hs_ng v n p = hs_ng v' n p
  | 0, _, _ => rfl
  | n + 1, p, H => by
    show (if v p < 0 then true else hs_ng v n (p + 1)) = (if v' p < 0 then true else hs_ng v' n (p + 1))
    rw [H p (Nat.le_refl p) (by omega), hs_ng_c n (p + 1) (fun j h1 h2 => H j (by omega) (by omega))]
theorem hs_st_c {nw N sz : Nat} {v v' : Nat → Int32} (hsz : sz = nw + 2 * N - 1) (H : ∀ j, j < sz → v j = v' j) {k : Nat} {h : Int32} (h2 : 2 ≤ k) (hk : k < 2 * N) : hs_st nw v k h = hs_st nw v' k h := by
  unfold hs_st
  by_cases hq : k % 2 = 0
  · rw [if_pos hq, if_pos hq, H _ (by omega)]
  · rw [if_neg hq, if_neg hq, H _ (by omega)]
theorem hs_up_c {nw N sz : Nat} {v v' : Nat → Int32} (hsz : sz = nw + 2 * N - 1) (H : ∀ j, j < sz → v j = v' j) : ∀ (n k : Nat) (h : Int32), hs_lv n k → k < 2 * N → hs_up nw v n k h = hs_up nw v' n k h
  | 0, _, _, _, _ => rfl
  | n + 1, k, h, hl, hk => by
    show hs_up nw v n (k / 2) (hs_st nw v k h) = hs_up nw v' n (k / 2) (hs_st nw v' k h)
    obtain ⟨h1, h2⟩ := hs_lv_s hl
    rw [hs_st_c hsz H h2 hk]
    exact hs_up_c hsz H n (k / 2) _ h1 (by omega)
theorem hs_upd_c {sz a : Nat} {x : Int32} {g g' : Nat → Int32} (H : ∀ j, j < sz → g j = g' j) : ∀ j, j < sz → upd g a x j = upd g' a x j := by
  intro j hj
  by_cases e : j = a
  · subst e; rw [pk_us, pk_us]
  · rw [pk_un e, pk_un e]; exact H j hj
theorem hs_pw_c {nw N sz : Nat} (hsz : sz = nw + 2 * N - 1) : ∀ (n k : Nat) (h : Int32) (g g' : Nat → Int32), hs_lv n k → k < 2 * N → (∀ j, j < sz → g j = g' j) → (∀ j, j < sz → (hs_pw nw n k h g).1 j = (hs_pw nw n k h g').1 j) ∧ (hs_pw nw n k h g).2 = (hs_pw nw n k h g').2
  | 0, k, h, g, g', _, _, H => ⟨hs_upd_c H, rfl⟩
  | n + 1, k, h, g, g', hl, hk, H => by
    obtain ⟨h1, h2⟩ := hs_lv_s hl
    show (∀ j, j < sz → (hs_pw nw n (k / 2) (hs_st nw (upd g (nw + k - 1) h) k h) (upd g (nw + k - 1) h)).1 j = (hs_pw nw n (k / 2) (hs_st nw (upd g' (nw + k - 1) h) k h) (upd g' (nw + k - 1) h)).1 j) ∧ (hs_pw nw n (k / 2) (hs_st nw (upd g (nw + k - 1) h) k h) (upd g (nw + k - 1) h)).2 = (hs_pw nw n (k / 2) (hs_st nw (upd g' (nw + k - 1) h) k h) (upd g' (nw + k - 1) h)).2
    have H1 : ∀ j, j < sz → upd g (nw + k - 1) h j = upd g' (nw + k - 1) h j := hs_upd_c H
    rw [hs_st_c hsz H1 h2 hk]
    exact hs_pw_c hsz n (k / 2) _ _ _ h1 (by omega) H1
theorem hs_pw_root {nw : Nat} : ∀ (n k : Nat) (h : Int32) (g : Nat → Int32), hs_lv n k → (hs_pw nw n k h g).1 (nw + 1 - 1) = (hs_pw nw n k h g).2
  | 0, k, h, g, hl => by
    have e := hs_lv_0 hl
    subst e
    exact pk_us
  | n + 1, k, h, g, hl => hs_pw_root n (k / 2) _ _ (hs_lv_s hl).1
theorem hs_px_pw {nw : Nat} (h1w : 1 ≤ nw) : ∀ (n k : Nat) (h : Int32) (g : Nat → Int32), hs_lv n k → hs_px nw n k (upd g (nw + k - 1) h) = (hs_pw nw n k h g).1 := by
  intro n
  induction n with
  | zero => intro k h g hl; rfl
  | succ n ih =>
    intro k h g hl
    obtain ⟨h1, h2⟩ := hs_lv_s hl
    have e : hs_mx (upd g (nw + k - 1) h (nw + 2 * (k / 2) - 1)) (upd g (nw + k - 1) h (nw + (2 * (k / 2) + 1) - 1)) = hs_st nw (upd g (nw + k - 1) h) k h := by
      unfold hs_st
      by_cases hq : k % 2 = 0
      · rw [if_pos hq, show 2 * (k / 2) = k by omega, pk_us]
      · rw [if_neg hq, show 2 * (k / 2) + 1 = k by omega, show 2 * (k / 2) = k - 1 by omega, pk_us]
    rw [hs_px, hs_pw, e]
    exact ih (k / 2) _ _ h1
/-- writings: the disk, the writes left, those done, whether it is down -/
abbrev hs_T : Type := (Nat → Int32) × Int32 × Int32 × Bool
def hs_put (o : Nat) (g : Nat → Int32) (k : Nat) : hs_T → hs_T × Bool
  | (F, lf, dn, dw) => if F (o + k) = g k then ((F, lf, dn, dw), true) else if lf = 0 then ((F, lf, dn, true), false) else ((upd F (o + k) (g k), (if lf = -1 then lf else lf - 1), dn + 1, dw), true)
def hs_ps (o : Nat) (g : Nat → Int32) : List Nat → hs_T → hs_T × Bool
  | [], x => (x, true)
  | k :: ks, x => if (hs_put o g k x).2 = true then hs_ps o g ks (hs_put o g k x).1 else hs_put o g k x
def hs_lo (lf : Int32) : Prop := lf = -1 ∨ 0 ≤ lf
theorem hs_lo_p {lf : Int32} (h : hs_lo lf) (h0 : ¬ lf = 0) : hs_lo (if lf = -1 then lf else lf - 1) := by
  by_cases e : lf = -1
  · rw [if_pos e]; exact Or.inl e
  · rw [if_neg e]
    rcases h with h | h
    · exact absurd h e
    · obtain ⟨j, hj, rfl⟩ := nI_of (Int32.not_lt.mpr h)
      cases j with
      | zero => exact absurd nI_0 h0
      | succ j => rw [nI_pred]; exact Or.inr (nI_pos' (by omega))
theorem hs_put_lo {o k : Nat} {g F : Nat → Int32} {lf dn : Int32} {dw : Bool} (h : hs_lo lf) : hs_lo (hs_put o g k (F, lf, dn, dw)).1.2.1 := by
  unfold hs_put
  by_cases e : F (o + k) = g k
  · simp only [if_pos e]; exact h
  · by_cases e0 : lf = 0
    · simp only [if_neg e, if_pos e0]; exact h
    · simp only [if_neg e, if_neg e0]; exact hs_lo_p h e0
theorem hs_ps_lo {o : Nat} {g : Nat → Int32} : ∀ (ks : List Nat) (x : hs_T), hs_lo x.2.1 → hs_lo (hs_ps o g ks x).1.2.1
  | [], _, h => h
  | k :: ks, (F, lf, dn, dw), h => by
    show hs_lo (if (hs_put o g k (F, lf, dn, dw)).2 = true then hs_ps o g ks (hs_put o g k (F, lf, dn, dw)).1 else hs_put o g k (F, lf, dn, dw)).1.2.1
    by_cases e : (hs_put o g k (F, lf, dn, dw)).2 = true
    · rw [if_pos e]; exact hs_ps_lo ks _ (hs_put_lo h)
    · rw [if_neg e]; exact hs_put_lo h
theorem hs_put_c {o k : Nat} {g g' : Nat → Int32} (e : g k = g' k) : ∀ x : hs_T, hs_put o g k x = hs_put o g' k x
  | (F, lf, dn, dw) => by unfold hs_put; simp only [e]
theorem hs_ps_c {o : Nat} {g g' : Nat → Int32} : ∀ (ks : List Nat) (x : hs_T), (∀ k ∈ ks, g k = g' k) → hs_ps o g ks x = hs_ps o g' ks x
  | [], _, _ => rfl
  | k :: ks, x, h => by
    show (if (hs_put o g k x).2 = true then hs_ps o g ks (hs_put o g k x).1 else hs_put o g k x) = (if (hs_put o g' k x).2 = true then hs_ps o g' ks (hs_put o g' k x).1 else hs_put o g' k x)
    rw [hs_put_c (h k List.mem_cons_self) x, hs_ps_c ks _ (fun j hj => h j (List.mem_cons_of_mem _ hj))]
theorem hs_ps_app {o : Nat} {g : Nat → Int32} : ∀ (l1 l2 : List Nat) (x : hs_T), hs_ps o g (l1 ++ l2) x = if (hs_ps o g l1 x).2 = true then hs_ps o g l2 (hs_ps o g l1 x).1 else hs_ps o g l1 x
  | [], l2, x => by rw [List.nil_append, show hs_ps o g [] x = (x, true) from rfl, if_pos rfl]
  | k :: ks, l2, x => by
    rw [List.cons_append]
    show (if (hs_put o g k x).2 = true then hs_ps o g (ks ++ l2) (hs_put o g k x).1 else hs_put o g k x) = _
    rw [show hs_ps o g (k :: ks) x = (if (hs_put o g k x).2 = true then hs_ps o g ks (hs_put o g k x).1 else hs_put o g k x) from rfl]
    by_cases e : (hs_put o g k x).2 = true
    · rw [if_pos e, if_pos e]; exact hs_ps_app ks l2 _
    · rw [if_neg e, if_neg e, if_neg e]
/-- the order of the writings: words up, nodes down -/
def hs_us : Nat → Nat → List Nat
  | 0, _ => []
  | n + 1, i => i :: hs_us n (i + 1)
def hs_ds (nw : Nat) : Nat → List Nat
  | 0 => []
  | k + 1 => (nw + (k + 1) - 1) :: hs_ds nw k
theorem hs_us_lt : ∀ (n i j : Nat), j ∈ hs_us n i → j < i + n
  | 0, _, _, h => by cases h
  | n + 1, i, j, h => by
    rcases List.mem_cons.mp h with h | h
    · omega
    · have := hs_us_lt n (i + 1) j h; omega
theorem hs_ds_lt {nw : Nat} : ∀ (k j : Nat), j ∈ hs_ds nw k → j < nw + k
  | 0, _, h => by cases h
  | k + 1, j, h => by
    rcases List.mem_cons.mp h with h | h
    · omega
    · have := hs_ds_lt k j h; omega
def hs_cs (N nw : Nat) : List Nat := hs_us nw 0 ++ hs_ds nw (2 * N - 1)
theorem hs_cs_lt {N nw sz : Nat} (hN : 1 ≤ N) (hsz : sz = nw + 2 * N - 1) : ∀ j ∈ hs_cs N nw, j < sz := by
  intro j h
  rcases List.mem_append.mp h with h | h
  · have := hs_us_lt _ _ _ h; omega
  · have := hs_ds_lt _ _ h; omega
/-- what an area holds -/
def hs_vw (sz : Nat) (F : Nat → Int32) (u : Nat) : Nat → Int32 := fun j => F (u * sz + j)
noncomputable def hs_pl (d N w nw : Nat) (v : Nat → Int32) (b i : Nat) (x : Int32) : (Nat → Int32) × Int32 := hs_pw nw d (N + b) (hs_bl (upd v (b * w + i) x) w (b * w) (nI b)) (upd v (b * w + i) x)
/-- the state that calls show: disk, area in use, root, writes done, writes left, down -/
abbrev hs_S : Type := (Nat → Int32) × Nat × Int32 × Int32 × Int32 × Bool
def hs_hb (n : Nat) (x : Int32) : Bool := if x < 0 then false else decide (x < nI n)
theorem hs_hb_t {n : Nat} {x : Int32} (hn : n < 2 ^ 31) (h : hs_hb n x = true) : ∃ j, j < n ∧ x = nI j := by
  unfold hs_hb at h
  rcases pk_ix x hn with q | q | q
  · rw [if_pos q] at h; cases h
  · by_cases z : x < 0
    · rw [if_pos z] at h; cases h
    · rw [if_neg z] at h; exact absurd (of_decide_eq_true h) (Int32.not_lt.mpr q)
  · exact q
theorem hs_hb_i {n j : Nat} (h : j < n) (hn : n < 2 ^ 31) : hs_hb n (nI j) = true := by
  unfold hs_hb
  rw [if_neg (nI_pos (by omega))]
  exact decide_eq_true (nI_lt h hn)
/-- what format() makes of the first area: zero words, the nodes over them, zeros behind -/
def hs_E (N w nw sz : Nat) (F : Nat → Int32) : Prop := (∀ j, j < nw → F j = 0) ∧ (∀ b, b < N → F (nw + (N + b) - 1) = hs_bl F w (b * w) (nI b)) ∧ (∀ k, 1 ≤ k → k < N → F (nw + k - 1) = hs_mx (F (nw + 2 * k - 1)) (F (nw + (2 * k + 1) - 1))) ∧ ∀ j, sz ≤ j → F j = 0
theorem hs_E_u {d N w nw sz : Nat} (ok : hs_ok d N w nw sz) {F F' : Nat → Int32} (h : hs_E N w nw sz F) (h' : hs_E N w nw sz F') : F = F' := by
  obtain ⟨-, hN, hN2, hw, -, hn1, -, hsz, -⟩ := hs_okf ok
  obtain ⟨a1, a2, a3, a4⟩ := h
  obtain ⟨b1, b2, b3, b4⟩ := h'
  have key : ∀ n k, 1 ≤ k → k < 2 * N → 2 * N ≤ k + n → F (nw + k - 1) = F' (nw + k - 1) := by
    intro n
    induction n with
    | zero => intro k h1 h2 h3; omega
    | succ n ih =>
      intro k h1 h2 h3
      by_cases hk : k < N
      · rw [a3 k h1 hk, b3 k h1 hk, ih (2 * k) (by omega) (by omega) (by omega), ih (2 * k + 1) (by omega) (by omega) (by omega)]
      · obtain ⟨b, rfl⟩ : ∃ b, k = N + b := ⟨k - N, by omega⟩
        have hr := hs_row ok (b := b) (by omega)
        rw [a2 b (by omega), b2 b (by omega)]
        exact hs_bl_c w (b * w) _ (fun j h4 h5 => by rw [a1 j (by omega), b1 j (by omega)])
  funext j
  by_cases h1 : j < nw
  · rw [a1 j h1, b1 j h1]
  · by_cases h2 : sz ≤ j
    · rw [a4 j h2, b4 j h2]
    · have e := key (2 * N) (j + 1 - nw) (by omega) (by omega) (by omega)
      rw [show nw + (j + 1 - nw) - 1 = j by omega] at e
      exact e
/-- the same, half done: all nodes above the k-th stand -/
def hs_I (N w nw : Nat) (k : Nat) (F : Nat → Int32) : Prop := (∀ j, j < nw → F j = 0) ∧ (∀ b, b < N → k < N + b → F (nw + (N + b) - 1) = hs_bl F w (b * w) (nI b)) ∧ (∀ i, 1 ≤ i → k < i → i < N → F (nw + i - 1) = hs_mx (F (nw + 2 * i - 1)) (F (nw + (2 * i + 1) - 1)))
theorem hs_I_s {d N w nw sz : Nat} (ok : hs_ok d N w nw sz) {k : Nat} {F : Nat → Int32} {x : Int32} (h : hs_I N w nw (k + 1) F) (hk : k + 1 < 2 * N) (hx : ∀ b, k + 1 = N + b → x = hs_bl F w (b * w) (nI b)) (hy : k + 1 < N → x = hs_mx (F (nw + 2 * (k + 1) - 1)) (F (nw + (2 * (k + 1) + 1) - 1))) : hs_I N w nw k (upd F (nw + (k + 1) - 1) x) := by
  obtain ⟨-, hN, hN2, hw, -, hn1, -, hsz, -⟩ := hs_okf ok
  obtain ⟨a1, a2, a3⟩ := h
  have hbl : ∀ b, b < N → hs_bl (upd F (nw + (k + 1) - 1) x) w (b * w) (nI b) = hs_bl F w (b * w) (nI b) := fun b hb => by
    have hr := hs_row ok hb
    exact hs_bl_c w (b * w) _ (fun j h4 h5 => pk_un (by omega))
  refine ⟨fun j hj => ?_, fun b hb hkb => ?_, fun i h1 h2 h3 => ?_⟩
  · rw [pk_un (by omega)]; exact a1 j hj
  · rw [hbl b hb]
    by_cases e : k + 1 = N + b
    · rw [← e, pk_us]; exact hx b e
    · rw [pk_un (by omega)]; exact a2 b hb (by omega)
  · rw [pk_un (j := nw + 2 * i - 1) (by omega), pk_un (j := nw + (2 * i + 1) - 1) (by omega)]
    by_cases e : i = k + 1
    · subst e; rw [pk_us]; exact hy h3
    · rw [pk_un (by omega)]; exact a3 i h1 (by omega) h3
theorem hs_I_E {d N w nw sz : Nat} (ok : hs_ok d N w nw sz) {F : Nat → Int32} (h : hs_I N w nw 0 F) (hz : ∀ j, sz ≤ j → F j = 0) : hs_E N w nw sz F := by
  obtain ⟨-, hN, -⟩ := hs_okf ok
  exact ⟨h.1, fun b hb => h.2.1 b hb (by omega), fun k h1 h2 => h.2.2 k h1 (by omega) h2, hz⟩
/-- leaves of the blocks below b stand -/
def hs_J (N w nw : Nat) (c : Nat) (F : Nat → Int32) : Prop := (∀ j, j < nw → F j = 0) ∧ (∀ b, b < c → F (nw + (N + b) - 1) = hs_bl F w (b * w) (nI b))
theorem hs_J_s {d N w nw sz : Nat} (ok : hs_ok d N w nw sz) {c : Nat} {F : Nat → Int32} (h : hs_J N w nw c F) (hc : c < N) : hs_J N w nw (c + 1) (upd F (nw + (N + c) - 1) (hs_bl F w (c * w) (nI c))) := by
  obtain ⟨-, hN, hN2, hw, -, hn1, -, hsz, -⟩ := hs_okf ok
  obtain ⟨a1, a2⟩ := h
  have hbl : ∀ x b, b < N → hs_bl (upd F (nw + (N + c) - 1) x) w (b * w) (nI b) = hs_bl F w (b * w) (nI b) := fun x b hb => by
    have hr := hs_row ok hb
    exact hs_bl_c w (b * w) _ (fun j h4 h5 => pk_un (by omega))
  refine ⟨fun j hj => ?_, fun b hb => ?_⟩
  · rw [pk_un (by omega)]; exact a1 j hj
  · rw [hbl _ b (by omega)]
    by_cases e : b = c
    · subst e; rw [pk_us]
    · rw [pk_un (by omega)]; exact a2 b (by omega)
theorem hs_J_I {N w nw : Nat} {F : Nat → Int32} (h : hs_J N w nw N F) : hs_I N w nw (N - 1) F := ⟨h.1, fun b hb _ => h.2 b hb, fun i h1 h2 h3 => by omega⟩
end
section
/-! the calls, as functions of the state -/
noncomputable def hs_rd (d N w nw sz : Nat) (b i : Int32) : hs_S → Int32
  | (F, u, kr, _, _, dw) => if (hs_hb N b && hs_hb w i) = true then (if dw = true then -4 else if hs_rg d N w nw (hs_vw sz F u) kr b.toNatClampNeg = true then hs_vw sz F u (b.toNatClampNeg * w + i.toNatClampNeg) else -3) else -2
def hs_fin (u : Nat) (kr rt : Int32) : hs_T × Bool → Int32 × hs_S
  | ((F, lf, dn, dw), true) => (0, (F, 1 - u, rt, dn, lf, dw))
  | ((F, lf, dn, dw), false) => (-4, (F, u, kr, dn, lf, dw))
noncomputable def hs_wr (d N w nw sz : Nat) (b i x : Int32) : hs_S → Int32 × hs_S
  | (F, u, kr, dn, lf, dw) => if (hs_hb N b && hs_hb w i) = true then (if x < 0 then (-2, (F, u, kr, dn, lf, dw)) else if dw = true then (-4, (F, u, kr, dn, lf, dw)) else if hs_rg d N w nw (hs_vw sz F u) kr b.toNatClampNeg = true then
      hs_fin u kr (hs_pl d N w nw (hs_vw sz F u) b.toNatClampNeg i.toNatClampNeg x).2 (hs_ps ((1 - u) * sz) (hs_pl d N w nw (hs_vw sz F u) b.toNatClampNeg i.toNatClampNeg x).1 (hs_cs N nw) (F, lf, dn, dw))
      else (-3, (F, u, kr, dn, lf, dw))) else (-2, (F, u, kr, dn, lf, dw))
noncomputable def hs_vf (d N w nw sz : Nat) (b : Int32) : hs_S → Bool
  | (F, u, kr, _, _, dw) => if hs_hb N b = true then (if dw = true then false else hs_rg d N w nw (hs_vw sz F u) kr b.toNatClampNeg) else false
noncomputable def hs_ad (d N w nw sz : Nat) : hs_S → Int32
  | (F, u, kr, _, _, dw) => if dw = true then -4 else hs_au (hs_rg d N w nw (hs_vw sz F u) kr) N 0
def hs_pk (sz : Nat) (F : Nat → Int32) (a : Int32) : Int32 := if hs_hb (2 * sz) a = true then F a.toNatClampNeg else 0
def hs_tm (sz : Nat) (a x : Int32) : hs_S → hs_S
  | (F, u, kr, dn, lf, dw) => if hs_hb (2 * sz) a = true then (upd F a.toNatClampNeg x, u, kr, dn, lf, dw) else (F, u, kr, dn, lf, dw)
def hs_cr (x : Int32) : hs_S → hs_S
  | (F, u, kr, dn, lf, dw) => if x < 0 then (F, u, kr, dn, lf, dw) else if dw = true then (F, u, kr, dn, lf, dw) else (F, u, kr, dn, x, dw)
def hs_rc (nw sz : Nat) (t : Int32) : hs_S → Int32 × hs_S
  | (F, u, kr, dn, lf, dw) => if dw = true then (if F (0 * sz + (nw + 1 - 1)) = t then (0, (F, 0, t, dn, -1, false)) else if F (1 * sz + (nw + 1 - 1)) = t then (0, (F, 1, t, dn, -1, false)) else (-5, (F, u, kr, dn, lf, dw))) else (-2, (F, u, kr, dn, lf, dw))
section OPS
variable {d N w nw sz u j i : Nat} {F : Nat → Int32} {kr dn lf x : Int32} {dw : Bool}
theorem hs_and_i (hj : j < N) (hi : i < w) (hN : N < 2 ^ 31) (hw : w < 2 ^ 31) : (hs_hb N (nI j) && hs_hb w (nI i)) = true := by rw [hs_hb_i hj hN, hs_hb_i hi hw]; rfl
theorem hs_and_t {b i : Int32} (h : (hs_hb N b && hs_hb w i) = true) (hN : N < 2 ^ 31) (hw : w < 2 ^ 31) : (∃ j, j < N ∧ b = nI j) ∧ (∃ j, j < w ∧ i = nI j) := by
  have h1 : hs_hb N b = true := by cases q : hs_hb N b with | true => rfl | false => rw [q] at h; cases h
  have h2 : hs_hb w i = true := by cases q : hs_hb w i with | true => rfl | false => rw [h1, q] at h; cases h
  exact ⟨hs_hb_t hN h1, hs_hb_t hw h2⟩
theorem hs_ff {x : Bool} (h : x = false) : ¬ x = true := by rw [h]; exact Bool.false_ne_true
theorem hs_rd_1 {b i : Int32} (c : (hs_hb N b && hs_hb w i) = false) : -2 = hs_rd d N w nw sz b i (F, u, kr, dn, lf, dw) := by rw [hs_rd, if_neg (hs_ff c)]
theorem hs_rd_2 (hj : j < N) (hi : i < w) (hN : N < 2 ^ 31) (hw : w < 2 ^ 31) (c : dw = true) : -4 = hs_rd d N w nw sz (nI j) (nI i) (F, u, kr, dn, lf, dw) := by rw [hs_rd, if_pos (hs_and_i hj hi hN hw), if_pos c]
theorem hs_rd_3 (hj : j < N) (hi : i < w) (hN : N < 2 ^ 31) (hw : w < 2 ^ 31) (c : dw = false) (c2 : hs_rg d N w nw (hs_vw sz F u) kr j = false) : -3 = hs_rd d N w nw sz (nI j) (nI i) (F, u, kr, dn, lf, dw) := by
  rw [hs_rd, if_pos (hs_and_i hj hi hN hw), if_neg (hs_ff c), nI_clamp (show j < 2 ^ 31 by omega), if_neg (hs_ff c2)]
theorem hs_rd_4 (hj : j < N) (hi : i < w) (hN : N < 2 ^ 31) (hw : w < 2 ^ 31) (c : dw = false) (c2 : hs_rg d N w nw (hs_vw sz F u) kr j = true) : hs_vw sz F u (j * w + i) = hs_rd d N w nw sz (nI j) (nI i) (F, u, kr, dn, lf, dw) := by
  rw [hs_rd, if_pos (hs_and_i hj hi hN hw), if_neg (hs_ff c), nI_clamp (show j < 2 ^ 31 by omega), if_pos c2, nI_clamp (show i < 2 ^ 31 by omega)]
theorem hs_wr_1 {b i : Int32} (c : (hs_hb N b && hs_hb w i) = false) : hs_wr d N w nw sz b i x (F, u, kr, dn, lf, dw) = (-2, (F, u, kr, dn, lf, dw)) := by rw [hs_wr, if_neg (hs_ff c)]
theorem hs_wr_2 {b i : Int32} (c : x < 0) : hs_wr d N w nw sz b i x (F, u, kr, dn, lf, dw) = (-2, (F, u, kr, dn, lf, dw)) := by
  rw [hs_wr]
  by_cases q : (hs_hb N b && hs_hb w i) = true
  · rw [if_pos q, if_pos c]
  · rw [if_neg q]
theorem hs_wr_3 (hj : j < N) (hi : i < w) (hN : N < 2 ^ 31) (hw : w < 2 ^ 31) (hx : ¬ x < 0) (c : dw = true) : hs_wr d N w nw sz (nI j) (nI i) x (F, u, kr, dn, lf, dw) = (-4, (F, u, kr, dn, lf, dw)) := by
  rw [hs_wr, if_pos (hs_and_i hj hi hN hw), if_neg hx, if_pos c]
theorem hs_wr_4 (hj : j < N) (hi : i < w) (hN : N < 2 ^ 31) (hw : w < 2 ^ 31) (hx : ¬ x < 0) (c : dw = false) (c2 : hs_rg d N w nw (hs_vw sz F u) kr j = false) : hs_wr d N w nw sz (nI j) (nI i) x (F, u, kr, dn, lf, dw) = (-3, (F, u, kr, dn, lf, dw)) := by
  rw [hs_wr, if_pos (hs_and_i hj hi hN hw), if_neg hx, if_neg (hs_ff c), nI_clamp (show j < 2 ^ 31 by omega), if_neg (hs_ff c2)]
theorem hs_wr_5 (hj : j < N) (hi : i < w) (hN : N < 2 ^ 31) (hw : w < 2 ^ 31) (hx : ¬ x < 0) (c : dw = false) (c2 : hs_rg d N w nw (hs_vw sz F u) kr j = true) {g : Nat → Int32} {rt : Int32} (hg : hs_pl d N w nw (hs_vw sz F u) j i x = (g, rt)) {F2 : Nat → Int32} {lf2 dn2 : Int32} {dw2 : Bool} (c3 : hs_ps ((1 - u) * sz) g (hs_cs N nw) (F, lf, dn, dw) = ((F2, lf2, dn2, dw2), false)) : hs_wr d N w nw sz (nI j) (nI i) x (F, u, kr, dn, lf, dw) = (-4, (F2, u, kr, dn2, lf2, dw2)) := by
  rw [hs_wr, if_pos (hs_and_i hj hi hN hw), if_neg hx, if_neg (hs_ff c), nI_clamp (show j < 2 ^ 31 by omega), if_pos c2, nI_clamp (show i < 2 ^ 31 by omega), hg]
  show hs_fin u kr rt (hs_ps ((1 - u) * sz) g (hs_cs N nw) (F, lf, dn, dw)) = _
  rw [c3]
  rfl
theorem hs_wr_6 (hj : j < N) (hi : i < w) (hN : N < 2 ^ 31) (hw : w < 2 ^ 31) (hx : ¬ x < 0) (c : dw = false) (c2 : hs_rg d N w nw (hs_vw sz F u) kr j = true) {g : Nat → Int32} {rt : Int32} (hg : hs_pl d N w nw (hs_vw sz F u) j i x = (g, rt)) {F2 : Nat → Int32} {lf2 dn2 : Int32} {dw2 : Bool} (c3 : hs_ps ((1 - u) * sz) g (hs_cs N nw) (F, lf, dn, dw) = ((F2, lf2, dn2, dw2), true)) : hs_wr d N w nw sz (nI j) (nI i) x (F, u, kr, dn, lf, dw) = (0, (F2, 1 - u, rt, dn2, lf2, dw2)) := by
  rw [hs_wr, if_pos (hs_and_i hj hi hN hw), if_neg hx, if_neg (hs_ff c), nI_clamp (show j < 2 ^ 31 by omega), if_pos c2, nI_clamp (show i < 2 ^ 31 by omega), hg]
  show hs_fin u kr rt (hs_ps ((1 - u) * sz) g (hs_cs N nw) (F, lf, dn, dw)) = _
  rw [c3]
  rfl
theorem hs_vf_1 {b : Int32} (c : hs_hb N b = false) : false = hs_vf d N w nw sz b (F, u, kr, dn, lf, dw) := by rw [hs_vf, if_neg (hs_ff c)]
theorem hs_vf_2 (hj : j < N) (hN : N < 2 ^ 31) (c : dw = true) : false = hs_vf d N w nw sz (nI j) (F, u, kr, dn, lf, dw) := by rw [hs_vf, if_pos (hs_hb_i hj hN), if_pos c]
theorem hs_vf_3 (hj : j < N) (hN : N < 2 ^ 31) (c : dw = false) : hs_rg d N w nw (hs_vw sz F u) kr j = hs_vf d N w nw sz (nI j) (F, u, kr, dn, lf, dw) := by rw [hs_vf, if_pos (hs_hb_i hj hN), if_neg (hs_ff c), nI_clamp (show j < 2 ^ 31 by omega)]
theorem hs_ad_1 (c : dw = true) : -4 = hs_ad d N w nw sz (F, u, kr, dn, lf, dw) := by rw [hs_ad, if_pos c]
theorem hs_ad_2 (c : dw = false) : hs_au (hs_rg d N w nw (hs_vw sz F u) kr) N 0 = hs_ad d N w nw sz (F, u, kr, dn, lf, dw) := by rw [hs_ad, if_neg (hs_ff c)]
theorem hs_pk_1 {a : Int32} (c : hs_hb (2 * sz) a = false) : 0 = hs_pk sz F a := by rw [hs_pk, if_neg (hs_ff c)]
theorem hs_pk_2 (hj : j < 2 * sz) (hN : 2 * sz < 2 ^ 31) : F j = hs_pk sz F (nI j) := by rw [hs_pk, if_pos (hs_hb_i hj hN), nI_clamp (show j < 2 ^ 31 by omega)]
theorem hs_tm_1 {a : Int32} (c : hs_hb (2 * sz) a = false) : hs_tm sz a x (F, u, kr, dn, lf, dw) = (F, u, kr, dn, lf, dw) := by rw [hs_tm, if_neg (hs_ff c)]
theorem hs_tm_2 (hj : j < 2 * sz) (hN : 2 * sz < 2 ^ 31) : hs_tm sz (nI j) x (F, u, kr, dn, lf, dw) = (upd F j x, u, kr, dn, lf, dw) := by rw [hs_tm, if_pos (hs_hb_i hj hN), nI_clamp (show j < 2 ^ 31 by omega)]
theorem hs_cr_1 (c : x < 0) : hs_cr x (F, u, kr, dn, lf, dw) = (F, u, kr, dn, lf, dw) := by rw [hs_cr, if_pos c]
theorem hs_cr_2 (c : dw = true) : hs_cr x (F, u, kr, dn, lf, dw) = (F, u, kr, dn, lf, dw) := by
  rw [hs_cr]
  by_cases q : x < 0
  · rw [if_pos q]
  · rw [if_neg q, if_pos c]
theorem hs_cr_3 (c : ¬ x < 0) (c2 : dw = false) : hs_cr x (F, u, kr, dn, lf, dw) = (F, u, kr, dn, x, dw) := by rw [hs_cr, if_neg c, if_neg (hs_ff c2)]
theorem hs_rc_1 (c : dw = false) : hs_rc nw sz x (F, u, kr, dn, lf, dw) = (-2, (F, u, kr, dn, lf, dw)) := by rw [hs_rc, if_neg (hs_ff c)]
theorem hs_rc_2 (c : dw = true) (c1 : F (0 * sz + (nw + 1 - 1)) = x) : hs_rc nw sz x (F, u, kr, dn, lf, dw) = (0, (F, 0, x, dn, -1, false)) := by rw [hs_rc, if_pos c, if_pos c1]
theorem hs_rc_3 (c : dw = true) (c1 : ¬ F (0 * sz + (nw + 1 - 1)) = x) (c2 : F (1 * sz + (nw + 1 - 1)) = x) : hs_rc nw sz x (F, u, kr, dn, lf, dw) = (0, (F, 1, x, dn, -1, false)) := by rw [hs_rc, if_pos c, if_neg c1, if_pos c2]
theorem hs_rc_4 (c : dw = true) (c1 : ¬ F (0 * sz + (nw + 1 - 1)) = x) (c2 : ¬ F (1 * sz + (nw + 1 - 1)) = x) : hs_rc nw sz x (F, u, kr, dn, lf, dw) = (-5, (F, u, kr, dn, lf, dw)) := by rw [hs_rc, if_pos c, if_neg c1, if_neg c2]
/-- what holds of every state: which area; the writes left -/
def hs_in (x : hs_S) : Prop := x.2.1 < 2 ∧ hs_lo x.2.2.2.2.1
theorem hs_in_fin {rt : Int32} (hu : u < 2) : ∀ y : hs_T × Bool, hs_lo y.1.2.1 → hs_in (hs_fin u kr rt y).2
  | ((F, lf, dn, dw), true), h => ⟨by show 1 - u < 2; omega, h⟩
  | ((F, lf, dn, dw), false), h => ⟨hu, h⟩
theorem hs_in_wr {b i : Int32} (h : hs_in (F, u, kr, dn, lf, dw)) : hs_in (hs_wr d N w nw sz b i x (F, u, kr, dn, lf, dw)).2 := by
  rw [hs_wr]
  by_cases c1 : (hs_hb N b && hs_hb w i) = true
  · rw [if_pos c1]
    by_cases c2 : x < 0
    · rw [if_pos c2]; exact h
    · rw [if_neg c2]
      by_cases c3 : dw = true
      · rw [if_pos c3]; exact h
      · rw [if_neg c3]
        by_cases c4 : hs_rg d N w nw (hs_vw sz F u) kr b.toNatClampNeg = true
        · rw [if_pos c4]; exact hs_in_fin h.1 _ (hs_ps_lo _ _ h.2)
        · rw [if_neg c4]; exact h
  · rw [if_neg c1]; exact h
theorem hs_in_tm {a : Int32} (h : hs_in (F, u, kr, dn, lf, dw)) : hs_in (hs_tm sz a x (F, u, kr, dn, lf, dw)) := by
  rw [hs_tm]
  split
  · exact h
  · exact h
theorem hs_in_cr (h : hs_in (F, u, kr, dn, lf, dw)) : hs_in (hs_cr x (F, u, kr, dn, lf, dw)) := by
  rw [hs_cr]
  split
  · exact h
  · split
    · exact h
    · next q _ => exact ⟨h.1, Or.inr (Int32.not_lt.mp q)⟩
theorem hs_in_rc (h : hs_in (F, u, kr, dn, lf, dw)) : hs_in (hs_rc nw sz x (F, u, kr, dn, lf, dw)).2 := by
  rw [hs_rc]
  split
  · split
    · exact ⟨by show 0 < 2; omega, Or.inl rfl⟩
    · split
      · exact ⟨by show 1 < 2; omega, Or.inl rfl⟩
      · exact h
  · exact h
end OPS
theorem hs_us2 {u sz : Nat} (h : u < 2) : u * sz + sz ≤ 2 * sz := by
  have a := Nat.mul_le_mul_right sz (show u + 1 ≤ 2 by omega)
  rw [Nat.add_mul, Nat.one_mul] at a
  exact a
theorem hs_z0 (f : Nat → Int32) : (fun x => f (0 + x)) = f := funext fun x => by rw [Nat.zero_add]
theorem hs_psp {o k : Nat} {g : Nat → Int32} {ks : List Nat} {x : hs_T} (c : (hs_put o g k x).2 = true) : hs_ps o g (k :: ks) x = hs_ps o g ks (hs_put o g k x).1 := if_pos c
theorem hs_psn {o k : Nat} {g : Nat → Int32} {ks : List Nat} {x : hs_T} (c : (hs_put o g k x).2 = false) : hs_ps o g (k :: ks) x = hs_put o g k x := if_neg (hs_ff c)
theorem hs_pl_root {d N w nw sz j i : Nat} (ok : hs_ok d N w nw sz) (hj : j < N) (v : Nat → Int32) (x : Int32) : (hs_pl d N w nw v j i x).1 (nw + 1 - 1) = (hs_pl d N w nw v j i x).2 := hs_pw_root d (N + j) _ _ (hs_lv_b ok hj)
theorem hs_lf1 {lf : Int32} (h : hs_lo lf) (h0 : ¬ lf = 0) (c : lf ≤ 0) : (if lf = -1 then lf else lf - 1) = lf := by
  rcases h with h | h
  · rw [if_pos h]
  · exact absurd (Int32.le_antisymm c h) h0
theorem hs_lf2 {lf : Int32} (c : ¬ lf ≤ 0) : (if lf = -1 then lf else lf - 1) = lf - 1 := if_neg (fun h => c (by rw [h]; decide))
theorem hs_hb_n {n : Nat} {x : Int32} (c : x < 0) : hs_hb n x = false := by unfold hs_hb; rw [if_pos c]
theorem hs_hb_g {n : Nat} {x : Int32} (c : nI n ≤ x) : hs_hb n x = false := by
  unfold hs_hb
  by_cases q : x < 0
  · rw [if_pos q]
  · rw [if_neg q]; exact decide_eq_false (Int32.not_lt.mpr c)
theorem hs_hb_o {n : Nat} {x : Int32} (c : ¬ x < 0) (c2 : x < nI n) : hs_hb n x = true := by unfold hs_hb; rw [if_neg c]; exact decide_eq_true c2
theorem hs_af {a b : Bool} (h : a = false) : (a && b) = false := by rw [h]; rfl
theorem hs_ag {a b : Bool} (h : b = false) : (a && b) = false := by rw [h]; cases a <;> rfl
theorem hs_at {a b : Bool} (h : a = true) (h2 : b = true) : (a && b) = true := by rw [h, h2]; rfl
theorem hs_rg_c {d N w nw sz j : Nat} (ok : hs_ok d N w nw sz) (hj : j < N) {v v' : Nat → Int32} (H : ∀ x, x < sz → v x = v' x) (k : Int32) : hs_rg d N w nw v k j = hs_rg d N w nw v' k j := by
  obtain ⟨-, hN, hN2, hw, -, hn1, -, hsz, -⟩ := hs_okf ok
  have hr := hs_row ok hj
  unfold hs_rg hs_rt
  rw [hs_ng_c w (j * w) (fun x h1 h2 => H x (by omega)), hs_bl_c w (j * w) _ (fun x h1 h2 => H x (by omega)), hs_up_c hsz H d (N + j) _ (hs_lv_b ok hj) (by omega)]
theorem hs_pl_c {d N w nw sz j i : Nat} (ok : hs_ok d N w nw sz) (hj : j < N) {v v' : Nat → Int32} (H : ∀ x, x < sz → v x = v' x) (x : Int32) : (∀ y, y < sz → (hs_pl d N w nw v j i x).1 y = (hs_pl d N w nw v' j i x).1 y) ∧ (hs_pl d N w nw v j i x).2 = (hs_pl d N w nw v' j i x).2 := by
  obtain ⟨-, hN, hN2, hw, -, hn1, -, hsz, -⟩ := hs_okf ok
  have hr := hs_row ok hj
  have H1 : ∀ y, y < sz → upd v (j * w + i) x y = upd v' (j * w + i) x y := hs_upd_c H
  unfold hs_pl
  rw [hs_bl_c w (j * w) _ (fun x h1 h2 => H1 x (by omega))]
  exact hs_pw_c hsz d (N + j) _ _ _ (hs_lv_b ok hj) (by omega) H1
theorem hs_E_of {d N w nw sz : Nat} (ok : hs_ok d N w nw sz) {g : Nat → Int32} (h : hs_I N w nw 0 g) : hs_E N w nw sz (fun x => if x < sz then g x else 0) := by
  obtain ⟨-, hN, hN2, hw, -, hn1, -, hsz, -⟩ := hs_okf ok
  have e : ∀ x, x < sz → (fun x => if x < sz then g x else 0) x = g x := fun x hx => if_pos hx
  refine ⟨fun j hj => ?_, fun b hb => ?_, fun k h1 h2 => ?_, fun j hj => if_neg (by omega)⟩
  · rw [e j (by omega)]; exact h.1 j hj
  · have hr := hs_row ok hb
    rw [e _ (by omega), h.2.1 b hb (by omega)]
    exact hs_bl_c w (b * w) _ (fun x h4 h5 => (e x (by omega)).symm)
  · rw [e _ (by omega), e _ (by omega), e _ (by omega)]; exact h.2.2 k h1 (by omega) h2
end
section
/-! rows of our own over the kit's: numbers kept as naturals, pure calls, calls over the whole world -/
theorem hs_nb (x : Bool) : narrow .boolean (.int (hs_b x)) = .int (hs_b x) := by cases x <;> rfl
theorem hs_fb (x : Bool) : fits .boolean (.int (hs_b x)) = true := by cases x <;> rfl
section HSR
variable {p : Program} {l : Launch} {e : Env} {R : Room} {s : State} {m : MethodId} {args : Array Value} {below : List Frame} {meth : Method} {c : Code} {H : Heap} {locs : List Loc} {cells slots : Nat} {Q : State → Prop}
variable {cc : ByteArray} {pc : Nat} {ls : Array Slot} {rest : List Value} {D : va_G} {cl : List vw_C} {A : Nat → Prop} {a : Nat} {tys : List (ClassId × FieldType)} {ws : va_W} {H0 : Heap}
theorem hs_addN (hx : p.tables.exec = Jvm.exec) (hb : c.code = cc) {x y : Nat} (hdg : decode cc pc = .ok (.iadd, 1)) (kk : W p l e R s m args below meth c H locs cells slots Q (F0 m (pc + 1) ls (.int (nI (x + y)) :: rest))) : W p l e R s m args below meth c H locs cells slots Q (F0 m pc ls (.int (nI y) :: .int (nI x) :: rest)) := lv_iadd hx hb hdg (by rw [nI_add]; exact kk)
theorem hs_mulN (hx : p.tables.exec = Jvm.exec) (hb : c.code = cc) {x y : Nat} (hdg : decode cc pc = .ok (.imul, 1)) (kk : W p l e R s m args below meth c H locs cells slots Q (F0 m (pc + 1) ls (.int (nI (x * y)) :: rest))) : W p l e R s m args below meth c H locs cells slots Q (F0 m pc ls (.int (nI y) :: .int (nI x) :: rest)) := lv_imul hx hb hdg (by rw [pk_mul]; exact kk)
theorem hs_subN (hx : p.tables.exec = Jvm.exec) (hb : c.code = cc) {x y : Nat} (hyx : y ≤ x) (hdg : decode cc pc = .ok (.isub, 1)) (kk : W p l e R s m args below meth c H locs cells slots Q (F0 m (pc + 1) ls (.int (nI (x - y)) :: rest))) : W p l e R s m args below meth c H locs cells slots Q (F0 m pc ls (.int (nI y) :: .int (nI x) :: rest)) := lv_isub hx hb hdg (by rw [pk_sub hyx]; exact kk)
theorem hs_divN (hx : p.tables.exec = Jvm.exec) (hb : c.code = cc) {x y : Nat} (hxx : x < 2 ^ 31) (h0 : 0 < y) (hy : y < 2 ^ 31) (hdg : decode cc pc = .ok (.idiv, 1)) (kk : W p l e R s m args below meth c H locs cells slots Q (F0 m (pc + 1) ls (.int (nI (x / y)) :: rest))) : W p l e R s m args below meth c H locs cells slots Q (F0 m pc ls (.int (nI y) :: .int (nI x) :: rest)) := lv_idiv hx hb hdg (nI_ne0 h0 hy) (by rw [pk_div hxx h0 hy]; exact kk)
theorem hs_remN (hx : p.tables.exec = Jvm.exec) (hb : c.code = cc) {x y : Nat} (hxx : x < 2 ^ 31) (h0 : 0 < y) (hy : y < 2 ^ 31) (hdg : decode cc pc = .ok (.irem, 1)) (kk : W p l e R s m args below meth c H locs cells slots Q (F0 m (pc + 1) ls (.int (nI (x % y)) :: rest))) : W p l e R s m args below meth c H locs cells slots Q (F0 m pc ls (.int (nI y) :: .int (nI x) :: rest)) := lv_irem hx hb hdg (nI_ne0 h0 hy) (by rw [pk_rem hxx h0 hy]; exact kk)
theorem hs_cge (hx : p.tables.exec = Jvm.exec) (hb : c.code = cc) {x y : Nat} {off : Int} {tgt : Nat} (h1 : x < 2 ^ 31) (h2 : y < 2 ^ 31) (hdg : decode cc pc = .ok (.if_icmp .ge off, 3)) (ht : (pc : Int) + off = (tgt : Int))
    (kt : y ≤ x → W p l e R s m args below meth c H locs cells slots Q (F0 m tgt ls rest)) (kf : x < y → W p l e R s m args below meth c H locs cells slots Q (F0 m (pc + 3) ls rest)) : W p l e R s m args below meth c H locs cells slots Q (F0 m pc ls (.int (nI y) :: .int (nI x) :: rest)) := lv_icmp_ge hx hb hdg ht (fun h => kt ((nI_leI h2 h1).mp h)) (fun h => kf (Nat.lt_of_not_le (fun q => h ((nI_leI h2 h1).mpr q))))
theorem hs_clt (hx : p.tables.exec = Jvm.exec) (hb : c.code = cc) {x y : Nat} {off : Int} {tgt : Nat} (h1 : x < 2 ^ 31) (h2 : y < 2 ^ 31) (hdg : decode cc pc = .ok (.if_icmp .lt off, 3)) (ht : (pc : Int) + off = (tgt : Int))
    (kt : x < y → W p l e R s m args below meth c H locs cells slots Q (F0 m tgt ls rest)) (kf : y ≤ x → W p l e R s m args below meth c H locs cells slots Q (F0 m (pc + 3) ls rest)) : W p l e R s m args below meth c H locs cells slots Q (F0 m pc ls (.int (nI y) :: .int (nI x) :: rest)) := lv_icmp_lt hx hb hdg ht (fun h => kt ((nI_ltI h1 h2).mp h)) (fun h => kf (Nat.le_of_not_lt (fun q => h ((nI_ltI h1 h2).mpr q))))
theorem hs_cle (hx : p.tables.exec = Jvm.exec) (hb : c.code = cc) {x y : Nat} {off : Int} {tgt : Nat} (h1 : x < 2 ^ 31) (h2 : y < 2 ^ 31) (hdg : decode cc pc = .ok (.if_icmp .le off, 3)) (ht : (pc : Int) + off = (tgt : Int))
    (kt : x ≤ y → W p l e R s m args below meth c H locs cells slots Q (F0 m tgt ls rest)) (kf : y < x → W p l e R s m args below meth c H locs cells slots Q (F0 m (pc + 3) ls rest)) : W p l e R s m args below meth c H locs cells slots Q (F0 m pc ls (.int (nI y) :: .int (nI x) :: rest)) := lv_icmp_le hx hb hdg ht (fun h => kt ((nI_leI h1 h2).mp h)) (fun h => kf (Nat.lt_of_not_le (fun q => h ((nI_leI h1 h2).mpr q))))
theorem hs_cgt (hx : p.tables.exec = Jvm.exec) (hb : c.code = cc) {x y : Nat} {off : Int} {tgt : Nat} (h1 : x < 2 ^ 31) (h2 : y < 2 ^ 31) (hdg : decode cc pc = .ok (.if_icmp .gt off, 3)) (ht : (pc : Int) + off = (tgt : Int))
    (kt : y < x → W p l e R s m args below meth c H locs cells slots Q (F0 m tgt ls rest)) (kf : x ≤ y → W p l e R s m args below meth c H locs cells slots Q (F0 m (pc + 3) ls rest)) : W p l e R s m args below meth c H locs cells slots Q (F0 m pc ls (.int (nI y) :: .int (nI x) :: rest)) := lv_icmp_gt hx hb hdg ht (fun h => kt ((nI_ltI h2 h1).mp h)) (fun h => kf (Nat.le_of_not_lt (fun q => h ((nI_ltI h2 h1).mpr q))))
theorem hs_zne (hx : p.tables.exec = Jvm.exec) (hb : c.code = cc) {x : Nat} {off : Int} {tgt : Nat} (h1 : x < 2 ^ 31) (hdg : decode cc pc = .ok (.ifCond .ne off, 3)) (ht : (pc : Int) + off = (tgt : Int))
    (kt : x ≠ 0 → W p l e R s m args below meth c H locs cells slots Q (F0 m tgt ls rest)) (kf : x = 0 → W p l e R s m args below meth c H locs cells slots Q (F0 m (pc + 3) ls rest)) : W p l e R s m args below meth c H locs cells slots Q (F0 m pc ls (.int (nI x) :: rest)) := lv_if_ne hx hb hdg ht (fun h => kt (fun q => h (by rw [q]; exact nI_0))) (fun h => kf ((nI_eq h1 (by omega)).mp (h.trans nI_0.symm)))
theorem hs_zle (hx : p.tables.exec = Jvm.exec) (hb : c.code = cc) {x : Nat} {off : Int} {tgt : Nat} (h1 : x < 2 ^ 31) (hdg : decode cc pc = .ok (.ifCond .le off, 3)) (ht : (pc : Int) + off = (tgt : Int))
    (kt : x = 0 → W p l e R s m args below meth c H locs cells slots Q (F0 m tgt ls rest)) (kf : 0 < x → W p l e R s m args below meth c H locs cells slots Q (F0 m (pc + 3) ls rest)) : W p l e R s m args below meth c H locs cells slots Q (F0 m pc ls (.int (nI x) :: rest)) := lv_if_le hx hb hdg ht (fun h => kt (by
      rcases Nat.eq_zero_or_pos x with q | q
      · exact q
      · exact absurd h (nI_nle q h1))) (fun h => kf (by
      rcases Nat.eq_zero_or_pos x with q | q
      · exact absurd (by rw [q, nI_0]; exact Int32.le_refl 0) h
      · exact q))
/-- a boolean's test -/
theorem hs_beq (hx : p.tables.exec = Jvm.exec) (hb : c.code = cc) {x : Bool} {off : Int} {tgt : Nat} (hdg : decode cc pc = .ok (.ifCond .eq off, 3)) (ht : (pc : Int) + off = (tgt : Int))
    (kt : x = false → W p l e R s m args below meth c H locs cells slots Q (F0 m tgt ls rest)) (kf : x = true → W p l e R s m args below meth c H locs cells slots Q (F0 m (pc + 3) ls rest)) : W p l e R s m args below meth c H locs cells slots Q (F0 m pc ls (.int (hs_b x) :: rest)) := lv_if_eq hx hb hdg ht (fun h => kt (by cases x; rfl; exact absurd h (by decide))) (fun h => kf (by cases x; exact absurd rfl h; rfl))
theorem hs_bne (hx : p.tables.exec = Jvm.exec) (hb : c.code = cc) {x : Bool} {off : Int} {tgt : Nat} (hdg : decode cc pc = .ok (.ifCond .ne off, 3)) (ht : (pc : Int) + off = (tgt : Int))
    (kt : x = true → W p l e R s m args below meth c H locs cells slots Q (F0 m tgt ls rest)) (kf : x = false → W p l e R s m args below meth c H locs cells slots Q (F0 m (pc + 3) ls rest)) : W p l e R s m args below meth c H locs cells slots Q (F0 m pc ls (.int (hs_b x) :: rest)) := lv_if_ne hx hb hdg ht (fun h => kt (by cases x; exact absurd rfl h; rfl)) (fun h => kf (by cases x; rfl; exact absurd h (by decide)))
theorem hs_ald (hx : p.tables.exec = Jvm.exec) (hb : c.code = cc) (hK : va_K D cl tys s) (hP : va_P D cl ws H) (q0 t0 : Nat) {cA : ClassId} {n : Nat} {f : Nat → Int32} (ha : ws[q0]? = some (a, .inl (cA, n, .inl f))) (ht : tys[t0]? = some (cA, .int)) {k : Nat} (hk : k < n) (hn : n < 2 ^ 31) (hdg : decode cc pc = .ok (.iaload, 1))
    (kk : W p l e R s m args below meth c H locs cells slots Q (F0 m (pc + 1) ls (.int (f k) :: rest))) : W p l e R s m args below meth c H locs cells slots Q (F0 m pc ls (.int (nI k) :: .ref a :: rest)) := by
  refine va_iald hx hb hK hP q0 t0 ha ht (vp_in_nI hk hn) hdg ?_
  rw [nI_clamp (by omega)]
  exact kk
theorem hs_ast (hx : p.tables.exec = Jvm.exec) (hb : c.code = cc) (hK : va_K D cl tys s) (hP : va_P D cl ws H) (hD : va_D A ws) (hS : va_S A H0 H locs) (q0 t0 : Nat) {cA : ClassId} {n : Nat} {f : Nat → Int32} (ha : ws[q0]? = some (a, .inl (cA, n, .inl f))) (ht : tys[t0]? = some (cA, .int)) {k : Nat} {x : Int32} (hk : k < n) (hn : n < 2 ^ 31) (hdg : decode cc pc = .ok (.iastore, 1))
    (kk : ∀ (H1 : Heap) (locs1 : List Loc), va_P D cl (ws.set q0 (a, .inl (cA, n, .inl (upd f k x)))) H1 → va_D A (ws.set q0 (a, .inl (cA, n, .inl (upd f k x)))) → va_S A H0 H1 locs1 → W p l e R s m args below meth c H1 locs1 cells slots Q (F0 m (pc + 1) ls rest)) : W p l e R s m args below meth c H locs cells slots Q (F0 m pc ls (.int x :: .int (nI k) :: .ref a :: rest)) := by
  refine va_iast hx hb hK hP hD hS q0 t0 ha ht (vp_in_nI hk hn) hdg (fun H1 locs1 h1 h2 h3 => ?_)
  rw [nI_clamp (by omega)] at h1 h2
  exact kk H1 locs1 h1 h2 h3
/-- an array's contents count as far as it goes -/
theorem hs_cell {cA : ClassId} {n : Nat} {f g : Nat → Int32} (h : ∀ j, j < n → f j = g j) : vp_cell cA (n, .inl f) = vp_cell cA (n, .inl g) := by
  have e : (fun j : Fin n => Value.int (f j.val)) = (fun j : Fin n => Value.int (g j.val)) := funext fun j => by rw [h j.val j.isLt]
  rw [vp_cell_i, vp_cell_i]
  show ({ cls := cA, slots := Array.ofFn (n := n) (fun j : Fin n => Value.int (f j.val)), vm := .none } : Cell) = { cls := cA, slots := Array.ofFn (n := n) (fun j : Fin n => Value.int (g j.val)), vm := .none }
  rw [e]
theorem hs_repP {cA : ClassId} {n q0 : Nat} {f g : Nat → Int32} (hP : va_P D cl ws H) (hD : va_D A ws) (ha : ws[q0]? = some (a, .inl (cA, n, .inl f))) (h : ∀ j, j < n → f j = g j) : va_P D cl (ws.set q0 (a, .inl (cA, n, .inl g))) H ∧ va_D A (ws.set q0 (a, .inl (cA, n, .inl g))) := by
  refine ⟨hP.set hD ha ?_ (fun q _ => rfl), hD.set ha⟩
  show H[a]? = some (vp_cell cA (n, .inl g))
  rw [← hs_cell h]
  exact hP q0 _ ha
/-- the start of a contract: of a method that changes nothing; of one that may change its world -/
def hs_pr (D : va_G) (cl : List vw_C) (tys : List (ClassId × FieldType)) (ws : va_W) : State → Prop := fun U => va_P D cl ws U.heap ∧ va_K D cl tys U
def hs_pm (D : va_G) (cl : List vw_C) (tys : List (ClassId × FieldType)) (ws : va_W) (sz : Nat) : State → Prop := fun U => U.heap.size = sz ∧ va_P D cl ws U.heap ∧ va_K D cl tys U ∧ va_D (fun _ => True) ws
def hs_B {S : Type} (D : va_G) (cl : List vw_C) (tys : List (ClassId × FieldType)) (wf : S → va_W) (A1 : Nat → Prop) : S → State → Prop := fun u t => va_P D cl (wf u) t.heap ∧ va_K D cl tys t ∧ va_D A1 (wf u)
abbrev hs_Qp (post : Int32 → Prop) : Array Value → State → Outcome → State → Prop := va_Qi (fun r (_ : Unit) => post r) (fun _ _ => True) (fun _ => False)
theorem hs_preV {b ci : Nat} {q : vw_C} {fs As : List Value} (hK : va_K D cl tys s) (hP : va_P D cl ws H) (hc : cl[ci]? = some q) (he : ws[0]? = some (b, .inr (ci, fs))) : PreV s H q.1 b (va_Pc (.ref b :: As) (hs_pr D cl tys ws)) As :=
  ⟨fun a U g mk z => ⟨z.1, z.2.1, va_K.moved (u := U) (U := U.calling g mk a) (Vm.Alike.refl U.vm) z.2.2⟩, va_recv hK hP hc he, fun U hU hW => ⟨rfl, by rw [hU]; exact hP, va_K.moved hW.alike hK⟩⟩
theorem hs_preM {b ci : Nat} {q : vw_C} {fs As : List Value} (hK : va_K D cl tys s) (hP : va_P D cl ws H) (hD : va_D A ws) (hc : cl[ci]? = some q) (he : ws[0]? = some (b, .inr (ci, fs))) : PreV s H q.1 b (va_Pc (.ref b :: As) (hs_pm D cl tys ws H.size)) As :=
  ⟨fun a U g mk z => ⟨z.1, z.2.1, z.2.2.1, va_K.moved (u := U) (U := U.calling g mk a) (Vm.Alike.refl U.vm) z.2.2.2.1, z.2.2.2.2⟩, va_recv hK hP hc he, fun U hU hW => ⟨rfl, by rw [hU], by rw [hU]; exact hP, va_K.moved hW.alike hK, hD.weaken (fun _ _ _ _ => trivial)⟩⟩
theorem hs_preI {b : Nat} {As : List Value} (hK : va_K D cl tys s) (hP : va_P D cl ws H) (hD : va_D A ws) : PreS s H (va_Pc (.ref b :: As) (hs_pm D cl tys ws H.size)) (.ref b :: As) :=
  ⟨fun a U g mk z => ⟨z.1, z.2.1, z.2.2.1, va_K.moved (u := U) (U := U.calling g mk a) (Vm.Alike.refl U.vm) z.2.2.2.1, z.2.2.2.2⟩, fun U hU hW => ⟨rfl, by rw [hU], by rw [hU]; exact hP, va_K.moved hW.alike hK, hD.weaken (fun _ _ _ _ => trivial)⟩⟩
theorem hs_preT {As : List Value} : PreS s H (va_Pc As (fun _ => True)) As := ⟨fun _ _ _ _ z => z, fun _ _ _ => ⟨rfl, trivial⟩⟩
end HSR
section HSC
variable {p : Program} {l : Launch} {e : Env} {R : Room} {s : State} {m : MethodId} {args : Array Value} {below : List Frame} {meth : Method} {c : Code} {H : Heap} {locs : List Loc} {cells slots : Nat} {Q : State → Prop}
variable {pc : Nat} {ls : Array Slot} {rest st0 : List Value} {a : Array Value} {A0 : Nat → Prop} {H0 : Heap} {D : va_G} {cl : List vw_C} {tys : List (ClassId × FieldType)} {ws : va_W}
/-- a call of a method that changes nothing -/
theorem hs_pc {post : Int32 → Prop} (hr : va_Run p l e R s m args below meth c H locs cells slots 0 0 (F0 m pc ls st0) rest (hs_Qp post a) (fun _ => False)) (hS : va_S A0 H0 H locs) (hP : va_P D cl ws H)
    (kk : ∀ (r : Int32) (H1 : Heap) (locs1 : List Loc), post r → va_P D cl ws H1 → va_S A0 H0 H1 locs1 → W p l e R s m args below meth c H1 locs1 cells slots Q (F0 m (pc + 3) ls (.int r :: rest))) : W p l e R s m args below meth c H locs cells slots Q (F0 m pc ls st0) :=
  va_calli hr hS (fun _ _ h => h.elim) (fun _ h => h.elim) (fun r _ _ H1 locs1 _ _ hw _ _ hk hS => kk r H1 locs1 hw (hP.kept (fun k q hq => hk q.1 ((hP k q hq).lt) (fun h => h))) hS)
theorem hs_pe {v : Int32} (hr : va_Run p l e R s m args below meth c H locs cells slots 0 0 (F0 m pc ls st0) rest (hs_Qp (fun r => r = v) a) (fun _ => False)) (hS : va_S A0 H0 H locs) (hP : va_P D cl ws H)
    (kk : ∀ (H1 : Heap) (locs1 : List Loc), va_P D cl ws H1 → va_S A0 H0 H1 locs1 → W p l e R s m args below meth c H1 locs1 cells slots Q (F0 m (pc + 3) ls (.int v :: rest))) : W p l e R s m args below meth c H locs cells slots Q (F0 m pc ls st0) :=
  hs_pc hr hS hP (fun r H1 locs1 hw hP hS => by subst hw; exact kk H1 locs1 hP hS)
/-- calls over the caller's whole world -/
theorem hs_cv {S : Type} {post : S → Prop} {wf : S → va_W} (hr : va_Run p l e R s m args below meth c H locs cells slots 0 0 (F0 m pc ls st0) rest (va_Qv post (hs_B D cl tys wf (va_A ws H.size)) (va_A ws H.size) a) (va_A ws H.size)) (hS : va_S A0 H0 H locs) (hD : va_D A0 ws) (hA : ∀ q, H0.size ≤ q → A0 q)
    (kk : ∀ (u : S) (H1 : Heap) (locs1 : List Loc), post u → va_P D cl (wf u) H1 → va_D A0 (wf u) → va_S A0 H0 H1 locs1 → W p l e R s m args below meth c H1 locs1 cells slots Q (F0 m (pc + 3) ls rest)) : W p l e R s m args below meth c H locs cells slots Q (F0 m pc ls st0) := by
  have hF : ∀ q, va_A ws H.size q → A0 q := fun q h => by
    rcases h with ⟨k, e, h⟩ | h
    · exact hD.2 k (q, e) h
    · exact hA q (Nat.le_trans hS.1 h)
  exact va_callv hr hS (fun q _ h => hF q h) hF (fun u t H1 locs1 ht _ hw hB _ _ hS => kk u H1 locs1 hw (by rw [← ht]; exact hB.1) (hB.2.2.weaken (fun _ q _ h => hF q.1 h)) hS)
theorem hs_ci {S : Type} {post : Int32 → S → Prop} {wf : S → va_W} (hr : va_Run p l e R s m args below meth c H locs cells slots 0 0 (F0 m pc ls st0) rest (va_Qi post (hs_B D cl tys wf (va_A ws H.size)) (va_A ws H.size) a) (va_A ws H.size)) (hS : va_S A0 H0 H locs) (hD : va_D A0 ws) (hA : ∀ q, H0.size ≤ q → A0 q)
    (kk : ∀ (r : Int32) (u : S) (H1 : Heap) (locs1 : List Loc), post r u → va_P D cl (wf u) H1 → va_D A0 (wf u) → va_S A0 H0 H1 locs1 → W p l e R s m args below meth c H1 locs1 cells slots Q (F0 m (pc + 3) ls (.int r :: rest))) : W p l e R s m args below meth c H locs cells slots Q (F0 m pc ls st0) := by
  have hF : ∀ q, va_A ws H.size q → A0 q := fun q h => by
    rcases h with ⟨k, e, h⟩ | h
    · exact hD.2 k (q, e) h
    · exact hA q (Nat.le_trans hS.1 h)
  exact va_calli hr hS (fun q _ h => hF q h) hF (fun r u t H1 locs1 ht _ hw hB _ _ hS => kk r u H1 locs1 hw (by rw [← ht]; exact hB.1) (hB.2.2.weaken (fun _ q _ h => hF q.1 h)) hS)
end HSC
end
section
/-! what a state of either object is: its cells, out of the numbers that we speak of -/
abbrev ar_ (q : Nat) (cA : ClassId) (n : Nat) (f : Nat → Int32) : Nat × va_E := (q, .inl (cA, n, .inl f))
abbrev oX_ (h0 hd hp d N w nw sz u : Nat) (kr dn lf : Int32) (dw : Bool) : Nat × va_E := (h0, .inr (0, [.int (nI d), .int (nI N), .int (nI w), .int (nI nw), .int (nI sz), .ref hd, .ref hp, .int (nI u), .int kr, .int dn, .int lf, .int (hs_b dw)]))
abbrev oM_ (h0 hd hp d N w nw sz u : Nat) (kr dn lf : Int32) (dw : Bool) : Nat × va_E := (h0, .inr (1, [.int (nI d), .int (nI N), .int (nI w), .int (nI sz), .ref hd, .ref hp, .int (nI u), .int kr, .int dn, .int lf, .int (hs_b dw)]))
abbrev wfX (h0 hd hp : Nat) (cA : ClassId) (d N w nw sz : Nat) (x : hs_S × (Nat → Int32)) : va_W := [oX_ h0 hd hp d N w nw sz x.1.2.1 x.1.2.2.1 x.1.2.2.2.1 x.1.2.2.2.2.1 x.1.2.2.2.2.2, ar_ hd cA (2 * sz) x.1.1, ar_ hp cA sz x.2]
abbrev wfM (h0 hd hp : Nat) (cA : ClassId) (d N w nw sz : Nat) (x : hs_S × (Nat → Int32)) : va_W := [oM_ h0 hd hp d N w nw sz x.1.2.1 x.1.2.2.1 x.1.2.2.2.1 x.1.2.2.2.2.1 x.1.2.2.2.2.2, ar_ hd cA 600 x.1.1, ar_ hp cA 300 x.2]
end
section
set_option maxHeartbeats 4000000 in
set_option maxRecDepth 100000 in
/-- MIX -/
theorem kX0_mix (l : Launch) (p0 p1 : Int32) : Met l yX0_mix wsX0_mix ({ frames := 0, cells := 0, slots := 0, locals := 0 }) (va_Pc [.int p0, .int p1] (fun _ => True)) (hs_Qp (fun r => r = hs_mx p0 p1)) 0 0 (fun _ => False) := by
  refine Met.ofW (cc := cX0_mix) (maxL := 3) (ret := (some .int)) (by decide) rfl ?_
  intro p e s m args below meth c s₁ B hml hv
  obtain ⟨rfl, -⟩ := hv
  have hx := B.exec
  have hb := B.bytes
  have hr := B.returns
  have hts := atoms_spec (ws := wsX0_mix) B.pre
  have hown : s.vm.findClass RX0 = some m.cls := findClass_of_methodNamed B.named
  have hlocks := B.notSynchronized
  have hS : va_S (fun _ => False) s.heap s.heap [] := va_S.rf
  have hP : va_P (fun _ => 0, fun _ _ => 0) vwCl [] s.heap := fun k q h => by simp at h
  have hl := lv_entry ([.int p0, .int p1]) (n := 3) (Nat.le_of_ble_eq_true rfl)
  rw [lg_entry_eq]
  generalize (lg_sl ([.int p0, .int p1]) ++ List.replicate (3 - (lg_sl ([.int p0, .int p1])).length) Slot.unset).toArray = ls at hl ⊢
  have hl : lv_has ls 3 [(0, .int p0), (1, .int p1)] := hl
  refine lv_iload_n hx hb dX0_mix_0 rfl (lv_at hl 0 rfl) ?_
  refine lv_iload_n hx hb dX0_mix_1 rfl (lv_at hl 1 rfl) ?_
  refine lv_bipush (v := 13) hx hb dX0_mix_2 (by decide) ?_
  refine lv_ishl hx hb dX0_mix_4 ?_
  refine lv_iload_n hx hb dX0_mix_5 rfl (lv_at hl 1 rfl) ?_
  refine lv_bipush (v := 19) hx hb dX0_mix_6 (by decide) ?_
  refine lv_iushr hx hb dX0_mix_8 rfl ?_
  refine lv_ior hx hb dX0_mix_9 ?_
  refine lv_ixor hx hb dX0_mix_10 ?_
  refine lv_ldc (v := 739982445) hx hb hown (hts (.constant RX0 139 739982445) (by decide +kernel)) dX0_mix_11 ?_
  refine lv_imul hx hb dX0_mix_13 ?_
  refine lv_topi (fun x1 ex1 => ?_)
  refine lv_istore_n (lv' := [(2, .int x1), (0, .int p0), (1, .int p1)]) hx hb dX0_mix_14 rfl hl (by decide) rfl (fun ls hl => ?_)
  refine lv_iload_n hx hb dX0_mix_15 rfl (lv_at hl 0 rfl) ?_
  refine lv_iload_n hx hb dX0_mix_16 rfl (lv_at hl 0 rfl) ?_
  refine lv_bipush (v := 15) hx hb dX0_mix_17 (by decide) ?_
  refine lv_iushr hx hb dX0_mix_19 rfl ?_
  refine lv_ixor hx hb dX0_mix_20 ?_
  refine lv_topi (fun x2 ex2 => ?_)
  refine lv_istore_n (lv' := [(2, .int x2), (0, .int p0), (1, .int p1)]) hx hb dX0_mix_21 rfl hl (by decide) rfl (fun ls hl => ?_)
  refine lv_iload_n hx hb dX0_mix_22 rfl (lv_at hl 0 rfl) ?_
  refine lv_iload_n hx hb dX0_mix_23 rfl (lv_at hl 2 rfl) ?_
  refine lv_iadd hx hb dX0_mix_24 ?_
  refine lv_ldc (v := 695872825) hx hb hown (hts (.constant RX0 140 695872825) (by decide +kernel)) dX0_mix_25 ?_
  refine lv_imul hx hb dX0_mix_27 ?_
  refine lv_topi (fun x3 ex3 => ?_)
  refine lv_istore_n (lv' := [(2, .int x3), (0, .int p0), (1, .int p1)]) hx hb dX0_mix_28 rfl hl (by decide) rfl (fun ls hl => ?_)
  refine lv_iload_n hx hb dX0_mix_29 rfl (lv_at hl 0 rfl) ?_
  refine lv_iload_n hx hb dX0_mix_30 rfl (lv_at hl 0 rfl) ?_
  refine lv_bipush (v := 14) hx hb dX0_mix_31 (by decide) ?_
  refine lv_iushr hx hb dX0_mix_33 rfl ?_
  refine lv_ixor hx hb dX0_mix_34 ?_
  exact W.iret (v := x3 ^^^ ((x3.toUInt32 >>> ((14 : Int32).toUInt32 &&& Int32.toUInt32 31)).toInt32)) hx hb hr (fun t ht hW => ⟨⟨x3 ^^^ ((x3.toUInt32 >>> ((14 : Int32).toUInt32 &&& Int32.toUInt32 31)).toInt32), (), rfl, (by rw [hs_mx_eq]; subst ex3; subst ex2; subst ex1; rfl), trivial⟩, hS.F ht⟩) hS.2.2 dX0_mix_35
set_option maxHeartbeats 4000000 in
set_option maxRecDepth 100000 in
theorem kX0_root (l : Launch) (dC : Nat → ClassId) (dI : Nat → Nat → Nat) (h0 hd hp : Nat) (cA : ClassId) (d N w nw sz u : Nat) (F G : Nat → Int32) (kr dn lf : Int32) (dw : Bool) (ok : hs_ok d N w nw sz)  : Met l yX0_root wsX0_root ({ frames := 0, cells := 0, slots := 0, locals := 0 }) (va_Pc [.ref h0] (hs_pr (dC, dI) vwCl [(cA, .int)] [oX_ h0 hd hp d N w nw sz u kr dn lf dw])) (hs_Qp (fun r => r = kr)) 0 0 (fun _ => False) := by
  refine Met.ofW (cc := cX0_root) (maxL := 1) (ret := (some .int)) (by decide) rfl ?_
  intro p e s m args below meth c s₁ B hml hv
  obtain ⟨rfl, hP, hK⟩ := hv
  have hx := B.exec
  have hb := B.bytes
  have hr := B.returns
  have hts := atoms_spec (ws := wsX0_root) B.pre
  have hown : s.vm.findClass RX0 = some m.cls := findClass_of_methodNamed B.named
  have hlocks := B.notSynchronized
  obtain ⟨hd5, hN1, hN2, hw1, hw2, hn1, hn2, hsz, hsz2⟩ := hs_okf ok
  have hnw : nw = N * w := ok.2.2.2.2.1
  have hS : va_S (fun _ => False) s.heap s.heap [] := va_S.rf
  have hl := lv_entry ([.ref h0]) (n := 1) (Nat.le_of_ble_eq_true rfl)
  rw [lg_entry_eq]
  generalize (lg_sl ([.ref h0]) ++ List.replicate (1 - (lg_sl ([.ref h0])).length) Slot.unset).toArray = ls at hl ⊢
  have hl : lv_has ls 1 [(0, .ref h0)] := hl
  refine lv_aload_n hx hb dX0_root_0 rfl (lv_at hl 0 rfl) ?_
  refine va_get (D := (dC, dI)) (ci := 0) (v := .int kr) (C := RX0) (T := TX0) (N := 12) hx hb hts (by decide +kernel) hown hK hP 0 rfl rfl 8 (by decide) (hts (.fieldLink RX0 83 "HashedStore" "keptRoot" "I") (by decide +kernel)) (fun _ h9 => h9) rfl dX0_root_1 ?_
  exact W.iret (v := kr) hx hb hr (fun t ht hW => ⟨⟨kr, (), rfl, rfl, trivial⟩, hS.F ht⟩) hS.2.2 dX0_root_4
set_option maxHeartbeats 4000000 in
set_option maxRecDepth 100000 in
theorem kX0_writes (l : Launch) (dC : Nat → ClassId) (dI : Nat → Nat → Nat) (h0 hd hp : Nat) (cA : ClassId) (d N w nw sz u : Nat) (F G : Nat → Int32) (kr dn lf : Int32) (dw : Bool) (ok : hs_ok d N w nw sz)  : Met l yX0_writes wsX0_writes ({ frames := 0, cells := 0, slots := 0, locals := 0 }) (va_Pc [.ref h0] (hs_pr (dC, dI) vwCl [(cA, .int)] [oX_ h0 hd hp d N w nw sz u kr dn lf dw])) (hs_Qp (fun r => r = dn)) 0 0 (fun _ => False) := by
  refine Met.ofW (cc := cX0_writes) (maxL := 1) (ret := (some .int)) (by decide) rfl ?_
  intro p e s m args below meth c s₁ B hml hv
  obtain ⟨rfl, hP, hK⟩ := hv
  have hx := B.exec
  have hb := B.bytes
  have hr := B.returns
  have hts := atoms_spec (ws := wsX0_writes) B.pre
  have hown : s.vm.findClass RX0 = some m.cls := findClass_of_methodNamed B.named
  have hlocks := B.notSynchronized
  obtain ⟨hd5, hN1, hN2, hw1, hw2, hn1, hn2, hsz, hsz2⟩ := hs_okf ok
  have hnw : nw = N * w := ok.2.2.2.2.1
  have hS : va_S (fun _ => False) s.heap s.heap [] := va_S.rf
  have hl := lv_entry ([.ref h0]) (n := 1) (Nat.le_of_ble_eq_true rfl)
  rw [lg_entry_eq]
  generalize (lg_sl ([.ref h0]) ++ List.replicate (1 - (lg_sl ([.ref h0])).length) Slot.unset).toArray = ls at hl ⊢
  have hl : lv_has ls 1 [(0, .ref h0)] := hl
  refine lv_aload_n hx hb dX0_writes_0 rfl (lv_at hl 0 rfl) ?_
  refine va_get (D := (dC, dI)) (ci := 0) (v := .int dn) (C := RX0) (T := TX0) (N := 12) hx hb hts (by decide +kernel) hown hK hP 0 rfl rfl 9 (by decide) (hts (.fieldLink RX0 95 "HashedStore" "writeCount" "I") (by decide +kernel)) (fun _ h9 => h9) rfl dX0_writes_1 ?_
  exact W.iret (v := dn) hx hb hr (fun t ht hW => ⟨⟨dn, (), rfl, rfl, trivial⟩, hS.F ht⟩) hS.2.2 dX0_writes_4
set_option maxHeartbeats 4000000 in
set_option maxRecDepth 100000 in
theorem kX0_slot (l : Launch) (dC : Nat → ClassId) (dI : Nat → Nat → Nat) (h0 hd hp : Nat) (cA : ClassId) (d N w nw sz u : Nat) (F G : Nat → Int32) (kr dn lf : Int32) (dw : Bool) (ok : hs_ok d N w nw sz)  : Met l yX0_slot wsX0_slot ({ frames := 0, cells := 0, slots := 0, locals := 0 }) (va_Pc [.ref h0] (hs_pr (dC, dI) vwCl [(cA, .int)] [oX_ h0 hd hp d N w nw sz u kr dn lf dw])) (hs_Qp (fun r => r = nI u)) 0 0 (fun _ => False) := by
  refine Met.ofW (cc := cX0_slot) (maxL := 1) (ret := (some .int)) (by decide) rfl ?_
  intro p e s m args below meth c s₁ B hml hv
  obtain ⟨rfl, hP, hK⟩ := hv
  have hx := B.exec
  have hb := B.bytes
  have hr := B.returns
  have hts := atoms_spec (ws := wsX0_slot) B.pre
  have hown : s.vm.findClass RX0 = some m.cls := findClass_of_methodNamed B.named
  have hlocks := B.notSynchronized
  obtain ⟨hd5, hN1, hN2, hw1, hw2, hn1, hn2, hsz, hsz2⟩ := hs_okf ok
  have hnw : nw = N * w := ok.2.2.2.2.1
  have hS : va_S (fun _ => False) s.heap s.heap [] := va_S.rf
  have hl := lv_entry ([.ref h0]) (n := 1) (Nat.le_of_ble_eq_true rfl)
  rw [lg_entry_eq]
  generalize (lg_sl ([.ref h0]) ++ List.replicate (1 - (lg_sl ([.ref h0])).length) Slot.unset).toArray = ls at hl ⊢
  have hl : lv_has ls 1 [(0, .ref h0)] := hl
  refine lv_aload_n hx hb dX0_slot_0 rfl (lv_at hl 0 rfl) ?_
  refine va_get (D := (dC, dI)) (ci := 0) (v := .int (nI u)) (C := RX0) (T := TX0) (N := 12) hx hb hts (by decide +kernel) hown hK hP 0 rfl rfl 7 (by decide) (hts (.fieldLink RX0 60 "HashedStore" "areaInUse" "I") (by decide +kernel)) (fun _ h9 => h9) rfl dX0_slot_1 ?_
  exact W.iret (v := nI u) hx hb hr (fun t ht hW => ⟨⟨nI u, (), rfl, rfl, trivial⟩, hS.F ht⟩) hS.2.2 dX0_slot_4
set_option maxHeartbeats 4000000 in
set_option maxRecDepth 100000 in
theorem kX0_down (l : Launch) (dC : Nat → ClassId) (dI : Nat → Nat → Nat) (h0 hd hp : Nat) (cA : ClassId) (d N w nw sz u : Nat) (F G : Nat → Int32) (kr dn lf : Int32) (dw : Bool) (ok : hs_ok d N w nw sz)  : Met l yX0_down wsX0_down ({ frames := 0, cells := 0, slots := 0, locals := 0 }) (va_Pc [.ref h0] (hs_pr (dC, dI) vwCl [(cA, .int)] [oX_ h0 hd hp d N w nw sz u kr dn lf dw])) (hs_Qp (fun r => r = hs_b dw)) 0 0 (fun _ => False) := by
  refine Met.ofW (cc := cX0_down) (maxL := 1) (ret := (some .boolean)) (by decide) rfl ?_
  intro p e s m args below meth c s₁ B hml hv
  obtain ⟨rfl, hP, hK⟩ := hv
  have hx := B.exec
  have hb := B.bytes
  have hr := B.returns
  have hts := atoms_spec (ws := wsX0_down) B.pre
  have hown : s.vm.findClass RX0 = some m.cls := findClass_of_methodNamed B.named
  have hlocks := B.notSynchronized
  obtain ⟨hd5, hN1, hN2, hw1, hw2, hn1, hn2, hsz, hsz2⟩ := hs_okf ok
  have hnw : nw = N * w := ok.2.2.2.2.1
  have hS : va_S (fun _ => False) s.heap s.heap [] := va_S.rf
  have hl := lv_entry ([.ref h0]) (n := 1) (Nat.le_of_ble_eq_true rfl)
  rw [lg_entry_eq]
  generalize (lg_sl ([.ref h0]) ++ List.replicate (1 - (lg_sl ([.ref h0])).length) Slot.unset).toArray = ls at hl ⊢
  have hl : lv_has ls 1 [(0, .ref h0)] := hl
  refine lv_aload_n hx hb dX0_down_0 rfl (lv_at hl 0 rfl) ?_
  refine va_get (D := (dC, dI)) (ci := 0) (v := .int (hs_b dw)) (C := RX0) (T := TX0) (N := 12) hx hb hts (by decide +kernel) hown hK hP 0 rfl rfl 11 (by decide) (hts (.fieldLink RX0 48 "HashedStore" "isDown" "Z") (by decide +kernel)) (fun _ h9 => h9) rfl dX0_down_1 ?_
  exact W.zret (v := hs_b dw) hx hb hr (hs_nb _) (fun t ht hW => ⟨⟨hs_b dw, (), rfl, rfl, trivial⟩, hS.F ht⟩) hS.2.2 dX0_down_4
set_option maxHeartbeats 4000000 in
set_option maxRecDepth 100000 in
theorem kX0_cells (l : Launch) (dC : Nat → ClassId) (dI : Nat → Nat → Nat) (h0 hd hp : Nat) (cA : ClassId) (d N w nw sz u : Nat) (F G : Nat → Int32) (kr dn lf : Int32) (dw : Bool) (ok : hs_ok d N w nw sz)  : Met l yX0_cells wsX0_cells ({ frames := 0, cells := 0, slots := 0, locals := 0 }) (va_Pc [.ref h0] (hs_pr (dC, dI) vwCl [(cA, .int)] [oX_ h0 hd hp d N w nw sz u kr dn lf dw, ar_ hd cA (2 * sz) F])) (hs_Qp (fun r => r = nI (2 * sz))) 0 0 (fun _ => False) := by
  refine Met.ofW (cc := cX0_cells) (maxL := 1) (ret := (some .int)) (by decide) rfl ?_
  intro p e s m args below meth c s₁ B hml hv
  obtain ⟨rfl, hP, hK⟩ := hv
  have hx := B.exec
  have hb := B.bytes
  have hr := B.returns
  have hts := atoms_spec (ws := wsX0_cells) B.pre
  have hown : s.vm.findClass RX0 = some m.cls := findClass_of_methodNamed B.named
  have hlocks := B.notSynchronized
  obtain ⟨hd5, hN1, hN2, hw1, hw2, hn1, hn2, hsz, hsz2⟩ := hs_okf ok
  have hnw : nw = N * w := ok.2.2.2.2.1
  have hS : va_S (fun _ => False) s.heap s.heap [] := va_S.rf
  have hl := lv_entry ([.ref h0]) (n := 1) (Nat.le_of_ble_eq_true rfl)
  rw [lg_entry_eq]
  generalize (lg_sl ([.ref h0]) ++ List.replicate (1 - (lg_sl ([.ref h0])).length) Slot.unset).toArray = ls at hl ⊢
  have hl : lv_has ls 1 [(0, .ref h0)] := hl
  refine lv_aload_n hx hb dX0_cells_0 rfl (lv_at hl 0 rfl) ?_
  refine va_get (D := (dC, dI)) (ci := 0) (v := .ref hd) (C := RX0) (T := TX0) (N := 12) hx hb hts (by decide +kernel) hown hK hP 0 rfl rfl 5 (by decide) (hts (.fieldLink RX0 34 "HashedStore" "disk" "[I") (by decide +kernel)) (fun _ h9 => h9) rfl dX0_cells_1 ?_
  refine va_alen hx hb hK hP 1 0 rfl rfl (v := nI (2 * sz)) rfl dX0_cells_4 ?_
  exact W.iret (v := nI (2 * sz)) hx hb hr (fun t ht hW => ⟨⟨nI (2 * sz), (), rfl, rfl, trivial⟩, hS.F ht⟩) hS.2.2 dX0_cells_5
set_option maxHeartbeats 4000000 in
set_option maxRecDepth 100000 in
theorem kX0_hasBlock (l : Launch) (dC : Nat → ClassId) (dI : Nat → Nat → Nat) (h0 hd hp : Nat) (cA : ClassId) (d N w nw sz u : Nat) (F G : Nat → Int32) (kr dn lf : Int32) (dw : Bool) (ok : hs_ok d N w nw sz) (p1 : Int32) : Met l yX0_hasBlock wsX0_hasBlock ({ frames := 0, cells := 0, slots := 0, locals := 0 }) (va_Pc [.ref h0, .int p1] (hs_pr (dC, dI) vwCl [(cA, .int)] [oX_ h0 hd hp d N w nw sz u kr dn lf dw])) (hs_Qp (fun r => r = hs_b (hs_hb N p1))) 0 0 (fun _ => False) := by
  refine Met.ofW (cc := cX0_hasBlock) (maxL := 2) (ret := (some .boolean)) (by decide) rfl ?_
  intro p e s m args below meth c s₁ B hml hv
  obtain ⟨rfl, hP, hK⟩ := hv
  have hx := B.exec
  have hb := B.bytes
  have hr := B.returns
  have hts := atoms_spec (ws := wsX0_hasBlock) B.pre
  have hown : s.vm.findClass RX0 = some m.cls := findClass_of_methodNamed B.named
  have hlocks := B.notSynchronized
  obtain ⟨hd5, hN1, hN2, hw1, hw2, hn1, hn2, hsz, hsz2⟩ := hs_okf ok
  have hnw : nw = N * w := ok.2.2.2.2.1
  have hS : va_S (fun _ => False) s.heap s.heap [] := va_S.rf
  have hl := lv_entry ([.ref h0, .int p1]) (n := 2) (Nat.le_of_ble_eq_true rfl)
  rw [lg_entry_eq]
  generalize (lg_sl ([.ref h0, .int p1]) ++ List.replicate (2 - (lg_sl ([.ref h0, .int p1])).length) Slot.unset).toArray = ls at hl ⊢
  have hl : lv_has ls 2 [(0, .ref h0), (1, .int p1)] := hl
  refine lv_iload_n hx hb dX0_hasBlock_0 rfl (lv_at hl 1 rfl) ?_
  refine lv_if_lt (tgt := 16) hx hb dX0_hasBlock_1 (by decide) (fun c2 => ?_) (fun c2 => ?_)
  · refine lv_iconst (v := nI 0) hx hb dX0_hasBlock_16 (by decide) ?_
    exact W.zret (v := nI 0) hx hb hr rfl (fun t ht hW => ⟨⟨nI 0, (), rfl, (by unfold hs_hb; rw [if_pos c2]; rfl), trivial⟩, hS.F ht⟩) hS.2.2 dX0_hasBlock_17
  · refine lv_iload_n hx hb dX0_hasBlock_4 rfl (lv_at hl 1 rfl) ?_
    refine lv_aload_n hx hb dX0_hasBlock_5 rfl (lv_at hl 0 rfl) ?_
    refine va_get (D := (dC, dI)) (ci := 0) (v := .int (nI N)) (C := RX0) (T := TX0) (N := 12) hx hb hts (by decide +kernel) hown hK hP 0 rfl rfl 1 (by decide) (hts (.fieldLink RX0 25 "HashedStore" "blockCount" "I") (by decide +kernel)) (fun _ h9 => h9) rfl dX0_hasBlock_6 ?_
    refine lv_icmp_ge (tgt := 16) hx hb dX0_hasBlock_9 (by decide) (fun c3 => ?_) (fun c3 => ?_)
    · refine lv_iconst (v := nI 0) hx hb dX0_hasBlock_16 (by decide) ?_
      exact W.zret (v := nI 0) hx hb hr rfl (fun t ht hW => ⟨⟨nI 0, (), rfl, (by unfold hs_hb; rw [if_neg c2, decide_eq_false (Int32.not_lt.mpr c3)]; rfl), trivial⟩, hS.F ht⟩) hS.2.2 dX0_hasBlock_17
    · refine lv_iconst (v := nI 1) hx hb dX0_hasBlock_12 (by decide) ?_
      refine lv_goto (tgt := 17) hx hb dX0_hasBlock_13 (by decide) ?_
      exact W.zret (v := nI 1) hx hb hr rfl (fun t ht hW => ⟨⟨nI 1, (), rfl, (by unfold hs_hb; rw [if_neg c2, decide_eq_true (Int32.not_le.mp c3)]; rfl), trivial⟩, hS.F ht⟩) hS.2.2 dX0_hasBlock_17
set_option maxHeartbeats 4000000 in
set_option maxRecDepth 100000 in
theorem kX0_hasWord (l : Launch) (dC : Nat → ClassId) (dI : Nat → Nat → Nat) (h0 hd hp : Nat) (cA : ClassId) (d N w nw sz u : Nat) (F G : Nat → Int32) (kr dn lf : Int32) (dw : Bool) (ok : hs_ok d N w nw sz) (p1 p2 : Int32) : Met l yX0_hasWord wsX0_hasWord ({ frames := 1, cells := 0, slots := 0, locals := 21 }) (va_Pc [.ref h0, .int p1, .int p2] (hs_pr (dC, dI) vwCl [(cA, .int)] [oX_ h0 hd hp d N w nw sz u kr dn lf dw])) (hs_Qp (fun r => r = hs_b (hs_hb N p1 && hs_hb w p2))) 0 0 (fun _ => False) := by
  refine Met.ofW (cc := cX0_hasWord) (maxL := 3) (ret := (some .boolean)) (by decide) rfl ?_
  intro p e s m args below meth c s₁ B hml hv
  obtain ⟨rfl, hP, hK⟩ := hv
  have hx := B.exec
  have hb := B.bytes
  have hr := B.returns
  have hts := atoms_spec (ws := wsX0_hasWord) B.pre
  have hown : s.vm.findClass RX0 = some m.cls := findClass_of_methodNamed B.named
  have hlocks := B.notSynchronized
  obtain ⟨hd5, hN1, hN2, hw1, hw2, hn1, hn2, hsz, hsz2⟩ := hs_okf ok
  have hnw : nw = N * w := ok.2.2.2.2.1
  have hS : va_S (fun _ => False) s.heap s.heap [] := va_S.rf
  have hl := lv_entry ([.ref h0, .int p1, .int p2]) (n := 3) (Nat.le_of_ble_eq_true rfl)
  rw [lg_entry_eq]
  generalize (lg_sl ([.ref h0, .int p1, .int p2]) ++ List.replicate (3 - (lg_sl ([.ref h0, .int p1, .int p2])).length) Slot.unset).toArray = ls at hl ⊢
  have hl : lv_has ls 3 [(0, .ref h0), (1, .int p1), (2, .int p2)] := hl
  refine lv_aload_n hx hb dX0_hasWord_0 rfl (lv_at hl 0 rfl) ?_
  refine lv_iload_n hx hb dX0_hasWord_1 rfl (lv_at hl 1 rfl) ?_
  refine hs_pe (v := hs_b (hs_hb N p1)) (va_runV (As := [.int p1]) (rest := []) ⟨hx, hb, hml, hown, hts⟩ (kX0_hasBlock l dC dI h0 hd hp cA d N w nw sz u F G kr dn lf dw ok p1) (cwV 1 hts gX0_hasWord_X0_hasBlock rfl rfl rfl (by decide +kernel) ⟨(Nat.le_of_ble_eq_true rfl), (Nat.le_of_ble_eq_true rfl)⟩) (hs_preV (q := (RX0, TX0, 12)) (ci := 0) hK hP rfl rfl) rfl rfl hl.1 rfl (lv_room (Nat.le_of_ble_eq_true rfl)) dX0_hasWord_2 ⟨Nat.zero_le _, Nat.zero_le _⟩) hS hP (fun H locs hP hS => ?_)
  refine hs_beq (tgt := 24) hx hb dX0_hasWord_5 (by decide) (fun c1 => ?_) (fun c1 => ?_)
  · refine lv_iconst (v := nI 0) hx hb dX0_hasWord_24 (by decide) ?_
    exact W.zret (v := nI 0) hx hb hr rfl (fun t ht hW => ⟨⟨nI 0, (), rfl, (by rw [c1]; rfl), trivial⟩, hS.F ht⟩) hS.2.2 dX0_hasWord_25
  · refine lv_iload_n hx hb dX0_hasWord_8 rfl (lv_at hl 2 rfl) ?_
    refine lv_if_lt (tgt := 24) hx hb dX0_hasWord_9 (by decide) (fun c2 => ?_) (fun c2 => ?_)
    · refine lv_iconst (v := nI 0) hx hb dX0_hasWord_24 (by decide) ?_
      exact W.zret (v := nI 0) hx hb hr rfl (fun t ht hW => ⟨⟨nI 0, (), rfl, (by rw [c1]; unfold hs_hb; rw [if_pos c2]; rfl), trivial⟩, hS.F ht⟩) hS.2.2 dX0_hasWord_25
    · refine lv_iload_n hx hb dX0_hasWord_12 rfl (lv_at hl 2 rfl) ?_
      refine lv_aload_n hx hb dX0_hasWord_13 rfl (lv_at hl 0 rfl) ?_
      refine va_get (D := (dC, dI)) (ci := 0) (v := .int (nI w)) (C := RX0) (T := TX0) (N := 12) hx hb hts (by decide +kernel) hown hK hP 0 rfl rfl 2 (by decide) (hts (.fieldLink RX0 22 "HashedStore" "wordsPerBlock" "I") (by decide +kernel)) (fun _ h9 => h9) rfl dX0_hasWord_14 ?_
      refine lv_icmp_ge (tgt := 24) hx hb dX0_hasWord_17 (by decide) (fun c3 => ?_) (fun c3 => ?_)
      · refine lv_iconst (v := nI 0) hx hb dX0_hasWord_24 (by decide) ?_
        exact W.zret (v := nI 0) hx hb hr rfl (fun t ht hW => ⟨⟨nI 0, (), rfl, (by rw [c1]; unfold hs_hb; rw [if_neg c2, decide_eq_false (Int32.not_lt.mpr c3)]; rfl), trivial⟩, hS.F ht⟩) hS.2.2 dX0_hasWord_25
      · refine lv_iconst (v := nI 1) hx hb dX0_hasWord_20 (by decide) ?_
        refine lv_goto (tgt := 25) hx hb dX0_hasWord_21 (by decide) ?_
        exact W.zret (v := nI 1) hx hb hr rfl (fun t ht hW => ⟨⟨nI 1, (), rfl, (by rw [c1]; unfold hs_hb; rw [if_neg c2, decide_eq_true (Int32.not_le.mp c3)]; rfl), trivial⟩, hS.F ht⟩) hS.2.2 dX0_hasWord_25
set_option maxHeartbeats 4000000 in
set_option maxRecDepth 100000 in
theorem kX0_hasCell (l : Launch) (dC : Nat → ClassId) (dI : Nat → Nat → Nat) (h0 hd hp : Nat) (cA : ClassId) (d N w nw sz u : Nat) (F G : Nat → Int32) (kr dn lf : Int32) (dw : Bool) (ok : hs_ok d N w nw sz) (p1 : Int32) : Met l yX0_hasCell wsX0_hasCell ({ frames := 0, cells := 0, slots := 0, locals := 0 }) (va_Pc [.ref h0, .int p1] (hs_pr (dC, dI) vwCl [(cA, .int)] [oX_ h0 hd hp d N w nw sz u kr dn lf dw, ar_ hd cA (2 * sz) F])) (hs_Qp (fun r => r = hs_b (hs_hb (2 * sz) p1))) 0 0 (fun _ => False) := by
  refine Met.ofW (cc := cX0_hasCell) (maxL := 2) (ret := (some .boolean)) (by decide) rfl ?_
  intro p e s m args below meth c s₁ B hml hv
  obtain ⟨rfl, hP, hK⟩ := hv
  have hx := B.exec
  have hb := B.bytes
  have hr := B.returns
  have hts := atoms_spec (ws := wsX0_hasCell) B.pre
  have hown : s.vm.findClass RX0 = some m.cls := findClass_of_methodNamed B.named
  have hlocks := B.notSynchronized
  obtain ⟨hd5, hN1, hN2, hw1, hw2, hn1, hn2, hsz, hsz2⟩ := hs_okf ok
  have hnw : nw = N * w := ok.2.2.2.2.1
  have hS : va_S (fun _ => False) s.heap s.heap [] := va_S.rf
  have hl := lv_entry ([.ref h0, .int p1]) (n := 2) (Nat.le_of_ble_eq_true rfl)
  rw [lg_entry_eq]
  generalize (lg_sl ([.ref h0, .int p1]) ++ List.replicate (2 - (lg_sl ([.ref h0, .int p1])).length) Slot.unset).toArray = ls at hl ⊢
  have hl : lv_has ls 2 [(0, .ref h0), (1, .int p1)] := hl
  refine lv_iload_n hx hb dX0_hasCell_0 rfl (lv_at hl 1 rfl) ?_
  refine lv_if_lt (tgt := 17) hx hb dX0_hasCell_1 (by decide) (fun c2 => ?_) (fun c2 => ?_)
  · refine lv_iconst (v := nI 0) hx hb dX0_hasCell_17 (by decide) ?_
    exact W.zret (v := nI 0) hx hb hr rfl (fun t ht hW => ⟨⟨nI 0, (), rfl, (by unfold hs_hb; rw [if_pos c2]; rfl), trivial⟩, hS.F ht⟩) hS.2.2 dX0_hasCell_18
  · refine lv_iload_n hx hb dX0_hasCell_4 rfl (lv_at hl 1 rfl) ?_
    refine lv_aload_n hx hb dX0_hasCell_5 rfl (lv_at hl 0 rfl) ?_
    refine va_get (D := (dC, dI)) (ci := 0) (v := .ref hd) (C := RX0) (T := TX0) (N := 12) hx hb hts (by decide +kernel) hown hK hP 0 rfl rfl 5 (by decide) (hts (.fieldLink RX0 34 "HashedStore" "disk" "[I") (by decide +kernel)) (fun _ h9 => h9) rfl dX0_hasCell_6 ?_
    refine va_alen hx hb hK hP 1 0 rfl rfl (v := nI (2 * sz)) rfl dX0_hasCell_9 ?_
    refine lv_icmp_ge (tgt := 17) hx hb dX0_hasCell_10 (by decide) (fun c3 => ?_) (fun c3 => ?_)
    · refine lv_iconst (v := nI 0) hx hb dX0_hasCell_17 (by decide) ?_
      exact W.zret (v := nI 0) hx hb hr rfl (fun t ht hW => ⟨⟨nI 0, (), rfl, (by unfold hs_hb; rw [if_neg c2, decide_eq_false (Int32.not_lt.mpr c3)]; rfl), trivial⟩, hS.F ht⟩) hS.2.2 dX0_hasCell_18
    · refine lv_iconst (v := nI 1) hx hb dX0_hasCell_13 (by decide) ?_
      refine lv_goto (tgt := 18) hx hb dX0_hasCell_14 (by decide) ?_
      exact W.zret (v := nI 1) hx hb hr rfl (fun t ht hW => ⟨⟨nI 1, (), rfl, (by unfold hs_hb; rw [if_neg c2, decide_eq_true (Int32.not_le.mp c3)]; rfl), trivial⟩, hS.F ht⟩) hS.2.2 dX0_hasCell_18
set_option maxHeartbeats 4000000 in
set_option maxRecDepth 100000 in
theorem kX0_areaStart (l : Launch) (dC : Nat → ClassId) (dI : Nat → Nat → Nat) (h0 hd hp : Nat) (cA : ClassId) (d N w nw sz u : Nat) (F G : Nat → Int32) (kr dn lf : Int32) (dw : Bool) (ok : hs_ok d N w nw sz) (x1 : Nat) : Met l yX0_areaStart wsX0_areaStart ({ frames := 0, cells := 0, slots := 0, locals := 0 }) (va_Pc [.ref h0, .int (nI x1)] (hs_pr (dC, dI) vwCl [(cA, .int)] [oX_ h0 hd hp d N w nw sz u kr dn lf dw])) (hs_Qp (fun r => r = nI (x1 * sz))) 0 0 (fun _ => False) := by
  refine Met.ofW (cc := cX0_areaStart) (maxL := 2) (ret := (some .int)) (by decide) rfl ?_
  intro p e s m args below meth c s₁ B hml hv
  obtain ⟨rfl, hP, hK⟩ := hv
  have hx := B.exec
  have hb := B.bytes
  have hr := B.returns
  have hts := atoms_spec (ws := wsX0_areaStart) B.pre
  have hown : s.vm.findClass RX0 = some m.cls := findClass_of_methodNamed B.named
  have hlocks := B.notSynchronized
  obtain ⟨hd5, hN1, hN2, hw1, hw2, hn1, hn2, hsz, hsz2⟩ := hs_okf ok
  have hnw : nw = N * w := ok.2.2.2.2.1
  have hS : va_S (fun _ => False) s.heap s.heap [] := va_S.rf
  have hl := lv_entry ([.ref h0, .int (nI x1)]) (n := 2) (Nat.le_of_ble_eq_true rfl)
  rw [lg_entry_eq]
  generalize (lg_sl ([.ref h0, .int (nI x1)]) ++ List.replicate (2 - (lg_sl ([.ref h0, .int (nI x1)])).length) Slot.unset).toArray = ls at hl ⊢
  have hl : lv_has ls 2 [(0, .ref h0), (1, .int (nI x1))] := hl
  refine lv_iload_n hx hb dX0_areaStart_0 rfl (lv_at hl 1 rfl) ?_
  refine lv_aload_n hx hb dX0_areaStart_1 rfl (lv_at hl 0 rfl) ?_
  refine va_get (D := (dC, dI)) (ci := 0) (v := .int (nI sz)) (C := RX0) (T := TX0) (N := 12) hx hb hts (by decide +kernel) hown hK hP 0 rfl rfl 4 (by decide) (hts (.fieldLink RX0 31 "HashedStore" "areaCells" "I") (by decide +kernel)) (fun _ h9 => h9) rfl dX0_areaStart_2 ?_
  refine hs_mulN hx hb dX0_areaStart_5 ?_
  exact W.iret (v := nI (x1 * sz)) hx hb hr (fun t ht hW => ⟨⟨nI (x1 * sz), (), rfl, rfl, trivial⟩, hS.F ht⟩) hS.2.2 dX0_areaStart_6
set_option maxHeartbeats 4000000 in
set_option maxRecDepth 100000 in
theorem kX0_wordCell (l : Launch) (dC : Nat → ClassId) (dI : Nat → Nat → Nat) (h0 hd hp : Nat) (cA : ClassId) (d N w nw sz u : Nat) (F G : Nat → Int32) (kr dn lf : Int32) (dw : Bool) (ok : hs_ok d N w nw sz) (x1 x2 : Nat) : Met l yX0_wordCell wsX0_wordCell ({ frames := 0, cells := 0, slots := 0, locals := 0 }) (va_Pc [.ref h0, .int (nI x1), .int (nI x2)] (hs_pr (dC, dI) vwCl [(cA, .int)] [oX_ h0 hd hp d N w nw sz u kr dn lf dw])) (hs_Qp (fun r => r = nI (x1 * w + x2))) 0 0 (fun _ => False) := by
  refine Met.ofW (cc := cX0_wordCell) (maxL := 3) (ret := (some .int)) (by decide) rfl ?_
  intro p e s m args below meth c s₁ B hml hv
  obtain ⟨rfl, hP, hK⟩ := hv
  have hx := B.exec
  have hb := B.bytes
  have hr := B.returns
  have hts := atoms_spec (ws := wsX0_wordCell) B.pre
  have hown : s.vm.findClass RX0 = some m.cls := findClass_of_methodNamed B.named
  have hlocks := B.notSynchronized
  obtain ⟨hd5, hN1, hN2, hw1, hw2, hn1, hn2, hsz, hsz2⟩ := hs_okf ok
  have hnw : nw = N * w := ok.2.2.2.2.1
  have hS : va_S (fun _ => False) s.heap s.heap [] := va_S.rf
  have hl := lv_entry ([.ref h0, .int (nI x1), .int (nI x2)]) (n := 3) (Nat.le_of_ble_eq_true rfl)
  rw [lg_entry_eq]
  generalize (lg_sl ([.ref h0, .int (nI x1), .int (nI x2)]) ++ List.replicate (3 - (lg_sl ([.ref h0, .int (nI x1), .int (nI x2)])).length) Slot.unset).toArray = ls at hl ⊢
  have hl : lv_has ls 3 [(0, .ref h0), (1, .int (nI x1)), (2, .int (nI x2))] := hl
  refine lv_iload_n hx hb dX0_wordCell_0 rfl (lv_at hl 1 rfl) ?_
  refine lv_aload_n hx hb dX0_wordCell_1 rfl (lv_at hl 0 rfl) ?_
  refine va_get (D := (dC, dI)) (ci := 0) (v := .int (nI w)) (C := RX0) (T := TX0) (N := 12) hx hb hts (by decide +kernel) hown hK hP 0 rfl rfl 2 (by decide) (hts (.fieldLink RX0 22 "HashedStore" "wordsPerBlock" "I") (by decide +kernel)) (fun _ h9 => h9) rfl dX0_wordCell_2 ?_
  refine hs_mulN hx hb dX0_wordCell_5 ?_
  refine lv_iload_n hx hb dX0_wordCell_6 rfl (lv_at hl 2 rfl) ?_
  refine hs_addN hx hb dX0_wordCell_7 ?_
  exact W.iret (v := nI ((x1 * w) + x2)) hx hb hr (fun t ht hW => ⟨⟨nI ((x1 * w) + x2), (), rfl, rfl, trivial⟩, hS.F ht⟩) hS.2.2 dX0_wordCell_8
set_option maxHeartbeats 4000000 in
set_option maxRecDepth 100000 in
theorem kX0_nodeCell (l : Launch) (dC : Nat → ClassId) (dI : Nat → Nat → Nat) (h0 hd hp : Nat) (cA : ClassId) (d N w nw sz u : Nat) (F G : Nat → Int32) (kr dn lf : Int32) (dw : Bool) (ok : hs_ok d N w nw sz) (x1 : Nat) : Met l yX0_nodeCell wsX0_nodeCell ({ frames := 0, cells := 0, slots := 0, locals := 0 }) (va_Pc [.ref h0, .int (nI x1)] (hs_pr (dC, dI) vwCl [(cA, .int)] [oX_ h0 hd hp d N w nw sz u kr dn lf dw])) (hs_Qp (fun r => r = nI (nw + x1 - 1))) 0 0 (fun _ => False) := by
  refine Met.ofW (cc := cX0_nodeCell) (maxL := 2) (ret := (some .int)) (by decide) rfl ?_
  intro p e s m args below meth c s₁ B hml hv
  obtain ⟨rfl, hP, hK⟩ := hv
  have hx := B.exec
  have hb := B.bytes
  have hr := B.returns
  have hts := atoms_spec (ws := wsX0_nodeCell) B.pre
  have hown : s.vm.findClass RX0 = some m.cls := findClass_of_methodNamed B.named
  have hlocks := B.notSynchronized
  obtain ⟨hd5, hN1, hN2, hw1, hw2, hn1, hn2, hsz, hsz2⟩ := hs_okf ok
  have hnw : nw = N * w := ok.2.2.2.2.1
  have hS : va_S (fun _ => False) s.heap s.heap [] := va_S.rf
  have hl := lv_entry ([.ref h0, .int (nI x1)]) (n := 2) (Nat.le_of_ble_eq_true rfl)
  rw [lg_entry_eq]
  generalize (lg_sl ([.ref h0, .int (nI x1)]) ++ List.replicate (2 - (lg_sl ([.ref h0, .int (nI x1)])).length) Slot.unset).toArray = ls at hl ⊢
  have hl : lv_has ls 2 [(0, .ref h0), (1, .int (nI x1))] := hl
  refine lv_aload_n hx hb dX0_nodeCell_0 rfl (lv_at hl 0 rfl) ?_
  refine va_get (D := (dC, dI)) (ci := 0) (v := .int (nI nw)) (C := RX0) (T := TX0) (N := 12) hx hb hts (by decide +kernel) hown hK hP 0 rfl rfl 3 (by decide) (hts (.fieldLink RX0 28 "HashedStore" "areaWords" "I") (by decide +kernel)) (fun _ h9 => h9) rfl dX0_nodeCell_1 ?_
  refine lv_iload_n hx hb dX0_nodeCell_4 rfl (lv_at hl 1 rfl) ?_
  refine hs_addN hx hb dX0_nodeCell_5 ?_
  refine lv_iconst (v := nI 1) hx hb dX0_nodeCell_6 (by decide) ?_
  refine hs_subN hx hb (by omega) dX0_nodeCell_7 ?_
  exact W.iret (v := nI ((nw + x1) - 1)) hx hb hr (fun t ht hW => ⟨⟨nI ((nw + x1) - 1), (), rfl, rfl, trivial⟩, hS.F ht⟩) hS.2.2 dX0_nodeCell_8
set_option maxHeartbeats 4000000 in
set_option maxRecDepth 100000 in
theorem kX0_leafOf (l : Launch) (dC : Nat → ClassId) (dI : Nat → Nat → Nat) (h0 hd hp : Nat) (cA : ClassId) (d N w nw sz u : Nat) (F G : Nat → Int32) (kr dn lf : Int32) (dw : Bool) (ok : hs_ok d N w nw sz) (x1 : Nat) : Met l yX0_leafOf wsX0_leafOf ({ frames := 0, cells := 0, slots := 0, locals := 0 }) (va_Pc [.ref h0, .int (nI x1)] (hs_pr (dC, dI) vwCl [(cA, .int)] [oX_ h0 hd hp d N w nw sz u kr dn lf dw])) (hs_Qp (fun r => r = nI (N + x1))) 0 0 (fun _ => False) := by
  refine Met.ofW (cc := cX0_leafOf) (maxL := 2) (ret := (some .int)) (by decide) rfl ?_
  intro p e s m args below meth c s₁ B hml hv
  obtain ⟨rfl, hP, hK⟩ := hv
  have hx := B.exec
  have hb := B.bytes
  have hr := B.returns
  have hts := atoms_spec (ws := wsX0_leafOf) B.pre
  have hown : s.vm.findClass RX0 = some m.cls := findClass_of_methodNamed B.named
  have hlocks := B.notSynchronized
  obtain ⟨hd5, hN1, hN2, hw1, hw2, hn1, hn2, hsz, hsz2⟩ := hs_okf ok
  have hnw : nw = N * w := ok.2.2.2.2.1
  have hS : va_S (fun _ => False) s.heap s.heap [] := va_S.rf
  have hl := lv_entry ([.ref h0, .int (nI x1)]) (n := 2) (Nat.le_of_ble_eq_true rfl)
  rw [lg_entry_eq]
  generalize (lg_sl ([.ref h0, .int (nI x1)]) ++ List.replicate (2 - (lg_sl ([.ref h0, .int (nI x1)])).length) Slot.unset).toArray = ls at hl ⊢
  have hl : lv_has ls 2 [(0, .ref h0), (1, .int (nI x1))] := hl
  refine lv_aload_n hx hb dX0_leafOf_0 rfl (lv_at hl 0 rfl) ?_
  refine va_get (D := (dC, dI)) (ci := 0) (v := .int (nI N)) (C := RX0) (T := TX0) (N := 12) hx hb hts (by decide +kernel) hown hK hP 0 rfl rfl 1 (by decide) (hts (.fieldLink RX0 25 "HashedStore" "blockCount" "I") (by decide +kernel)) (fun _ h9 => h9) rfl dX0_leafOf_1 ?_
  refine lv_iload_n hx hb dX0_leafOf_4 rfl (lv_at hl 1 rfl) ?_
  refine hs_addN hx hb dX0_leafOf_5 ?_
  exact W.iret (v := nI (N + x1)) hx hb hr (fun t ht hW => ⟨⟨nI (N + x1), (), rfl, rfl, trivial⟩, hS.F ht⟩) hS.2.2 dX0_leafOf_6
set_option maxHeartbeats 4000000 in
set_option maxRecDepth 100000 in
theorem kX0_blockHash (l : Launch) (dC : Nat → ClassId) (dI : Nat → Nat → Nat) (h0 hd hp : Nat) (cA : ClassId) (d N w nw sz u : Nat) (F G : Nat → Int32) (kr dn lf : Int32) (dw : Bool) (ok : hs_ok d N w nw sz) (q qn : Nat) (f : Nat → Int32) (o j : Nat) (hj : j < N) (hq : o + nw ≤ qn) (hqn : qn < 2 ^ 31) : Met l yX0_blockHash wsX0_blockHash ({ frames := 1, cells := 0, slots := 0, locals := 22 }) (va_Pc [.ref h0, .ref q, .int (nI o), .int (nI j)] (hs_pr (dC, dI) vwCl [(cA, .int)] [oX_ h0 hd hp d N w nw sz u kr dn lf dw, ar_ q cA qn f])) (hs_Qp (fun r => r = hs_bl (fun x => f (o + x)) w (j * w) (nI j))) 0 0 (fun _ => False) := by
  refine Met.ofW (cc := cX0_blockHash) (maxL := 6) (ret := (some .int)) (by decide) rfl ?_
  intro p e s m args below meth c s₁ B hml hv
  obtain ⟨rfl, hP, hK⟩ := hv
  have hx := B.exec
  have hb := B.bytes
  have hr := B.returns
  have hts := atoms_spec (ws := wsX0_blockHash) B.pre
  have hown : s.vm.findClass RX0 = some m.cls := findClass_of_methodNamed B.named
  have hlocks := B.notSynchronized
  obtain ⟨hd5, hN1, hN2, hw1, hw2, hn1, hn2, hsz, hsz2⟩ := hs_okf ok
  have hnw : nw = N * w := ok.2.2.2.2.1
  have hS : va_S (fun _ => False) s.heap s.heap [] := va_S.rf
  have hl := lv_entry ([.ref h0, .ref q, .int (nI o), .int (nI j)]) (n := 6) (Nat.le_of_ble_eq_true rfl)
  rw [lg_entry_eq]
  generalize (lg_sl ([.ref h0, .ref q, .int (nI o), .int (nI j)]) ++ List.replicate (6 - (lg_sl ([.ref h0, .ref q, .int (nI o), .int (nI j)])).length) Slot.unset).toArray = ls at hl ⊢
  have hl : lv_has ls 6 [(0, .ref h0), (1, .ref q), (2, .int (nI o)), (3, .int (nI j))] := hl
  have hrow := hs_row ok hj
  refine lv_iload_n hx hb dX0_blockHash_0 rfl (lv_at hl 3 rfl) ?_
  refine lv_istore (lv' := [(4, .int (nI j)), (0, .ref h0), (1, .ref q), (2, .int (nI o)), (3, .int (nI j))]) hx hb dX0_blockHash_1 hl (by decide) rfl (fun ls hl => ?_)
  refine lv_iconst (v := nI 0) hx hb dX0_blockHash_3 (by decide) ?_
  refine lv_istore (lv' := [(5, .int (nI 0)), (4, .int (nI j)), (0, .ref h0), (1, .ref q), (2, .int (nI o)), (3, .int (nI j))]) hx hb dX0_blockHash_4 hl (by decide) rfl (fun ls hl => ?_)
  have loop : ∀ (n : Nat) (i : Nat) (h : Int32) (H : Heap) (locs : List Loc) (ls : Array Slot), (i + n = w) → (hs_bl (fun x => f (o + x)) n (j * w + i) h = hs_bl (fun x => f (o + x)) w (j * w) (nI j)) → va_P (dC, dI) vwCl [oX_ h0 hd hp d N w nw sz u kr dn lf dw, ar_ q cA qn f] H → va_S (fun _ => False) s.heap H locs → lv_has ls 6 [(5, .int (nI i)), (4, .int h), (0, .ref h0), (1, .ref q), (2, .int (nI o)), (3, .int (nI j))] → W p l e (headSpec wsX0_blockHash ({ frames := 1, cells := 0, slots := 0, locals := 22 })).room s m ([.ref h0, .ref q, .int (nI o), .int (nI j)] : List Value).toArray below meth c H locs 0 0 (MQ below (hs_Qp (fun r => r = hs_bl (fun x => f (o + x)) w (j * w) (nI j))) ([.ref h0, .ref q, .int (nI o), .int (nI j)] : List Value).toArray s 0 0 (fun _ => False)) (F0 m 6 ls []) := by
    intro n
    induction n with
    | zero =>
      intro i h H locs ls hi he hP hS hl
      refine lv_iload hx hb dX0_blockHash_6 (lv_at hl 0 rfl) ?_
      refine lv_aload_n hx hb dX0_blockHash_8 rfl (lv_at hl 2 rfl) ?_
      refine va_get (D := (dC, dI)) (ci := 0) (v := .int (nI w)) (C := RX0) (T := TX0) (N := 12) hx hb hts (by decide +kernel) hown hK hP 0 rfl rfl 2 (by decide) (hts (.fieldLink RX0 22 "HashedStore" "wordsPerBlock" "I") (by decide +kernel)) (fun _ h9 => h9) rfl dX0_blockHash_9 ?_
      refine hs_cge (tgt := 39) hx hb (by omega) (by omega) dX0_blockHash_12 (by decide) (fun c1 => ?_) (fun c1 => ?_)
      · refine lv_iload hx hb dX0_blockHash_39 (lv_at hl 1 rfl) ?_
        exact W.iret (v := h) hx hb hr (fun t ht hW => ⟨⟨h, (), rfl, he, trivial⟩, hS.F ht⟩) hS.2.2 dX0_blockHash_41
      · exact absurd c1 (by omega)
    | succ n ih =>
      intro i h H locs ls hi he hP hS hl
      refine lv_iload hx hb dX0_blockHash_6 (lv_at hl 0 rfl) ?_
      refine lv_aload_n hx hb dX0_blockHash_8 rfl (lv_at hl 2 rfl) ?_
      refine va_get (D := (dC, dI)) (ci := 0) (v := .int (nI w)) (C := RX0) (T := TX0) (N := 12) hx hb hts (by decide +kernel) hown hK hP 0 rfl rfl 2 (by decide) (hts (.fieldLink RX0 22 "HashedStore" "wordsPerBlock" "I") (by decide +kernel)) (fun _ h9 => h9) rfl dX0_blockHash_9 ?_
      refine hs_cge (tgt := 39) hx hb (by omega) (by omega) dX0_blockHash_12 (by decide) (fun c1 => ?_) (fun c1 => ?_)
      · exact absurd c1 (by omega)
      · refine lv_iload hx hb dX0_blockHash_15 (lv_at hl 1 rfl) ?_
        refine lv_aload_n hx hb dX0_blockHash_17 rfl (lv_at hl 3 rfl) ?_
        refine lv_iload_n hx hb dX0_blockHash_18 rfl (lv_at hl 4 rfl) ?_
        refine lv_aload_n hx hb dX0_blockHash_19 rfl (lv_at hl 2 rfl) ?_
        refine lv_iload_n hx hb dX0_blockHash_20 rfl (lv_at hl 5 rfl) ?_
        refine lv_iload hx hb dX0_blockHash_21 (lv_at hl 0 rfl) ?_
        refine hs_pe (v := nI (j * w + i)) (va_runV (As := [.int (nI j), .int (nI i)]) (rest := [.int (nI o), .ref q, .int h]) ⟨hx, hb, hml, hown, hts⟩ (kX0_wordCell l dC dI h0 hd hp cA d N w nw sz u F G kr dn lf dw ok j i) (cwV 2 hts gX0_blockHash_X0_wordCell rfl rfl rfl (by decide +kernel) ⟨(Nat.le_of_ble_eq_true rfl), (Nat.le_of_ble_eq_true rfl)⟩) (hs_preV (q := (RX0, TX0, 12)) (ci := 0) hK (hP.sub [0] rfl) rfl rfl) rfl rfl hl.1 rfl (lv_room (Nat.le_of_ble_eq_true rfl)) dX0_blockHash_23 ⟨Nat.zero_le _, Nat.zero_le _⟩) hS hP (fun H locs hP hS => ?_)
        refine hs_addN hx hb dX0_blockHash_26 ?_
        refine hs_ald hx hb hK hP 1 0 rfl rfl (k := o + (j * w + i)) (by omega) (by omega) dX0_blockHash_27 ?_
        refine hs_pe (v := hs_mx h (f (o + (j * w + i)))) (va_runS (As := [.int h, .int (f (o + (j * w + i)))]) (rest := []) ⟨hx, hb, hml, hown, hts⟩ (kX0_mix l h (f (o + (j * w + i)))) (va_cwS 2 hts gX0_blockHash_X0_mix rfl rfl rfl (by decide +kernel) ⟨(Nat.le_of_ble_eq_true rfl), (Nat.le_of_ble_eq_true rfl)⟩) hs_preT rfl rfl hl.1 rfl (lv_room (Nat.le_of_ble_eq_true rfl)) dX0_blockHash_28 ⟨Nat.zero_le _, Nat.zero_le _⟩) hS hP (fun H locs hP hS => ?_)
        refine lv_istore (lv' := [(4, .int (hs_mx h (f (o + (j * w + i))))), (5, .int (nI i)), (0, .ref h0), (1, .ref q), (2, .int (nI o)), (3, .int (nI j))]) hx hb dX0_blockHash_31 hl (by decide) rfl (fun ls hl => ?_)
        refine lv_iinc (v := nI (i + 1)) (lv' := [(5, .int (nI (i + 1))), (4, .int (hs_mx h (f (o + (j * w + i))))), (0, .ref h0), (1, .ref q), (2, .int (nI o)), (3, .int (nI j))]) hx hb dX0_blockHash_33 hl (k := 1) rfl (nI_1 _) (by decide) rfl (fun ls hl => ?_)
        refine lv_goto (tgt := 6) hx hb dX0_blockHash_36 (by decide) ?_
        exact ih (i + 1) _ H locs ls (by omega) he hP hS (lv_sub hl [0, 1, 2, 3, 4, 5] rfl)
  exact loop w 0 (nI j) _ _ ls (by omega) rfl hP hS (lv_sub hl [0, 1, 2, 3, 4, 5] rfl)
set_option maxHeartbeats 4000000 in
set_option maxRecDepth 100000 in
theorem kX0_hashOfSons (l : Launch) (dC : Nat → ClassId) (dI : Nat → Nat → Nat) (h0 hd hp : Nat) (cA : ClassId) (d N w nw sz u : Nat) (F G : Nat → Int32) (kr dn lf : Int32) (dw : Bool) (ok : hs_ok d N w nw sz) (q qn : Nat) (f : Nat → Int32) (x : Nat) (hq : nw + (2 * x + 1) - 1 < qn) (hqn : qn < 2 ^ 31) : Met l yX0_hashOfSons wsX0_hashOfSons ({ frames := 1, cells := 0, slots := 0, locals := 22 }) (va_Pc [.ref h0, .ref q, .int (nI x)] (hs_pr (dC, dI) vwCl [(cA, .int)] [oX_ h0 hd hp d N w nw sz u kr dn lf dw, ar_ q cA qn f])) (hs_Qp (fun r => r = hs_mx (f (nw + 2 * x - 1)) (f (nw + (2 * x + 1) - 1)))) 0 0 (fun _ => False) := by
  refine Met.ofW (cc := cX0_hashOfSons) (maxL := 3) (ret := (some .int)) (by decide) rfl ?_
  intro p e s m args below meth c s₁ B hml hv
  obtain ⟨rfl, hP, hK⟩ := hv
  have hx := B.exec
  have hb := B.bytes
  have hr := B.returns
  have hts := atoms_spec (ws := wsX0_hashOfSons) B.pre
  have hown : s.vm.findClass RX0 = some m.cls := findClass_of_methodNamed B.named
  have hlocks := B.notSynchronized
  obtain ⟨hd5, hN1, hN2, hw1, hw2, hn1, hn2, hsz, hsz2⟩ := hs_okf ok
  have hnw : nw = N * w := ok.2.2.2.2.1
  have hS : va_S (fun _ => False) s.heap s.heap [] := va_S.rf
  have hl := lv_entry ([.ref h0, .ref q, .int (nI x)]) (n := 3) (Nat.le_of_ble_eq_true rfl)
  rw [lg_entry_eq]
  generalize (lg_sl ([.ref h0, .ref q, .int (nI x)]) ++ List.replicate (3 - (lg_sl ([.ref h0, .ref q, .int (nI x)])).length) Slot.unset).toArray = ls at hl ⊢
  have hl : lv_has ls 3 [(0, .ref h0), (1, .ref q), (2, .int (nI x))] := hl
  refine lv_aload_n hx hb dX0_hashOfSons_0 rfl (lv_at hl 1 rfl) ?_
  refine lv_aload_n hx hb dX0_hashOfSons_1 rfl (lv_at hl 0 rfl) ?_
  refine lv_iconst (v := nI 2) hx hb dX0_hashOfSons_2 (by decide) ?_
  refine lv_iload_n hx hb dX0_hashOfSons_3 rfl (lv_at hl 2 rfl) ?_
  refine hs_mulN hx hb dX0_hashOfSons_4 ?_
  refine hs_pe (v := nI (nw + 2 * x - 1)) (va_runV (As := [.int (nI (2 * x))]) (rest := [.ref q]) ⟨hx, hb, hml, hown, hts⟩ (kX0_nodeCell l dC dI h0 hd hp cA d N w nw sz u F G kr dn lf dw ok (2 * x)) (cwV 1 hts gX0_hashOfSons_X0_nodeCell rfl rfl rfl (by decide +kernel) ⟨(Nat.le_of_ble_eq_true rfl), (Nat.le_of_ble_eq_true rfl)⟩) (hs_preV (q := (RX0, TX0, 12)) (ci := 0) hK (hP.sub [0] rfl) rfl rfl) rfl rfl hl.1 rfl (lv_room (Nat.le_of_ble_eq_true rfl)) dX0_hashOfSons_5 ⟨Nat.zero_le _, Nat.zero_le _⟩) hS hP (fun H locs hP hS => ?_)
  refine hs_ald hx hb hK hP 1 0 rfl rfl (k := nw + 2 * x - 1) (by omega) (by omega) dX0_hashOfSons_8 ?_
  refine lv_aload_n hx hb dX0_hashOfSons_9 rfl (lv_at hl 1 rfl) ?_
  refine lv_aload_n hx hb dX0_hashOfSons_10 rfl (lv_at hl 0 rfl) ?_
  refine lv_iconst (v := nI 2) hx hb dX0_hashOfSons_11 (by decide) ?_
  refine lv_iload_n hx hb dX0_hashOfSons_12 rfl (lv_at hl 2 rfl) ?_
  refine hs_mulN hx hb dX0_hashOfSons_13 ?_
  refine lv_iconst (v := nI 1) hx hb dX0_hashOfSons_14 (by decide) ?_
  refine hs_addN hx hb dX0_hashOfSons_15 ?_
  refine hs_pe (v := nI (nw + (2 * x + 1) - 1)) (va_runV (As := [.int (nI ((2 * x) + 1))]) (rest := [.ref q, .int (f (nw + 2 * x - 1))]) ⟨hx, hb, hml, hown, hts⟩ (kX0_nodeCell l dC dI h0 hd hp cA d N w nw sz u F G kr dn lf dw ok (2 * x + 1)) (cwV 1 hts gX0_hashOfSons_X0_nodeCell rfl rfl rfl (by decide +kernel) ⟨(Nat.le_of_ble_eq_true rfl), (Nat.le_of_ble_eq_true rfl)⟩) (hs_preV (q := (RX0, TX0, 12)) (ci := 0) hK (hP.sub [0] rfl) rfl rfl) rfl rfl hl.1 rfl (lv_room (Nat.le_of_ble_eq_true rfl)) dX0_hashOfSons_16 ⟨Nat.zero_le _, Nat.zero_le _⟩) hS hP (fun H locs hP hS => ?_)
  refine hs_ald hx hb hK hP 1 0 rfl rfl (k := nw + (2 * x + 1) - 1) (by omega) (by omega) dX0_hashOfSons_19 ?_
  refine hs_pe (v := hs_mx (f (nw + 2 * x - 1)) (f (nw + (2 * x + 1) - 1))) (va_runS (As := [.int (f (nw + 2 * x - 1)), .int (f (nw + (2 * x + 1) - 1))]) (rest := []) ⟨hx, hb, hml, hown, hts⟩ (kX0_mix l _ _) (va_cwS 2 hts gX0_hashOfSons_X0_mix rfl rfl rfl (by decide +kernel) ⟨(Nat.le_of_ble_eq_true rfl), (Nat.le_of_ble_eq_true rfl)⟩) hs_preT rfl rfl hl.1 rfl (lv_room (Nat.le_of_ble_eq_true rfl)) dX0_hashOfSons_20 ⟨Nat.zero_le _, Nat.zero_le _⟩) hS hP (fun H locs hP hS => ?_)
  exact W.iret (v := hs_mx (f (nw + 2 * x - 1)) (f (nw + (2 * x + 1) - 1))) hx hb hr (fun t ht hW => ⟨⟨hs_mx (f (nw + 2 * x - 1)) (f (nw + (2 * x + 1) - 1)), (), rfl, rfl, trivial⟩, hS.F ht⟩) hS.2.2 dX0_hashOfSons_23
set_option maxHeartbeats 4000000 in
set_option maxRecDepth 100000 in
theorem kX0_hasWordBelowZero (l : Launch) (dC : Nat → ClassId) (dI : Nat → Nat → Nat) (h0 hd hp : Nat) (cA : ClassId) (d N w nw sz u : Nat) (F G : Nat → Int32) (kr dn lf : Int32) (dw : Bool) (ok : hs_ok d N w nw sz) (o j : Nat) (hj : j < N) (ho : o + nw ≤ 2 * sz) : Met l yX0_hasWordBelowZero wsX0_hasWordBelowZero ({ frames := 1, cells := 0, slots := 0, locals := 22 }) (va_Pc [.ref h0, .int (nI o), .int (nI j)] (hs_pr (dC, dI) vwCl [(cA, .int)] [oX_ h0 hd hp d N w nw sz u kr dn lf dw, ar_ hd cA (2 * sz) F])) (hs_Qp (fun r => r = hs_b (hs_ng (fun x => F (o + x)) w (j * w)))) 0 0 (fun _ => False) := by
  refine Met.ofW (cc := cX0_hasWordBelowZero) (maxL := 4) (ret := (some .boolean)) (by decide) rfl ?_
  intro p e s m args below meth c s₁ B hml hv
  obtain ⟨rfl, hP, hK⟩ := hv
  have hx := B.exec
  have hb := B.bytes
  have hr := B.returns
  have hts := atoms_spec (ws := wsX0_hasWordBelowZero) B.pre
  have hown : s.vm.findClass RX0 = some m.cls := findClass_of_methodNamed B.named
  have hlocks := B.notSynchronized
  obtain ⟨hd5, hN1, hN2, hw1, hw2, hn1, hn2, hsz, hsz2⟩ := hs_okf ok
  have hnw : nw = N * w := ok.2.2.2.2.1
  have hS : va_S (fun _ => False) s.heap s.heap [] := va_S.rf
  have hl := lv_entry ([.ref h0, .int (nI o), .int (nI j)]) (n := 4) (Nat.le_of_ble_eq_true rfl)
  rw [lg_entry_eq]
  generalize (lg_sl ([.ref h0, .int (nI o), .int (nI j)]) ++ List.replicate (4 - (lg_sl ([.ref h0, .int (nI o), .int (nI j)])).length) Slot.unset).toArray = ls at hl ⊢
  have hl : lv_has ls 4 [(0, .ref h0), (1, .int (nI o)), (2, .int (nI j))] := hl
  have hrow := hs_row ok hj
  refine lv_iconst (v := nI 0) hx hb dX0_hasWordBelowZero_0 (by decide) ?_
  refine lv_istore_n (lv' := [(3, .int (nI 0)), (0, .ref h0), (1, .int (nI o)), (2, .int (nI j))]) hx hb dX0_hasWordBelowZero_1 rfl hl (by decide) rfl (fun ls hl => ?_)
  have loop : ∀ (n : Nat) (i : Nat) (H : Heap) (locs : List Loc) (ls : Array Slot), (i + n = w) → (hs_ng (fun x => F (o + x)) n (j * w + i) = hs_ng (fun x => F (o + x)) w (j * w)) → va_P (dC, dI) vwCl [oX_ h0 hd hp d N w nw sz u kr dn lf dw, ar_ hd cA (2 * sz) F] H → va_S (fun _ => False) s.heap H locs → lv_has ls 4 [(3, .int (nI i)), (0, .ref h0), (1, .int (nI o)), (2, .int (nI j))] → W p l e (headSpec wsX0_hasWordBelowZero ({ frames := 1, cells := 0, slots := 0, locals := 22 })).room s m ([.ref h0, .int (nI o), .int (nI j)] : List Value).toArray below meth c H locs 0 0 (MQ below (hs_Qp (fun r => r = hs_b (hs_ng (fun x => F (o + x)) w (j * w)))) ([.ref h0, .int (nI o), .int (nI j)] : List Value).toArray s 0 0 (fun _ => False)) (F0 m 2 ls []) := by
    intro n
    induction n with
    | zero =>
      intro i H locs ls hi he hP hS hl
      refine lv_iload_n hx hb dX0_hasWordBelowZero_2 rfl (lv_at hl 0 rfl) ?_
      refine lv_aload_n hx hb dX0_hasWordBelowZero_3 rfl (lv_at hl 1 rfl) ?_
      refine va_get (D := (dC, dI)) (ci := 0) (v := .int (nI w)) (C := RX0) (T := TX0) (N := 12) hx hb hts (by decide +kernel) hown hK hP 0 rfl rfl 2 (by decide) (hts (.fieldLink RX0 22 "HashedStore" "wordsPerBlock" "I") (by decide +kernel)) (fun _ h9 => h9) rfl dX0_hasWordBelowZero_4 ?_
      refine hs_cge (tgt := 34) hx hb (by omega) (by omega) dX0_hasWordBelowZero_7 (by decide) (fun c1 => ?_) (fun c1 => ?_)
      · refine lv_iconst (v := nI 0) hx hb dX0_hasWordBelowZero_34 (by decide) ?_
        exact W.zret (v := nI 0) hx hb hr rfl (fun t ht hW => ⟨⟨nI 0, (), rfl, (by rw [← he]; rfl), trivial⟩, hS.F ht⟩) hS.2.2 dX0_hasWordBelowZero_35
      · exact absurd c1 (by omega)
    | succ n ih =>
      intro i H locs ls hi he hP hS hl
      refine lv_iload_n hx hb dX0_hasWordBelowZero_2 rfl (lv_at hl 0 rfl) ?_
      refine lv_aload_n hx hb dX0_hasWordBelowZero_3 rfl (lv_at hl 1 rfl) ?_
      refine va_get (D := (dC, dI)) (ci := 0) (v := .int (nI w)) (C := RX0) (T := TX0) (N := 12) hx hb hts (by decide +kernel) hown hK hP 0 rfl rfl 2 (by decide) (hts (.fieldLink RX0 22 "HashedStore" "wordsPerBlock" "I") (by decide +kernel)) (fun _ h9 => h9) rfl dX0_hasWordBelowZero_4 ?_
      refine hs_cge (tgt := 34) hx hb (by omega) (by omega) dX0_hasWordBelowZero_7 (by decide) (fun c1 => ?_) (fun c1 => ?_)
      · exact absurd c1 (by omega)
      · refine lv_aload_n hx hb dX0_hasWordBelowZero_10 rfl (lv_at hl 1 rfl) ?_
        refine va_get (D := (dC, dI)) (ci := 0) (v := .ref hd) (C := RX0) (T := TX0) (N := 12) hx hb hts (by decide +kernel) hown hK hP 0 rfl rfl 5 (by decide) (hts (.fieldLink RX0 34 "HashedStore" "disk" "[I") (by decide +kernel)) (fun _ h9 => h9) rfl dX0_hasWordBelowZero_11 ?_
        refine lv_iload_n hx hb dX0_hasWordBelowZero_14 rfl (lv_at hl 2 rfl) ?_
        refine lv_aload_n hx hb dX0_hasWordBelowZero_15 rfl (lv_at hl 1 rfl) ?_
        refine lv_iload_n hx hb dX0_hasWordBelowZero_16 rfl (lv_at hl 3 rfl) ?_
        refine lv_iload_n hx hb dX0_hasWordBelowZero_17 rfl (lv_at hl 0 rfl) ?_
        refine hs_pe (v := nI (j * w + i)) (va_runV (As := [.int (nI j), .int (nI i)]) (rest := [.int (nI o), .ref hd]) ⟨hx, hb, hml, hown, hts⟩ (kX0_wordCell l dC dI h0 hd hp cA d N w nw sz u F G kr dn lf dw ok j i) (cwV 2 hts gX0_hasWordBelowZero_X0_wordCell rfl rfl rfl (by decide +kernel) ⟨(Nat.le_of_ble_eq_true rfl), (Nat.le_of_ble_eq_true rfl)⟩) (hs_preV (q := (RX0, TX0, 12)) (ci := 0) hK (hP.sub [0] rfl) rfl rfl) rfl rfl hl.1 rfl (lv_room (Nat.le_of_ble_eq_true rfl)) dX0_hasWordBelowZero_18 ⟨Nat.zero_le _, Nat.zero_le _⟩) hS hP (fun H locs hP hS => ?_)
        refine hs_addN hx hb dX0_hasWordBelowZero_21 ?_
        refine hs_ald hx hb hK hP 1 0 rfl rfl (k := o + (j * w + i)) (by omega) (by omega) dX0_hasWordBelowZero_22 ?_
        refine lv_if_ge (tgt := 28) hx hb dX0_hasWordBelowZero_23 (by decide) (fun c2 => ?_) (fun c2 => ?_)
        · refine lv_iinc (v := nI (i + 1)) (lv' := [(3, .int (nI (i + 1))), (0, .ref h0), (1, .int (nI o)), (2, .int (nI j))]) hx hb dX0_hasWordBelowZero_28 hl (k := 0) rfl (nI_1 _) (by decide) rfl (fun ls hl => ?_)
          refine lv_goto (tgt := 2) hx hb dX0_hasWordBelowZero_31 (by decide) ?_
          exact ih (i + 1) H locs ls (by omega) ((if_neg (Int32.not_lt.mpr c2)).symm.trans he) hP hS (lv_sub hl [0, 1, 2, 3] rfl)
        · refine lv_iconst (v := nI 1) hx hb dX0_hasWordBelowZero_26 (by decide) ?_
          exact W.zret (v := nI 1) hx hb hr rfl (fun t ht hW => ⟨⟨nI 1, (), rfl, (by rw [← he]; show _ = hs_b (if F (o + (j * w + i)) < 0 then true else _); rw [if_pos (Int32.not_le.mp c2)]; rfl), trivial⟩, hS.F ht⟩) hS.2.2 dX0_hasWordBelowZero_27
  exact loop w 0 _ _ ls (by omega) rfl hP hS (lv_sub hl [0, 1, 2, 3] rfl)
set_option maxHeartbeats 4000000 in
set_option maxRecDepth 100000 in
theorem kX0_rootByWayOf (l : Launch) (dC : Nat → ClassId) (dI : Nat → Nat → Nat) (h0 hd hp : Nat) (cA : ClassId) (d N w nw sz u : Nat) (F G : Nat → Int32) (kr dn lf : Int32) (dw : Bool) (ok : hs_ok d N w nw sz) (o j : Nat) (hj : j < N) (ho : o + sz ≤ 2 * sz) : Met l yX0_rootByWayOf wsX0_rootByWayOf ({ frames := 2, cells := 0, slots := 0, locals := 47 }) (va_Pc [.ref h0, .int (nI o), .int (nI j)] (hs_pr (dC, dI) vwCl [(cA, .int)] [oX_ h0 hd hp d N w nw sz u kr dn lf dw, ar_ hd cA (2 * sz) F])) (hs_Qp (fun r => r = hs_rt d N w nw (fun x => F (o + x)) j)) 0 0 (fun _ => False) := by
  refine Met.ofW (cc := cX0_rootByWayOf) (maxL := 8) (ret := (some .int)) (by decide) rfl ?_
  intro p e s m args below meth c s₁ B hml hv
  obtain ⟨rfl, hP, hK⟩ := hv
  have hx := B.exec
  have hb := B.bytes
  have hr := B.returns
  have hts := atoms_spec (ws := wsX0_rootByWayOf) B.pre
  have hown : s.vm.findClass RX0 = some m.cls := findClass_of_methodNamed B.named
  have hlocks := B.notSynchronized
  obtain ⟨hd5, hN1, hN2, hw1, hw2, hn1, hn2, hsz, hsz2⟩ := hs_okf ok
  have hnw : nw = N * w := ok.2.2.2.2.1
  have hS : va_S (fun _ => False) s.heap s.heap [] := va_S.rf
  have hl := lv_entry ([.ref h0, .int (nI o), .int (nI j)]) (n := 8) (Nat.le_of_ble_eq_true rfl)
  rw [lg_entry_eq]
  generalize (lg_sl ([.ref h0, .int (nI o), .int (nI j)]) ++ List.replicate (8 - (lg_sl ([.ref h0, .int (nI o), .int (nI j)])).length) Slot.unset).toArray = ls at hl ⊢
  have hl : lv_has ls 8 [(0, .ref h0), (1, .int (nI o)), (2, .int (nI j))] := hl
  refine lv_aload_n hx hb dX0_rootByWayOf_0 rfl (lv_at hl 0 rfl) ?_
  refine lv_aload_n hx hb dX0_rootByWayOf_1 rfl (lv_at hl 0 rfl) ?_
  refine va_get (D := (dC, dI)) (ci := 0) (v := .ref hd) (C := RX0) (T := TX0) (N := 12) hx hb hts (by decide +kernel) hown hK hP 0 rfl rfl 5 (by decide) (hts (.fieldLink RX0 34 "HashedStore" "disk" "[I") (by decide +kernel)) (fun _ h9 => h9) rfl dX0_rootByWayOf_2 ?_
  refine lv_iload_n hx hb dX0_rootByWayOf_5 rfl (lv_at hl 1 rfl) ?_
  refine lv_iload_n hx hb dX0_rootByWayOf_6 rfl (lv_at hl 2 rfl) ?_
  refine hs_pe (v := hs_bl (fun x => F (o + x)) w (j * w) (nI j)) (va_runV (As := [.ref hd, .int (nI o), .int (nI j)]) (rest := []) ⟨hx, hb, hml, hown, hts⟩ (kX0_blockHash l dC dI h0 hd hp cA d N w nw sz u F G kr dn lf dw ok hd (2 * sz) F o j hj (by omega) (by omega)) (cwV 3 hts gX0_rootByWayOf_X0_blockHash rfl rfl rfl (by decide +kernel) ⟨(Nat.le_of_ble_eq_true rfl), (Nat.le_of_ble_eq_true rfl)⟩) (hs_preV (q := (RX0, TX0, 12)) (ci := 0) hK hP rfl rfl) rfl rfl hl.1 rfl (lv_room (Nat.le_of_ble_eq_true rfl)) dX0_rootByWayOf_7 ⟨Nat.zero_le _, Nat.zero_le _⟩) hS hP (fun H locs hP hS => ?_)
  refine lv_istore_n (lv' := [(3, .int (hs_bl (fun x => F (o + x)) w (j * w) (nI j))), (0, .ref h0), (1, .int (nI o)), (2, .int (nI j))]) hx hb dX0_rootByWayOf_10 rfl hl (by decide) rfl (fun ls hl => ?_)
  refine lv_aload_n hx hb dX0_rootByWayOf_11 rfl (lv_at hl 1 rfl) ?_
  refine lv_iload_n hx hb dX0_rootByWayOf_12 rfl (lv_at hl 3 rfl) ?_
  refine hs_pe (v := nI (N + j)) (va_runV (As := [.int (nI j)]) (rest := []) ⟨hx, hb, hml, hown, hts⟩ (kX0_leafOf l dC dI h0 hd hp cA d N w nw sz u F G kr dn lf dw ok j) (cwV 1 hts gX0_rootByWayOf_X0_leafOf rfl rfl rfl (by decide +kernel) ⟨(Nat.le_of_ble_eq_true rfl), (Nat.le_of_ble_eq_true rfl)⟩) (hs_preV (q := (RX0, TX0, 12)) (ci := 0) hK (hP.sub [0] rfl) rfl rfl) rfl rfl hl.1 rfl (lv_room (Nat.le_of_ble_eq_true rfl)) dX0_rootByWayOf_13 ⟨Nat.zero_le _, Nat.zero_le _⟩) hS hP (fun H locs hP hS => ?_)
  refine lv_istore (lv' := [(4, .int (nI (N + j))), (3, .int (hs_bl (fun x => F (o + x)) w (j * w) (nI j))), (0, .ref h0), (1, .int (nI o)), (2, .int (nI j))]) hx hb dX0_rootByWayOf_16 hl (by decide) rfl (fun ls hl => ?_)
  refine lv_iconst (v := nI 0) hx hb dX0_rootByWayOf_18 (by decide) ?_
  refine lv_istore (lv' := [(5, .int (nI 0)), (4, .int (nI (N + j))), (3, .int (hs_bl (fun x => F (o + x)) w (j * w) (nI j))), (0, .ref h0), (1, .int (nI o)), (2, .int (nI j))]) hx hb dX0_rootByWayOf_19 hl (by decide) rfl (fun ls hl => ?_)
  have loop : ∀ (n : Nat) (i kk : Nat) (h : Int32) (H : Heap) (locs : List Loc) (ls : Array Slot), (i + n = d) → (hs_lv n kk) → (kk < 2 * N) → (hs_up nw (fun x => F (o + x)) n kk h = hs_rt d N w nw (fun x => F (o + x)) j) → va_P (dC, dI) vwCl [oX_ h0 hd hp d N w nw sz u kr dn lf dw, ar_ hd cA (2 * sz) F] H → va_S (fun _ => False) s.heap H locs → lv_has ls 8 [(5, .int (nI i)), (4, .int (nI kk)), (3, .int h), (0, .ref h0), (1, .int (nI o)), (2, .int (nI j))] → W p l e (headSpec wsX0_rootByWayOf ({ frames := 2, cells := 0, slots := 0, locals := 47 })).room s m ([.ref h0, .int (nI o), .int (nI j)] : List Value).toArray below meth c H locs 0 0 (MQ below (hs_Qp (fun r => r = hs_rt d N w nw (fun x => F (o + x)) j)) ([.ref h0, .int (nI o), .int (nI j)] : List Value).toArray s 0 0 (fun _ => False)) (F0 m 21 ls []) := by
    intro n
    induction n with
    | zero =>
      intro i kk h H locs ls hi hlv hk2 he hP hS hl
      refine lv_iload hx hb dX0_rootByWayOf_21 (lv_at hl 0 rfl) ?_
      refine lv_aload_n hx hb dX0_rootByWayOf_23 rfl (lv_at hl 3 rfl) ?_
      refine va_get (D := (dC, dI)) (ci := 0) (v := .int (nI d)) (C := RX0) (T := TX0) (N := 12) hx hb hts (by decide +kernel) hown hK hP 0 rfl rfl 0 (by decide) (hts (.fieldLink RX0 18 "HashedStore" "treeDepth" "I") (by decide +kernel)) (fun _ h9 => h9) rfl dX0_rootByWayOf_24 ?_
      refine hs_cge (tgt := 106) hx hb (by omega) (by omega) dX0_rootByWayOf_27 (by decide) (fun c1 => ?_) (fun c1 => ?_)
      · refine lv_iload_n hx hb dX0_rootByWayOf_106 rfl (lv_at hl 2 rfl) ?_
        exact W.iret (v := h) hx hb hr (fun t ht hW => ⟨⟨h, (), rfl, he, trivial⟩, hS.F ht⟩) hS.2.2 dX0_rootByWayOf_107
      · exact absurd c1 (by omega)
    | succ n ih =>
      intro i kk h H locs ls hi hlv hk2 he hP hS hl
      obtain ⟨hlv1, hk1⟩ := hs_lv_s hlv
      refine lv_iload hx hb dX0_rootByWayOf_21 (lv_at hl 0 rfl) ?_
      refine lv_aload_n hx hb dX0_rootByWayOf_23 rfl (lv_at hl 3 rfl) ?_
      refine va_get (D := (dC, dI)) (ci := 0) (v := .int (nI d)) (C := RX0) (T := TX0) (N := 12) hx hb hts (by decide +kernel) hown hK hP 0 rfl rfl 0 (by decide) (hts (.fieldLink RX0 18 "HashedStore" "treeDepth" "I") (by decide +kernel)) (fun _ h9 => h9) rfl dX0_rootByWayOf_24 ?_
      refine hs_cge (tgt := 106) hx hb (by omega) (by omega) dX0_rootByWayOf_27 (by decide) (fun c1 => ?_) (fun c1 => ?_)
      · exact absurd c1 (by omega)
      · refine lv_iload hx hb dX0_rootByWayOf_30 (lv_at hl 1 rfl) ?_
        refine lv_iconst (v := nI 2) hx hb dX0_rootByWayOf_32 (by decide) ?_
        refine hs_remN hx hb (by omega) (by omega) (by omega) dX0_rootByWayOf_33 ?_
        refine hs_zne (tgt := 41) hx hb (by omega) dX0_rootByWayOf_34 (by decide) (fun c2 => ?_) (fun c2 => ?_)
        · refine lv_iconst (v := hs_b false) hx hb dX0_rootByWayOf_41 (by decide) ?_
          refine lv_istore (lv' := [(6, .int (hs_b false)), (5, .int (nI i)), (4, .int (nI kk)), (3, .int h), (0, .ref h0), (1, .int (nI o)), (2, .int (nI j))]) hx hb dX0_rootByWayOf_42 hl (by decide) rfl (fun ls hl => ?_)
          refine lv_aload_n hx hb dX0_rootByWayOf_44 rfl (lv_at hl 4 rfl) ?_
          refine va_get (D := (dC, dI)) (ci := 0) (v := .ref hd) (C := RX0) (T := TX0) (N := 12) hx hb hts (by decide +kernel) hown hK hP 0 rfl rfl 5 (by decide) (hts (.fieldLink RX0 34 "HashedStore" "disk" "[I") (by decide +kernel)) (fun _ h9 => h9) rfl dX0_rootByWayOf_45 ?_
          refine lv_iload_n hx hb dX0_rootByWayOf_48 rfl (lv_at hl 5 rfl) ?_
          refine lv_aload_n hx hb dX0_rootByWayOf_49 rfl (lv_at hl 4 rfl) ?_
          refine lv_iload hx hb dX0_rootByWayOf_50 (lv_at hl 0 rfl) ?_
          refine hs_beq (tgt := 62) hx hb dX0_rootByWayOf_52 (by decide) (fun c3 => ?_) (fun c3 => ?_)
          · refine lv_iload hx hb dX0_rootByWayOf_62 (lv_at hl 2 rfl) ?_
            refine lv_iconst (v := nI 1) hx hb dX0_rootByWayOf_64 (by decide) ?_
            refine hs_subN hx hb (by omega) dX0_rootByWayOf_65 ?_
            refine hs_pe (v := nI (nw + (kk - 1) - 1)) (va_runV (As := [.int (nI (kk - 1))]) (rest := [.int (nI o), .ref hd]) ⟨hx, hb, hml, hown, hts⟩ (kX0_nodeCell l dC dI h0 hd hp cA d N w nw sz u F G kr dn lf dw ok (kk - 1)) (cwV 1 hts gX0_rootByWayOf_X0_nodeCell rfl rfl rfl (by decide +kernel) ⟨(Nat.le_of_ble_eq_true rfl), (Nat.le_of_ble_eq_true rfl)⟩) (hs_preV (q := (RX0, TX0, 12)) (ci := 0) hK (hP.sub [0] rfl) rfl rfl) rfl rfl hl.1 rfl (lv_room (Nat.le_of_ble_eq_true rfl)) dX0_rootByWayOf_66 ⟨Nat.zero_le _, Nat.zero_le _⟩) hS hP (fun H locs hP hS => ?_)
            refine hs_addN hx hb dX0_rootByWayOf_69 ?_
            refine hs_ald hx hb hK hP 1 0 rfl rfl (k := o + (nw + (kk - 1) - 1)) (by omega) (by omega) dX0_rootByWayOf_70 ?_
            refine lv_istore (lv' := [(7, .int (F (o + (nw + (kk - 1) - 1)))), (6, .int (hs_b false)), (5, .int (nI i)), (4, .int (nI kk)), (3, .int h), (0, .ref h0), (1, .int (nI o)), (2, .int (nI j))]) hx hb dX0_rootByWayOf_71 hl (by decide) rfl (fun ls hl => ?_)
            refine lv_iload hx hb dX0_rootByWayOf_73 (lv_at hl 1 rfl) ?_
            refine hs_beq (tgt := 87) hx hb dX0_rootByWayOf_75 (by decide) (fun c4 => ?_) (fun c4 => ?_)
            · refine lv_iload hx hb dX0_rootByWayOf_87 (lv_at hl 0 rfl) ?_
              refine lv_iload_n hx hb dX0_rootByWayOf_89 rfl (lv_at hl 4 rfl) ?_
              refine hs_pe (v := hs_mx (F (o + (nw + (kk - 1) - 1))) h) (va_runS (As := [.int (F (o + (nw + (kk - 1) - 1))), .int h]) (rest := []) ⟨hx, hb, hml, hown, hts⟩ (kX0_mix l _ _) (va_cwS 2 hts gX0_rootByWayOf_X0_mix rfl rfl rfl (by decide +kernel) ⟨(Nat.le_of_ble_eq_true rfl), (Nat.le_of_ble_eq_true rfl)⟩) hs_preT rfl rfl hl.1 rfl (lv_room (Nat.le_of_ble_eq_true rfl)) dX0_rootByWayOf_90 ⟨Nat.zero_le _, Nat.zero_le _⟩) hS hP (fun H locs hP hS => ?_)
              refine lv_istore_n (lv' := [(3, .int (hs_mx (F (o + (nw + (kk - 1) - 1))) h)), (7, .int (F (o + (nw + (kk - 1) - 1)))), (6, .int (hs_b false)), (5, .int (nI i)), (4, .int (nI kk)), (0, .ref h0), (1, .int (nI o)), (2, .int (nI j))]) hx hb dX0_rootByWayOf_93 rfl hl (by decide) rfl (fun ls hl => ?_)
              refine lv_iload hx hb dX0_rootByWayOf_94 (lv_at hl 4 rfl) ?_
              refine lv_iconst (v := nI 2) hx hb dX0_rootByWayOf_96 (by decide) ?_
              refine hs_divN hx hb (by omega) (by omega) (by omega) dX0_rootByWayOf_97 ?_
              refine lv_istore (lv' := [(4, .int (nI (kk / 2))), (3, .int (hs_mx (F (o + (nw + (kk - 1) - 1))) h)), (7, .int (F (o + (nw + (kk - 1) - 1)))), (6, .int (hs_b false)), (5, .int (nI i)), (0, .ref h0), (1, .int (nI o)), (2, .int (nI j))]) hx hb dX0_rootByWayOf_98 hl (by decide) rfl (fun ls hl => ?_)
              refine lv_iinc (v := nI (i + 1)) (lv' := [(5, .int (nI (i + 1))), (4, .int (nI (kk / 2))), (3, .int (hs_mx (F (o + (nw + (kk - 1) - 1))) h)), (7, .int (F (o + (nw + (kk - 1) - 1)))), (6, .int (hs_b false)), (0, .ref h0), (1, .int (nI o)), (2, .int (nI j))]) hx hb dX0_rootByWayOf_100 hl (k := 4) rfl (nI_1 _) (by decide) rfl (fun ls hl => ?_)
              refine lv_goto (tgt := 21) hx hb dX0_rootByWayOf_103 (by decide) ?_
              exact ih (i + 1) (kk / 2) _ H locs ls (by omega) hlv1 (by omega) (by rw [← he]; show _ = hs_up nw _ n (kk / 2) (hs_st nw _ kk h); unfold hs_st; rw [if_neg c2]) hP hS (lv_sub hl [0, 1, 2, 5, 6, 7] rfl)
            · exact absurd c4 (by decide)
          · exact absurd c3 (by decide)
        · refine lv_iconst (v := hs_b true) hx hb dX0_rootByWayOf_37 (by decide) ?_
          refine lv_goto (tgt := 42) hx hb dX0_rootByWayOf_38 (by decide) ?_
          refine lv_istore (lv' := [(6, .int (hs_b true)), (5, .int (nI i)), (4, .int (nI kk)), (3, .int h), (0, .ref h0), (1, .int (nI o)), (2, .int (nI j))]) hx hb dX0_rootByWayOf_42 hl (by decide) rfl (fun ls hl => ?_)
          refine lv_aload_n hx hb dX0_rootByWayOf_44 rfl (lv_at hl 4 rfl) ?_
          refine va_get (D := (dC, dI)) (ci := 0) (v := .ref hd) (C := RX0) (T := TX0) (N := 12) hx hb hts (by decide +kernel) hown hK hP 0 rfl rfl 5 (by decide) (hts (.fieldLink RX0 34 "HashedStore" "disk" "[I") (by decide +kernel)) (fun _ h9 => h9) rfl dX0_rootByWayOf_45 ?_
          refine lv_iload_n hx hb dX0_rootByWayOf_48 rfl (lv_at hl 5 rfl) ?_
          refine lv_aload_n hx hb dX0_rootByWayOf_49 rfl (lv_at hl 4 rfl) ?_
          refine lv_iload hx hb dX0_rootByWayOf_50 (lv_at hl 0 rfl) ?_
          refine hs_beq (tgt := 62) hx hb dX0_rootByWayOf_52 (by decide) (fun c3 => ?_) (fun c3 => ?_)
          · exact absurd c3 (by decide)
          · refine lv_iload hx hb dX0_rootByWayOf_55 (lv_at hl 2 rfl) ?_
            refine lv_iconst (v := nI 1) hx hb dX0_rootByWayOf_57 (by decide) ?_
            refine hs_addN hx hb dX0_rootByWayOf_58 ?_
            refine lv_goto (tgt := 66) hx hb dX0_rootByWayOf_59 (by decide) ?_
            refine hs_pe (v := nI (nw + (kk + 1) - 1)) (va_runV (As := [.int (nI (kk + 1))]) (rest := [.int (nI o), .ref hd]) ⟨hx, hb, hml, hown, hts⟩ (kX0_nodeCell l dC dI h0 hd hp cA d N w nw sz u F G kr dn lf dw ok (kk + 1)) (cwV 1 hts gX0_rootByWayOf_X0_nodeCell rfl rfl rfl (by decide +kernel) ⟨(Nat.le_of_ble_eq_true rfl), (Nat.le_of_ble_eq_true rfl)⟩) (hs_preV (q := (RX0, TX0, 12)) (ci := 0) hK (hP.sub [0] rfl) rfl rfl) rfl rfl hl.1 rfl (lv_room (Nat.le_of_ble_eq_true rfl)) dX0_rootByWayOf_66 ⟨Nat.zero_le _, Nat.zero_le _⟩) hS hP (fun H locs hP hS => ?_)
            refine hs_addN hx hb dX0_rootByWayOf_69 ?_
            refine hs_ald hx hb hK hP 1 0 rfl rfl (k := o + (nw + (kk + 1) - 1)) (by omega) (by omega) dX0_rootByWayOf_70 ?_
            refine lv_istore (lv' := [(7, .int (F (o + (nw + (kk + 1) - 1)))), (6, .int (hs_b true)), (5, .int (nI i)), (4, .int (nI kk)), (3, .int h), (0, .ref h0), (1, .int (nI o)), (2, .int (nI j))]) hx hb dX0_rootByWayOf_71 hl (by decide) rfl (fun ls hl => ?_)
            refine lv_iload hx hb dX0_rootByWayOf_73 (lv_at hl 1 rfl) ?_
            refine hs_beq (tgt := 87) hx hb dX0_rootByWayOf_75 (by decide) (fun c4 => ?_) (fun c4 => ?_)
            · exact absurd c4 (by decide)
            · refine lv_iload_n hx hb dX0_rootByWayOf_78 rfl (lv_at hl 4 rfl) ?_
              refine lv_iload hx hb dX0_rootByWayOf_79 (lv_at hl 0 rfl) ?_
              refine hs_pe (v := hs_mx h (F (o + (nw + (kk + 1) - 1)))) (va_runS (As := [.int h, .int (F (o + (nw + (kk + 1) - 1)))]) (rest := []) ⟨hx, hb, hml, hown, hts⟩ (kX0_mix l _ _) (va_cwS 2 hts gX0_rootByWayOf_X0_mix rfl rfl rfl (by decide +kernel) ⟨(Nat.le_of_ble_eq_true rfl), (Nat.le_of_ble_eq_true rfl)⟩) hs_preT rfl rfl hl.1 rfl (lv_room (Nat.le_of_ble_eq_true rfl)) dX0_rootByWayOf_81 ⟨Nat.zero_le _, Nat.zero_le _⟩) hS hP (fun H locs hP hS => ?_)
              refine lv_goto (tgt := 93) hx hb dX0_rootByWayOf_84 (by decide) ?_
              refine lv_istore_n (lv' := [(3, .int (hs_mx h (F (o + (nw + (kk + 1) - 1))))), (7, .int (F (o + (nw + (kk + 1) - 1)))), (6, .int (hs_b true)), (5, .int (nI i)), (4, .int (nI kk)), (0, .ref h0), (1, .int (nI o)), (2, .int (nI j))]) hx hb dX0_rootByWayOf_93 rfl hl (by decide) rfl (fun ls hl => ?_)
              refine lv_iload hx hb dX0_rootByWayOf_94 (lv_at hl 4 rfl) ?_
              refine lv_iconst (v := nI 2) hx hb dX0_rootByWayOf_96 (by decide) ?_
              refine hs_divN hx hb (by omega) (by omega) (by omega) dX0_rootByWayOf_97 ?_
              refine lv_istore (lv' := [(4, .int (nI (kk / 2))), (3, .int (hs_mx h (F (o + (nw + (kk + 1) - 1))))), (7, .int (F (o + (nw + (kk + 1) - 1)))), (6, .int (hs_b true)), (5, .int (nI i)), (0, .ref h0), (1, .int (nI o)), (2, .int (nI j))]) hx hb dX0_rootByWayOf_98 hl (by decide) rfl (fun ls hl => ?_)
              refine lv_iinc (v := nI (i + 1)) (lv' := [(5, .int (nI (i + 1))), (4, .int (nI (kk / 2))), (3, .int (hs_mx h (F (o + (nw + (kk + 1) - 1))))), (7, .int (F (o + (nw + (kk + 1) - 1)))), (6, .int (hs_b true)), (0, .ref h0), (1, .int (nI o)), (2, .int (nI j))]) hx hb dX0_rootByWayOf_100 hl (k := 4) rfl (nI_1 _) (by decide) rfl (fun ls hl => ?_)
              refine lv_goto (tgt := 21) hx hb dX0_rootByWayOf_103 (by decide) ?_
              exact ih (i + 1) (kk / 2) _ H locs ls (by omega) hlv1 (by omega) (by rw [← he]; show _ = hs_up nw _ n (kk / 2) (hs_st nw _ kk h); unfold hs_st; rw [if_pos c2]) hP hS (lv_sub hl [0, 1, 2, 5, 6, 7] rfl)
  exact loop d 0 (N + j) _ _ _ ls (by omega) (hs_lv_b ok hj) (by omega) rfl hP hS (lv_sub hl [0, 1, 2, 3, 4, 5] rfl)
set_option maxHeartbeats 4000000 in
set_option maxRecDepth 100000 in
theorem kX0_isRight (l : Launch) (dC : Nat → ClassId) (dI : Nat → Nat → Nat) (h0 hd hp : Nat) (cA : ClassId) (d N w nw sz u : Nat) (F G : Nat → Int32) (kr dn lf : Int32) (dw : Bool) (ok : hs_ok d N w nw sz) (j : Nat) (hj : j < N) (hu : u < 2) : Met l yX0_isRight wsX0_isRight ({ frames := 3, cells := 0, slots := 0, locals := 74 }) (va_Pc [.ref h0, .int (nI j)] (hs_pr (dC, dI) vwCl [(cA, .int)] [oX_ h0 hd hp d N w nw sz u kr dn lf dw, ar_ hd cA (2 * sz) F])) (hs_Qp (fun r => r = hs_b (hs_rg d N w nw (hs_vw sz F u) kr j))) 0 0 (fun _ => False) := by
  refine Met.ofW (cc := cX0_isRight) (maxL := 3) (ret := (some .boolean)) (by decide) rfl ?_
  intro p e s m args below meth c s₁ B hml hv
  obtain ⟨rfl, hP, hK⟩ := hv
  have hx := B.exec
  have hb := B.bytes
  have hr := B.returns
  have hts := atoms_spec (ws := wsX0_isRight) B.pre
  have hown : s.vm.findClass RX0 = some m.cls := findClass_of_methodNamed B.named
  have hlocks := B.notSynchronized
  obtain ⟨hd5, hN1, hN2, hw1, hw2, hn1, hn2, hsz, hsz2⟩ := hs_okf ok
  have hnw : nw = N * w := ok.2.2.2.2.1
  have hS : va_S (fun _ => False) s.heap s.heap [] := va_S.rf
  have hl := lv_entry ([.ref h0, .int (nI j)]) (n := 3) (Nat.le_of_ble_eq_true rfl)
  rw [lg_entry_eq]
  generalize (lg_sl ([.ref h0, .int (nI j)]) ++ List.replicate (3 - (lg_sl ([.ref h0, .int (nI j)])).length) Slot.unset).toArray = ls at hl ⊢
  have hl : lv_has ls 3 [(0, .ref h0), (1, .int (nI j))] := hl
  have hus : u * sz + sz ≤ 2 * sz := hs_us2 hu
  refine lv_aload_n hx hb dX0_isRight_0 rfl (lv_at hl 0 rfl) ?_
  refine lv_aload_n hx hb dX0_isRight_1 rfl (lv_at hl 0 rfl) ?_
  refine va_get (D := (dC, dI)) (ci := 0) (v := .int (nI u)) (C := RX0) (T := TX0) (N := 12) hx hb hts (by decide +kernel) hown hK hP 0 rfl rfl 7 (by decide) (hts (.fieldLink RX0 60 "HashedStore" "areaInUse" "I") (by decide +kernel)) (fun _ h9 => h9) rfl dX0_isRight_2 ?_
  refine hs_pe (v := nI (u * sz)) (va_runV (As := [.int (nI u)]) (rest := []) ⟨hx, hb, hml, hown, hts⟩ (kX0_areaStart l dC dI h0 hd hp cA d N w nw sz u F G kr dn lf dw ok u) (cwV 1 hts gX0_isRight_X0_areaStart rfl rfl rfl (by decide +kernel) ⟨(Nat.le_of_ble_eq_true rfl), (Nat.le_of_ble_eq_true rfl)⟩) (hs_preV (q := (RX0, TX0, 12)) (ci := 0) hK (hP.sub [0] rfl) rfl rfl) rfl rfl hl.1 rfl (lv_room (Nat.le_of_ble_eq_true rfl)) dX0_isRight_5 ⟨Nat.zero_le _, Nat.zero_le _⟩) hS hP (fun H locs hP hS => ?_)
  refine lv_istore_n (lv' := [(2, .int (nI (u * sz))), (0, .ref h0), (1, .int (nI j))]) hx hb dX0_isRight_8 rfl hl (by decide) rfl (fun ls hl => ?_)
  refine lv_aload_n hx hb dX0_isRight_9 rfl (lv_at hl 1 rfl) ?_
  refine lv_iload_n hx hb dX0_isRight_10 rfl (lv_at hl 0 rfl) ?_
  refine lv_iload_n hx hb dX0_isRight_11 rfl (lv_at hl 2 rfl) ?_
  refine hs_pe (v := hs_b (hs_ng (hs_vw sz F u) w (j * w))) (va_runV (As := [.int (nI (u * sz)), .int (nI j)]) (rest := []) ⟨hx, hb, hml, hown, hts⟩ (kX0_hasWordBelowZero l dC dI h0 hd hp cA d N w nw sz u F G kr dn lf dw ok (u * sz) j hj (by omega)) (cwV 2 hts gX0_isRight_X0_hasWordBelowZero rfl rfl rfl (by decide +kernel) ⟨(Nat.le_of_ble_eq_true rfl), (Nat.le_of_ble_eq_true rfl)⟩) (hs_preV (q := (RX0, TX0, 12)) (ci := 0) hK hP rfl rfl) rfl rfl hl.1 rfl (lv_room (Nat.le_of_ble_eq_true rfl)) dX0_isRight_12 ⟨Nat.zero_le _, Nat.zero_le _⟩) hS hP (fun H locs hP hS => ?_)
  refine hs_bne (tgt := 35) hx hb dX0_isRight_15 (by decide) (fun c1 => ?_) (fun c1 => ?_)
  · refine lv_iconst (v := nI 0) hx hb dX0_isRight_35 (by decide) ?_
    exact W.zret (v := nI 0) hx hb hr rfl (fun t ht hW => ⟨⟨nI 0, (), rfl, (by unfold hs_rg; rw [if_pos c1]; rfl), trivial⟩, hS.F ht⟩) hS.2.2 dX0_isRight_36
  · refine lv_aload_n hx hb dX0_isRight_18 rfl (lv_at hl 1 rfl) ?_
    refine lv_iload_n hx hb dX0_isRight_19 rfl (lv_at hl 0 rfl) ?_
    refine lv_iload_n hx hb dX0_isRight_20 rfl (lv_at hl 2 rfl) ?_
    refine hs_pe (v := hs_rt d N w nw (hs_vw sz F u) j) (va_runV (As := [.int (nI (u * sz)), .int (nI j)]) (rest := []) ⟨hx, hb, hml, hown, hts⟩ (kX0_rootByWayOf l dC dI h0 hd hp cA d N w nw sz u F G kr dn lf dw ok (u * sz) j hj hus) (cwV 2 hts gX0_isRight_X0_rootByWayOf rfl rfl rfl (by decide +kernel) ⟨(Nat.le_of_ble_eq_true rfl), (Nat.le_of_ble_eq_true rfl)⟩) (hs_preV (q := (RX0, TX0, 12)) (ci := 0) hK hP rfl rfl) rfl rfl hl.1 rfl (lv_room (Nat.le_of_ble_eq_true rfl)) dX0_isRight_21 ⟨Nat.zero_le _, Nat.zero_le _⟩) hS hP (fun H locs hP hS => ?_)
    refine lv_aload_n hx hb dX0_isRight_24 rfl (lv_at hl 1 rfl) ?_
    refine va_get (D := (dC, dI)) (ci := 0) (v := .int kr) (C := RX0) (T := TX0) (N := 12) hx hb hts (by decide +kernel) hown hK hP 0 rfl rfl 8 (by decide) (hts (.fieldLink RX0 83 "HashedStore" "keptRoot" "I") (by decide +kernel)) (fun _ h9 => h9) rfl dX0_isRight_25 ?_
    refine lv_icmp_ne (tgt := 35) hx hb dX0_isRight_28 (by decide) (fun c2 => ?_) (fun c2 => ?_)
    · refine lv_iconst (v := nI 0) hx hb dX0_isRight_35 (by decide) ?_
      exact W.zret (v := nI 0) hx hb hr rfl (fun t ht hW => ⟨⟨nI 0, (), rfl, (by unfold hs_rg; rw [if_neg (hs_ff c1), decide_eq_false c2]; rfl), trivial⟩, hS.F ht⟩) hS.2.2 dX0_isRight_36
    · refine lv_iconst (v := nI 1) hx hb dX0_isRight_31 (by decide) ?_
      refine lv_goto (tgt := 36) hx hb dX0_isRight_32 (by decide) ?_
      exact W.zret (v := nI 1) hx hb hr rfl (fun t ht hW => ⟨⟨nI 1, (), rfl, (by unfold hs_rg; rw [if_neg (hs_ff c1), decide_eq_true c2]; rfl), trivial⟩, hS.F ht⟩) hS.2.2 dX0_isRight_36
set_option maxHeartbeats 4000000 in
set_option maxRecDepth 100000 in
theorem kX0_read (l : Launch) (dC : Nat → ClassId) (dI : Nat → Nat → Nat) (h0 hd hp : Nat) (cA : ClassId) (d N w nw sz u : Nat) (F G : Nat → Int32) (kr dn lf : Int32) (dw : Bool) (ok : hs_ok d N w nw sz) (p1 p2 : Int32) (hu : u < 2) : Met l yX0_read wsX0_read ({ frames := 4, cells := 0, slots := 0, locals := 96 }) (va_Pc [.ref h0, .int p1, .int p2] (hs_pr (dC, dI) vwCl [(cA, .int)] [oX_ h0 hd hp d N w nw sz u kr dn lf dw, ar_ hd cA (2 * sz) F])) (hs_Qp (fun r => r = hs_rd d N w nw sz p1 p2 (F, u, kr, dn, lf, dw))) 0 0 (fun _ => False) := by
  refine Met.ofW (cc := cX0_read) (maxL := 3) (ret := (some .int)) (by decide) rfl ?_
  intro p e s m args below meth c s₁ B hml hv
  obtain ⟨rfl, hP, hK⟩ := hv
  have hx := B.exec
  have hb := B.bytes
  have hr := B.returns
  have hts := atoms_spec (ws := wsX0_read) B.pre
  have hown : s.vm.findClass RX0 = some m.cls := findClass_of_methodNamed B.named
  have hlocks := B.notSynchronized
  obtain ⟨hd5, hN1, hN2, hw1, hw2, hn1, hn2, hsz, hsz2⟩ := hs_okf ok
  have hnw : nw = N * w := ok.2.2.2.2.1
  have hS : va_S (fun _ => False) s.heap s.heap [] := va_S.rf
  have hl := lv_entry ([.ref h0, .int p1, .int p2]) (n := 3) (Nat.le_of_ble_eq_true rfl)
  rw [lg_entry_eq]
  generalize (lg_sl ([.ref h0, .int p1, .int p2]) ++ List.replicate (3 - (lg_sl ([.ref h0, .int p1, .int p2])).length) Slot.unset).toArray = ls at hl ⊢
  have hl : lv_has ls 3 [(0, .ref h0), (1, .int p1), (2, .int p2)] := hl
  have hus : u * sz + sz ≤ 2 * sz := hs_us2 hu
  refine lv_aload_n hx hb dX0_read_0 rfl (lv_at hl 0 rfl) ?_
  refine lv_iload_n hx hb dX0_read_1 rfl (lv_at hl 1 rfl) ?_
  refine lv_iload_n hx hb dX0_read_2 rfl (lv_at hl 2 rfl) ?_
  refine hs_pe (v := hs_b (hs_hb N p1 && hs_hb w p2)) (va_runV (As := [.int p1, .int p2]) (rest := []) ⟨hx, hb, hml, hown, hts⟩ (kX0_hasWord l dC dI h0 hd hp cA d N w nw sz u F G kr dn lf dw ok p1 p2) (cwV 2 hts gX0_read_X0_hasWord rfl rfl rfl (by decide +kernel) ⟨(Nat.le_of_ble_eq_true rfl), (Nat.le_of_ble_eq_true rfl)⟩) (hs_preV (q := (RX0, TX0, 12)) (ci := 0) hK (hP.sub [0] rfl) rfl rfl) rfl rfl hl.1 rfl (lv_room (Nat.le_of_ble_eq_true rfl)) dX0_read_3 ⟨Nat.zero_le _, Nat.zero_le _⟩) hS hP (fun H locs hP hS => ?_)
  refine hs_bne (tgt := 12) hx hb dX0_read_6 (by decide) (fun c1 => ?_) (fun c1 => ?_)
  · obtain ⟨⟨j, hj, rfl⟩, ⟨i, hi, rfl⟩⟩ := hs_and_t c1 (by omega) (by omega)
    have hrow := hs_row ok hj
    refine lv_aload_n hx hb dX0_read_12 rfl (lv_at hl 0 rfl) ?_
    refine va_get (D := (dC, dI)) (ci := 0) (v := .int (hs_b dw)) (C := RX0) (T := TX0) (N := 12) hx hb hts (by decide +kernel) hown hK hP 0 rfl rfl 11 (by decide) (hts (.fieldLink RX0 48 "HashedStore" "isDown" "Z") (by decide +kernel)) (fun _ h9 => h9) rfl dX0_read_13 ?_
    refine hs_beq (tgt := 22) hx hb dX0_read_16 (by decide) (fun c2 => ?_) (fun c2 => ?_)
    · refine lv_aload_n hx hb dX0_read_22 rfl (lv_at hl 0 rfl) ?_
      refine lv_iload_n hx hb dX0_read_23 rfl (lv_at hl 1 rfl) ?_
      refine hs_pe (v := hs_b (hs_rg d N w nw (hs_vw sz F u) kr j)) (va_runV (As := [.int (nI j)]) (rest := []) ⟨hx, hb, hml, hown, hts⟩ (kX0_isRight l dC dI h0 hd hp cA d N w nw sz u F G kr dn lf dw ok j hj hu) (cwV 1 hts gX0_read_X0_isRight rfl rfl rfl (by decide +kernel) ⟨(Nat.le_of_ble_eq_true rfl), (Nat.le_of_ble_eq_true rfl)⟩) (hs_preV (q := (RX0, TX0, 12)) (ci := 0) hK hP rfl rfl) rfl rfl hl.1 rfl (lv_room (Nat.le_of_ble_eq_true rfl)) dX0_read_24 ⟨Nat.zero_le _, Nat.zero_le _⟩) hS hP (fun H locs hP hS => ?_)
      refine hs_bne (tgt := 33) hx hb dX0_read_27 (by decide) (fun c3 => ?_) (fun c3 => ?_)
      · refine lv_aload_n hx hb dX0_read_33 rfl (lv_at hl 0 rfl) ?_
        refine va_get (D := (dC, dI)) (ci := 0) (v := .ref hd) (C := RX0) (T := TX0) (N := 12) hx hb hts (by decide +kernel) hown hK hP 0 rfl rfl 5 (by decide) (hts (.fieldLink RX0 34 "HashedStore" "disk" "[I") (by decide +kernel)) (fun _ h9 => h9) rfl dX0_read_34 ?_
        refine lv_aload_n hx hb dX0_read_37 rfl (lv_at hl 0 rfl) ?_
        refine lv_aload_n hx hb dX0_read_38 rfl (lv_at hl 0 rfl) ?_
        refine va_get (D := (dC, dI)) (ci := 0) (v := .int (nI u)) (C := RX0) (T := TX0) (N := 12) hx hb hts (by decide +kernel) hown hK hP 0 rfl rfl 7 (by decide) (hts (.fieldLink RX0 60 "HashedStore" "areaInUse" "I") (by decide +kernel)) (fun _ h9 => h9) rfl dX0_read_39 ?_
        refine hs_pe (v := nI (u * sz)) (va_runV (As := [.int (nI u)]) (rest := [.ref hd]) ⟨hx, hb, hml, hown, hts⟩ (kX0_areaStart l dC dI h0 hd hp cA d N w nw sz u F G kr dn lf dw ok u) (cwV 1 hts gX0_read_X0_areaStart rfl rfl rfl (by decide +kernel) ⟨(Nat.le_of_ble_eq_true rfl), (Nat.le_of_ble_eq_true rfl)⟩) (hs_preV (q := (RX0, TX0, 12)) (ci := 0) hK (hP.sub [0] rfl) rfl rfl) rfl rfl hl.1 rfl (lv_room (Nat.le_of_ble_eq_true rfl)) dX0_read_42 ⟨Nat.zero_le _, Nat.zero_le _⟩) hS hP (fun H locs hP hS => ?_)
        refine lv_aload_n hx hb dX0_read_45 rfl (lv_at hl 0 rfl) ?_
        refine lv_iload_n hx hb dX0_read_46 rfl (lv_at hl 1 rfl) ?_
        refine lv_iload_n hx hb dX0_read_47 rfl (lv_at hl 2 rfl) ?_
        refine hs_pe (v := nI (j * w + i)) (va_runV (As := [.int (nI j), .int (nI i)]) (rest := [.int (nI (u * sz)), .ref hd]) ⟨hx, hb, hml, hown, hts⟩ (kX0_wordCell l dC dI h0 hd hp cA d N w nw sz u F G kr dn lf dw ok j i) (cwV 2 hts gX0_read_X0_wordCell rfl rfl rfl (by decide +kernel) ⟨(Nat.le_of_ble_eq_true rfl), (Nat.le_of_ble_eq_true rfl)⟩) (hs_preV (q := (RX0, TX0, 12)) (ci := 0) hK (hP.sub [0] rfl) rfl rfl) rfl rfl hl.1 rfl (lv_room (Nat.le_of_ble_eq_true rfl)) dX0_read_48 ⟨Nat.zero_le _, Nat.zero_le _⟩) hS hP (fun H locs hP hS => ?_)
        refine hs_addN hx hb dX0_read_51 ?_
        refine hs_ald hx hb hK hP 1 0 rfl rfl (k := (u * sz) + (j * w + i)) (by omega) (by omega) dX0_read_52 ?_
        exact W.iret (v := F ((u * sz) + (j * w + i))) hx hb hr (fun t ht hW => ⟨⟨F ((u * sz) + (j * w + i)), (), rfl, (hs_rd_4 hj hi (by omega) (by omega) c2 c3), trivial⟩, hS.F ht⟩) hS.2.2 dX0_read_53
      · refine lv_bipush (v := (-3)) hx hb dX0_read_30 (by decide) ?_
        exact W.iret (v := (-3)) hx hb hr (fun t ht hW => ⟨⟨(-3), (), rfl, (hs_rd_3 hj hi (by omega) (by omega) c2 c3), trivial⟩, hS.F ht⟩) hS.2.2 dX0_read_32
    · refine lv_bipush (v := (-4)) hx hb dX0_read_19 (by decide) ?_
      exact W.iret (v := (-4)) hx hb hr (fun t ht hW => ⟨⟨(-4), (), rfl, (hs_rd_2 hj hi (by omega) (by omega) c2), trivial⟩, hS.F ht⟩) hS.2.2 dX0_read_21
  · refine lv_bipush (v := (-2)) hx hb dX0_read_9 (by decide) ?_
    exact W.iret (v := (-2)) hx hb hr (fun t ht hW => ⟨⟨(-2), (), rfl, (hs_rd_1 c1), trivial⟩, hS.F ht⟩) hS.2.2 dX0_read_11
set_option maxHeartbeats 4000000 in
set_option maxRecDepth 100000 in
theorem kX0_verify (l : Launch) (dC : Nat → ClassId) (dI : Nat → Nat → Nat) (h0 hd hp : Nat) (cA : ClassId) (d N w nw sz u : Nat) (F G : Nat → Int32) (kr dn lf : Int32) (dw : Bool) (ok : hs_ok d N w nw sz) (p1 : Int32) (hu : u < 2) : Met l yX0_verify wsX0_verify ({ frames := 4, cells := 0, slots := 0, locals := 96 }) (va_Pc [.ref h0, .int p1] (hs_pr (dC, dI) vwCl [(cA, .int)] [oX_ h0 hd hp d N w nw sz u kr dn lf dw, ar_ hd cA (2 * sz) F])) (hs_Qp (fun r => r = hs_b (hs_vf d N w nw sz p1 (F, u, kr, dn, lf, dw)))) 0 0 (fun _ => False) := by
  refine Met.ofW (cc := cX0_verify) (maxL := 2) (ret := (some .boolean)) (by decide) rfl ?_
  intro p e s m args below meth c s₁ B hml hv
  obtain ⟨rfl, hP, hK⟩ := hv
  have hx := B.exec
  have hb := B.bytes
  have hr := B.returns
  have hts := atoms_spec (ws := wsX0_verify) B.pre
  have hown : s.vm.findClass RX0 = some m.cls := findClass_of_methodNamed B.named
  have hlocks := B.notSynchronized
  obtain ⟨hd5, hN1, hN2, hw1, hw2, hn1, hn2, hsz, hsz2⟩ := hs_okf ok
  have hnw : nw = N * w := ok.2.2.2.2.1
  have hS : va_S (fun _ => False) s.heap s.heap [] := va_S.rf
  have hl := lv_entry ([.ref h0, .int p1]) (n := 2) (Nat.le_of_ble_eq_true rfl)
  rw [lg_entry_eq]
  generalize (lg_sl ([.ref h0, .int p1]) ++ List.replicate (2 - (lg_sl ([.ref h0, .int p1])).length) Slot.unset).toArray = ls at hl ⊢
  have hl : lv_has ls 2 [(0, .ref h0), (1, .int p1)] := hl
  refine lv_aload_n hx hb dX0_verify_0 rfl (lv_at hl 0 rfl) ?_
  refine lv_iload_n hx hb dX0_verify_1 rfl (lv_at hl 1 rfl) ?_
  refine hs_pe (v := hs_b (hs_hb N p1)) (va_runV (As := [.int p1]) (rest := []) ⟨hx, hb, hml, hown, hts⟩ (kX0_hasBlock l dC dI h0 hd hp cA d N w nw sz u F G kr dn lf dw ok p1) (cwV 1 hts gX0_verify_X0_hasBlock rfl rfl rfl (by decide +kernel) ⟨(Nat.le_of_ble_eq_true rfl), (Nat.le_of_ble_eq_true rfl)⟩) (hs_preV (q := (RX0, TX0, 12)) (ci := 0) hK (hP.sub [0] rfl) rfl rfl) rfl rfl hl.1 rfl (lv_room (Nat.le_of_ble_eq_true rfl)) dX0_verify_2 ⟨Nat.zero_le _, Nat.zero_le _⟩) hS hP (fun H locs hP hS => ?_)
  refine hs_beq (tgt := 27) hx hb dX0_verify_5 (by decide) (fun c1 => ?_) (fun c1 => ?_)
  · refine lv_iconst (v := nI 0) hx hb dX0_verify_27 (by decide) ?_
    exact W.zret (v := nI 0) hx hb hr rfl (fun t ht hW => ⟨⟨nI 0, (), rfl, (by rw [← hs_vf_1 c1]; rfl), trivial⟩, hS.F ht⟩) hS.2.2 dX0_verify_28
  · obtain ⟨j, hj, rfl⟩ := hs_hb_t (by omega) c1
    refine lv_aload_n hx hb dX0_verify_8 rfl (lv_at hl 0 rfl) ?_
    refine va_get (D := (dC, dI)) (ci := 0) (v := .int (hs_b dw)) (C := RX0) (T := TX0) (N := 12) hx hb hts (by decide +kernel) hown hK hP 0 rfl rfl 11 (by decide) (hts (.fieldLink RX0 48 "HashedStore" "isDown" "Z") (by decide +kernel)) (fun _ h9 => h9) rfl dX0_verify_9 ?_
    refine hs_bne (tgt := 27) hx hb dX0_verify_12 (by decide) (fun c2 => ?_) (fun c2 => ?_)
    · refine lv_iconst (v := nI 0) hx hb dX0_verify_27 (by decide) ?_
      exact W.zret (v := nI 0) hx hb hr rfl (fun t ht hW => ⟨⟨nI 0, (), rfl, (by rw [← hs_vf_2 hj (by omega) c2]; rfl), trivial⟩, hS.F ht⟩) hS.2.2 dX0_verify_28
    · refine lv_aload_n hx hb dX0_verify_15 rfl (lv_at hl 0 rfl) ?_
      refine lv_iload_n hx hb dX0_verify_16 rfl (lv_at hl 1 rfl) ?_
      refine hs_pe (v := hs_b (hs_rg d N w nw (hs_vw sz F u) kr j)) (va_runV (As := [.int (nI j)]) (rest := []) ⟨hx, hb, hml, hown, hts⟩ (kX0_isRight l dC dI h0 hd hp cA d N w nw sz u F G kr dn lf dw ok j hj hu) (cwV 1 hts gX0_verify_X0_isRight rfl rfl rfl (by decide +kernel) ⟨(Nat.le_of_ble_eq_true rfl), (Nat.le_of_ble_eq_true rfl)⟩) (hs_preV (q := (RX0, TX0, 12)) (ci := 0) hK hP rfl rfl) rfl rfl hl.1 rfl (lv_room (Nat.le_of_ble_eq_true rfl)) dX0_verify_17 ⟨Nat.zero_le _, Nat.zero_le _⟩) hS hP (fun H locs hP hS => ?_)
      refine hs_beq (tgt := 27) hx hb dX0_verify_20 (by decide) (fun c3 => ?_) (fun c3 => ?_)
      · refine lv_iconst (v := nI 0) hx hb dX0_verify_27 (by decide) ?_
        exact W.zret (v := nI 0) hx hb hr rfl (fun t ht hW => ⟨⟨nI 0, (), rfl, (by rw [← hs_vf_3 hj (by omega) c2, c3]; rfl), trivial⟩, hS.F ht⟩) hS.2.2 dX0_verify_28
      · refine lv_iconst (v := nI 1) hx hb dX0_verify_23 (by decide) ?_
        refine lv_goto (tgt := 28) hx hb dX0_verify_24 (by decide) ?_
        exact W.zret (v := nI 1) hx hb hr rfl (fun t ht hW => ⟨⟨nI 1, (), rfl, (by rw [← hs_vf_3 hj (by omega) c2, c3]; rfl), trivial⟩, hS.F ht⟩) hS.2.2 dX0_verify_28
set_option maxHeartbeats 4000000 in
set_option maxRecDepth 100000 in
theorem kX0_audit (l : Launch) (dC : Nat → ClassId) (dI : Nat → Nat → Nat) (h0 hd hp : Nat) (cA : ClassId) (d N w nw sz u : Nat) (F G : Nat → Int32) (kr dn lf : Int32) (dw : Bool) (ok : hs_ok d N w nw sz) (hu : u < 2) : Met l yX0_audit wsX0_audit ({ frames := 4, cells := 0, slots := 0, locals := 96 }) (va_Pc [.ref h0] (hs_pr (dC, dI) vwCl [(cA, .int)] [oX_ h0 hd hp d N w nw sz u kr dn lf dw, ar_ hd cA (2 * sz) F])) (hs_Qp (fun r => r = hs_ad d N w nw sz (F, u, kr, dn, lf, dw))) 0 0 (fun _ => False) := by
  refine Met.ofW (cc := cX0_audit) (maxL := 2) (ret := (some .int)) (by decide) rfl ?_
  intro p e s m args below meth c s₁ B hml hv
  obtain ⟨rfl, hP, hK⟩ := hv
  have hx := B.exec
  have hb := B.bytes
  have hr := B.returns
  have hts := atoms_spec (ws := wsX0_audit) B.pre
  have hown : s.vm.findClass RX0 = some m.cls := findClass_of_methodNamed B.named
  have hlocks := B.notSynchronized
  obtain ⟨hd5, hN1, hN2, hw1, hw2, hn1, hn2, hsz, hsz2⟩ := hs_okf ok
  have hnw : nw = N * w := ok.2.2.2.2.1
  have hS : va_S (fun _ => False) s.heap s.heap [] := va_S.rf
  have hl := lv_entry ([.ref h0]) (n := 2) (Nat.le_of_ble_eq_true rfl)
  rw [lg_entry_eq]
  generalize (lg_sl ([.ref h0]) ++ List.replicate (2 - (lg_sl ([.ref h0])).length) Slot.unset).toArray = ls at hl ⊢
  have hl : lv_has ls 2 [(0, .ref h0)] := hl
  refine lv_aload_n hx hb dX0_audit_0 rfl (lv_at hl 0 rfl) ?_
  refine va_get (D := (dC, dI)) (ci := 0) (v := .int (hs_b dw)) (C := RX0) (T := TX0) (N := 12) hx hb hts (by decide +kernel) hown hK hP 0 rfl rfl 11 (by decide) (hts (.fieldLink RX0 48 "HashedStore" "isDown" "Z") (by decide +kernel)) (fun _ h9 => h9) rfl dX0_audit_1 ?_
  refine hs_beq (tgt := 10) hx hb dX0_audit_4 (by decide) (fun c1 => ?_) (fun c1 => ?_)
  · refine lv_iconst (v := nI 0) hx hb dX0_audit_10 (by decide) ?_
    refine lv_istore_n (lv' := [(1, .int (nI 0)), (0, .ref h0)]) hx hb dX0_audit_11 rfl hl (by decide) rfl (fun ls hl => ?_)
    have loop : ∀ (n : Nat) (i : Nat) (H : Heap) (locs : List Loc) (ls : Array Slot), (i + n = N) → (hs_au (hs_rg d N w nw (hs_vw sz F u) kr) n i = hs_au (hs_rg d N w nw (hs_vw sz F u) kr) N 0) → va_P (dC, dI) vwCl [oX_ h0 hd hp d N w nw sz u kr dn lf dw, ar_ hd cA (2 * sz) F] H → va_S (fun _ => False) s.heap H locs → lv_has ls 2 [(1, .int (nI i)), (0, .ref h0)] → W p l e (headSpec wsX0_audit ({ frames := 4, cells := 0, slots := 0, locals := 96 })).room s m ([.ref h0] : List Value).toArray below meth c H locs 0 0 (MQ below (hs_Qp (fun r => r = hs_ad d N w nw sz (F, u, kr, dn, lf, dw))) ([.ref h0] : List Value).toArray s 0 0 (fun _ => False)) (F0 m 12 ls []) := by
      intro n
      induction n with
      | zero =>
        intro i H locs ls hi he hP hS hl
        refine lv_iload_n hx hb dX0_audit_12 rfl (lv_at hl 0 rfl) ?_
        refine lv_aload_n hx hb dX0_audit_13 rfl (lv_at hl 1 rfl) ?_
        refine va_get (D := (dC, dI)) (ci := 0) (v := .int (nI N)) (C := RX0) (T := TX0) (N := 12) hx hb hts (by decide +kernel) hown hK hP 0 rfl rfl 1 (by decide) (hts (.fieldLink RX0 25 "HashedStore" "blockCount" "I") (by decide +kernel)) (fun _ h9 => h9) rfl dX0_audit_14 ?_
        refine hs_cge (tgt := 36) hx hb (by omega) (by omega) dX0_audit_17 (by decide) (fun c2 => ?_) (fun c2 => ?_)
        · refine lv_iconst (v := (-1)) hx hb dX0_audit_36 (by decide) ?_
          exact W.iret (v := (-1)) hx hb hr (fun t ht hW => ⟨⟨(-1), (), rfl, (by rw [← hs_ad_2 c1, ← he]; rfl), trivial⟩, hS.F ht⟩) hS.2.2 dX0_audit_37
        · exact absurd c2 (by omega)
      | succ n ih =>
        intro i H locs ls hi he hP hS hl
        refine lv_iload_n hx hb dX0_audit_12 rfl (lv_at hl 0 rfl) ?_
        refine lv_aload_n hx hb dX0_audit_13 rfl (lv_at hl 1 rfl) ?_
        refine va_get (D := (dC, dI)) (ci := 0) (v := .int (nI N)) (C := RX0) (T := TX0) (N := 12) hx hb hts (by decide +kernel) hown hK hP 0 rfl rfl 1 (by decide) (hts (.fieldLink RX0 25 "HashedStore" "blockCount" "I") (by decide +kernel)) (fun _ h9 => h9) rfl dX0_audit_14 ?_
        refine hs_cge (tgt := 36) hx hb (by omega) (by omega) dX0_audit_17 (by decide) (fun c2 => ?_) (fun c2 => ?_)
        · exact absurd c2 (by omega)
        · refine lv_aload_n hx hb dX0_audit_20 rfl (lv_at hl 1 rfl) ?_
          refine lv_iload_n hx hb dX0_audit_21 rfl (lv_at hl 0 rfl) ?_
          refine hs_pe (v := hs_b (hs_rg d N w nw (hs_vw sz F u) kr i)) (va_runV (As := [.int (nI i)]) (rest := []) ⟨hx, hb, hml, hown, hts⟩ (kX0_isRight l dC dI h0 hd hp cA d N w nw sz u F G kr dn lf dw ok i (by omega) hu) (cwV 1 hts gX0_audit_X0_isRight rfl rfl rfl (by decide +kernel) ⟨(Nat.le_of_ble_eq_true rfl), (Nat.le_of_ble_eq_true rfl)⟩) (hs_preV (q := (RX0, TX0, 12)) (ci := 0) hK hP rfl rfl) rfl rfl hl.1 rfl (lv_room (Nat.le_of_ble_eq_true rfl)) dX0_audit_22 ⟨Nat.zero_le _, Nat.zero_le _⟩) hS hP (fun H locs hP hS => ?_)
          refine hs_bne (tgt := 30) hx hb dX0_audit_25 (by decide) (fun c3 => ?_) (fun c3 => ?_)
          · refine lv_iinc (v := nI (i + 1)) (lv' := [(1, .int (nI (i + 1))), (0, .ref h0)]) hx hb dX0_audit_30 hl (k := 0) rfl (nI_1 _) (by decide) rfl (fun ls hl => ?_)
            refine lv_goto (tgt := 12) hx hb dX0_audit_33 (by decide) ?_
            exact ih (i + 1) H locs ls (by omega) ((if_pos c3).symm.trans he) hP hS (lv_sub hl [0, 1] rfl)
          · refine lv_iload_n hx hb dX0_audit_28 rfl (lv_at hl 0 rfl) ?_
            exact W.iret (v := nI i) hx hb hr (fun t ht hW => ⟨⟨nI i, (), rfl, (by rw [← hs_ad_2 c1, ← he]; exact (if_neg (hs_ff c3)).symm), trivial⟩, hS.F ht⟩) hS.2.2 dX0_audit_29
    exact loop N 0 _ _ ls (by omega) rfl hP hS (lv_sub hl [0, 1] rfl)
  · refine lv_bipush (v := (-4)) hx hb dX0_audit_7 (by decide) ?_
    exact W.iret (v := (-4)) hx hb hr (fun t ht hW => ⟨⟨(-4), (), rfl, (hs_ad_1 c1), trivial⟩, hS.F ht⟩) hS.2.2 dX0_audit_9
set_option maxHeartbeats 4000000 in
set_option maxRecDepth 100000 in
theorem kX0_peek (l : Launch) (dC : Nat → ClassId) (dI : Nat → Nat → Nat) (h0 hd hp : Nat) (cA : ClassId) (d N w nw sz u : Nat) (F G : Nat → Int32) (kr dn lf : Int32) (dw : Bool) (ok : hs_ok d N w nw sz) (p1 : Int32) : Met l yX0_peek wsX0_peek ({ frames := 1, cells := 0, slots := 0, locals := 21 }) (va_Pc [.ref h0, .int p1] (hs_pr (dC, dI) vwCl [(cA, .int)] [oX_ h0 hd hp d N w nw sz u kr dn lf dw, ar_ hd cA (2 * sz) F])) (hs_Qp (fun r => r = hs_pk sz F p1)) 0 0 (fun _ => False) := by
  refine Met.ofW (cc := cX0_peek) (maxL := 2) (ret := (some .int)) (by decide) rfl ?_
  intro p e s m args below meth c s₁ B hml hv
  obtain ⟨rfl, hP, hK⟩ := hv
  have hx := B.exec
  have hb := B.bytes
  have hr := B.returns
  have hts := atoms_spec (ws := wsX0_peek) B.pre
  have hown : s.vm.findClass RX0 = some m.cls := findClass_of_methodNamed B.named
  have hlocks := B.notSynchronized
  obtain ⟨hd5, hN1, hN2, hw1, hw2, hn1, hn2, hsz, hsz2⟩ := hs_okf ok
  have hnw : nw = N * w := ok.2.2.2.2.1
  have hS : va_S (fun _ => False) s.heap s.heap [] := va_S.rf
  have hl := lv_entry ([.ref h0, .int p1]) (n := 2) (Nat.le_of_ble_eq_true rfl)
  rw [lg_entry_eq]
  generalize (lg_sl ([.ref h0, .int p1]) ++ List.replicate (2 - (lg_sl ([.ref h0, .int p1])).length) Slot.unset).toArray = ls at hl ⊢
  have hl : lv_has ls 2 [(0, .ref h0), (1, .int p1)] := hl
  refine lv_aload_n hx hb dX0_peek_0 rfl (lv_at hl 0 rfl) ?_
  refine lv_iload_n hx hb dX0_peek_1 rfl (lv_at hl 1 rfl) ?_
  refine hs_pe (v := hs_b (hs_hb (2 * sz) p1)) (va_runV (As := [.int p1]) (rest := []) ⟨hx, hb, hml, hown, hts⟩ (kX0_hasCell l dC dI h0 hd hp cA d N w nw sz u F G kr dn lf dw ok p1) (cwV 1 hts gX0_peek_X0_hasCell rfl rfl rfl (by decide +kernel) ⟨(Nat.le_of_ble_eq_true rfl), (Nat.le_of_ble_eq_true rfl)⟩) (hs_preV (q := (RX0, TX0, 12)) (ci := 0) hK hP rfl rfl) rfl rfl hl.1 rfl (lv_room (Nat.le_of_ble_eq_true rfl)) dX0_peek_2 ⟨Nat.zero_le _, Nat.zero_le _⟩) hS hP (fun H locs hP hS => ?_)
  refine hs_beq (tgt := 17) hx hb dX0_peek_5 (by decide) (fun c1 => ?_) (fun c1 => ?_)
  · refine lv_iconst (v := nI 0) hx hb dX0_peek_17 (by decide) ?_
    exact W.iret (v := nI 0) hx hb hr (fun t ht hW => ⟨⟨nI 0, (), rfl, (hs_pk_1 c1), trivial⟩, hS.F ht⟩) hS.2.2 dX0_peek_18
  · obtain ⟨j, hj, rfl⟩ := hs_hb_t (by omega) c1
    refine lv_aload_n hx hb dX0_peek_8 rfl (lv_at hl 0 rfl) ?_
    refine va_get (D := (dC, dI)) (ci := 0) (v := .ref hd) (C := RX0) (T := TX0) (N := 12) hx hb hts (by decide +kernel) hown hK hP 0 rfl rfl 5 (by decide) (hts (.fieldLink RX0 34 "HashedStore" "disk" "[I") (by decide +kernel)) (fun _ h9 => h9) rfl dX0_peek_9 ?_
    refine lv_iload_n hx hb dX0_peek_12 rfl (lv_at hl 1 rfl) ?_
    refine hs_ald hx hb hK hP 1 0 rfl rfl (k := j) (by omega) (by omega) dX0_peek_13 ?_
    refine lv_goto (tgt := 18) hx hb dX0_peek_14 (by decide) ?_
    exact W.iret (v := F j) hx hb hr (fun t ht hW => ⟨⟨F j, (), rfl, (hs_pk_2 hj (by omega)), trivial⟩, hS.F ht⟩) hS.2.2 dX0_peek_18
end
section
set_option maxHeartbeats 4000000 in
set_option maxRecDepth 100000 in
/-- Arrays.fill: every place holds x -/
theorem kJ7_fill (l : Launch) (dC : Nat → ClassId) (dI : Nat → Nat → Nat) (q : Nat) (cA : ClassId) (qn : Nat) (f : Nat → Int32) (x : Int32) (hqn : qn < 2 ^ 31) (zz : Nat) : Met l yJ7_fill_53178 wsJ7_fill_53178 ({ frames := 0, cells := 0, slots := 0, locals := 0 }) (va_Pc [.ref q, .int x] (hs_pm (dC, dI) vwCl [(cA, .int)] [ar_ q cA qn f] zz)) (va_Qv (S := Nat → Int32) (fun g => ∀ j, j < qn → g j = x) (hs_B (dC, dI) vwCl [(cA, .int)] (fun g => [ar_ q cA qn g]) (va_A [ar_ q cA qn f] zz)) (va_A [ar_ q cA qn f] zz)) 0 0 (va_A [ar_ q cA qn f] zz) := by
  refine Met.ofW (cc := cJ7_fill_53178) (maxL := 4) (ret := none) (by decide) rfl ?_
  intro p e s m args below meth c s₁ B hml hv
  obtain ⟨rfl, hzz, hP, hK, hD0⟩ := hv
  have hx := B.exec
  have hb := B.bytes
  have hr := B.returns
  have hts := atoms_spec (ws := wsJ7_fill_53178) B.pre
  have hown : s.vm.findClass RJ7 = some m.cls := findClass_of_methodNamed B.named
  have hlocks := B.notSynchronized
  subst hzz
  have hD := hD0.self (sz := s.heap.size)
  have hS : va_S (va_A [ar_ q cA qn f] s.heap.size) s.heap s.heap [] := va_S.rf
  have hl := lv_entry ([.ref q, .int x]) (n := 4) (Nat.le_of_ble_eq_true rfl)
  rw [lg_entry_eq]
  generalize (lg_sl ([.ref q, .int x]) ++ List.replicate (4 - (lg_sl ([.ref q, .int x])).length) Slot.unset).toArray = ls at hl ⊢
  have hl : lv_has ls 4 [(0, .ref q), (1, .int x)] := hl
  refine lv_iconst (v := nI 0) hx hb dJ7_fill_53178_0 (by decide) ?_
  refine lv_istore_n (lv' := [(2, .int (nI 0)), (0, .ref q), (1, .int x)]) hx hb dJ7_fill_53178_1 rfl hl (by decide) rfl (fun ls hl => ?_)
  refine lv_aload_n hx hb dJ7_fill_53178_2 rfl (lv_at hl 1 rfl) ?_
  refine va_alen hx hb hK hP 0 0 rfl rfl (v := nI qn) rfl dJ7_fill_53178_3 ?_
  refine lv_istore_n (lv' := [(3, .int (nI qn)), (2, .int (nI 0)), (0, .ref q), (1, .int x)]) hx hb dJ7_fill_53178_4 rfl hl (by decide) rfl (fun ls hl => ?_)
  have loop : ∀ (n : Nat) (i : Nat) (g : Nat → Int32) (H : Heap) (locs : List Loc) (ls : Array Slot), (i + n = qn) → (∀ j, j < i → g j = x) → va_P (dC, dI) vwCl [ar_ q cA qn g] H → va_D (va_A [ar_ q cA qn f] s.heap.size) [ar_ q cA qn g] → va_S (va_A [ar_ q cA qn f] s.heap.size) s.heap H locs → lv_has ls 4 [(2, .int (nI i)), (3, .int (nI qn)), (0, .ref q), (1, .int x)] → W p l e (headSpec wsJ7_fill_53178 ({ frames := 0, cells := 0, slots := 0, locals := 0 })).room s m ([.ref q, .int x] : List Value).toArray below meth c H locs 0 0 (MQ below (va_Qv (S := Nat → Int32) (fun g => ∀ j, j < qn → g j = x) (hs_B (dC, dI) vwCl [(cA, .int)] (fun g => [ar_ q cA qn g]) (va_A [ar_ q cA qn f] s.heap.size)) (va_A [ar_ q cA qn f] s.heap.size)) ([.ref q, .int x] : List Value).toArray s 0 0 (va_A [ar_ q cA qn f] s.heap.size)) (F0 m 5 ls []) := by
    intro n
    induction n with
    | zero =>
      intro i g H locs ls hi hg hP hD hS hl
      refine lv_iload_n hx hb dJ7_fill_53178_5 rfl (lv_at hl 0 rfl) ?_
      refine lv_iload_n hx hb dJ7_fill_53178_6 rfl (lv_at hl 1 rfl) ?_
      refine hs_cge (tgt := 20) hx hb (by omega) (by omega) dJ7_fill_53178_7 (by decide) (fun c1 => ?_) (fun c1 => ?_)
      · exact W.vret hx hb hr (fun t ht hW => ⟨⟨g, rfl, (fun j hj => hg j (by omega)), by rw [ht]; exact hP, va_K.moved hW.alike hK, hD⟩, hS.F ht⟩) hS.2.2 dJ7_fill_53178_20
      · exact absurd c1 (by omega)
    | succ n ih =>
      intro i g H locs ls hi hg hP hD hS hl
      refine lv_iload_n hx hb dJ7_fill_53178_5 rfl (lv_at hl 0 rfl) ?_
      refine lv_iload_n hx hb dJ7_fill_53178_6 rfl (lv_at hl 1 rfl) ?_
      refine hs_cge (tgt := 20) hx hb (by omega) (by omega) dJ7_fill_53178_7 (by decide) (fun c1 => ?_) (fun c1 => ?_)
      · exact absurd c1 (by omega)
      · refine lv_aload_n hx hb dJ7_fill_53178_10 rfl (lv_at hl 2 rfl) ?_
        refine lv_iload_n hx hb dJ7_fill_53178_11 rfl (lv_at hl 0 rfl) ?_
        refine lv_iload_n hx hb dJ7_fill_53178_12 rfl (lv_at hl 3 rfl) ?_
        refine hs_ast hx hb hK hP hD hS 0 0 rfl rfl (k := i) (by omega) (by omega) dJ7_fill_53178_13 (fun H locs hP hD hS => ?_)
        have hP : va_P (dC, dI) vwCl [ar_ q cA qn (upd g i x)] H := hP
        have hD : va_D (va_A [ar_ q cA qn f] s.heap.size) [ar_ q cA qn (upd g i x)] := hD
        refine lv_iinc (v := nI (i + 1)) (lv' := [(2, .int (nI (i + 1))), (3, .int (nI qn)), (0, .ref q), (1, .int x)]) hx hb dJ7_fill_53178_14 hl (k := 0) rfl (nI_1 _) (by decide) rfl (fun ls hl => ?_)
        refine lv_goto (tgt := 5) hx hb dJ7_fill_53178_17 (by decide) ?_
        exact ih (i + 1) _ H locs ls (by omega) (fun j hj => by
          by_cases e : j = i
          · subst e; exact pk_us
          · exact (pk_un e).trans (hg j (by omega))) hP hD hS (lv_sub hl [0, 1, 2, 3] rfl)
  exact loop qn 0 f _ _ ls (by omega) (fun j hj => absurd hj (Nat.not_lt_zero j)) hP hD hS (lv_sub hl [1, 0, 2, 3] rfl)
set_option maxHeartbeats 4000000 in
set_option maxRecDepth 100000 in
theorem kX0_turnTo (l : Launch) (dC : Nat → ClassId) (dI : Nat → Nat → Nat) (h0 hd hp : Nat) (cA : ClassId) (d N w nw sz u : Nat) (F G : Nat → Int32) (kr dn lf : Int32) (dw : Bool) (ok : hs_ok d N w nw sz) (zz : Nat) (x1 : Nat) (p2 : Int32) : Met l yX0_turnTo wsX0_turnTo ({ frames := 0, cells := 0, slots := 0, locals := 0 }) (va_Pc [.ref h0, .int (nI x1), .int p2] (hs_pm (dC, dI) vwCl [(cA, .int)] [oX_ h0 hd hp d N w nw sz u kr dn lf dw, ar_ hd cA (2 * sz) F, ar_ hp cA sz G] zz)) (va_Qv (S := hs_S × (Nat → Int32)) (fun uu => uu = ((F, x1, p2, dn, lf, dw), G)) (hs_B (dC, dI) vwCl [(cA, .int)] (wfX h0 hd hp cA d N w nw sz) (va_A [oX_ h0 hd hp d N w nw sz u kr dn lf dw, ar_ hd cA (2 * sz) F, ar_ hp cA sz G] zz)) (va_A [oX_ h0 hd hp d N w nw sz u kr dn lf dw, ar_ hd cA (2 * sz) F, ar_ hp cA sz G] zz)) 0 0 (va_A [oX_ h0 hd hp d N w nw sz u kr dn lf dw, ar_ hd cA (2 * sz) F, ar_ hp cA sz G] zz) := by
  refine Met.ofW (cc := cX0_turnTo) (maxL := 3) (ret := none) (by decide) rfl ?_
  intro p e s m args below meth c s₁ B hml hv
  obtain ⟨rfl, hzz, hP, hK, hD0⟩ := hv
  have hx := B.exec
  have hb := B.bytes
  have hr := B.returns
  have hts := atoms_spec (ws := wsX0_turnTo) B.pre
  have hown : s.vm.findClass RX0 = some m.cls := findClass_of_methodNamed B.named
  have hlocks := B.notSynchronized
  obtain ⟨hd5, hN1, hN2, hw1, hw2, hn1, hn2, hsz, hsz2⟩ := hs_okf ok
  have hnw : nw = N * w := ok.2.2.2.2.1
  subst hzz
  have hD := hD0.self (sz := s.heap.size)
  have hS : va_S (va_A [oX_ h0 hd hp d N w nw sz u kr dn lf dw, ar_ hd cA (2 * sz) F, ar_ hp cA sz G] s.heap.size) s.heap s.heap [] := va_S.rf
  have hA : ∀ q : Nat, s.heap.size ≤ q → va_A [oX_ h0 hd hp d N w nw sz u kr dn lf dw, ar_ hd cA (2 * sz) F, ar_ hp cA sz G] s.heap.size q := fun q h => Or.inr h
  have hl := lv_entry ([.ref h0, .int (nI x1), .int p2]) (n := 3) (Nat.le_of_ble_eq_true rfl)
  rw [lg_entry_eq]
  generalize (lg_sl ([.ref h0, .int (nI x1), .int p2]) ++ List.replicate (3 - (lg_sl ([.ref h0, .int (nI x1), .int p2])).length) Slot.unset).toArray = ls at hl ⊢
  have hl : lv_has ls 3 [(0, .ref h0), (1, .int (nI x1)), (2, .int p2)] := hl
  refine lv_aload_n hx hb dX0_turnTo_0 rfl (lv_at hl 0 rfl) ?_
  refine lv_iload_n hx hb dX0_turnTo_1 rfl (lv_at hl 1 rfl) ?_
  refine va_put (D := (dC, dI)) (ci := 0) (v := .int (nI x1)) (ty := .int) (C := RX0) (T := TX0) (N := 12) hx hb hts (by decide +kernel) tyX0 tyX0_ok nmX0 hown hK hP hD hS 0 rfl rfl 7 (by decide) (hts (.fieldLink RX0 60 "HashedStore" "areaInUse" "I") (by decide +kernel)) (fun _ h9 => h9) rfl (by decide +kernel) rfl rfl (Nat.le_of_ble_eq_true rfl) dX0_turnTo_2 (fun H locs hP hD hS => ?_)
  have hP : va_P (dC, dI) vwCl [oX_ h0 hd hp d N w nw sz x1 kr dn lf dw, ar_ hd cA (2 * sz) F, ar_ hp cA sz G] H := hP
  have hD : va_D (va_A [oX_ h0 hd hp d N w nw sz u kr dn lf dw, ar_ hd cA (2 * sz) F, ar_ hp cA sz G] s.heap.size) [oX_ h0 hd hp d N w nw sz x1 kr dn lf dw, ar_ hd cA (2 * sz) F, ar_ hp cA sz G] := hD
  refine lv_aload_n hx hb dX0_turnTo_5 rfl (lv_at hl 0 rfl) ?_
  refine lv_iload_n hx hb dX0_turnTo_6 rfl (lv_at hl 2 rfl) ?_
  refine va_put (D := (dC, dI)) (ci := 0) (v := .int p2) (ty := .int) (C := RX0) (T := TX0) (N := 12) hx hb hts (by decide +kernel) tyX0 tyX0_ok nmX0 hown hK hP hD hS 0 rfl rfl 8 (by decide) (hts (.fieldLink RX0 83 "HashedStore" "keptRoot" "I") (by decide +kernel)) (fun _ h9 => h9) rfl (by decide +kernel) rfl rfl (Nat.le_of_ble_eq_true rfl) dX0_turnTo_7 (fun H locs hP hD hS => ?_)
  have hP : va_P (dC, dI) vwCl [oX_ h0 hd hp d N w nw sz x1 p2 dn lf dw, ar_ hd cA (2 * sz) F, ar_ hp cA sz G] H := hP
  have hD : va_D (va_A [oX_ h0 hd hp d N w nw sz u kr dn lf dw, ar_ hd cA (2 * sz) F, ar_ hp cA sz G] s.heap.size) [oX_ h0 hd hp d N w nw sz x1 p2 dn lf dw, ar_ hd cA (2 * sz) F, ar_ hp cA sz G] := hD
  exact W.vret hx hb hr (fun t ht hW => ⟨⟨((F, x1, p2, dn, lf, dw), G), rfl, rfl, by rw [ht]; exact hP, va_K.moved hW.alike hK, hD⟩, hS.F ht⟩) hS.2.2 dX0_turnTo_10
set_option maxHeartbeats 4000000 in
set_option maxRecDepth 100000 in
theorem kX0_comeUp (l : Launch) (dC : Nat → ClassId) (dI : Nat → Nat → Nat) (h0 hd hp : Nat) (cA : ClassId) (d N w nw sz u : Nat) (F G : Nat → Int32) (kr dn lf : Int32) (dw : Bool) (ok : hs_ok d N w nw sz) (zz : Nat)  : Met l yX0_comeUp wsX0_comeUp ({ frames := 0, cells := 0, slots := 0, locals := 0 }) (va_Pc [.ref h0] (hs_pm (dC, dI) vwCl [(cA, .int)] [oX_ h0 hd hp d N w nw sz u kr dn lf dw, ar_ hd cA (2 * sz) F, ar_ hp cA sz G] zz)) (va_Qv (S := hs_S × (Nat → Int32)) (fun uu => uu = ((F, u, kr, dn, -1, false), G)) (hs_B (dC, dI) vwCl [(cA, .int)] (wfX h0 hd hp cA d N w nw sz) (va_A [oX_ h0 hd hp d N w nw sz u kr dn lf dw, ar_ hd cA (2 * sz) F, ar_ hp cA sz G] zz)) (va_A [oX_ h0 hd hp d N w nw sz u kr dn lf dw, ar_ hd cA (2 * sz) F, ar_ hp cA sz G] zz)) 0 0 (va_A [oX_ h0 hd hp d N w nw sz u kr dn lf dw, ar_ hd cA (2 * sz) F, ar_ hp cA sz G] zz) := by
  refine Met.ofW (cc := cX0_comeUp) (maxL := 1) (ret := none) (by decide) rfl ?_
  intro p e s m args below meth c s₁ B hml hv
  obtain ⟨rfl, hzz, hP, hK, hD0⟩ := hv
  have hx := B.exec
  have hb := B.bytes
  have hr := B.returns
  have hts := atoms_spec (ws := wsX0_comeUp) B.pre
  have hown : s.vm.findClass RX0 = some m.cls := findClass_of_methodNamed B.named
  have hlocks := B.notSynchronized
  obtain ⟨hd5, hN1, hN2, hw1, hw2, hn1, hn2, hsz, hsz2⟩ := hs_okf ok
  have hnw : nw = N * w := ok.2.2.2.2.1
  subst hzz
  have hD := hD0.self (sz := s.heap.size)
  have hS : va_S (va_A [oX_ h0 hd hp d N w nw sz u kr dn lf dw, ar_ hd cA (2 * sz) F, ar_ hp cA sz G] s.heap.size) s.heap s.heap [] := va_S.rf
  have hA : ∀ q : Nat, s.heap.size ≤ q → va_A [oX_ h0 hd hp d N w nw sz u kr dn lf dw, ar_ hd cA (2 * sz) F, ar_ hp cA sz G] s.heap.size q := fun q h => Or.inr h
  have hl := lv_entry ([.ref h0]) (n := 1) (Nat.le_of_ble_eq_true rfl)
  rw [lg_entry_eq]
  generalize (lg_sl ([.ref h0]) ++ List.replicate (1 - (lg_sl ([.ref h0])).length) Slot.unset).toArray = ls at hl ⊢
  have hl : lv_has ls 1 [(0, .ref h0)] := hl
  refine lv_aload_n hx hb dX0_comeUp_0 rfl (lv_at hl 0 rfl) ?_
  refine lv_iconst (v := hs_b false) hx hb dX0_comeUp_1 (by decide) ?_
  refine va_put (D := (dC, dI)) (ci := 0) (v := .int (hs_b false)) (ty := .boolean) (C := RX0) (T := TX0) (N := 12) hx hb hts (by decide +kernel) tyX0 tyX0_ok nmX0 hown hK hP hD hS 0 rfl rfl 11 (by decide) (hts (.fieldLink RX0 48 "HashedStore" "isDown" "Z") (by decide +kernel)) (fun _ h9 => h9) rfl (by decide +kernel) rfl rfl (Nat.le_of_ble_eq_true rfl) dX0_comeUp_2 (fun H locs hP hD hS => ?_)
  have hP : va_P (dC, dI) vwCl [oX_ h0 hd hp d N w nw sz u kr dn lf false, ar_ hd cA (2 * sz) F, ar_ hp cA sz G] H := hP
  have hD : va_D (va_A [oX_ h0 hd hp d N w nw sz u kr dn lf dw, ar_ hd cA (2 * sz) F, ar_ hp cA sz G] s.heap.size) [oX_ h0 hd hp d N w nw sz u kr dn lf false, ar_ hd cA (2 * sz) F, ar_ hp cA sz G] := hD
  refine lv_aload_n hx hb dX0_comeUp_5 rfl (lv_at hl 0 rfl) ?_
  refine lv_iconst (v := (-1)) hx hb dX0_comeUp_6 (by decide) ?_
  refine va_put (D := (dC, dI)) (ci := 0) (v := .int (-1)) (ty := .int) (C := RX0) (T := TX0) (N := 12) hx hb hts (by decide +kernel) tyX0 tyX0_ok nmX0 hown hK hP hD hS 0 rfl rfl 10 (by decide) (hts (.fieldLink RX0 89 "HashedStore" "writesUntilCrash" "I") (by decide +kernel)) (fun _ h9 => h9) rfl (by decide +kernel) rfl rfl (Nat.le_of_ble_eq_true rfl) dX0_comeUp_7 (fun H locs hP hD hS => ?_)
  have hP : va_P (dC, dI) vwCl [oX_ h0 hd hp d N w nw sz u kr dn (-1) false, ar_ hd cA (2 * sz) F, ar_ hp cA sz G] H := hP
  have hD : va_D (va_A [oX_ h0 hd hp d N w nw sz u kr dn lf dw, ar_ hd cA (2 * sz) F, ar_ hp cA sz G] s.heap.size) [oX_ h0 hd hp d N w nw sz u kr dn (-1) false, ar_ hd cA (2 * sz) F, ar_ hp cA sz G] := hD
  exact W.vret hx hb hr (fun t ht hW => ⟨⟨((F, u, kr, dn, (-1), false), G), rfl, rfl, by rw [ht]; exact hP, va_K.moved hW.alike hK, hD⟩, hS.F ht⟩) hS.2.2 dX0_comeUp_10
set_option maxHeartbeats 4000000 in
set_option maxRecDepth 100000 in
theorem kX0_putCell (l : Launch) (dC : Nat → ClassId) (dI : Nat → Nat → Nat) (h0 hd hp : Nat) (cA : ClassId) (d N w nw sz u : Nat) (F G : Nat → Int32) (kr dn lf : Int32) (dw : Bool) (ok : hs_ok d N w nw sz) (zz : Nat) (x1 : Nat) (p2 : Int32) (hx1 : x1 < 2 * sz) : Met l yX0_putCell wsX0_putCell ({ frames := 0, cells := 0, slots := 0, locals := 0 }) (va_Pc [.ref h0, .int (nI x1), .int p2] (hs_pm (dC, dI) vwCl [(cA, .int)] [oX_ h0 hd hp d N w nw sz u kr dn lf dw, ar_ hd cA (2 * sz) F, ar_ hp cA sz G] zz)) (va_Qi (S := hs_S × (Nat → Int32)) (fun r uu => (lf = 0 ∧ r = 0 ∧ uu = ((F, u, kr, dn, lf, true), G)) ∨ (¬ lf = 0 ∧ r = 1 ∧ uu = ((upd F x1 p2, u, kr, dn + 1, (if lf = -1 then lf else lf - 1), dw), G))) (hs_B (dC, dI) vwCl [(cA, .int)] (wfX h0 hd hp cA d N w nw sz) (va_A [oX_ h0 hd hp d N w nw sz u kr dn lf dw, ar_ hd cA (2 * sz) F, ar_ hp cA sz G] zz)) (va_A [oX_ h0 hd hp d N w nw sz u kr dn lf dw, ar_ hd cA (2 * sz) F, ar_ hp cA sz G] zz)) 0 0 (va_A [oX_ h0 hd hp d N w nw sz u kr dn lf dw, ar_ hd cA (2 * sz) F, ar_ hp cA sz G] zz) := by
  refine Met.ofW (cc := cX0_putCell) (maxL := 3) (ret := (some .boolean)) (by decide) rfl ?_
  intro p e s m args below meth c s₁ B hml hv
  obtain ⟨rfl, hzz, hP, hK, hD0⟩ := hv
  have hx := B.exec
  have hb := B.bytes
  have hr := B.returns
  have hts := atoms_spec (ws := wsX0_putCell) B.pre
  have hown : s.vm.findClass RX0 = some m.cls := findClass_of_methodNamed B.named
  have hlocks := B.notSynchronized
  obtain ⟨hd5, hN1, hN2, hw1, hw2, hn1, hn2, hsz, hsz2⟩ := hs_okf ok
  have hnw : nw = N * w := ok.2.2.2.2.1
  subst hzz
  have hD := hD0.self (sz := s.heap.size)
  have hS : va_S (va_A [oX_ h0 hd hp d N w nw sz u kr dn lf dw, ar_ hd cA (2 * sz) F, ar_ hp cA sz G] s.heap.size) s.heap s.heap [] := va_S.rf
  have hA : ∀ q : Nat, s.heap.size ≤ q → va_A [oX_ h0 hd hp d N w nw sz u kr dn lf dw, ar_ hd cA (2 * sz) F, ar_ hp cA sz G] s.heap.size q := fun q h => Or.inr h
  have hl := lv_entry ([.ref h0, .int (nI x1), .int p2]) (n := 3) (Nat.le_of_ble_eq_true rfl)
  rw [lg_entry_eq]
  generalize (lg_sl ([.ref h0, .int (nI x1), .int p2]) ++ List.replicate (3 - (lg_sl ([.ref h0, .int (nI x1), .int p2])).length) Slot.unset).toArray = ls at hl ⊢
  have hl : lv_has ls 3 [(0, .ref h0), (1, .int (nI x1)), (2, .int p2)] := hl
  refine lv_aload_n hx hb dX0_putCell_0 rfl (lv_at hl 0 rfl) ?_
  refine va_get (D := (dC, dI)) (ci := 0) (v := .int lf) (C := RX0) (T := TX0) (N := 12) hx hb hts (by decide +kernel) hown hK hP 0 rfl rfl 10 (by decide) (hts (.fieldLink RX0 89 "HashedStore" "writesUntilCrash" "I") (by decide +kernel)) (fun _ h9 => h9) rfl dX0_putCell_1 ?_
  refine lv_if_ne (tgt := 14) hx hb dX0_putCell_4 (by decide) (fun c1 => ?_) (fun c1 => ?_)
  · refine lv_aload_n hx hb dX0_putCell_14 rfl (lv_at hl 0 rfl) ?_
    refine va_get (D := (dC, dI)) (ci := 0) (v := .int lf) (C := RX0) (T := TX0) (N := 12) hx hb hts (by decide +kernel) hown hK hP 0 rfl rfl 10 (by decide) (hts (.fieldLink RX0 89 "HashedStore" "writesUntilCrash" "I") (by decide +kernel)) (fun _ h9 => h9) rfl dX0_putCell_15 ?_
    refine lv_iconst (v := (-1)) hx hb dX0_putCell_18 (by decide) ?_
    refine lv_icmp_eq (tgt := 32) hx hb dX0_putCell_19 (by decide) (fun c2 => ?_) (fun c2 => ?_)
    · refine lv_aload_n hx hb dX0_putCell_32 rfl (lv_at hl 0 rfl) ?_
      refine va_get (D := (dC, dI)) (ci := 0) (v := .ref hd) (C := RX0) (T := TX0) (N := 12) hx hb hts (by decide +kernel) hown hK hP 0 rfl rfl 5 (by decide) (hts (.fieldLink RX0 34 "HashedStore" "disk" "[I") (by decide +kernel)) (fun _ h9 => h9) rfl dX0_putCell_33 ?_
      refine lv_iload_n hx hb dX0_putCell_36 rfl (lv_at hl 1 rfl) ?_
      refine lv_iload_n hx hb dX0_putCell_37 rfl (lv_at hl 2 rfl) ?_
      refine hs_ast hx hb hK hP hD hS 1 0 rfl rfl (k := x1) (by omega) (by omega) dX0_putCell_38 (fun H locs hP hD hS => ?_)
      have hP : va_P (dC, dI) vwCl [oX_ h0 hd hp d N w nw sz u kr dn lf dw, ar_ hd cA (2 * sz) (upd F x1 p2), ar_ hp cA sz G] H := hP
      have hD : va_D (va_A [oX_ h0 hd hp d N w nw sz u kr dn lf dw, ar_ hd cA (2 * sz) F, ar_ hp cA sz G] s.heap.size) [oX_ h0 hd hp d N w nw sz u kr dn lf dw, ar_ hd cA (2 * sz) (upd F x1 p2), ar_ hp cA sz G] := hD
      refine lv_aload_n hx hb dX0_putCell_39 rfl (lv_at hl 0 rfl) ?_
      refine lv_dup hx hb dX0_putCell_40 rfl ?_
      refine va_get (D := (dC, dI)) (ci := 0) (v := .int dn) (C := RX0) (T := TX0) (N := 12) hx hb hts (by decide +kernel) hown hK hP 0 rfl rfl 9 (by decide) (hts (.fieldLink RX0 95 "HashedStore" "writeCount" "I") (by decide +kernel)) (fun _ h9 => h9) rfl dX0_putCell_41 ?_
      refine lv_iconst (v := 1) hx hb dX0_putCell_44 (by decide) ?_
      refine lv_iadd hx hb dX0_putCell_45 ?_
      refine va_put (D := (dC, dI)) (ci := 0) (v := .int (dn + 1)) (ty := .int) (C := RX0) (T := TX0) (N := 12) hx hb hts (by decide +kernel) tyX0 tyX0_ok nmX0 hown hK hP hD hS 0 rfl rfl 9 (by decide) (hts (.fieldLink RX0 95 "HashedStore" "writeCount" "I") (by decide +kernel)) (fun _ h9 => h9) rfl (by decide +kernel) rfl rfl (Nat.le_of_ble_eq_true rfl) dX0_putCell_46 (fun H locs hP hD hS => ?_)
      have hP : va_P (dC, dI) vwCl [oX_ h0 hd hp d N w nw sz u kr (dn + 1) lf dw, ar_ hd cA (2 * sz) (upd F x1 p2), ar_ hp cA sz G] H := hP
      have hD : va_D (va_A [oX_ h0 hd hp d N w nw sz u kr dn lf dw, ar_ hd cA (2 * sz) F, ar_ hp cA sz G] s.heap.size) [oX_ h0 hd hp d N w nw sz u kr (dn + 1) lf dw, ar_ hd cA (2 * sz) (upd F x1 p2), ar_ hp cA sz G] := hD
      refine lv_iconst (v := nI 1) hx hb dX0_putCell_49 (by decide) ?_
      exact W.zret (v := nI 1) hx hb hr rfl (fun t ht hW => ⟨⟨nI 1, ((upd F x1 p2, u, kr, (dn + 1), lf, dw), G), rfl, (Or.inr ⟨c1, rfl, by rw [if_pos c2]⟩), by rw [ht]; exact hP, va_K.moved hW.alike hK, hD⟩, hS.F ht⟩) hS.2.2 dX0_putCell_50
    · refine lv_aload_n hx hb dX0_putCell_22 rfl (lv_at hl 0 rfl) ?_
      refine lv_dup hx hb dX0_putCell_23 rfl ?_
      refine va_get (D := (dC, dI)) (ci := 0) (v := .int lf) (C := RX0) (T := TX0) (N := 12) hx hb hts (by decide +kernel) hown hK hP 0 rfl rfl 10 (by decide) (hts (.fieldLink RX0 89 "HashedStore" "writesUntilCrash" "I") (by decide +kernel)) (fun _ h9 => h9) rfl dX0_putCell_24 ?_
      refine lv_iconst (v := 1) hx hb dX0_putCell_27 (by decide) ?_
      refine lv_isub hx hb dX0_putCell_28 ?_
      refine va_put (D := (dC, dI)) (ci := 0) (v := .int (lf - 1)) (ty := .int) (C := RX0) (T := TX0) (N := 12) hx hb hts (by decide +kernel) tyX0 tyX0_ok nmX0 hown hK hP hD hS 0 rfl rfl 10 (by decide) (hts (.fieldLink RX0 89 "HashedStore" "writesUntilCrash" "I") (by decide +kernel)) (fun _ h9 => h9) rfl (by decide +kernel) rfl rfl (Nat.le_of_ble_eq_true rfl) dX0_putCell_29 (fun H locs hP hD hS => ?_)
      have hP : va_P (dC, dI) vwCl [oX_ h0 hd hp d N w nw sz u kr dn (lf - 1) dw, ar_ hd cA (2 * sz) F, ar_ hp cA sz G] H := hP
      have hD : va_D (va_A [oX_ h0 hd hp d N w nw sz u kr dn lf dw, ar_ hd cA (2 * sz) F, ar_ hp cA sz G] s.heap.size) [oX_ h0 hd hp d N w nw sz u kr dn (lf - 1) dw, ar_ hd cA (2 * sz) F, ar_ hp cA sz G] := hD
      refine lv_aload_n hx hb dX0_putCell_32 rfl (lv_at hl 0 rfl) ?_
      refine va_get (D := (dC, dI)) (ci := 0) (v := .ref hd) (C := RX0) (T := TX0) (N := 12) hx hb hts (by decide +kernel) hown hK hP 0 rfl rfl 5 (by decide) (hts (.fieldLink RX0 34 "HashedStore" "disk" "[I") (by decide +kernel)) (fun _ h9 => h9) rfl dX0_putCell_33 ?_
      refine lv_iload_n hx hb dX0_putCell_36 rfl (lv_at hl 1 rfl) ?_
      refine lv_iload_n hx hb dX0_putCell_37 rfl (lv_at hl 2 rfl) ?_
      refine hs_ast hx hb hK hP hD hS 1 0 rfl rfl (k := x1) (by omega) (by omega) dX0_putCell_38 (fun H locs hP hD hS => ?_)
      have hP : va_P (dC, dI) vwCl [oX_ h0 hd hp d N w nw sz u kr dn (lf - 1) dw, ar_ hd cA (2 * sz) (upd F x1 p2), ar_ hp cA sz G] H := hP
      have hD : va_D (va_A [oX_ h0 hd hp d N w nw sz u kr dn lf dw, ar_ hd cA (2 * sz) F, ar_ hp cA sz G] s.heap.size) [oX_ h0 hd hp d N w nw sz u kr dn (lf - 1) dw, ar_ hd cA (2 * sz) (upd F x1 p2), ar_ hp cA sz G] := hD
      refine lv_aload_n hx hb dX0_putCell_39 rfl (lv_at hl 0 rfl) ?_
      refine lv_dup hx hb dX0_putCell_40 rfl ?_
      refine va_get (D := (dC, dI)) (ci := 0) (v := .int dn) (C := RX0) (T := TX0) (N := 12) hx hb hts (by decide +kernel) hown hK hP 0 rfl rfl 9 (by decide) (hts (.fieldLink RX0 95 "HashedStore" "writeCount" "I") (by decide +kernel)) (fun _ h9 => h9) rfl dX0_putCell_41 ?_
      refine lv_iconst (v := 1) hx hb dX0_putCell_44 (by decide) ?_
      refine lv_iadd hx hb dX0_putCell_45 ?_
      refine va_put (D := (dC, dI)) (ci := 0) (v := .int (dn + 1)) (ty := .int) (C := RX0) (T := TX0) (N := 12) hx hb hts (by decide +kernel) tyX0 tyX0_ok nmX0 hown hK hP hD hS 0 rfl rfl 9 (by decide) (hts (.fieldLink RX0 95 "HashedStore" "writeCount" "I") (by decide +kernel)) (fun _ h9 => h9) rfl (by decide +kernel) rfl rfl (Nat.le_of_ble_eq_true rfl) dX0_putCell_46 (fun H locs hP hD hS => ?_)
      have hP : va_P (dC, dI) vwCl [oX_ h0 hd hp d N w nw sz u kr (dn + 1) (lf - 1) dw, ar_ hd cA (2 * sz) (upd F x1 p2), ar_ hp cA sz G] H := hP
      have hD : va_D (va_A [oX_ h0 hd hp d N w nw sz u kr dn lf dw, ar_ hd cA (2 * sz) F, ar_ hp cA sz G] s.heap.size) [oX_ h0 hd hp d N w nw sz u kr (dn + 1) (lf - 1) dw, ar_ hd cA (2 * sz) (upd F x1 p2), ar_ hp cA sz G] := hD
      refine lv_iconst (v := nI 1) hx hb dX0_putCell_49 (by decide) ?_
      exact W.zret (v := nI 1) hx hb hr rfl (fun t ht hW => ⟨⟨nI 1, ((upd F x1 p2, u, kr, (dn + 1), (lf - 1), dw), G), rfl, (Or.inr ⟨c1, rfl, by rw [if_neg c2]⟩), by rw [ht]; exact hP, va_K.moved hW.alike hK, hD⟩, hS.F ht⟩) hS.2.2 dX0_putCell_50
  · refine lv_aload_n hx hb dX0_putCell_7 rfl (lv_at hl 0 rfl) ?_
    refine lv_iconst (v := hs_b true) hx hb dX0_putCell_8 (by decide) ?_
    refine va_put (D := (dC, dI)) (ci := 0) (v := .int (hs_b true)) (ty := .boolean) (C := RX0) (T := TX0) (N := 12) hx hb hts (by decide +kernel) tyX0 tyX0_ok nmX0 hown hK hP hD hS 0 rfl rfl 11 (by decide) (hts (.fieldLink RX0 48 "HashedStore" "isDown" "Z") (by decide +kernel)) (fun _ h9 => h9) rfl (by decide +kernel) rfl rfl (Nat.le_of_ble_eq_true rfl) dX0_putCell_9 (fun H locs hP hD hS => ?_)
    have hP : va_P (dC, dI) vwCl [oX_ h0 hd hp d N w nw sz u kr dn lf true, ar_ hd cA (2 * sz) F, ar_ hp cA sz G] H := hP
    have hD : va_D (va_A [oX_ h0 hd hp d N w nw sz u kr dn lf dw, ar_ hd cA (2 * sz) F, ar_ hp cA sz G] s.heap.size) [oX_ h0 hd hp d N w nw sz u kr dn lf true, ar_ hd cA (2 * sz) F, ar_ hp cA sz G] := hD
    refine lv_iconst (v := nI 0) hx hb dX0_putCell_12 (by decide) ?_
    exact W.zret (v := nI 0) hx hb hr rfl (fun t ht hW => ⟨⟨nI 0, ((F, u, kr, dn, lf, true), G), rfl, (Or.inl ⟨c1, rfl, rfl⟩), by rw [ht]; exact hP, va_K.moved hW.alike hK, hD⟩, hS.F ht⟩) hS.2.2 dX0_putCell_13
set_option maxHeartbeats 4000000 in
set_option maxRecDepth 100000 in
theorem kX0_bringToPlan (l : Launch) (dC : Nat → ClassId) (dI : Nat → Nat → Nat) (h0 hd hp : Nat) (cA : ClassId) (d N w nw sz u : Nat) (F G : Nat → Int32) (kr dn lf : Int32) (dw : Bool) (ok : hs_ok d N w nw sz) (zz : Nat) (o x : Nat) (hx2 : o + x < 2 * sz) (hxs : x < sz) : Met l yX0_bringToPlan wsX0_bringToPlan ({ frames := 1, cells := 0, slots := 0, locals := 22 }) (va_Pc [.ref h0, .int (nI o), .int (nI x)] (hs_pm (dC, dI) vwCl [(cA, .int)] [oX_ h0 hd hp d N w nw sz u kr dn lf dw, ar_ hd cA (2 * sz) F, ar_ hp cA sz G] zz)) (va_Qi (S := hs_S × (Nat → Int32)) (fun r uu => r = hs_b (hs_put o G x (F, lf, dn, dw)).2 ∧ uu = (((hs_put o G x (F, lf, dn, dw)).1.1, u, kr, (hs_put o G x (F, lf, dn, dw)).1.2.2.1, (hs_put o G x (F, lf, dn, dw)).1.2.1, (hs_put o G x (F, lf, dn, dw)).1.2.2.2), G)) (hs_B (dC, dI) vwCl [(cA, .int)] (wfX h0 hd hp cA d N w nw sz) (va_A [oX_ h0 hd hp d N w nw sz u kr dn lf dw, ar_ hd cA (2 * sz) F, ar_ hp cA sz G] zz)) (va_A [oX_ h0 hd hp d N w nw sz u kr dn lf dw, ar_ hd cA (2 * sz) F, ar_ hp cA sz G] zz)) 0 0 (va_A [oX_ h0 hd hp d N w nw sz u kr dn lf dw, ar_ hd cA (2 * sz) F, ar_ hp cA sz G] zz) := by
  refine Met.ofW (cc := cX0_bringToPlan) (maxL := 3) (ret := (some .boolean)) (by decide) rfl ?_
  intro p e s m args below meth c s₁ B hml hv
  obtain ⟨rfl, hzz, hP, hK, hD0⟩ := hv
  have hx := B.exec
  have hb := B.bytes
  have hr := B.returns
  have hts := atoms_spec (ws := wsX0_bringToPlan) B.pre
  have hown : s.vm.findClass RX0 = some m.cls := findClass_of_methodNamed B.named
  have hlocks := B.notSynchronized
  obtain ⟨hd5, hN1, hN2, hw1, hw2, hn1, hn2, hsz, hsz2⟩ := hs_okf ok
  have hnw : nw = N * w := ok.2.2.2.2.1
  subst hzz
  have hD := hD0.self (sz := s.heap.size)
  have hS : va_S (va_A [oX_ h0 hd hp d N w nw sz u kr dn lf dw, ar_ hd cA (2 * sz) F, ar_ hp cA sz G] s.heap.size) s.heap s.heap [] := va_S.rf
  have hA : ∀ q : Nat, s.heap.size ≤ q → va_A [oX_ h0 hd hp d N w nw sz u kr dn lf dw, ar_ hd cA (2 * sz) F, ar_ hp cA sz G] s.heap.size q := fun q h => Or.inr h
  have hl := lv_entry ([.ref h0, .int (nI o), .int (nI x)]) (n := 3) (Nat.le_of_ble_eq_true rfl)
  rw [lg_entry_eq]
  generalize (lg_sl ([.ref h0, .int (nI o), .int (nI x)]) ++ List.replicate (3 - (lg_sl ([.ref h0, .int (nI o), .int (nI x)])).length) Slot.unset).toArray = ls at hl ⊢
  have hl : lv_has ls 3 [(0, .ref h0), (1, .int (nI o)), (2, .int (nI x))] := hl
  refine lv_aload_n hx hb dX0_bringToPlan_0 rfl (lv_at hl 0 rfl) ?_
  refine va_get (D := (dC, dI)) (ci := 0) (v := .ref hd) (C := RX0) (T := TX0) (N := 12) hx hb hts (by decide +kernel) hown hK hP 0 rfl rfl 5 (by decide) (hts (.fieldLink RX0 34 "HashedStore" "disk" "[I") (by decide +kernel)) (fun _ h9 => h9) rfl dX0_bringToPlan_1 ?_
  refine lv_iload_n hx hb dX0_bringToPlan_4 rfl (lv_at hl 1 rfl) ?_
  refine lv_iload_n hx hb dX0_bringToPlan_5 rfl (lv_at hl 2 rfl) ?_
  refine hs_addN hx hb dX0_bringToPlan_6 ?_
  refine hs_ald hx hb hK hP 1 0 rfl rfl (k := o + x) (by omega) (by omega) dX0_bringToPlan_7 ?_
  refine lv_aload_n hx hb dX0_bringToPlan_8 rfl (lv_at hl 0 rfl) ?_
  refine va_get (D := (dC, dI)) (ci := 0) (v := .ref hp) (C := RX0) (T := TX0) (N := 12) hx hb hts (by decide +kernel) hown hK hP 0 rfl rfl 6 (by decide) (hts (.fieldLink RX0 38 "HashedStore" "plan" "[I") (by decide +kernel)) (fun _ h9 => h9) rfl dX0_bringToPlan_9 ?_
  refine lv_iload_n hx hb dX0_bringToPlan_12 rfl (lv_at hl 2 rfl) ?_
  refine hs_ald hx hb hK hP 2 0 rfl rfl (k := x) (by omega) (by omega) dX0_bringToPlan_13 ?_
  refine lv_icmp_eq (tgt := 33) hx hb dX0_bringToPlan_14 (by decide) (fun c1 => ?_) (fun c1 => ?_)
  · refine lv_iconst (v := nI 1) hx hb dX0_bringToPlan_33 (by decide) ?_
    refine lv_goto (tgt := 38) hx hb dX0_bringToPlan_34 (by decide) ?_
    exact W.zret (v := nI 1) hx hb hr rfl (fun t ht hW => ⟨⟨nI 1, ((F, u, kr, dn, lf, dw), G), rfl, (by rw [hs_put, if_pos c1]; exact ⟨rfl, rfl⟩), by rw [ht]; exact hP, va_K.moved hW.alike hK, hD⟩, hS.F ht⟩) hS.2.2 dX0_bringToPlan_38
  · refine lv_aload_n hx hb dX0_bringToPlan_17 rfl (lv_at hl 0 rfl) ?_
    refine lv_iload_n hx hb dX0_bringToPlan_18 rfl (lv_at hl 1 rfl) ?_
    refine lv_iload_n hx hb dX0_bringToPlan_19 rfl (lv_at hl 2 rfl) ?_
    refine hs_addN hx hb dX0_bringToPlan_20 ?_
    refine lv_aload_n hx hb dX0_bringToPlan_21 rfl (lv_at hl 0 rfl) ?_
    refine va_get (D := (dC, dI)) (ci := 0) (v := .ref hp) (C := RX0) (T := TX0) (N := 12) hx hb hts (by decide +kernel) hown hK hP 0 rfl rfl 6 (by decide) (hts (.fieldLink RX0 38 "HashedStore" "plan" "[I") (by decide +kernel)) (fun _ h9 => h9) rfl dX0_bringToPlan_22 ?_
    refine lv_iload_n hx hb dX0_bringToPlan_25 rfl (lv_at hl 2 rfl) ?_
    refine hs_ald hx hb hK hP 2 0 rfl rfl (k := x) (by omega) (by omega) dX0_bringToPlan_26 ?_
    refine hs_ci (va_runV (As := [.int (nI (o + x)), .int (G x)]) (rest := []) ⟨hx, hb, hml, hown, hts⟩ (kX0_putCell l dC dI h0 hd hp cA d N w nw sz u F G kr dn lf dw ok _ (o + x) (G x) (by omega)) (cwV 2 hts gX0_bringToPlan_X0_putCell rfl rfl rfl (by decide +kernel) ⟨(Nat.le_of_ble_eq_true rfl), (Nat.le_of_ble_eq_true rfl)⟩) (hs_preM (q := (RX0, TX0, 12)) (ci := 0) hK hP hD rfl rfl) rfl rfl hl.1 rfl (lv_room (Nat.le_of_ble_eq_true rfl)) dX0_bringToPlan_27 ⟨Nat.zero_le _, Nat.zero_le _⟩) hS hD hA (fun rv v H locs hv hP hD hS => ?_)
    rcases hv with ⟨c2, rfl, rfl⟩ | ⟨c2, rfl, rfl⟩
    · have c2 := c2
      have hP : va_P (dC, dI) vwCl [oX_ h0 hd hp d N w nw sz u kr dn lf true, ar_ hd cA (2 * sz) F, ar_ hp cA sz G] H := hP
      have hD : va_D (va_A [oX_ h0 hd hp d N w nw sz u kr dn lf dw, ar_ hd cA (2 * sz) F, ar_ hp cA sz G] s.heap.size) [oX_ h0 hd hp d N w nw sz u kr dn lf true, ar_ hd cA (2 * sz) F, ar_ hp cA sz G] := hD
      refine lv_if_eq (tgt := 37) hx hb dX0_bringToPlan_30 (by decide) (fun c3 => ?_) (fun c3 => ?_)
      · refine lv_iconst (v := nI 0) hx hb dX0_bringToPlan_37 (by decide) ?_
        exact W.zret (v := nI 0) hx hb hr rfl (fun t ht hW => ⟨⟨nI 0, ((F, u, kr, dn, lf, true), G), rfl, (by rw [hs_put, if_neg c1, if_pos c2]; exact ⟨rfl, rfl⟩), by rw [ht]; exact hP, va_K.moved hW.alike hK, hD⟩, hS.F ht⟩) hS.2.2 dX0_bringToPlan_38
      · exact absurd rfl c3
    · have c2 := c2
      have hP : va_P (dC, dI) vwCl [oX_ h0 hd hp d N w nw sz u kr (dn + 1) (if lf = -1 then lf else lf - 1) dw, ar_ hd cA (2 * sz) (upd F (o + x) (G x)), ar_ hp cA sz G] H := hP
      have hD : va_D (va_A [oX_ h0 hd hp d N w nw sz u kr dn lf dw, ar_ hd cA (2 * sz) F, ar_ hp cA sz G] s.heap.size) [oX_ h0 hd hp d N w nw sz u kr (dn + 1) (if lf = -1 then lf else lf - 1) dw, ar_ hd cA (2 * sz) (upd F (o + x) (G x)), ar_ hp cA sz G] := hD
      refine lv_if_eq (tgt := 37) hx hb dX0_bringToPlan_30 (by decide) (fun c3 => ?_) (fun c3 => ?_)
      · exact absurd c3 (by decide)
      · refine lv_iconst (v := nI 1) hx hb dX0_bringToPlan_33 (by decide) ?_
        refine lv_goto (tgt := 38) hx hb dX0_bringToPlan_34 (by decide) ?_
        exact W.zret (v := nI 1) hx hb hr rfl (fun t ht hW => ⟨⟨nI 1, ((upd F (o + x) (G x), u, kr, (dn + 1), (if lf = -1 then lf else lf - 1), dw), G), rfl, (by rw [hs_put, if_neg c1, if_neg c2]; exact ⟨rfl, rfl⟩), by rw [ht]; exact hP, va_K.moved hW.alike hK, hD⟩, hS.F ht⟩) hS.2.2 dX0_bringToPlan_38
set_option maxHeartbeats 4000000 in
set_option maxRecDepth 100000 in
theorem kX0_carryOutPlan (l : Launch) (dC : Nat → ClassId) (dI : Nat → Nat → Nat) (h0 hd hp : Nat) (cA : ClassId) (d N w nw sz u : Nat) (F G : Nat → Int32) (kr dn lf : Int32) (dw : Bool) (ok : hs_ok d N w nw sz) (zz : Nat) (o : Nat) (ho : o + sz ≤ 2 * sz) : Met l yX0_carryOutPlan wsX0_carryOutPlan ({ frames := 2, cells := 0, slots := 0, locals := 44 }) (va_Pc [.ref h0, .int (nI o)] (hs_pm (dC, dI) vwCl [(cA, .int)] [oX_ h0 hd hp d N w nw sz u kr dn lf dw, ar_ hd cA (2 * sz) F, ar_ hp cA sz G] zz)) (va_Qi (S := hs_S × (Nat → Int32)) (fun r uu => r = hs_b (hs_ps o G (hs_cs N nw) (F, lf, dn, dw)).2 ∧ uu = (((hs_ps o G (hs_cs N nw) (F, lf, dn, dw)).1.1, u, kr, (hs_ps o G (hs_cs N nw) (F, lf, dn, dw)).1.2.2.1, (hs_ps o G (hs_cs N nw) (F, lf, dn, dw)).1.2.1, (hs_ps o G (hs_cs N nw) (F, lf, dn, dw)).1.2.2.2), G)) (hs_B (dC, dI) vwCl [(cA, .int)] (wfX h0 hd hp cA d N w nw sz) (va_A [oX_ h0 hd hp d N w nw sz u kr dn lf dw, ar_ hd cA (2 * sz) F, ar_ hp cA sz G] zz)) (va_A [oX_ h0 hd hp d N w nw sz u kr dn lf dw, ar_ hd cA (2 * sz) F, ar_ hp cA sz G] zz)) 0 0 (va_A [oX_ h0 hd hp d N w nw sz u kr dn lf dw, ar_ hd cA (2 * sz) F, ar_ hp cA sz G] zz) := by
  refine Met.ofW (cc := cX0_carryOutPlan) (maxL := 3) (ret := (some .boolean)) (by decide) rfl ?_
  intro p e s m args below meth c s₁ B hml hv
  obtain ⟨rfl, hzz, hP, hK, hD0⟩ := hv
  have hx := B.exec
  have hb := B.bytes
  have hr := B.returns
  have hts := atoms_spec (ws := wsX0_carryOutPlan) B.pre
  have hown : s.vm.findClass RX0 = some m.cls := findClass_of_methodNamed B.named
  have hlocks := B.notSynchronized
  obtain ⟨hd5, hN1, hN2, hw1, hw2, hn1, hn2, hsz, hsz2⟩ := hs_okf ok
  have hnw : nw = N * w := ok.2.2.2.2.1
  subst hzz
  have hD := hD0.self (sz := s.heap.size)
  have hS : va_S (va_A [oX_ h0 hd hp d N w nw sz u kr dn lf dw, ar_ hd cA (2 * sz) F, ar_ hp cA sz G] s.heap.size) s.heap s.heap [] := va_S.rf
  have hA : ∀ q : Nat, s.heap.size ≤ q → va_A [oX_ h0 hd hp d N w nw sz u kr dn lf dw, ar_ hd cA (2 * sz) F, ar_ hp cA sz G] s.heap.size q := fun q h => Or.inr h
  have hl := lv_entry ([.ref h0, .int (nI o)]) (n := 3) (Nat.le_of_ble_eq_true rfl)
  rw [lg_entry_eq]
  generalize (lg_sl ([.ref h0, .int (nI o)]) ++ List.replicate (3 - (lg_sl ([.ref h0, .int (nI o)])).length) Slot.unset).toArray = ls at hl ⊢
  have hl : lv_has ls 3 [(0, .ref h0), (1, .int (nI o))] := hl
  have loop2 : ∀ (n : Nat) (x : Nat) (F1 : Nat → Int32) (lf1 : Int32) (dn1 : Int32) (dw1 : Bool) (H : Heap) (locs : List Loc) (ls : Array Slot), (x + 1 = nw + n) → (n ≤ 2 * N - 1) → (hs_ps o G (hs_ds nw n) (F1, lf1, dn1, dw1) = (hs_ps o G (hs_cs N nw) (F, lf, dn, dw))) → va_P (dC, dI) vwCl [oX_ h0 hd hp d N w nw sz u kr dn1 lf1 dw1, ar_ hd cA (2 * sz) F1, ar_ hp cA sz G] H → va_D (va_A [oX_ h0 hd hp d N w nw sz u kr dn lf dw, ar_ hd cA (2 * sz) F, ar_ hp cA sz G] s.heap.size) [oX_ h0 hd hp d N w nw sz u kr dn1 lf1 dw1, ar_ hd cA (2 * sz) F1, ar_ hp cA sz G] → va_S (va_A [oX_ h0 hd hp d N w nw sz u kr dn lf dw, ar_ hd cA (2 * sz) F, ar_ hp cA sz G] s.heap.size) s.heap H locs → lv_has ls 3 [(2, .int (nI x)), (0, .ref h0), (1, .int (nI o))] → W p l e (headSpec wsX0_carryOutPlan ({ frames := 2, cells := 0, slots := 0, locals := 44 })).room s m ([.ref h0, .int (nI o)] : List Value).toArray below meth c H locs 0 0 (MQ below (va_Qi (S := hs_S × (Nat → Int32)) (fun r uu => r = hs_b (hs_ps o G (hs_cs N nw) (F, lf, dn, dw)).2 ∧ uu = (((hs_ps o G (hs_cs N nw) (F, lf, dn, dw)).1.1, u, kr, (hs_ps o G (hs_cs N nw) (F, lf, dn, dw)).1.2.2.1, (hs_ps o G (hs_cs N nw) (F, lf, dn, dw)).1.2.1, (hs_ps o G (hs_cs N nw) (F, lf, dn, dw)).1.2.2.2), G)) (hs_B (dC, dI) vwCl [(cA, .int)] (wfX h0 hd hp cA d N w nw sz) (va_A [oX_ h0 hd hp d N w nw sz u kr dn lf dw, ar_ hd cA (2 * sz) F, ar_ hp cA sz G] s.heap.size)) (va_A [oX_ h0 hd hp d N w nw sz u kr dn lf dw, ar_ hd cA (2 * sz) F, ar_ hp cA sz G] s.heap.size)) ([.ref h0, .int (nI o)] : List Value).toArray s 0 0 (va_A [oX_ h0 hd hp d N w nw sz u kr dn lf dw, ar_ hd cA (2 * sz) F, ar_ hp cA sz G] s.heap.size)) (F0 m 34 ls []) := by
    intro n
    induction n with
    | zero =>
      intro x F1 lf1 dn1 dw1 H locs ls hx2 hn3 he hP hD hS hl
      refine lv_iload_n hx hb dX0_carryOutPlan_34 rfl (lv_at hl 0 rfl) ?_
      refine lv_aload_n hx hb dX0_carryOutPlan_35 rfl (lv_at hl 1 rfl) ?_
      refine va_get (D := (dC, dI)) (ci := 0) (v := .int (nI nw)) (C := RX0) (T := TX0) (N := 12) hx hb hts (by decide +kernel) hown hK hP 0 rfl rfl 3 (by decide) (hts (.fieldLink RX0 28 "HashedStore" "areaWords" "I") (by decide +kernel)) (fun _ h9 => h9) rfl dX0_carryOutPlan_36 ?_
      refine hs_clt (tgt := 59) hx hb (by omega) (by omega) dX0_carryOutPlan_39 (by decide) (fun c1 => ?_) (fun c1 => ?_)
      · refine lv_iconst (v := nI 1) hx hb dX0_carryOutPlan_59 (by decide) ?_
        exact W.zret (v := nI 1) hx hb hr rfl (fun t ht hW => ⟨⟨nI 1, ((F1, u, kr, dn1, lf1, dw1), G), rfl, (by rw [← he]; exact ⟨rfl, rfl⟩), by rw [ht]; exact hP, va_K.moved hW.alike hK, hD⟩, hS.F ht⟩) hS.2.2 dX0_carryOutPlan_60
      · exact absurd c1 (by omega)
    | succ n ih =>
      intro x F1 lf1 dn1 dw1 H locs ls hx2 hn3 he hP hD hS hl
      obtain ⟨y, rfl⟩ : ∃ y, x = y + 1 := ⟨x - 1, by omega⟩
      have he : hs_ps o G ((y + 1) :: hs_ds nw n) (F1, lf1, dn1, dw1) = (hs_ps o G (hs_cs N nw) (F, lf, dn, dw)) := by rw [show y + 1 = nw + (n + 1) - 1 by omega]; exact he
      refine lv_iload_n hx hb dX0_carryOutPlan_34 rfl (lv_at hl 0 rfl) ?_
      refine lv_aload_n hx hb dX0_carryOutPlan_35 rfl (lv_at hl 1 rfl) ?_
      refine va_get (D := (dC, dI)) (ci := 0) (v := .int (nI nw)) (C := RX0) (T := TX0) (N := 12) hx hb hts (by decide +kernel) hown hK hP 0 rfl rfl 3 (by decide) (hts (.fieldLink RX0 28 "HashedStore" "areaWords" "I") (by decide +kernel)) (fun _ h9 => h9) rfl dX0_carryOutPlan_36 ?_
      refine hs_clt (tgt := 59) hx hb (by omega) (by omega) dX0_carryOutPlan_39 (by decide) (fun c1 => ?_) (fun c1 => ?_)
      · exact absurd c1 (by omega)
      · refine lv_aload_n hx hb dX0_carryOutPlan_42 rfl (lv_at hl 1 rfl) ?_
        refine lv_iload_n hx hb dX0_carryOutPlan_43 rfl (lv_at hl 2 rfl) ?_
        refine lv_iload_n hx hb dX0_carryOutPlan_44 rfl (lv_at hl 0 rfl) ?_
        refine hs_ci (va_runV (As := [.int (nI o), .int (nI (y + 1))]) (rest := []) ⟨hx, hb, hml, hown, hts⟩ (kX0_bringToPlan l dC dI h0 hd hp cA d N w nw sz u F1 G kr dn1 lf1 dw1 ok _ o (y + 1) (by omega) (by omega)) (cwV 2 hts gX0_carryOutPlan_X0_bringToPlan rfl rfl rfl (by decide +kernel) ⟨(Nat.le_of_ble_eq_true rfl), (Nat.le_of_ble_eq_true rfl)⟩) (hs_preM (q := (RX0, TX0, 12)) (ci := 0) hK hP hD rfl rfl) rfl rfl hl.1 rfl (lv_room (Nat.le_of_ble_eq_true rfl)) dX0_carryOutPlan_45 ⟨Nat.zero_le _, Nat.zero_le _⟩) hS hD hA (fun rv v H locs hv hP hD hS => ?_)
        obtain ⟨rfl, rfl⟩ := hv
        have hP : va_P (dC, dI) vwCl [oX_ h0 hd hp d N w nw sz u kr ((hs_put o G (y + 1) (F1, lf1, dn1, dw1)).1.2.2.1) ((hs_put o G (y + 1) (F1, lf1, dn1, dw1)).1.2.1) ((hs_put o G (y + 1) (F1, lf1, dn1, dw1)).1.2.2.2), ar_ hd cA (2 * sz) ((hs_put o G (y + 1) (F1, lf1, dn1, dw1)).1.1), ar_ hp cA sz G] H := hP
        have hD : va_D (va_A [oX_ h0 hd hp d N w nw sz u kr dn lf dw, ar_ hd cA (2 * sz) F, ar_ hp cA sz G] s.heap.size) [oX_ h0 hd hp d N w nw sz u kr ((hs_put o G (y + 1) (F1, lf1, dn1, dw1)).1.2.2.1) ((hs_put o G (y + 1) (F1, lf1, dn1, dw1)).1.2.1) ((hs_put o G (y + 1) (F1, lf1, dn1, dw1)).1.2.2.2), ar_ hd cA (2 * sz) ((hs_put o G (y + 1) (F1, lf1, dn1, dw1)).1.1), ar_ hp cA sz G] := hD
        refine hs_bne (tgt := 53) hx hb dX0_carryOutPlan_48 (by decide) (fun c2 => ?_) (fun c2 => ?_)
        · refine lv_iinc (v := nI y) (lv' := [(2, .int (nI y)), (0, .ref h0), (1, .int (nI o))]) hx hb dX0_carryOutPlan_53 hl (k := 0) rfl (pk_m1 _) (by decide) rfl (fun ls hl => ?_)
          refine lv_goto (tgt := 34) hx hb dX0_carryOutPlan_56 (by decide) ?_
          exact ih y _ _ _ _ H locs ls (by omega) (by omega) ((hs_psp c2).symm.trans he) hP hD hS (lv_sub hl [0, 1, 2] rfl)
        · refine lv_iconst (v := nI 0) hx hb dX0_carryOutPlan_51 (by decide) ?_
          exact W.zret (v := nI 0) hx hb hr rfl (fun t ht hW => ⟨⟨nI 0, (((hs_put o G (y + 1) (F1, lf1, dn1, dw1)).1.1, u, kr, (hs_put o G (y + 1) (F1, lf1, dn1, dw1)).1.2.2.1, (hs_put o G (y + 1) (F1, lf1, dn1, dw1)).1.2.1, (hs_put o G (y + 1) (F1, lf1, dn1, dw1)).1.2.2.2), G), rfl, (by rw [← ((hs_psn c2).symm.trans he)]; exact ⟨by rw [c2]; rfl, rfl⟩), by rw [ht]; exact hP, va_K.moved hW.alike hK, hD⟩, hS.F ht⟩) hS.2.2 dX0_carryOutPlan_52
  refine lv_iconst (v := nI 0) hx hb dX0_carryOutPlan_0 (by decide) ?_
  refine lv_istore_n (lv' := [(2, .int (nI 0)), (0, .ref h0), (1, .int (nI o))]) hx hb dX0_carryOutPlan_1 rfl hl (by decide) rfl (fun ls hl => ?_)
  have loop1 : ∀ (n : Nat) (i : Nat) (F1 : Nat → Int32) (lf1 : Int32) (dn1 : Int32) (dw1 : Bool) (H : Heap) (locs : List Loc) (ls : Array Slot), (i + n = nw) → (hs_ps o G (hs_us n i ++ hs_ds nw (2 * N - 1)) (F1, lf1, dn1, dw1) = (hs_ps o G (hs_cs N nw) (F, lf, dn, dw))) → va_P (dC, dI) vwCl [oX_ h0 hd hp d N w nw sz u kr dn1 lf1 dw1, ar_ hd cA (2 * sz) F1, ar_ hp cA sz G] H → va_D (va_A [oX_ h0 hd hp d N w nw sz u kr dn lf dw, ar_ hd cA (2 * sz) F, ar_ hp cA sz G] s.heap.size) [oX_ h0 hd hp d N w nw sz u kr dn1 lf1 dw1, ar_ hd cA (2 * sz) F1, ar_ hp cA sz G] → va_S (va_A [oX_ h0 hd hp d N w nw sz u kr dn lf dw, ar_ hd cA (2 * sz) F, ar_ hp cA sz G] s.heap.size) s.heap H locs → lv_has ls 3 [(2, .int (nI i)), (0, .ref h0), (1, .int (nI o))] → W p l e (headSpec wsX0_carryOutPlan ({ frames := 2, cells := 0, slots := 0, locals := 44 })).room s m ([.ref h0, .int (nI o)] : List Value).toArray below meth c H locs 0 0 (MQ below (va_Qi (S := hs_S × (Nat → Int32)) (fun r uu => r = hs_b (hs_ps o G (hs_cs N nw) (F, lf, dn, dw)).2 ∧ uu = (((hs_ps o G (hs_cs N nw) (F, lf, dn, dw)).1.1, u, kr, (hs_ps o G (hs_cs N nw) (F, lf, dn, dw)).1.2.2.1, (hs_ps o G (hs_cs N nw) (F, lf, dn, dw)).1.2.1, (hs_ps o G (hs_cs N nw) (F, lf, dn, dw)).1.2.2.2), G)) (hs_B (dC, dI) vwCl [(cA, .int)] (wfX h0 hd hp cA d N w nw sz) (va_A [oX_ h0 hd hp d N w nw sz u kr dn lf dw, ar_ hd cA (2 * sz) F, ar_ hp cA sz G] s.heap.size)) (va_A [oX_ h0 hd hp d N w nw sz u kr dn lf dw, ar_ hd cA (2 * sz) F, ar_ hp cA sz G] s.heap.size)) ([.ref h0, .int (nI o)] : List Value).toArray s 0 0 (va_A [oX_ h0 hd hp d N w nw sz u kr dn lf dw, ar_ hd cA (2 * sz) F, ar_ hp cA sz G] s.heap.size)) (F0 m 2 ls []) := by
    intro n
    induction n with
    | zero =>
      intro i F1 lf1 dn1 dw1 H locs ls hi he hP hD hS hl
      refine lv_iload_n hx hb dX0_carryOutPlan_2 rfl (lv_at hl 0 rfl) ?_
      refine lv_aload_n hx hb dX0_carryOutPlan_3 rfl (lv_at hl 1 rfl) ?_
      refine va_get (D := (dC, dI)) (ci := 0) (v := .int (nI nw)) (C := RX0) (T := TX0) (N := 12) hx hb hts (by decide +kernel) hown hK hP 0 rfl rfl 3 (by decide) (hts (.fieldLink RX0 28 "HashedStore" "areaWords" "I") (by decide +kernel)) (fun _ h9 => h9) rfl dX0_carryOutPlan_4 ?_
      refine hs_cge (tgt := 27) hx hb (by omega) (by omega) dX0_carryOutPlan_7 (by decide) (fun c1 => ?_) (fun c1 => ?_)
      · refine lv_aload_n hx hb dX0_carryOutPlan_27 rfl (lv_at hl 1 rfl) ?_
        refine va_get (D := (dC, dI)) (ci := 0) (v := .int (nI sz)) (C := RX0) (T := TX0) (N := 12) hx hb hts (by decide +kernel) hown hK hP 0 rfl rfl 4 (by decide) (hts (.fieldLink RX0 31 "HashedStore" "areaCells" "I") (by decide +kernel)) (fun _ h9 => h9) rfl dX0_carryOutPlan_28 ?_
        refine lv_iconst (v := nI 1) hx hb dX0_carryOutPlan_31 (by decide) ?_
        refine hs_subN hx hb (by omega) dX0_carryOutPlan_32 ?_
        refine lv_istore_n (lv' := [(2, .int (nI (sz - 1))), (0, .ref h0), (1, .int (nI o))]) hx hb dX0_carryOutPlan_33 rfl hl (by decide) rfl (fun ls hl => ?_)
        exact loop2 (2 * N - 1) (sz - 1) F1 lf1 dn1 dw1 H locs ls (by omega) (Nat.le_refl _) he hP hD hS (lv_sub hl [0, 1, 2] rfl)
      · exact absurd c1 (by omega)
    | succ n ih =>
      intro i F1 lf1 dn1 dw1 H locs ls hi he hP hD hS hl
      refine lv_iload_n hx hb dX0_carryOutPlan_2 rfl (lv_at hl 0 rfl) ?_
      refine lv_aload_n hx hb dX0_carryOutPlan_3 rfl (lv_at hl 1 rfl) ?_
      refine va_get (D := (dC, dI)) (ci := 0) (v := .int (nI nw)) (C := RX0) (T := TX0) (N := 12) hx hb hts (by decide +kernel) hown hK hP 0 rfl rfl 3 (by decide) (hts (.fieldLink RX0 28 "HashedStore" "areaWords" "I") (by decide +kernel)) (fun _ h9 => h9) rfl dX0_carryOutPlan_4 ?_
      refine hs_cge (tgt := 27) hx hb (by omega) (by omega) dX0_carryOutPlan_7 (by decide) (fun c1 => ?_) (fun c1 => ?_)
      · exact absurd c1 (by omega)
      · refine lv_aload_n hx hb dX0_carryOutPlan_10 rfl (lv_at hl 1 rfl) ?_
        refine lv_iload_n hx hb dX0_carryOutPlan_11 rfl (lv_at hl 2 rfl) ?_
        refine lv_iload_n hx hb dX0_carryOutPlan_12 rfl (lv_at hl 0 rfl) ?_
        refine hs_ci (va_runV (As := [.int (nI o), .int (nI i)]) (rest := []) ⟨hx, hb, hml, hown, hts⟩ (kX0_bringToPlan l dC dI h0 hd hp cA d N w nw sz u F1 G kr dn1 lf1 dw1 ok _ o i (by omega) (by omega)) (cwV 2 hts gX0_carryOutPlan_X0_bringToPlan rfl rfl rfl (by decide +kernel) ⟨(Nat.le_of_ble_eq_true rfl), (Nat.le_of_ble_eq_true rfl)⟩) (hs_preM (q := (RX0, TX0, 12)) (ci := 0) hK hP hD rfl rfl) rfl rfl hl.1 rfl (lv_room (Nat.le_of_ble_eq_true rfl)) dX0_carryOutPlan_13 ⟨Nat.zero_le _, Nat.zero_le _⟩) hS hD hA (fun rv v H locs hv hP hD hS => ?_)
        obtain ⟨rfl, rfl⟩ := hv
        have hP : va_P (dC, dI) vwCl [oX_ h0 hd hp d N w nw sz u kr ((hs_put o G i (F1, lf1, dn1, dw1)).1.2.2.1) ((hs_put o G i (F1, lf1, dn1, dw1)).1.2.1) ((hs_put o G i (F1, lf1, dn1, dw1)).1.2.2.2), ar_ hd cA (2 * sz) ((hs_put o G i (F1, lf1, dn1, dw1)).1.1), ar_ hp cA sz G] H := hP
        have hD : va_D (va_A [oX_ h0 hd hp d N w nw sz u kr dn lf dw, ar_ hd cA (2 * sz) F, ar_ hp cA sz G] s.heap.size) [oX_ h0 hd hp d N w nw sz u kr ((hs_put o G i (F1, lf1, dn1, dw1)).1.2.2.1) ((hs_put o G i (F1, lf1, dn1, dw1)).1.2.1) ((hs_put o G i (F1, lf1, dn1, dw1)).1.2.2.2), ar_ hd cA (2 * sz) ((hs_put o G i (F1, lf1, dn1, dw1)).1.1), ar_ hp cA sz G] := hD
        refine hs_bne (tgt := 21) hx hb dX0_carryOutPlan_16 (by decide) (fun c2 => ?_) (fun c2 => ?_)
        · refine lv_iinc (v := nI (i + 1)) (lv' := [(2, .int (nI (i + 1))), (0, .ref h0), (1, .int (nI o))]) hx hb dX0_carryOutPlan_21 hl (k := 0) rfl (nI_1 _) (by decide) rfl (fun ls hl => ?_)
          refine lv_goto (tgt := 2) hx hb dX0_carryOutPlan_24 (by decide) ?_
          exact ih (i + 1) _ _ _ _ H locs ls (by omega) ((hs_psp c2).symm.trans he) hP hD hS (lv_sub hl [0, 1, 2] rfl)
        · refine lv_iconst (v := nI 0) hx hb dX0_carryOutPlan_19 (by decide) ?_
          exact W.zret (v := nI 0) hx hb hr rfl (fun t ht hW => ⟨⟨nI 0, (((hs_put o G i (F1, lf1, dn1, dw1)).1.1, u, kr, (hs_put o G i (F1, lf1, dn1, dw1)).1.2.2.1, (hs_put o G i (F1, lf1, dn1, dw1)).1.2.1, (hs_put o G i (F1, lf1, dn1, dw1)).1.2.2.2), G), rfl, (by rw [← ((hs_psn c2).symm.trans he)]; exact ⟨by rw [c2]; rfl, rfl⟩), by rw [ht]; exact hP, va_K.moved hW.alike hK, hD⟩, hS.F ht⟩) hS.2.2 dX0_carryOutPlan_20
  exact loop1 nw 0 F lf dn dw _ _ ls (by omega) rfl hP hD hS (lv_sub hl [0, 1, 2] rfl)
set_option maxHeartbeats 4000000 in
set_option maxRecDepth 100000 in
theorem kX0_planWord (l : Launch) (dC : Nat → ClassId) (dI : Nat → Nat → Nat) (h0 hd hp : Nat) (cA : ClassId) (d N w nw sz u : Nat) (F G : Nat → Int32) (kr dn lf : Int32) (dw : Bool) (ok : hs_ok d N w nw sz) (zz : Nat) (j i : Nat) (p3 : Int32) (hj : j < N) (hi : i < w) (hu : u < 2) : Met l yX0_planWord wsX0_planWord ({ frames := 2, cells := 0, slots := 0, locals := 47 }) (va_Pc [.ref h0, .int (nI j), .int (nI i), .int p3] (hs_pm (dC, dI) vwCl [(cA, .int)] [oX_ h0 hd hp d N w nw sz u kr dn lf dw, ar_ hd cA (2 * sz) F, ar_ hp cA sz G] zz)) (va_Qv (S := hs_S × (Nat → Int32)) (fun uu => uu = ((F, u, kr, dn, lf, dw), (hs_pl d N w nw (hs_vw sz F u) j i p3).1)) (hs_B (dC, dI) vwCl [(cA, .int)] (wfX h0 hd hp cA d N w nw sz) (va_A [oX_ h0 hd hp d N w nw sz u kr dn lf dw, ar_ hd cA (2 * sz) F, ar_ hp cA sz G] zz)) (va_A [oX_ h0 hd hp d N w nw sz u kr dn lf dw, ar_ hd cA (2 * sz) F, ar_ hp cA sz G] zz)) 0 0 (va_A [oX_ h0 hd hp d N w nw sz u kr dn lf dw, ar_ hd cA (2 * sz) F, ar_ hp cA sz G] zz) := by
  refine Met.ofW (cc := cX0_planWord) (maxL := 6) (ret := none) (by decide) rfl ?_
  intro p e s m args below meth c s₁ B hml hv
  obtain ⟨rfl, hzz, hP, hK, hD0⟩ := hv
  have hx := B.exec
  have hb := B.bytes
  have hr := B.returns
  have hts := atoms_spec (ws := wsX0_planWord) B.pre
  have hown : s.vm.findClass RX0 = some m.cls := findClass_of_methodNamed B.named
  have hlocks := B.notSynchronized
  obtain ⟨hd5, hN1, hN2, hw1, hw2, hn1, hn2, hsz, hsz2⟩ := hs_okf ok
  have hnw : nw = N * w := ok.2.2.2.2.1
  subst hzz
  have hD := hD0.self (sz := s.heap.size)
  have hS : va_S (va_A [oX_ h0 hd hp d N w nw sz u kr dn lf dw, ar_ hd cA (2 * sz) F, ar_ hp cA sz G] s.heap.size) s.heap s.heap [] := va_S.rf
  have hA : ∀ q : Nat, s.heap.size ≤ q → va_A [oX_ h0 hd hp d N w nw sz u kr dn lf dw, ar_ hd cA (2 * sz) F, ar_ hp cA sz G] s.heap.size q := fun q h => Or.inr h
  have hl := lv_entry ([.ref h0, .int (nI j), .int (nI i), .int p3]) (n := 6) (Nat.le_of_ble_eq_true rfl)
  rw [lg_entry_eq]
  generalize (lg_sl ([.ref h0, .int (nI j), .int (nI i), .int p3]) ++ List.replicate (6 - (lg_sl ([.ref h0, .int (nI j), .int (nI i), .int p3])).length) Slot.unset).toArray = ls at hl ⊢
  have hl : lv_has ls 6 [(0, .ref h0), (1, .int (nI j)), (2, .int (nI i)), (3, .int p3)] := hl
  have hus : u * sz + sz ≤ 2 * sz := hs_us2 hu
  have hrow := hs_row ok hj
  refine lv_aload_n hx hb dX0_planWord_0 rfl (lv_at hl 0 rfl) ?_
  refine va_get (D := (dC, dI)) (ci := 0) (v := .ref hd) (C := RX0) (T := TX0) (N := 12) hx hb hts (by decide +kernel) hown hK hP 0 rfl rfl 5 (by decide) (hts (.fieldLink RX0 34 "HashedStore" "disk" "[I") (by decide +kernel)) (fun _ h9 => h9) rfl dX0_planWord_1 ?_
  refine lv_aload_n hx hb dX0_planWord_4 rfl (lv_at hl 0 rfl) ?_
  refine lv_aload_n hx hb dX0_planWord_5 rfl (lv_at hl 0 rfl) ?_
  refine va_get (D := (dC, dI)) (ci := 0) (v := .int (nI u)) (C := RX0) (T := TX0) (N := 12) hx hb hts (by decide +kernel) hown hK hP 0 rfl rfl 7 (by decide) (hts (.fieldLink RX0 60 "HashedStore" "areaInUse" "I") (by decide +kernel)) (fun _ h9 => h9) rfl dX0_planWord_6 ?_
  refine hs_pe (v := nI (u * sz)) (va_runV (As := [.int (nI u)]) (rest := [.ref hd]) ⟨hx, hb, hml, hown, hts⟩ (kX0_areaStart l dC dI h0 hd hp cA d N w nw sz u F G kr dn lf dw ok u) (cwV 1 hts gX0_planWord_X0_areaStart rfl rfl rfl (by decide +kernel) ⟨(Nat.le_of_ble_eq_true rfl), (Nat.le_of_ble_eq_true rfl)⟩) (hs_preV (q := (RX0, TX0, 12)) (ci := 0) hK (hP.sub [0] rfl) rfl rfl) rfl rfl hl.1 rfl (lv_room (Nat.le_of_ble_eq_true rfl)) dX0_planWord_9 ⟨Nat.zero_le _, Nat.zero_le _⟩) hS hP (fun H locs hP hS => ?_)
  refine lv_aload_n hx hb dX0_planWord_12 rfl (lv_at hl 0 rfl) ?_
  refine va_get (D := (dC, dI)) (ci := 0) (v := .ref hp) (C := RX0) (T := TX0) (N := 12) hx hb hts (by decide +kernel) hown hK hP 0 rfl rfl 6 (by decide) (hts (.fieldLink RX0 38 "HashedStore" "plan" "[I") (by decide +kernel)) (fun _ h9 => h9) rfl dX0_planWord_13 ?_
  refine lv_iconst (v := nI 0) hx hb dX0_planWord_16 (by decide) ?_
  refine lv_aload_n hx hb dX0_planWord_17 rfl (lv_at hl 0 rfl) ?_
  refine va_get (D := (dC, dI)) (ci := 0) (v := .int (nI sz)) (C := RX0) (T := TX0) (N := 12) hx hb hts (by decide +kernel) hown hK hP 0 rfl rfl 4 (by decide) (hts (.fieldLink RX0 31 "HashedStore" "areaCells" "I") (by decide +kernel)) (fun _ h9 => h9) rfl dX0_planWord_18 ?_
  refine va_copyi hx hb (hml.trans hl.1.symm) hown (hts (.methodLink RX0 127 arraycopyName) (by decide +kernel)) (hts (.native arraycopyName) (by decide +kernel)) (hts (.static arraycopyName) (by decide +kernel)) (hts (.initialized "java/lang/System") (by decide +kernel)) hK hP hD hS 1 2 0 0 rfl rfl rfl rfl rfl (sp := nI (u * sz)) (dp := nI 0) (n := nI sz) (nI_pos (by omega)) (nI_pos (by omega)) (nI_pos (by omega)) (by rw [nI_clamp (by omega), nI_clamp (by omega)]; omega) (by rw [nI_clamp (by omega), nI_clamp (by omega)]; omega) (fun _ _ => rfl) (Nat.le_of_ble_eq_true rfl) (Nat.le_of_ble_eq_true rfl) dX0_planWord_21 (fun H locs hP hD hS => ?_)
  rw [nI_clamp (n := u * sz) (by omega), nI_clamp (n := 0) (by omega), nI_clamp (n := sz) (by omega)] at hP hD
  obtain ⟨hP, hD⟩ := hs_repP (q0 := 2) (g := hs_vw sz F u) hP hD rfl (fun j hj => (pk_cpy_in (Nat.zero_le j) (by omega)).trans rfl)
  have hP : va_P (dC, dI) vwCl [oX_ h0 hd hp d N w nw sz u kr dn lf dw, ar_ hd cA (2 * sz) F, ar_ hp cA sz (hs_vw sz F u)] H := hP
  have hD : va_D (va_A [oX_ h0 hd hp d N w nw sz u kr dn lf dw, ar_ hd cA (2 * sz) F, ar_ hp cA sz G] s.heap.size) [oX_ h0 hd hp d N w nw sz u kr dn lf dw, ar_ hd cA (2 * sz) F, ar_ hp cA sz (hs_vw sz F u)] := hD
  refine lv_aload_n hx hb dX0_planWord_24 rfl (lv_at hl 0 rfl) ?_
  refine va_get (D := (dC, dI)) (ci := 0) (v := .ref hp) (C := RX0) (T := TX0) (N := 12) hx hb hts (by decide +kernel) hown hK hP 0 rfl rfl 6 (by decide) (hts (.fieldLink RX0 38 "HashedStore" "plan" "[I") (by decide +kernel)) (fun _ h9 => h9) rfl dX0_planWord_25 ?_
  refine lv_aload_n hx hb dX0_planWord_28 rfl (lv_at hl 0 rfl) ?_
  refine lv_iload_n hx hb dX0_planWord_29 rfl (lv_at hl 1 rfl) ?_
  refine lv_iload_n hx hb dX0_planWord_30 rfl (lv_at hl 2 rfl) ?_
  refine hs_pe (v := nI (j * w + i)) (va_runV (As := [.int (nI j), .int (nI i)]) (rest := [.ref hp]) ⟨hx, hb, hml, hown, hts⟩ (kX0_wordCell l dC dI h0 hd hp cA d N w nw sz u F (hs_vw sz F u) kr dn lf dw ok j i) (cwV 2 hts gX0_planWord_X0_wordCell rfl rfl rfl (by decide +kernel) ⟨(Nat.le_of_ble_eq_true rfl), (Nat.le_of_ble_eq_true rfl)⟩) (hs_preV (q := (RX0, TX0, 12)) (ci := 0) hK (hP.sub [0] rfl) rfl rfl) rfl rfl hl.1 rfl (lv_room (Nat.le_of_ble_eq_true rfl)) dX0_planWord_31 ⟨Nat.zero_le _, Nat.zero_le _⟩) hS hP (fun H locs hP hS => ?_)
  refine lv_iload_n hx hb dX0_planWord_34 rfl (lv_at hl 3 rfl) ?_
  refine hs_ast hx hb hK hP hD hS 2 0 rfl rfl (k := j * w + i) (by omega) (by omega) dX0_planWord_35 (fun H locs hP hD hS => ?_)
  have hP : va_P (dC, dI) vwCl [oX_ h0 hd hp d N w nw sz u kr dn lf dw, ar_ hd cA (2 * sz) F, ar_ hp cA sz (upd (hs_vw sz F u) (j * w + i) p3)] H := hP
  have hD : va_D (va_A [oX_ h0 hd hp d N w nw sz u kr dn lf dw, ar_ hd cA (2 * sz) F, ar_ hp cA sz G] s.heap.size) [oX_ h0 hd hp d N w nw sz u kr dn lf dw, ar_ hd cA (2 * sz) F, ar_ hp cA sz (upd (hs_vw sz F u) (j * w + i) p3)] := hD
  refine lv_aload_n hx hb dX0_planWord_36 rfl (lv_at hl 0 rfl) ?_
  refine lv_iload_n hx hb dX0_planWord_37 rfl (lv_at hl 1 rfl) ?_
  refine hs_pe (v := nI (N + j)) (va_runV (As := [.int (nI j)]) (rest := []) ⟨hx, hb, hml, hown, hts⟩ (kX0_leafOf l dC dI h0 hd hp cA d N w nw sz u F (upd (hs_vw sz F u) (j * w + i) p3) kr dn lf dw ok j) (cwV 1 hts gX0_planWord_X0_leafOf rfl rfl rfl (by decide +kernel) ⟨(Nat.le_of_ble_eq_true rfl), (Nat.le_of_ble_eq_true rfl)⟩) (hs_preV (q := (RX0, TX0, 12)) (ci := 0) hK (hP.sub [0] rfl) rfl rfl) rfl rfl hl.1 rfl (lv_room (Nat.le_of_ble_eq_true rfl)) dX0_planWord_38 ⟨Nat.zero_le _, Nat.zero_le _⟩) hS hP (fun H locs hP hS => ?_)
  refine lv_istore (lv' := [(4, .int (nI (N + j))), (0, .ref h0), (1, .int (nI j)), (2, .int (nI i)), (3, .int p3)]) hx hb dX0_planWord_41 hl (by decide) rfl (fun ls hl => ?_)
  refine lv_aload_n hx hb dX0_planWord_43 rfl (lv_at hl 1 rfl) ?_
  refine va_get (D := (dC, dI)) (ci := 0) (v := .ref hp) (C := RX0) (T := TX0) (N := 12) hx hb hts (by decide +kernel) hown hK hP 0 rfl rfl 6 (by decide) (hts (.fieldLink RX0 38 "HashedStore" "plan" "[I") (by decide +kernel)) (fun _ h9 => h9) rfl dX0_planWord_44 ?_
  refine lv_aload_n hx hb dX0_planWord_47 rfl (lv_at hl 1 rfl) ?_
  refine lv_iload hx hb dX0_planWord_48 (lv_at hl 0 rfl) ?_
  refine hs_pe (v := nI (nw + (N + j) - 1)) (va_runV (As := [.int (nI (N + j))]) (rest := [.ref hp]) ⟨hx, hb, hml, hown, hts⟩ (kX0_nodeCell l dC dI h0 hd hp cA d N w nw sz u F (upd (hs_vw sz F u) (j * w + i) p3) kr dn lf dw ok (N + j)) (cwV 1 hts gX0_planWord_X0_nodeCell rfl rfl rfl (by decide +kernel) ⟨(Nat.le_of_ble_eq_true rfl), (Nat.le_of_ble_eq_true rfl)⟩) (hs_preV (q := (RX0, TX0, 12)) (ci := 0) hK (hP.sub [0] rfl) rfl rfl) rfl rfl hl.1 rfl (lv_room (Nat.le_of_ble_eq_true rfl)) dX0_planWord_50 ⟨Nat.zero_le _, Nat.zero_le _⟩) hS hP (fun H locs hP hS => ?_)
  refine lv_aload_n hx hb dX0_planWord_53 rfl (lv_at hl 1 rfl) ?_
  refine lv_aload_n hx hb dX0_planWord_54 rfl (lv_at hl 1 rfl) ?_
  refine va_get (D := (dC, dI)) (ci := 0) (v := .ref hp) (C := RX0) (T := TX0) (N := 12) hx hb hts (by decide +kernel) hown hK hP 0 rfl rfl 6 (by decide) (hts (.fieldLink RX0 38 "HashedStore" "plan" "[I") (by decide +kernel)) (fun _ h9 => h9) rfl dX0_planWord_55 ?_
  refine lv_iconst (v := nI 0) hx hb dX0_planWord_58 (by decide) ?_
  refine lv_iload_n hx hb dX0_planWord_59 rfl (lv_at hl 2 rfl) ?_
  refine hs_pe (v := hs_bl (fun x => (upd (hs_vw sz F u) (j * w + i) p3) (0 + x)) w (j * w) (nI j)) (va_runV (As := [.ref hp, .int (nI 0), .int (nI j)]) (rest := [.int (nI (nw + (N + j) - 1)), .ref hp]) ⟨hx, hb, hml, hown, hts⟩ (kX0_blockHash l dC dI h0 hd hp cA d N w nw sz u F (upd (hs_vw sz F u) (j * w + i) p3) kr dn lf dw ok hp sz (upd (hs_vw sz F u) (j * w + i) p3) 0 j hj (by omega) (by omega)) (cwV 3 hts gX0_planWord_X0_blockHash rfl rfl rfl (by decide +kernel) ⟨(Nat.le_of_ble_eq_true rfl), (Nat.le_of_ble_eq_true rfl)⟩) (hs_preV (q := (RX0, TX0, 12)) (ci := 0) hK (hP.sub [0, 2] rfl) rfl rfl) rfl rfl hl.1 rfl (lv_room (Nat.le_of_ble_eq_true rfl)) dX0_planWord_60 ⟨Nat.zero_le _, Nat.zero_le _⟩) hS hP (fun H locs hP hS => ?_)
  refine lv_topi (fun h eh => ?_)
  rw [hs_z0] at eh
  refine hs_ast hx hb hK hP hD hS 2 0 rfl rfl (k := nw + (N + j) - 1) (by omega) (by omega) dX0_planWord_63 (fun H locs hP hD hS => ?_)
  have hP : va_P (dC, dI) vwCl [oX_ h0 hd hp d N w nw sz u kr dn lf dw, ar_ hd cA (2 * sz) F, ar_ hp cA sz (upd (upd (hs_vw sz F u) (j * w + i) p3) (nw + (N + j) - 1) h)] H := hP
  have hD : va_D (va_A [oX_ h0 hd hp d N w nw sz u kr dn lf dw, ar_ hd cA (2 * sz) F, ar_ hp cA sz G] s.heap.size) [oX_ h0 hd hp d N w nw sz u kr dn lf dw, ar_ hd cA (2 * sz) F, ar_ hp cA sz (upd (upd (hs_vw sz F u) (j * w + i) p3) (nw + (N + j) - 1) h)] := hD
  refine lv_iconst (v := nI 0) hx hb dX0_planWord_64 (by decide) ?_
  refine lv_istore (lv' := [(5, .int (nI 0)), (4, .int (nI (N + j))), (0, .ref h0), (1, .int (nI j)), (2, .int (nI i)), (3, .int p3)]) hx hb dX0_planWord_65 hl (by decide) rfl (fun ls hl => ?_)
  have loop : ∀ (n : Nat) (y kk : Nat) (g : Nat → Int32) (H : Heap) (locs : List Loc) (ls : Array Slot), (y + n = d) → (hs_lv n kk) → (kk < 2 * N) → (hs_px nw n kk g = (hs_pl d N w nw (hs_vw sz F u) j i p3).1) → va_P (dC, dI) vwCl [oX_ h0 hd hp d N w nw sz u kr dn lf dw, ar_ hd cA (2 * sz) F, ar_ hp cA sz g] H → va_D (va_A [oX_ h0 hd hp d N w nw sz u kr dn lf dw, ar_ hd cA (2 * sz) F, ar_ hp cA sz G] s.heap.size) [oX_ h0 hd hp d N w nw sz u kr dn lf dw, ar_ hd cA (2 * sz) F, ar_ hp cA sz g] → va_S (va_A [oX_ h0 hd hp d N w nw sz u kr dn lf dw, ar_ hd cA (2 * sz) F, ar_ hp cA sz G] s.heap.size) s.heap H locs → lv_has ls 6 [(5, .int (nI y)), (4, .int (nI kk)), (0, .ref h0), (1, .int (nI j)), (2, .int (nI i)), (3, .int p3)] → W p l e (headSpec wsX0_planWord ({ frames := 2, cells := 0, slots := 0, locals := 47 })).room s m ([.ref h0, .int (nI j), .int (nI i), .int p3] : List Value).toArray below meth c H locs 0 0 (MQ below (va_Qv (S := hs_S × (Nat → Int32)) (fun uu => uu = ((F, u, kr, dn, lf, dw), (hs_pl d N w nw (hs_vw sz F u) j i p3).1)) (hs_B (dC, dI) vwCl [(cA, .int)] (wfX h0 hd hp cA d N w nw sz) (va_A [oX_ h0 hd hp d N w nw sz u kr dn lf dw, ar_ hd cA (2 * sz) F, ar_ hp cA sz G] s.heap.size)) (va_A [oX_ h0 hd hp d N w nw sz u kr dn lf dw, ar_ hd cA (2 * sz) F, ar_ hp cA sz G] s.heap.size)) ([.ref h0, .int (nI j), .int (nI i), .int p3] : List Value).toArray s 0 0 (va_A [oX_ h0 hd hp d N w nw sz u kr dn lf dw, ar_ hd cA (2 * sz) F, ar_ hp cA sz G] s.heap.size)) (F0 m 67 ls []) := by
    intro n
    induction n with
    | zero =>
      intro y kk g H locs ls hi2 hlv hk2 he hP hD hS hl
      refine lv_iload hx hb dX0_planWord_67 (lv_at hl 0 rfl) ?_
      refine lv_aload_n hx hb dX0_planWord_69 rfl (lv_at hl 2 rfl) ?_
      refine va_get (D := (dC, dI)) (ci := 0) (v := .int (nI d)) (C := RX0) (T := TX0) (N := 12) hx hb hts (by decide +kernel) hown hK hP 0 rfl rfl 0 (by decide) (hts (.fieldLink RX0 18 "HashedStore" "treeDepth" "I") (by decide +kernel)) (fun _ h9 => h9) rfl dX0_planWord_70 ?_
      refine hs_cge (tgt := 109) hx hb (by omega) (by omega) dX0_planWord_73 (by decide) (fun c1 => ?_) (fun c1 => ?_)
      · exact W.vret hx hb hr (fun t ht hW => ⟨⟨((F, u, kr, dn, lf, dw), g), rfl, (by rw [show g = (hs_pl d N w nw (hs_vw sz F u) j i p3).1 from he]), by rw [ht]; exact hP, va_K.moved hW.alike hK, hD⟩, hS.F ht⟩) hS.2.2 dX0_planWord_109
      · exact absurd c1 (by omega)
    | succ n ih =>
      intro y kk g H locs ls hi2 hlv hk2 he hP hD hS hl
      obtain ⟨hlv1, hk1⟩ := hs_lv_s hlv
      refine lv_iload hx hb dX0_planWord_67 (lv_at hl 0 rfl) ?_
      refine lv_aload_n hx hb dX0_planWord_69 rfl (lv_at hl 2 rfl) ?_
      refine va_get (D := (dC, dI)) (ci := 0) (v := .int (nI d)) (C := RX0) (T := TX0) (N := 12) hx hb hts (by decide +kernel) hown hK hP 0 rfl rfl 0 (by decide) (hts (.fieldLink RX0 18 "HashedStore" "treeDepth" "I") (by decide +kernel)) (fun _ h9 => h9) rfl dX0_planWord_70 ?_
      refine hs_cge (tgt := 109) hx hb (by omega) (by omega) dX0_planWord_73 (by decide) (fun c1 => ?_) (fun c1 => ?_)
      · exact absurd c1 (by omega)
      · refine lv_iload hx hb dX0_planWord_76 (lv_at hl 1 rfl) ?_
        refine lv_iconst (v := nI 2) hx hb dX0_planWord_78 (by decide) ?_
        refine hs_divN hx hb (by omega) (by omega) (by omega) dX0_planWord_79 ?_
        refine lv_istore (lv' := [(4, .int (nI (kk / 2))), (5, .int (nI y)), (0, .ref h0), (1, .int (nI j)), (2, .int (nI i)), (3, .int p3)]) hx hb dX0_planWord_80 hl (by decide) rfl (fun ls hl => ?_)
        refine lv_aload_n hx hb dX0_planWord_82 rfl (lv_at hl 2 rfl) ?_
        refine va_get (D := (dC, dI)) (ci := 0) (v := .ref hp) (C := RX0) (T := TX0) (N := 12) hx hb hts (by decide +kernel) hown hK hP 0 rfl rfl 6 (by decide) (hts (.fieldLink RX0 38 "HashedStore" "plan" "[I") (by decide +kernel)) (fun _ h9 => h9) rfl dX0_planWord_83 ?_
        refine lv_aload_n hx hb dX0_planWord_86 rfl (lv_at hl 2 rfl) ?_
        refine lv_iload hx hb dX0_planWord_87 (lv_at hl 0 rfl) ?_
        refine hs_pe (v := nI (nw + kk / 2 - 1)) (va_runV (As := [.int (nI (kk / 2))]) (rest := [.ref hp]) ⟨hx, hb, hml, hown, hts⟩ (kX0_nodeCell l dC dI h0 hd hp cA d N w nw sz u F g kr dn lf dw ok (kk / 2)) (cwV 1 hts gX0_planWord_X0_nodeCell rfl rfl rfl (by decide +kernel) ⟨(Nat.le_of_ble_eq_true rfl), (Nat.le_of_ble_eq_true rfl)⟩) (hs_preV (q := (RX0, TX0, 12)) (ci := 0) hK (hP.sub [0] rfl) rfl rfl) rfl rfl hl.1 rfl (lv_room (Nat.le_of_ble_eq_true rfl)) dX0_planWord_89 ⟨Nat.zero_le _, Nat.zero_le _⟩) hS hP (fun H locs hP hS => ?_)
        refine lv_aload_n hx hb dX0_planWord_92 rfl (lv_at hl 2 rfl) ?_
        refine lv_aload_n hx hb dX0_planWord_93 rfl (lv_at hl 2 rfl) ?_
        refine va_get (D := (dC, dI)) (ci := 0) (v := .ref hp) (C := RX0) (T := TX0) (N := 12) hx hb hts (by decide +kernel) hown hK hP 0 rfl rfl 6 (by decide) (hts (.fieldLink RX0 38 "HashedStore" "plan" "[I") (by decide +kernel)) (fun _ h9 => h9) rfl dX0_planWord_94 ?_
        refine lv_iload hx hb dX0_planWord_97 (lv_at hl 0 rfl) ?_
        refine hs_pe (v := hs_mx (g (nw + 2 * (kk / 2) - 1)) (g (nw + (2 * (kk / 2) + 1) - 1))) (va_runV (As := [.ref hp, .int (nI (kk / 2))]) (rest := [.int (nI (nw + kk / 2 - 1)), .ref hp]) ⟨hx, hb, hml, hown, hts⟩ (kX0_hashOfSons l dC dI h0 hd hp cA d N w nw sz u F g kr dn lf dw ok hp sz g (kk / 2) (by omega) (by omega)) (cwV 2 hts gX0_planWord_X0_hashOfSons rfl rfl rfl (by decide +kernel) ⟨(Nat.le_of_ble_eq_true rfl), (Nat.le_of_ble_eq_true rfl)⟩) (hs_preV (q := (RX0, TX0, 12)) (ci := 0) hK (hP.sub [0, 2] rfl) rfl rfl) rfl rfl hl.1 rfl (lv_room (Nat.le_of_ble_eq_true rfl)) dX0_planWord_99 ⟨Nat.zero_le _, Nat.zero_le _⟩) hS hP (fun H locs hP hS => ?_)
        refine hs_ast hx hb hK hP hD hS 2 0 rfl rfl (k := nw + kk / 2 - 1) (by omega) (by omega) dX0_planWord_102 (fun H locs hP hD hS => ?_)
        have hP : va_P (dC, dI) vwCl [oX_ h0 hd hp d N w nw sz u kr dn lf dw, ar_ hd cA (2 * sz) F, ar_ hp cA sz (upd g (nw + kk / 2 - 1) (hs_mx (g (nw + 2 * (kk / 2) - 1)) (g (nw + (2 * (kk / 2) + 1) - 1))))] H := hP
        have hD : va_D (va_A [oX_ h0 hd hp d N w nw sz u kr dn lf dw, ar_ hd cA (2 * sz) F, ar_ hp cA sz G] s.heap.size) [oX_ h0 hd hp d N w nw sz u kr dn lf dw, ar_ hd cA (2 * sz) F, ar_ hp cA sz (upd g (nw + kk / 2 - 1) (hs_mx (g (nw + 2 * (kk / 2) - 1)) (g (nw + (2 * (kk / 2) + 1) - 1))))] := hD
        refine lv_iinc (v := nI (y + 1)) (lv' := [(5, .int (nI (y + 1))), (4, .int (nI (kk / 2))), (0, .ref h0), (1, .int (nI j)), (2, .int (nI i)), (3, .int p3)]) hx hb dX0_planWord_103 hl (k := 1) rfl (nI_1 _) (by decide) rfl (fun ls hl => ?_)
        refine lv_goto (tgt := 67) hx hb dX0_planWord_106 (by decide) ?_
        exact ih (y + 1) (kk / 2) _ H locs ls (by omega) hlv1 (by omega) he hP hD hS (lv_sub hl [0, 1, 2, 3, 4, 5] rfl)
  exact loop d 0 (N + j) _ _ _ ls (by omega) (hs_lv_b ok hj) (by omega) (by rw [eh]; exact hs_px_pw hn1 d (N + j) _ _ (hs_lv_b ok hj)) hP hD hS (lv_sub hl [0, 1, 2, 3, 4, 5] rfl)
set_option maxHeartbeats 4000000 in
set_option maxRecDepth 100000 in
theorem kX0_makeAllNodesOfFirstArea (l : Launch) (dC : Nat → ClassId) (dI : Nat → Nat → Nat) (h0 hd hp : Nat) (cA : ClassId) (d N w nw sz u : Nat) (F G : Nat → Int32) (kr dn lf : Int32) (dw : Bool) (ok : hs_ok d N w nw sz) (zz : Nat) (hF : ∀ j, F j = 0) : Met l yX0_makeAllNodesOfFirstArea wsX0_makeAllNodesOfFirstArea ({ frames := 2, cells := 0, slots := 0, locals := 47 }) (va_Pc [.ref h0] (hs_pm (dC, dI) vwCl [(cA, .int)] [oX_ h0 hd hp d N w nw sz u kr dn lf dw, ar_ hd cA (2 * sz) F, ar_ hp cA sz G] zz)) (va_Qv (S := hs_S × (Nat → Int32)) (fun uu => ∃ F9, uu = ((F9, u, kr, dn, lf, dw), G) ∧ hs_E N w nw sz F9) (hs_B (dC, dI) vwCl [(cA, .int)] (wfX h0 hd hp cA d N w nw sz) (va_A [oX_ h0 hd hp d N w nw sz u kr dn lf dw, ar_ hd cA (2 * sz) F, ar_ hp cA sz G] zz)) (va_A [oX_ h0 hd hp d N w nw sz u kr dn lf dw, ar_ hd cA (2 * sz) F, ar_ hp cA sz G] zz)) 0 0 (va_A [oX_ h0 hd hp d N w nw sz u kr dn lf dw, ar_ hd cA (2 * sz) F, ar_ hp cA sz G] zz) := by
  refine Met.ofW (cc := cX0_makeAllNodesOfFirstArea) (maxL := 2) (ret := none) (by decide) rfl ?_
  intro p e s m args below meth c s₁ B hml hv
  obtain ⟨rfl, hzz, hP, hK, hD0⟩ := hv
  have hx := B.exec
  have hb := B.bytes
  have hr := B.returns
  have hts := atoms_spec (ws := wsX0_makeAllNodesOfFirstArea) B.pre
  have hown : s.vm.findClass RX0 = some m.cls := findClass_of_methodNamed B.named
  have hlocks := B.notSynchronized
  obtain ⟨hd5, hN1, hN2, hw1, hw2, hn1, hn2, hsz, hsz2⟩ := hs_okf ok
  have hnw : nw = N * w := ok.2.2.2.2.1
  subst hzz
  have hD := hD0.self (sz := s.heap.size)
  have hS : va_S (va_A [oX_ h0 hd hp d N w nw sz u kr dn lf dw, ar_ hd cA (2 * sz) F, ar_ hp cA sz G] s.heap.size) s.heap s.heap [] := va_S.rf
  have hA : ∀ q : Nat, s.heap.size ≤ q → va_A [oX_ h0 hd hp d N w nw sz u kr dn lf dw, ar_ hd cA (2 * sz) F, ar_ hp cA sz G] s.heap.size q := fun q h => Or.inr h
  have hl := lv_entry ([.ref h0]) (n := 2) (Nat.le_of_ble_eq_true rfl)
  rw [lg_entry_eq]
  generalize (lg_sl ([.ref h0]) ++ List.replicate (2 - (lg_sl ([.ref h0])).length) Slot.unset).toArray = ls at hl ⊢
  have hl : lv_has ls 2 [(0, .ref h0)] := hl
  have loop2 : ∀ (n : Nat) (F1 : Nat → Int32) (H : Heap) (locs : List Loc) (ls : Array Slot), (n < N) → (hs_I N w nw n F1) → (∀ j, sz ≤ j → F1 j = 0) → va_P (dC, dI) vwCl [oX_ h0 hd hp d N w nw sz u kr dn lf dw, ar_ hd cA (2 * sz) F1, ar_ hp cA sz G] H → va_D (va_A [oX_ h0 hd hp d N w nw sz u kr dn lf dw, ar_ hd cA (2 * sz) F, ar_ hp cA sz G] s.heap.size) [oX_ h0 hd hp d N w nw sz u kr dn lf dw, ar_ hd cA (2 * sz) F1, ar_ hp cA sz G] → va_S (va_A [oX_ h0 hd hp d N w nw sz u kr dn lf dw, ar_ hd cA (2 * sz) F, ar_ hp cA sz G] s.heap.size) s.heap H locs → lv_has ls 2 [(1, .int (nI n)), (0, .ref h0)] → W p l e (headSpec wsX0_makeAllNodesOfFirstArea ({ frames := 2, cells := 0, slots := 0, locals := 47 })).room s m ([.ref h0] : List Value).toArray below meth c H locs 0 0 (MQ below (va_Qv (S := hs_S × (Nat → Int32)) (fun uu => ∃ F9, uu = ((F9, u, kr, dn, lf, dw), G) ∧ hs_E N w nw sz F9) (hs_B (dC, dI) vwCl [(cA, .int)] (wfX h0 hd hp cA d N w nw sz) (va_A [oX_ h0 hd hp d N w nw sz u kr dn lf dw, ar_ hd cA (2 * sz) F, ar_ hp cA sz G] s.heap.size)) (va_A [oX_ h0 hd hp d N w nw sz u kr dn lf dw, ar_ hd cA (2 * sz) F, ar_ hp cA sz G] s.heap.size)) ([.ref h0] : List Value).toArray s 0 0 (va_A [oX_ h0 hd hp d N w nw sz u kr dn lf dw, ar_ hd cA (2 * sz) F, ar_ hp cA sz G] s.heap.size)) (F0 m 47 ls []) := by
    intro n
    induction n with
    | zero =>
      intro F1 H locs ls hnN hI hz hP hD hS hl
      refine lv_iload_n hx hb dX0_makeAllNodesOfFirstArea_47 rfl (lv_at hl 0 rfl) ?_
      refine lv_iconst (v := nI 1) hx hb dX0_makeAllNodesOfFirstArea_48 (by decide) ?_
      refine hs_clt (tgt := 77) hx hb (by omega) (by omega) dX0_makeAllNodesOfFirstArea_49 (by decide) (fun c1 => ?_) (fun c1 => ?_)
      · exact W.vret hx hb hr (fun t ht hW => ⟨⟨((F1, u, kr, dn, lf, dw), G), rfl, ⟨F1, rfl, hs_I_E ok hI hz⟩, by rw [ht]; exact hP, va_K.moved hW.alike hK, hD⟩, hS.F ht⟩) hS.2.2 dX0_makeAllNodesOfFirstArea_77
      · exact absurd c1 (by omega)
    | succ n ih =>
      intro F1 H locs ls hnN hI hz hP hD hS hl
      refine lv_iload_n hx hb dX0_makeAllNodesOfFirstArea_47 rfl (lv_at hl 0 rfl) ?_
      refine lv_iconst (v := nI 1) hx hb dX0_makeAllNodesOfFirstArea_48 (by decide) ?_
      refine hs_clt (tgt := 77) hx hb (by omega) (by omega) dX0_makeAllNodesOfFirstArea_49 (by decide) (fun c1 => ?_) (fun c1 => ?_)
      · exact absurd c1 (by omega)
      · refine lv_aload_n hx hb dX0_makeAllNodesOfFirstArea_52 rfl (lv_at hl 1 rfl) ?_
        refine va_get (D := (dC, dI)) (ci := 0) (v := .ref hd) (C := RX0) (T := TX0) (N := 12) hx hb hts (by decide +kernel) hown hK hP 0 rfl rfl 5 (by decide) (hts (.fieldLink RX0 34 "HashedStore" "disk" "[I") (by decide +kernel)) (fun _ h9 => h9) rfl dX0_makeAllNodesOfFirstArea_53 ?_
        refine lv_aload_n hx hb dX0_makeAllNodesOfFirstArea_56 rfl (lv_at hl 1 rfl) ?_
        refine lv_iload_n hx hb dX0_makeAllNodesOfFirstArea_57 rfl (lv_at hl 0 rfl) ?_
        refine hs_pe (v := nI (nw + (n + 1) - 1)) (va_runV (As := [.int (nI (n + 1))]) (rest := [.ref hd]) ⟨hx, hb, hml, hown, hts⟩ (kX0_nodeCell l dC dI h0 hd hp cA d N w nw sz u F1 G kr dn lf dw ok (n + 1)) (cwV 1 hts gX0_makeAllNodesOfFirstArea_X0_nodeCell rfl rfl rfl (by decide +kernel) ⟨(Nat.le_of_ble_eq_true rfl), (Nat.le_of_ble_eq_true rfl)⟩) (hs_preV (q := (RX0, TX0, 12)) (ci := 0) hK (hP.sub [0] rfl) rfl rfl) rfl rfl hl.1 rfl (lv_room (Nat.le_of_ble_eq_true rfl)) dX0_makeAllNodesOfFirstArea_58 ⟨Nat.zero_le _, Nat.zero_le _⟩) hS hP (fun H locs hP hS => ?_)
        refine lv_aload_n hx hb dX0_makeAllNodesOfFirstArea_61 rfl (lv_at hl 1 rfl) ?_
        refine lv_aload_n hx hb dX0_makeAllNodesOfFirstArea_62 rfl (lv_at hl 1 rfl) ?_
        refine va_get (D := (dC, dI)) (ci := 0) (v := .ref hd) (C := RX0) (T := TX0) (N := 12) hx hb hts (by decide +kernel) hown hK hP 0 rfl rfl 5 (by decide) (hts (.fieldLink RX0 34 "HashedStore" "disk" "[I") (by decide +kernel)) (fun _ h9 => h9) rfl dX0_makeAllNodesOfFirstArea_63 ?_
        refine lv_iload_n hx hb dX0_makeAllNodesOfFirstArea_66 rfl (lv_at hl 0 rfl) ?_
        refine hs_pe (v := hs_mx (F1 (nw + 2 * (n + 1) - 1)) (F1 (nw + (2 * (n + 1) + 1) - 1))) (va_runV (As := [.ref hd, .int (nI (n + 1))]) (rest := [.int (nI (nw + (n + 1) - 1)), .ref hd]) ⟨hx, hb, hml, hown, hts⟩ (kX0_hashOfSons l dC dI h0 hd hp cA d N w nw sz u F1 G kr dn lf dw ok hd (2 * sz) F1 (n + 1) (by omega) (by omega)) (cwV 2 hts gX0_makeAllNodesOfFirstArea_X0_hashOfSons rfl rfl rfl (by decide +kernel) ⟨(Nat.le_of_ble_eq_true rfl), (Nat.le_of_ble_eq_true rfl)⟩) (hs_preV (q := (RX0, TX0, 12)) (ci := 0) hK (hP.sub [0, 1] rfl) rfl rfl) rfl rfl hl.1 rfl (lv_room (Nat.le_of_ble_eq_true rfl)) dX0_makeAllNodesOfFirstArea_67 ⟨Nat.zero_le _, Nat.zero_le _⟩) hS hP (fun H locs hP hS => ?_)
        refine hs_ast hx hb hK hP hD hS 1 0 rfl rfl (k := nw + (n + 1) - 1) (by omega) (by omega) dX0_makeAllNodesOfFirstArea_70 (fun H locs hP hD hS => ?_)
        have hP : va_P (dC, dI) vwCl [oX_ h0 hd hp d N w nw sz u kr dn lf dw, ar_ hd cA (2 * sz) (upd F1 (nw + (n + 1) - 1) (hs_mx (F1 (nw + 2 * (n + 1) - 1)) (F1 (nw + (2 * (n + 1) + 1) - 1)))), ar_ hp cA sz G] H := hP
        have hD : va_D (va_A [oX_ h0 hd hp d N w nw sz u kr dn lf dw, ar_ hd cA (2 * sz) F, ar_ hp cA sz G] s.heap.size) [oX_ h0 hd hp d N w nw sz u kr dn lf dw, ar_ hd cA (2 * sz) (upd F1 (nw + (n + 1) - 1) (hs_mx (F1 (nw + 2 * (n + 1) - 1)) (F1 (nw + (2 * (n + 1) + 1) - 1)))), ar_ hp cA sz G] := hD
        refine lv_iinc (v := nI n) (lv' := [(1, .int (nI n)), (0, .ref h0)]) hx hb dX0_makeAllNodesOfFirstArea_71 hl (k := 0) rfl (pk_m1 _) (by decide) rfl (fun ls hl => ?_)
        refine lv_goto (tgt := 47) hx hb dX0_makeAllNodesOfFirstArea_74 (by decide) ?_
        exact ih _ H locs ls (by omega) (hs_I_s ok hI (by omega) (fun b hb => by omega) (fun _ => rfl)) (fun j hj => (pk_un (by omega)).trans (hz j hj)) hP hD hS (lv_sub hl [0, 1] rfl)
  refine lv_iconst (v := nI 0) hx hb dX0_makeAllNodesOfFirstArea_0 (by decide) ?_
  refine lv_istore_n (lv' := [(1, .int (nI 0)), (0, .ref h0)]) hx hb dX0_makeAllNodesOfFirstArea_1 rfl hl (by decide) rfl (fun ls hl => ?_)
  have loop1 : ∀ (n : Nat) (i : Nat) (F1 : Nat → Int32) (H : Heap) (locs : List Loc) (ls : Array Slot), (i + n = N) → (hs_J N w nw i F1) → (∀ j, sz ≤ j → F1 j = 0) → va_P (dC, dI) vwCl [oX_ h0 hd hp d N w nw sz u kr dn lf dw, ar_ hd cA (2 * sz) F1, ar_ hp cA sz G] H → va_D (va_A [oX_ h0 hd hp d N w nw sz u kr dn lf dw, ar_ hd cA (2 * sz) F, ar_ hp cA sz G] s.heap.size) [oX_ h0 hd hp d N w nw sz u kr dn lf dw, ar_ hd cA (2 * sz) F1, ar_ hp cA sz G] → va_S (va_A [oX_ h0 hd hp d N w nw sz u kr dn lf dw, ar_ hd cA (2 * sz) F, ar_ hp cA sz G] s.heap.size) s.heap H locs → lv_has ls 2 [(1, .int (nI i)), (0, .ref h0)] → W p l e (headSpec wsX0_makeAllNodesOfFirstArea ({ frames := 2, cells := 0, slots := 0, locals := 47 })).room s m ([.ref h0] : List Value).toArray below meth c H locs 0 0 (MQ below (va_Qv (S := hs_S × (Nat → Int32)) (fun uu => ∃ F9, uu = ((F9, u, kr, dn, lf, dw), G) ∧ hs_E N w nw sz F9) (hs_B (dC, dI) vwCl [(cA, .int)] (wfX h0 hd hp cA d N w nw sz) (va_A [oX_ h0 hd hp d N w nw sz u kr dn lf dw, ar_ hd cA (2 * sz) F, ar_ hp cA sz G] s.heap.size)) (va_A [oX_ h0 hd hp d N w nw sz u kr dn lf dw, ar_ hd cA (2 * sz) F, ar_ hp cA sz G] s.heap.size)) ([.ref h0] : List Value).toArray s 0 0 (va_A [oX_ h0 hd hp d N w nw sz u kr dn lf dw, ar_ hd cA (2 * sz) F, ar_ hp cA sz G] s.heap.size)) (F0 m 2 ls []) := by
    intro n
    induction n with
    | zero =>
      intro i F1 H locs ls hi hJ hz hP hD hS hl
      refine lv_iload_n hx hb dX0_makeAllNodesOfFirstArea_2 rfl (lv_at hl 0 rfl) ?_
      refine lv_aload_n hx hb dX0_makeAllNodesOfFirstArea_3 rfl (lv_at hl 1 rfl) ?_
      refine va_get (D := (dC, dI)) (ci := 0) (v := .int (nI N)) (C := RX0) (T := TX0) (N := 12) hx hb hts (by decide +kernel) hown hK hP 0 rfl rfl 1 (by decide) (hts (.fieldLink RX0 25 "HashedStore" "blockCount" "I") (by decide +kernel)) (fun _ h9 => h9) rfl dX0_makeAllNodesOfFirstArea_4 ?_
      refine hs_cge (tgt := 40) hx hb (by omega) (by omega) dX0_makeAllNodesOfFirstArea_7 (by decide) (fun c1 => ?_) (fun c1 => ?_)
      · refine lv_aload_n hx hb dX0_makeAllNodesOfFirstArea_40 rfl (lv_at hl 1 rfl) ?_
        refine va_get (D := (dC, dI)) (ci := 0) (v := .int (nI N)) (C := RX0) (T := TX0) (N := 12) hx hb hts (by decide +kernel) hown hK hP 0 rfl rfl 1 (by decide) (hts (.fieldLink RX0 25 "HashedStore" "blockCount" "I") (by decide +kernel)) (fun _ h9 => h9) rfl dX0_makeAllNodesOfFirstArea_41 ?_
        refine lv_iconst (v := nI 1) hx hb dX0_makeAllNodesOfFirstArea_44 (by decide) ?_
        refine hs_subN hx hb (by omega) dX0_makeAllNodesOfFirstArea_45 ?_
        refine lv_istore_n (lv' := [(1, .int (nI (N - 1))), (0, .ref h0)]) hx hb dX0_makeAllNodesOfFirstArea_46 rfl hl (by decide) rfl (fun ls hl => ?_)
        have hiN : i = N := by omega
        rw [hiN] at hJ
        exact loop2 (N - 1) F1 H locs ls (by omega) (hs_J_I hJ) hz hP hD hS (lv_sub hl [0, 1] rfl)
      · exact absurd c1 (by omega)
    | succ n ih =>
      intro i F1 H locs ls hi hJ hz hP hD hS hl
      refine lv_iload_n hx hb dX0_makeAllNodesOfFirstArea_2 rfl (lv_at hl 0 rfl) ?_
      refine lv_aload_n hx hb dX0_makeAllNodesOfFirstArea_3 rfl (lv_at hl 1 rfl) ?_
      refine va_get (D := (dC, dI)) (ci := 0) (v := .int (nI N)) (C := RX0) (T := TX0) (N := 12) hx hb hts (by decide +kernel) hown hK hP 0 rfl rfl 1 (by decide) (hts (.fieldLink RX0 25 "HashedStore" "blockCount" "I") (by decide +kernel)) (fun _ h9 => h9) rfl dX0_makeAllNodesOfFirstArea_4 ?_
      refine hs_cge (tgt := 40) hx hb (by omega) (by omega) dX0_makeAllNodesOfFirstArea_7 (by decide) (fun c1 => ?_) (fun c1 => ?_)
      · exact absurd c1 (by omega)
      · have hrow := hs_row ok (b := i) (by omega)
        refine lv_aload_n hx hb dX0_makeAllNodesOfFirstArea_10 rfl (lv_at hl 1 rfl) ?_
        refine va_get (D := (dC, dI)) (ci := 0) (v := .ref hd) (C := RX0) (T := TX0) (N := 12) hx hb hts (by decide +kernel) hown hK hP 0 rfl rfl 5 (by decide) (hts (.fieldLink RX0 34 "HashedStore" "disk" "[I") (by decide +kernel)) (fun _ h9 => h9) rfl dX0_makeAllNodesOfFirstArea_11 ?_
        refine lv_aload_n hx hb dX0_makeAllNodesOfFirstArea_14 rfl (lv_at hl 1 rfl) ?_
        refine lv_aload_n hx hb dX0_makeAllNodesOfFirstArea_15 rfl (lv_at hl 1 rfl) ?_
        refine lv_iload_n hx hb dX0_makeAllNodesOfFirstArea_16 rfl (lv_at hl 0 rfl) ?_
        refine hs_pe (v := nI (N + i)) (va_runV (As := [.int (nI i)]) (rest := [.ref h0, .ref hd]) ⟨hx, hb, hml, hown, hts⟩ (kX0_leafOf l dC dI h0 hd hp cA d N w nw sz u F1 G kr dn lf dw ok i) (cwV 1 hts gX0_makeAllNodesOfFirstArea_X0_leafOf rfl rfl rfl (by decide +kernel) ⟨(Nat.le_of_ble_eq_true rfl), (Nat.le_of_ble_eq_true rfl)⟩) (hs_preV (q := (RX0, TX0, 12)) (ci := 0) hK (hP.sub [0] rfl) rfl rfl) rfl rfl hl.1 rfl (lv_room (Nat.le_of_ble_eq_true rfl)) dX0_makeAllNodesOfFirstArea_17 ⟨Nat.zero_le _, Nat.zero_le _⟩) hS hP (fun H locs hP hS => ?_)
        refine hs_pe (v := nI (nw + (N + i) - 1)) (va_runV (As := [.int (nI (N + i))]) (rest := [.ref hd]) ⟨hx, hb, hml, hown, hts⟩ (kX0_nodeCell l dC dI h0 hd hp cA d N w nw sz u F1 G kr dn lf dw ok (N + i)) (cwV 1 hts gX0_makeAllNodesOfFirstArea_X0_nodeCell rfl rfl rfl (by decide +kernel) ⟨(Nat.le_of_ble_eq_true rfl), (Nat.le_of_ble_eq_true rfl)⟩) (hs_preV (q := (RX0, TX0, 12)) (ci := 0) hK (hP.sub [0] rfl) rfl rfl) rfl rfl hl.1 rfl (lv_room (Nat.le_of_ble_eq_true rfl)) dX0_makeAllNodesOfFirstArea_20 ⟨Nat.zero_le _, Nat.zero_le _⟩) hS hP (fun H locs hP hS => ?_)
        refine lv_aload_n hx hb dX0_makeAllNodesOfFirstArea_23 rfl (lv_at hl 1 rfl) ?_
        refine lv_aload_n hx hb dX0_makeAllNodesOfFirstArea_24 rfl (lv_at hl 1 rfl) ?_
        refine va_get (D := (dC, dI)) (ci := 0) (v := .ref hd) (C := RX0) (T := TX0) (N := 12) hx hb hts (by decide +kernel) hown hK hP 0 rfl rfl 5 (by decide) (hts (.fieldLink RX0 34 "HashedStore" "disk" "[I") (by decide +kernel)) (fun _ h9 => h9) rfl dX0_makeAllNodesOfFirstArea_25 ?_
        refine lv_iconst (v := nI 0) hx hb dX0_makeAllNodesOfFirstArea_28 (by decide) ?_
        refine lv_iload_n hx hb dX0_makeAllNodesOfFirstArea_29 rfl (lv_at hl 0 rfl) ?_
        refine hs_pe (v := hs_bl (fun x => F1 (0 + x)) w (i * w) (nI i)) (va_runV (As := [.ref hd, .int (nI 0), .int (nI i)]) (rest := [.int (nI (nw + (N + i) - 1)), .ref hd]) ⟨hx, hb, hml, hown, hts⟩ (kX0_blockHash l dC dI h0 hd hp cA d N w nw sz u F1 G kr dn lf dw ok hd (2 * sz) F1 0 i (by omega) (by omega) (by omega)) (cwV 3 hts gX0_makeAllNodesOfFirstArea_X0_blockHash rfl rfl rfl (by decide +kernel) ⟨(Nat.le_of_ble_eq_true rfl), (Nat.le_of_ble_eq_true rfl)⟩) (hs_preV (q := (RX0, TX0, 12)) (ci := 0) hK (hP.sub [0, 1] rfl) rfl rfl) rfl rfl hl.1 rfl (lv_room (Nat.le_of_ble_eq_true rfl)) dX0_makeAllNodesOfFirstArea_30 ⟨Nat.zero_le _, Nat.zero_le _⟩) hS hP (fun H locs hP hS => ?_)
        refine lv_topi (fun h eh => ?_)
        rw [hs_z0] at eh
        refine hs_ast hx hb hK hP hD hS 1 0 rfl rfl (k := nw + (N + i) - 1) (by omega) (by omega) dX0_makeAllNodesOfFirstArea_33 (fun H locs hP hD hS => ?_)
        have hP : va_P (dC, dI) vwCl [oX_ h0 hd hp d N w nw sz u kr dn lf dw, ar_ hd cA (2 * sz) (upd F1 (nw + (N + i) - 1) h), ar_ hp cA sz G] H := hP
        have hD : va_D (va_A [oX_ h0 hd hp d N w nw sz u kr dn lf dw, ar_ hd cA (2 * sz) F, ar_ hp cA sz G] s.heap.size) [oX_ h0 hd hp d N w nw sz u kr dn lf dw, ar_ hd cA (2 * sz) (upd F1 (nw + (N + i) - 1) h), ar_ hp cA sz G] := hD
        refine lv_iinc (v := nI (i + 1)) (lv' := [(1, .int (nI (i + 1))), (0, .ref h0)]) hx hb dX0_makeAllNodesOfFirstArea_34 hl (k := 0) rfl (nI_1 _) (by decide) rfl (fun ls hl => ?_)
        refine lv_goto (tgt := 2) hx hb dX0_makeAllNodesOfFirstArea_37 (by decide) ?_
        exact ih (i + 1) _ H locs ls (by omega) (by rw [eh]; exact hs_J_s ok hJ (by omega)) (fun j hj => (pk_un (by omega)).trans (hz j hj)) hP hD hS (lv_sub hl [0, 1] rfl)
  exact loop1 N 0 F _ _ ls (by omega) ⟨fun j _ => hF j, fun b hb => absurd hb (Nat.not_lt_zero b)⟩ (fun j _ => hF j) hP hD hS (lv_sub hl [0, 1] rfl)
end
section
set_option maxHeartbeats 4000000 in
set_option maxRecDepth 100000 in
theorem kX0_startAnew (l : Launch) (dC : Nat → ClassId) (dI : Nat → Nat → Nat) (h0 hd hp : Nat) (cA : ClassId) (d N w nw sz u : Nat) (F G : Nat → Int32) (kr dn lf : Int32) (dw : Bool) (ok : hs_ok d N w nw sz) (zz : Nat)  : Met l yX0_startAnew wsX0_startAnew ({ frames := 3, cells := 0, slots := 0, locals := 68 }) (va_Pc [.ref h0] (hs_pm (dC, dI) vwCl [(cA, .int)] [oX_ h0 hd hp d N w nw sz u kr dn lf dw, ar_ hd cA (2 * sz) F, ar_ hp cA sz G] zz)) (va_Qv (S := hs_S × (Nat → Int32)) (fun uu => ∃ F9, uu = ((F9, 0, F9 (nw + 1 - 1), 0, -1, false), G) ∧ hs_E N w nw sz F9) (hs_B (dC, dI) vwCl [(cA, .int)] (wfX h0 hd hp cA d N w nw sz) (va_A [oX_ h0 hd hp d N w nw sz u kr dn lf dw, ar_ hd cA (2 * sz) F, ar_ hp cA sz G] zz)) (va_A [oX_ h0 hd hp d N w nw sz u kr dn lf dw, ar_ hd cA (2 * sz) F, ar_ hp cA sz G] zz)) 0 0 (va_A [oX_ h0 hd hp d N w nw sz u kr dn lf dw, ar_ hd cA (2 * sz) F, ar_ hp cA sz G] zz) := by
  refine Met.ofW (cc := cX0_startAnew) (maxL := 1) (ret := none) (by decide) rfl ?_
  intro p e s m args below meth c s₁ B hml hv
  obtain ⟨rfl, hzz, hP, hK, hD0⟩ := hv
  have hx := B.exec
  have hb := B.bytes
  have hr := B.returns
  have hts := atoms_spec (ws := wsX0_startAnew) B.pre
  have hown : s.vm.findClass RX0 = some m.cls := findClass_of_methodNamed B.named
  have hlocks := B.notSynchronized
  obtain ⟨hd5, hN1, hN2, hw1, hw2, hn1, hn2, hsz, hsz2⟩ := hs_okf ok
  have hnw : nw = N * w := ok.2.2.2.2.1
  subst hzz
  have hD := hD0.self (sz := s.heap.size)
  have hS : va_S (va_A [oX_ h0 hd hp d N w nw sz u kr dn lf dw, ar_ hd cA (2 * sz) F, ar_ hp cA sz G] s.heap.size) s.heap s.heap [] := va_S.rf
  have hA : ∀ q : Nat, s.heap.size ≤ q → va_A [oX_ h0 hd hp d N w nw sz u kr dn lf dw, ar_ hd cA (2 * sz) F, ar_ hp cA sz G] s.heap.size q := fun q h => Or.inr h
  have hl := lv_entry ([.ref h0]) (n := 1) (Nat.le_of_ble_eq_true rfl)
  rw [lg_entry_eq]
  generalize (lg_sl ([.ref h0]) ++ List.replicate (1 - (lg_sl ([.ref h0])).length) Slot.unset).toArray = ls at hl ⊢
  have hl : lv_has ls 1 [(0, .ref h0)] := hl
  refine lv_aload_n hx hb dX0_startAnew_0 rfl (lv_at hl 0 rfl) ?_
  refine va_get (D := (dC, dI)) (ci := 0) (v := .ref hd) (C := RX0) (T := TX0) (N := 12) hx hb hts (by decide +kernel) hown hK hP 0 rfl rfl 5 (by decide) (hts (.fieldLink RX0 34 "HashedStore" "disk" "[I") (by decide +kernel)) (fun _ h9 => h9) rfl dX0_startAnew_1 ?_
  refine lv_iconst (v := nI 0) hx hb dX0_startAnew_4 (by decide) ?_
  have hPc := hP.sub (ws' := [ar_ hd cA (2 * sz) F]) [1] rfl
  have hDc := hD.sub (ws' := [ar_ hd cA (2 * sz) F]) [1] (by decide) rfl
  have hFc := va_free (wc := [ar_ hd cA (2 * sz) F]) hD hS hA [1] rfl
  refine va_callv (va_runS (As := [.ref hd, .int (nI 0)]) (rest := []) ⟨hx, hb, hml, hown, hts⟩ (kJ7_fill l dC dI hd cA (2 * sz) F (nI 0) (by omega) _) (va_cwS 2 hts gX0_startAnew_J7_fill_53178 rfl rfl rfl (by decide +kernel) ⟨(Nat.le_of_ble_eq_true rfl), (Nat.le_of_ble_eq_true rfl)⟩) (hs_preI hK hPc hDc) rfl rfl hl.1 rfl (lv_room (Nat.le_of_ble_eq_true rfl)) dX0_startAnew_5 ⟨Nat.zero_le _, Nat.zero_le _⟩) hS (fun q _ h => hFc q h) hFc (fun g t H1 locs ht hvm hw hB hz1 hk1 hS => ?_)
  obtain ⟨hP1, hK1, hD1⟩ := hB
  rw [ht] at hP1
  obtain ⟨hP, hD⟩ := va_join (wr := [oX_ h0 hd hp d N w nw sz u kr dn lf dw, ar_ hp cA sz G]) (w1 := [ar_ hd cA (2 * sz) g]) hP hD [1] [0, 2] rfl rfl (by decide) (by decide) hk1 hFc hP1 hD1
  generalize H1 = H at hP hS ⊢
  have hP := hP.sub (ws' := [oX_ h0 hd hp d N w nw sz u kr dn lf dw, ar_ hd cA (2 * sz) g, ar_ hp cA sz G]) [0, 2, 1] rfl
  have hD := hD.sub (ws' := [oX_ h0 hd hp d N w nw sz u kr dn lf dw, ar_ hd cA (2 * sz) g, ar_ hp cA sz G]) [0, 2, 1] (by decide) rfl
  obtain ⟨hP, hD⟩ := hs_repP (q0 := 1) (g := fun _ => 0) hP hD rfl (fun j hj => (hw j hj).trans nI_0)
  have hP : va_P (dC, dI) vwCl [oX_ h0 hd hp d N w nw sz u kr dn lf dw, ar_ hd cA (2 * sz) (fun _ => 0), ar_ hp cA sz G] H := hP
  have hD : va_D (va_A [oX_ h0 hd hp d N w nw sz u kr dn lf dw, ar_ hd cA (2 * sz) F, ar_ hp cA sz G] s.heap.size) [oX_ h0 hd hp d N w nw sz u kr dn lf dw, ar_ hd cA (2 * sz) (fun _ => 0), ar_ hp cA sz G] := hD
  refine lv_aload_n hx hb dX0_startAnew_8 rfl (lv_at hl 0 rfl) ?_
  refine hs_cv (va_runV (As := []) (rest := []) ⟨hx, hb, hml, hown, hts⟩ (kX0_makeAllNodesOfFirstArea l dC dI h0 hd hp cA d N w nw sz u (fun _ => 0) G kr dn lf dw ok _ (fun _ => rfl)) (cwV 0 hts gX0_startAnew_X0_makeAllNodesOfFirstArea rfl rfl rfl (by decide +kernel) ⟨(Nat.le_of_ble_eq_true rfl), (Nat.le_of_ble_eq_true rfl)⟩) (hs_preM (q := (RX0, TX0, 12)) (ci := 0) hK hP hD rfl rfl) rfl rfl hl.1 rfl (lv_room (Nat.le_of_ble_eq_true rfl)) dX0_startAnew_9 ⟨Nat.zero_le _, Nat.zero_le _⟩) hS hD hA (fun v H locs hv hP hD hS => ?_)
  obtain ⟨F9, rfl, hE⟩ := hv
  have hP : va_P (dC, dI) vwCl [oX_ h0 hd hp d N w nw sz u kr dn lf dw, ar_ hd cA (2 * sz) F9, ar_ hp cA sz G] H := hP
  have hD : va_D (va_A [oX_ h0 hd hp d N w nw sz u kr dn lf dw, ar_ hd cA (2 * sz) F, ar_ hp cA sz G] s.heap.size) [oX_ h0 hd hp d N w nw sz u kr dn lf dw, ar_ hd cA (2 * sz) F9, ar_ hp cA sz G] := hD
  refine lv_aload_n hx hb dX0_startAnew_12 rfl (lv_at hl 0 rfl) ?_
  refine lv_iconst (v := nI 0) hx hb dX0_startAnew_13 (by decide) ?_
  refine lv_aload_n hx hb dX0_startAnew_14 rfl (lv_at hl 0 rfl) ?_
  refine va_get (D := (dC, dI)) (ci := 0) (v := .ref hd) (C := RX0) (T := TX0) (N := 12) hx hb hts (by decide +kernel) hown hK hP 0 rfl rfl 5 (by decide) (hts (.fieldLink RX0 34 "HashedStore" "disk" "[I") (by decide +kernel)) (fun _ h9 => h9) rfl dX0_startAnew_15 ?_
  refine lv_aload_n hx hb dX0_startAnew_18 rfl (lv_at hl 0 rfl) ?_
  refine lv_iconst (v := nI 1) hx hb dX0_startAnew_19 (by decide) ?_
  refine hs_pe (v := nI (nw + 1 - 1)) (va_runV (As := [.int (nI 1)]) (rest := [.ref hd, .int (nI 0), .ref h0]) ⟨hx, hb, hml, hown, hts⟩ (kX0_nodeCell l dC dI h0 hd hp cA d N w nw sz u F9 G kr dn lf dw ok 1) (cwV 1 hts gX0_startAnew_X0_nodeCell rfl rfl rfl (by decide +kernel) ⟨(Nat.le_of_ble_eq_true rfl), (Nat.le_of_ble_eq_true rfl)⟩) (hs_preV (q := (RX0, TX0, 12)) (ci := 0) hK (hP.sub [0] rfl) rfl rfl) rfl rfl hl.1 rfl (lv_room (Nat.le_of_ble_eq_true rfl)) dX0_startAnew_20 ⟨Nat.zero_le _, Nat.zero_le _⟩) hS hP (fun H locs hP hS => ?_)
  refine hs_ald hx hb hK hP 1 0 rfl rfl (k := nw + 1 - 1) (by omega) (by omega) dX0_startAnew_23 ?_
  refine hs_cv (va_runV (As := [.int (nI 0), .int (F9 (nw + 1 - 1))]) (rest := []) ⟨hx, hb, hml, hown, hts⟩ (kX0_turnTo l dC dI h0 hd hp cA d N w nw sz u F9 G kr dn lf dw ok _ 0 (F9 (nw + 1 - 1))) (cwV 2 hts gX0_startAnew_X0_turnTo rfl rfl rfl (by decide +kernel) ⟨(Nat.le_of_ble_eq_true rfl), (Nat.le_of_ble_eq_true rfl)⟩) (hs_preM (q := (RX0, TX0, 12)) (ci := 0) hK hP hD rfl rfl) rfl rfl hl.1 rfl (lv_room (Nat.le_of_ble_eq_true rfl)) dX0_startAnew_24 ⟨Nat.zero_le _, Nat.zero_le _⟩) hS hD hA (fun v H locs hv hP hD hS => ?_)
  subst hv
  have hP : va_P (dC, dI) vwCl [oX_ h0 hd hp d N w nw sz 0 (F9 (nw + 1 - 1)) dn lf dw, ar_ hd cA (2 * sz) F9, ar_ hp cA sz G] H := hP
  have hD : va_D (va_A [oX_ h0 hd hp d N w nw sz u kr dn lf dw, ar_ hd cA (2 * sz) F, ar_ hp cA sz G] s.heap.size) [oX_ h0 hd hp d N w nw sz 0 (F9 (nw + 1 - 1)) dn lf dw, ar_ hd cA (2 * sz) F9, ar_ hp cA sz G] := hD
  refine lv_aload_n hx hb dX0_startAnew_27 rfl (lv_at hl 0 rfl) ?_
  refine lv_iconst (v := 0) hx hb dX0_startAnew_28 (by decide) ?_
  refine va_put (D := (dC, dI)) (ci := 0) (v := .int 0) (ty := .int) (C := RX0) (T := TX0) (N := 12) hx hb hts (by decide +kernel) tyX0 tyX0_ok nmX0 hown hK hP hD hS 0 rfl rfl 9 (by decide) (hts (.fieldLink RX0 95 "HashedStore" "writeCount" "I") (by decide +kernel)) (fun _ h9 => h9) rfl (by decide +kernel) rfl rfl (Nat.le_of_ble_eq_true rfl) dX0_startAnew_29 (fun H locs hP hD hS => ?_)
  have hP : va_P (dC, dI) vwCl [oX_ h0 hd hp d N w nw sz 0 (F9 (nw + 1 - 1)) 0 lf dw, ar_ hd cA (2 * sz) F9, ar_ hp cA sz G] H := hP
  have hD : va_D (va_A [oX_ h0 hd hp d N w nw sz u kr dn lf dw, ar_ hd cA (2 * sz) F, ar_ hp cA sz G] s.heap.size) [oX_ h0 hd hp d N w nw sz 0 (F9 (nw + 1 - 1)) 0 lf dw, ar_ hd cA (2 * sz) F9, ar_ hp cA sz G] := hD
  refine lv_aload_n hx hb dX0_startAnew_32 rfl (lv_at hl 0 rfl) ?_
  refine hs_cv (va_runV (As := []) (rest := []) ⟨hx, hb, hml, hown, hts⟩ (kX0_comeUp l dC dI h0 hd hp cA d N w nw sz 0 F9 G (F9 (nw + 1 - 1)) 0 lf dw ok _ ) (cwV 0 hts gX0_startAnew_X0_comeUp rfl rfl rfl (by decide +kernel) ⟨(Nat.le_of_ble_eq_true rfl), (Nat.le_of_ble_eq_true rfl)⟩) (hs_preM (q := (RX0, TX0, 12)) (ci := 0) hK hP hD rfl rfl) rfl rfl hl.1 rfl (lv_room (Nat.le_of_ble_eq_true rfl)) dX0_startAnew_33 ⟨Nat.zero_le _, Nat.zero_le _⟩) hS hD hA (fun v H locs hv hP hD hS => ?_)
  subst hv
  have hP : va_P (dC, dI) vwCl [oX_ h0 hd hp d N w nw sz 0 (F9 (nw + 1 - 1)) 0 (-1) false, ar_ hd cA (2 * sz) F9, ar_ hp cA sz G] H := hP
  have hD : va_D (va_A [oX_ h0 hd hp d N w nw sz u kr dn lf dw, ar_ hd cA (2 * sz) F, ar_ hp cA sz G] s.heap.size) [oX_ h0 hd hp d N w nw sz 0 (F9 (nw + 1 - 1)) 0 (-1) false, ar_ hd cA (2 * sz) F9, ar_ hp cA sz G] := hD
  exact W.vret hx hb hr (fun t ht hW => ⟨⟨((F9, 0, (F9 (nw + 1 - 1)), 0, (-1), false), G), rfl, ⟨F9, rfl, hE⟩, by rw [ht]; exact hP, va_K.moved hW.alike hK, hD⟩, hS.F ht⟩) hS.2.2 dX0_startAnew_36
set_option maxHeartbeats 4000000 in
set_option maxRecDepth 100000 in
theorem kX0_format (l : Launch) (dC : Nat → ClassId) (dI : Nat → Nat → Nat) (h0 hd hp : Nat) (cA : ClassId) (d N w nw sz u : Nat) (F G : Nat → Int32) (kr dn lf : Int32) (dw : Bool) (ok : hs_ok d N w nw sz) (zz : Nat)  : Met l yX0_format wsX0_format ({ frames := 4, cells := 0, slots := 0, locals := 88 }) (va_Pc [.ref h0] (hs_pm (dC, dI) vwCl [(cA, .int)] [oX_ h0 hd hp d N w nw sz u kr dn lf dw, ar_ hd cA (2 * sz) F, ar_ hp cA sz G] zz)) (va_Qi (S := hs_S × (Nat → Int32)) (fun r uu => r = 0 ∧ ∃ F9, uu = ((F9, 0, F9 (nw + 1 - 1), 0, -1, false), G) ∧ hs_E N w nw sz F9) (hs_B (dC, dI) vwCl [(cA, .int)] (wfX h0 hd hp cA d N w nw sz) (va_A [oX_ h0 hd hp d N w nw sz u kr dn lf dw, ar_ hd cA (2 * sz) F, ar_ hp cA sz G] zz)) (va_A [oX_ h0 hd hp d N w nw sz u kr dn lf dw, ar_ hd cA (2 * sz) F, ar_ hp cA sz G] zz)) 0 0 (va_A [oX_ h0 hd hp d N w nw sz u kr dn lf dw, ar_ hd cA (2 * sz) F, ar_ hp cA sz G] zz) := by
  refine Met.ofW (cc := cX0_format) (maxL := 1) (ret := (some .int)) (by decide) rfl ?_
  intro p e s m args below meth c s₁ B hml hv
  obtain ⟨rfl, hzz, hP, hK, hD0⟩ := hv
  have hx := B.exec
  have hb := B.bytes
  have hr := B.returns
  have hts := atoms_spec (ws := wsX0_format) B.pre
  have hown : s.vm.findClass RX0 = some m.cls := findClass_of_methodNamed B.named
  have hlocks := B.notSynchronized
  obtain ⟨hd5, hN1, hN2, hw1, hw2, hn1, hn2, hsz, hsz2⟩ := hs_okf ok
  have hnw : nw = N * w := ok.2.2.2.2.1
  subst hzz
  have hD := hD0.self (sz := s.heap.size)
  have hS : va_S (va_A [oX_ h0 hd hp d N w nw sz u kr dn lf dw, ar_ hd cA (2 * sz) F, ar_ hp cA sz G] s.heap.size) s.heap s.heap [] := va_S.rf
  have hA : ∀ q : Nat, s.heap.size ≤ q → va_A [oX_ h0 hd hp d N w nw sz u kr dn lf dw, ar_ hd cA (2 * sz) F, ar_ hp cA sz G] s.heap.size q := fun q h => Or.inr h
  have hl := lv_entry ([.ref h0]) (n := 1) (Nat.le_of_ble_eq_true rfl)
  rw [lg_entry_eq]
  generalize (lg_sl ([.ref h0]) ++ List.replicate (1 - (lg_sl ([.ref h0])).length) Slot.unset).toArray = ls at hl ⊢
  have hl : lv_has ls 1 [(0, .ref h0)] := hl
  refine lv_aload_n hx hb dX0_format_0 rfl (lv_at hl 0 rfl) ?_
  refine hs_cv (va_runV (As := []) (rest := []) ⟨hx, hb, hml, hown, hts⟩ (kX0_startAnew l dC dI h0 hd hp cA d N w nw sz u F G kr dn lf dw ok _ ) (cwV 0 hts gX0_format_X0_startAnew rfl rfl rfl (by decide +kernel) ⟨(Nat.le_of_ble_eq_true rfl), (Nat.le_of_ble_eq_true rfl)⟩) (hs_preM (q := (RX0, TX0, 12)) (ci := 0) hK hP hD rfl rfl) rfl rfl hl.1 rfl (lv_room (Nat.le_of_ble_eq_true rfl)) dX0_format_1 ⟨Nat.zero_le _, Nat.zero_le _⟩) hS hD hA (fun v H locs hv hP hD hS => ?_)
  obtain ⟨F9, rfl, hE⟩ := hv
  have hP : va_P (dC, dI) vwCl [oX_ h0 hd hp d N w nw sz 0 (F9 (nw + 1 - 1)) 0 (-1) false, ar_ hd cA (2 * sz) F9, ar_ hp cA sz G] H := hP
  have hD : va_D (va_A [oX_ h0 hd hp d N w nw sz u kr dn lf dw, ar_ hd cA (2 * sz) F, ar_ hp cA sz G] s.heap.size) [oX_ h0 hd hp d N w nw sz 0 (F9 (nw + 1 - 1)) 0 (-1) false, ar_ hd cA (2 * sz) F9, ar_ hp cA sz G] := hD
  refine lv_iconst (v := nI 0) hx hb dX0_format_4 (by decide) ?_
  exact W.iret (v := nI 0) hx hb hr (fun t ht hW => ⟨⟨nI 0, ((F9, 0, (F9 (nw + 1 - 1)), 0, (-1), false), G), rfl, ⟨rfl, F9, rfl, hE⟩, by rw [ht]; exact hP, va_K.moved hW.alike hK, hD⟩, hS.F ht⟩) hS.2.2 dX0_format_5
set_option maxHeartbeats 4000000 in
set_option maxRecDepth 100000 in
theorem kX0_write (l : Launch) (dC : Nat → ClassId) (dI : Nat → Nat → Nat) (h0 hd hp : Nat) (cA : ClassId) (d N w nw sz u : Nat) (F G : Nat → Int32) (kr dn lf : Int32) (dw : Bool) (ok : hs_ok d N w nw sz) (zz : Nat) (p1 p2 p3 : Int32) (hu : u < 2) : Met l yX0_write wsX0_write ({ frames := 4, cells := 0, slots := 0, locals := 96 }) (va_Pc [.ref h0, .int p1, .int p2, .int p3] (hs_pm (dC, dI) vwCl [(cA, .int)] [oX_ h0 hd hp d N w nw sz u kr dn lf dw, ar_ hd cA (2 * sz) F, ar_ hp cA sz G] zz)) (va_Qi (S := hs_S × (Nat → Int32)) (fun r uu => (r, uu.1) = hs_wr d N w nw sz p1 p2 p3 (F, u, kr, dn, lf, dw)) (hs_B (dC, dI) vwCl [(cA, .int)] (wfX h0 hd hp cA d N w nw sz) (va_A [oX_ h0 hd hp d N w nw sz u kr dn lf dw, ar_ hd cA (2 * sz) F, ar_ hp cA sz G] zz)) (va_A [oX_ h0 hd hp d N w nw sz u kr dn lf dw, ar_ hd cA (2 * sz) F, ar_ hp cA sz G] zz)) 0 0 (va_A [oX_ h0 hd hp d N w nw sz u kr dn lf dw, ar_ hd cA (2 * sz) F, ar_ hp cA sz G] zz) := by
  refine Met.ofW (cc := cX0_write) (maxL := 5) (ret := (some .int)) (by decide) rfl ?_
  intro p e s m args below meth c s₁ B hml hv
  obtain ⟨rfl, hzz, hP, hK, hD0⟩ := hv
  have hx := B.exec
  have hb := B.bytes
  have hr := B.returns
  have hts := atoms_spec (ws := wsX0_write) B.pre
  have hown : s.vm.findClass RX0 = some m.cls := findClass_of_methodNamed B.named
  have hlocks := B.notSynchronized
  obtain ⟨hd5, hN1, hN2, hw1, hw2, hn1, hn2, hsz, hsz2⟩ := hs_okf ok
  have hnw : nw = N * w := ok.2.2.2.2.1
  subst hzz
  have hD := hD0.self (sz := s.heap.size)
  have hS : va_S (va_A [oX_ h0 hd hp d N w nw sz u kr dn lf dw, ar_ hd cA (2 * sz) F, ar_ hp cA sz G] s.heap.size) s.heap s.heap [] := va_S.rf
  have hA : ∀ q : Nat, s.heap.size ≤ q → va_A [oX_ h0 hd hp d N w nw sz u kr dn lf dw, ar_ hd cA (2 * sz) F, ar_ hp cA sz G] s.heap.size q := fun q h => Or.inr h
  have hl := lv_entry ([.ref h0, .int p1, .int p2, .int p3]) (n := 5) (Nat.le_of_ble_eq_true rfl)
  rw [lg_entry_eq]
  generalize (lg_sl ([.ref h0, .int p1, .int p2, .int p3]) ++ List.replicate (5 - (lg_sl ([.ref h0, .int p1, .int p2, .int p3])).length) Slot.unset).toArray = ls at hl ⊢
  have hl : lv_has ls 5 [(0, .ref h0), (1, .int p1), (2, .int p2), (3, .int p3)] := hl
  have hus : (1 - u) * sz + sz ≤ 2 * sz := hs_us2 (by omega)
  refine lv_aload_n hx hb dX0_write_0 rfl (lv_at hl 0 rfl) ?_
  refine lv_iload_n hx hb dX0_write_1 rfl (lv_at hl 1 rfl) ?_
  refine lv_iload_n hx hb dX0_write_2 rfl (lv_at hl 2 rfl) ?_
  refine hs_pe (v := hs_b (hs_hb N p1 && hs_hb w p2)) (va_runV (As := [.int p1, .int p2]) (rest := []) ⟨hx, hb, hml, hown, hts⟩ (kX0_hasWord l dC dI h0 hd hp cA d N w nw sz u F G kr dn lf dw ok p1 p2) (cwV 2 hts gX0_write_X0_hasWord rfl rfl rfl (by decide +kernel) ⟨(Nat.le_of_ble_eq_true rfl), (Nat.le_of_ble_eq_true rfl)⟩) (hs_preV (q := (RX0, TX0, 12)) (ci := 0) hK (hP.sub [0] rfl) rfl rfl) rfl rfl hl.1 rfl (lv_room (Nat.le_of_ble_eq_true rfl)) dX0_write_3 ⟨Nat.zero_le _, Nat.zero_le _⟩) hS hP (fun H locs hP hS => ?_)
  refine hs_beq (tgt := 13) hx hb dX0_write_6 (by decide) (fun c1 => ?_) (fun c1 => ?_)
  · refine lv_bipush (v := (-2)) hx hb dX0_write_13 (by decide) ?_
    exact W.iret (v := (-2)) hx hb hr (fun t ht hW => ⟨⟨(-2), ((F, u, kr, dn, lf, dw), G), rfl, (by rw [hs_wr_1 c1]), by rw [ht]; exact hP, va_K.moved hW.alike hK, hD⟩, hS.F ht⟩) hS.2.2 dX0_write_15
  · refine lv_iload_n hx hb dX0_write_9 rfl (lv_at hl 3 rfl) ?_
    refine lv_if_ge (tgt := 16) hx hb dX0_write_10 (by decide) (fun c2 => ?_) (fun c2 => ?_)
    · obtain ⟨⟨j, hj, rfl⟩, ⟨i, hi, rfl⟩⟩ := hs_and_t c1 (by omega) (by omega)
      have c0 := Int32.not_lt.mpr c2
      refine lv_aload_n hx hb dX0_write_16 rfl (lv_at hl 0 rfl) ?_
      refine va_get (D := (dC, dI)) (ci := 0) (v := .int (hs_b dw)) (C := RX0) (T := TX0) (N := 12) hx hb hts (by decide +kernel) hown hK hP 0 rfl rfl 11 (by decide) (hts (.fieldLink RX0 48 "HashedStore" "isDown" "Z") (by decide +kernel)) (fun _ h9 => h9) rfl dX0_write_17 ?_
      refine hs_beq (tgt := 26) hx hb dX0_write_20 (by decide) (fun c3 => ?_) (fun c3 => ?_)
      · refine lv_aload_n hx hb dX0_write_26 rfl (lv_at hl 0 rfl) ?_
        refine lv_iload_n hx hb dX0_write_27 rfl (lv_at hl 1 rfl) ?_
        refine hs_pe (v := hs_b (hs_rg d N w nw (hs_vw sz F u) kr j)) (va_runV (As := [.int (nI j)]) (rest := []) ⟨hx, hb, hml, hown, hts⟩ (kX0_isRight l dC dI h0 hd hp cA d N w nw sz u F G kr dn lf dw ok j hj hu) (cwV 1 hts gX0_write_X0_isRight rfl rfl rfl (by decide +kernel) ⟨(Nat.le_of_ble_eq_true rfl), (Nat.le_of_ble_eq_true rfl)⟩) (hs_preV (q := (RX0, TX0, 12)) (ci := 0) hK (hP.sub [0, 1] rfl) rfl rfl) rfl rfl hl.1 rfl (lv_room (Nat.le_of_ble_eq_true rfl)) dX0_write_28 ⟨Nat.zero_le _, Nat.zero_le _⟩) hS hP (fun H locs hP hS => ?_)
        refine hs_bne (tgt := 37) hx hb dX0_write_31 (by decide) (fun c4 => ?_) (fun c4 => ?_)
        · refine lv_aload_n hx hb dX0_write_37 rfl (lv_at hl 0 rfl) ?_
          refine lv_iload_n hx hb dX0_write_38 rfl (lv_at hl 1 rfl) ?_
          refine lv_iload_n hx hb dX0_write_39 rfl (lv_at hl 2 rfl) ?_
          refine lv_iload_n hx hb dX0_write_40 rfl (lv_at hl 3 rfl) ?_
          refine hs_cv (va_runV (As := [.int (nI j), .int (nI i), .int p3]) (rest := []) ⟨hx, hb, hml, hown, hts⟩ (kX0_planWord l dC dI h0 hd hp cA d N w nw sz u F G kr dn lf dw ok _ j i p3 hj hi hu) (cwV 3 hts gX0_write_X0_planWord rfl rfl rfl (by decide +kernel) ⟨(Nat.le_of_ble_eq_true rfl), (Nat.le_of_ble_eq_true rfl)⟩) (hs_preM (q := (RX0, TX0, 12)) (ci := 0) hK hP hD rfl rfl) rfl rfl hl.1 rfl (lv_room (Nat.le_of_ble_eq_true rfl)) dX0_write_41 ⟨Nat.zero_le _, Nat.zero_le _⟩) hS hD hA (fun v H locs hv hP hD hS => ?_)
          subst hv
          have hroot := hs_pl_root (i := i) ok hj (hs_vw sz F u) p3
          obtain ⟨g, rt, hg⟩ : ∃ g rt, hs_pl d N w nw (hs_vw sz F u) j i p3 = (g, rt) := ⟨_, _, rfl⟩
          rw [hg] at hP hD hroot
          have hroot : g (nw + 1 - 1) = rt := hroot
          have hP : va_P (dC, dI) vwCl [oX_ h0 hd hp d N w nw sz u kr dn lf dw, ar_ hd cA (2 * sz) F, ar_ hp cA sz g] H := hP
          have hD : va_D (va_A [oX_ h0 hd hp d N w nw sz u kr dn lf dw, ar_ hd cA (2 * sz) F, ar_ hp cA sz G] s.heap.size) [oX_ h0 hd hp d N w nw sz u kr dn lf dw, ar_ hd cA (2 * sz) F, ar_ hp cA sz g] := hD
          refine lv_iconst (v := nI 1) hx hb dX0_write_44 (by decide) ?_
          refine lv_aload_n hx hb dX0_write_45 rfl (lv_at hl 0 rfl) ?_
          refine va_get (D := (dC, dI)) (ci := 0) (v := .int (nI u)) (C := RX0) (T := TX0) (N := 12) hx hb hts (by decide +kernel) hown hK hP 0 rfl rfl 7 (by decide) (hts (.fieldLink RX0 60 "HashedStore" "areaInUse" "I") (by decide +kernel)) (fun _ h9 => h9) rfl dX0_write_46 ?_
          refine hs_subN hx hb (by omega) dX0_write_49 ?_
          refine lv_istore (lv' := [(4, .int (nI (1 - u))), (0, .ref h0), (1, .int (nI j)), (2, .int (nI i)), (3, .int p3)]) hx hb dX0_write_50 hl (by decide) rfl (fun ls hl => ?_)
          refine lv_aload_n hx hb dX0_write_52 rfl (lv_at hl 1 rfl) ?_
          refine lv_aload_n hx hb dX0_write_53 rfl (lv_at hl 1 rfl) ?_
          refine lv_iload hx hb dX0_write_54 (lv_at hl 0 rfl) ?_
          refine hs_pe (v := nI ((1 - u) * sz)) (va_runV (As := [.int (nI (1 - u))]) (rest := [.ref h0]) ⟨hx, hb, hml, hown, hts⟩ (kX0_areaStart l dC dI h0 hd hp cA d N w nw sz u F g kr dn lf dw ok (1 - u)) (cwV 1 hts gX0_write_X0_areaStart rfl rfl rfl (by decide +kernel) ⟨(Nat.le_of_ble_eq_true rfl), (Nat.le_of_ble_eq_true rfl)⟩) (hs_preV (q := (RX0, TX0, 12)) (ci := 0) hK (hP.sub [0] rfl) rfl rfl) rfl rfl hl.1 rfl (lv_room (Nat.le_of_ble_eq_true rfl)) dX0_write_56 ⟨Nat.zero_le _, Nat.zero_le _⟩) hS hP (fun H locs hP hS => ?_)
          refine hs_ci (va_runV (As := [.int (nI ((1 - u) * sz))]) (rest := []) ⟨hx, hb, hml, hown, hts⟩ (kX0_carryOutPlan l dC dI h0 hd hp cA d N w nw sz u F g kr dn lf dw ok _ ((1 - u) * sz) hus) (cwV 1 hts gX0_write_X0_carryOutPlan rfl rfl rfl (by decide +kernel) ⟨(Nat.le_of_ble_eq_true rfl), (Nat.le_of_ble_eq_true rfl)⟩) (hs_preM (q := (RX0, TX0, 12)) (ci := 0) hK hP hD rfl rfl) rfl rfl hl.1 rfl (lv_room (Nat.le_of_ble_eq_true rfl)) dX0_write_59 ⟨Nat.zero_le _, Nat.zero_le _⟩) hS hD hA (fun rv v H locs hv hP hD hS => ?_)
          obtain ⟨F2, lf2, dn2, dw2, b2, hps⟩ : ∃ F2 lf2 dn2 dw2 b2, hs_ps ((1 - u) * sz) g (hs_cs N nw) (F, lf, dn, dw) = ((F2, lf2, dn2, dw2), b2) := ⟨_, _, _, _, _, rfl⟩
          rw [hps] at hv
          obtain ⟨rfl, rfl⟩ := hv
          have hP : va_P (dC, dI) vwCl [oX_ h0 hd hp d N w nw sz u kr dn2 lf2 dw2, ar_ hd cA (2 * sz) F2, ar_ hp cA sz g] H := hP
          have hD : va_D (va_A [oX_ h0 hd hp d N w nw sz u kr dn lf dw, ar_ hd cA (2 * sz) F, ar_ hp cA sz G] s.heap.size) [oX_ h0 hd hp d N w nw sz u kr dn2 lf2 dw2, ar_ hd cA (2 * sz) F2, ar_ hp cA sz g] := hD
          refine hs_bne (tgt := 68) hx hb dX0_write_62 (by decide) (fun c5 => ?_) (fun c5 => ?_)
          · refine lv_aload_n hx hb dX0_write_68 rfl (lv_at hl 1 rfl) ?_
            refine lv_iload hx hb dX0_write_69 (lv_at hl 0 rfl) ?_
            refine lv_aload_n hx hb dX0_write_71 rfl (lv_at hl 1 rfl) ?_
            refine va_get (D := (dC, dI)) (ci := 0) (v := .ref hp) (C := RX0) (T := TX0) (N := 12) hx hb hts (by decide +kernel) hown hK hP 0 rfl rfl 6 (by decide) (hts (.fieldLink RX0 38 "HashedStore" "plan" "[I") (by decide +kernel)) (fun _ h9 => h9) rfl dX0_write_72 ?_
            refine lv_aload_n hx hb dX0_write_75 rfl (lv_at hl 1 rfl) ?_
            refine lv_iconst (v := nI 1) hx hb dX0_write_76 (by decide) ?_
            refine hs_pe (v := nI (nw + 1 - 1)) (va_runV (As := [.int (nI 1)]) (rest := [.ref hp, .int (nI (1 - u)), .ref h0]) ⟨hx, hb, hml, hown, hts⟩ (kX0_nodeCell l dC dI h0 hd hp cA d N w nw sz u F2 g kr dn2 lf2 dw2 ok 1) (cwV 1 hts gX0_write_X0_nodeCell rfl rfl rfl (by decide +kernel) ⟨(Nat.le_of_ble_eq_true rfl), (Nat.le_of_ble_eq_true rfl)⟩) (hs_preV (q := (RX0, TX0, 12)) (ci := 0) hK (hP.sub [0] rfl) rfl rfl) rfl rfl hl.1 rfl (lv_room (Nat.le_of_ble_eq_true rfl)) dX0_write_77 ⟨Nat.zero_le _, Nat.zero_le _⟩) hS hP (fun H locs hP hS => ?_)
            refine hs_ald hx hb hK hP 2 0 rfl rfl (k := nw + 1 - 1) (by omega) (by omega) dX0_write_80 ?_
            refine hs_cv (va_runV (As := [.int (nI (1 - u)), .int (g (nw + 1 - 1))]) (rest := []) ⟨hx, hb, hml, hown, hts⟩ (kX0_turnTo l dC dI h0 hd hp cA d N w nw sz u F2 g kr dn2 lf2 dw2 ok _ (1 - u) (g (nw + 1 - 1))) (cwV 2 hts gX0_write_X0_turnTo rfl rfl rfl (by decide +kernel) ⟨(Nat.le_of_ble_eq_true rfl), (Nat.le_of_ble_eq_true rfl)⟩) (hs_preM (q := (RX0, TX0, 12)) (ci := 0) hK hP hD rfl rfl) rfl rfl hl.1 rfl (lv_room (Nat.le_of_ble_eq_true rfl)) dX0_write_81 ⟨Nat.zero_le _, Nat.zero_le _⟩) hS hD hA (fun v H locs hv hP hD hS => ?_)
            subst hv
            have hP : va_P (dC, dI) vwCl [oX_ h0 hd hp d N w nw sz (1 - u) (g (nw + 1 - 1)) dn2 lf2 dw2, ar_ hd cA (2 * sz) F2, ar_ hp cA sz g] H := hP
            have hD : va_D (va_A [oX_ h0 hd hp d N w nw sz u kr dn lf dw, ar_ hd cA (2 * sz) F, ar_ hp cA sz G] s.heap.size) [oX_ h0 hd hp d N w nw sz (1 - u) (g (nw + 1 - 1)) dn2 lf2 dw2, ar_ hd cA (2 * sz) F2, ar_ hp cA sz g] := hD
            refine lv_iconst (v := nI 0) hx hb dX0_write_84 (by decide) ?_
            exact W.iret (v := nI 0) hx hb hr (fun t ht hW => ⟨⟨nI 0, ((F2, (1 - u), (g (nw + 1 - 1)), dn2, lf2, dw2), g), rfl, (by subst c5; rw [hs_wr_6 hj hi (by omega) (by omega) c0 c3 c4 hg hps, hroot]; rfl), by rw [ht]; exact hP, va_K.moved hW.alike hK, hD⟩, hS.F ht⟩) hS.2.2 dX0_write_85
          · refine lv_bipush (v := (-4)) hx hb dX0_write_65 (by decide) ?_
            exact W.iret (v := (-4)) hx hb hr (fun t ht hW => ⟨⟨(-4), ((F2, u, kr, dn2, lf2, dw2), g), rfl, (by subst c5; rw [hs_wr_5 hj hi (by omega) (by omega) c0 c3 c4 hg hps]), by rw [ht]; exact hP, va_K.moved hW.alike hK, hD⟩, hS.F ht⟩) hS.2.2 dX0_write_67
        · refine lv_bipush (v := (-3)) hx hb dX0_write_34 (by decide) ?_
          exact W.iret (v := (-3)) hx hb hr (fun t ht hW => ⟨⟨(-3), ((F, u, kr, dn, lf, dw), G), rfl, (by rw [hs_wr_4 hj hi (by omega) (by omega) c0 c3 c4]), by rw [ht]; exact hP, va_K.moved hW.alike hK, hD⟩, hS.F ht⟩) hS.2.2 dX0_write_36
      · refine lv_bipush (v := (-4)) hx hb dX0_write_23 (by decide) ?_
        exact W.iret (v := (-4)) hx hb hr (fun t ht hW => ⟨⟨(-4), ((F, u, kr, dn, lf, dw), G), rfl, (by rw [hs_wr_3 hj hi (by omega) (by omega) c0 c3]), by rw [ht]; exact hP, va_K.moved hW.alike hK, hD⟩, hS.F ht⟩) hS.2.2 dX0_write_25
    · refine lv_bipush (v := (-2)) hx hb dX0_write_13 (by decide) ?_
      exact W.iret (v := (-2)) hx hb hr (fun t ht hW => ⟨⟨(-2), ((F, u, kr, dn, lf, dw), G), rfl, (by rw [hs_wr_2 (Int32.not_le.mp c2)]), by rw [ht]; exact hP, va_K.moved hW.alike hK, hD⟩, hS.F ht⟩) hS.2.2 dX0_write_15
set_option maxHeartbeats 4000000 in
set_option maxRecDepth 100000 in
theorem kX0_tamper (l : Launch) (dC : Nat → ClassId) (dI : Nat → Nat → Nat) (h0 hd hp : Nat) (cA : ClassId) (d N w nw sz u : Nat) (F G : Nat → Int32) (kr dn lf : Int32) (dw : Bool) (ok : hs_ok d N w nw sz) (zz : Nat) (p1 p2 : Int32) : Met l yX0_tamper wsX0_tamper ({ frames := 1, cells := 0, slots := 0, locals := 21 }) (va_Pc [.ref h0, .int p1, .int p2] (hs_pm (dC, dI) vwCl [(cA, .int)] [oX_ h0 hd hp d N w nw sz u kr dn lf dw, ar_ hd cA (2 * sz) F, ar_ hp cA sz G] zz)) (va_Qv (S := hs_S × (Nat → Int32)) (fun uu => uu = (hs_tm sz p1 p2 (F, u, kr, dn, lf, dw), G)) (hs_B (dC, dI) vwCl [(cA, .int)] (wfX h0 hd hp cA d N w nw sz) (va_A [oX_ h0 hd hp d N w nw sz u kr dn lf dw, ar_ hd cA (2 * sz) F, ar_ hp cA sz G] zz)) (va_A [oX_ h0 hd hp d N w nw sz u kr dn lf dw, ar_ hd cA (2 * sz) F, ar_ hp cA sz G] zz)) 0 0 (va_A [oX_ h0 hd hp d N w nw sz u kr dn lf dw, ar_ hd cA (2 * sz) F, ar_ hp cA sz G] zz) := by
  refine Met.ofW (cc := cX0_tamper) (maxL := 3) (ret := none) (by decide) rfl ?_
  intro p e s m args below meth c s₁ B hml hv
  obtain ⟨rfl, hzz, hP, hK, hD0⟩ := hv
  have hx := B.exec
  have hb := B.bytes
  have hr := B.returns
  have hts := atoms_spec (ws := wsX0_tamper) B.pre
  have hown : s.vm.findClass RX0 = some m.cls := findClass_of_methodNamed B.named
  have hlocks := B.notSynchronized
  obtain ⟨hd5, hN1, hN2, hw1, hw2, hn1, hn2, hsz, hsz2⟩ := hs_okf ok
  have hnw : nw = N * w := ok.2.2.2.2.1
  subst hzz
  have hD := hD0.self (sz := s.heap.size)
  have hS : va_S (va_A [oX_ h0 hd hp d N w nw sz u kr dn lf dw, ar_ hd cA (2 * sz) F, ar_ hp cA sz G] s.heap.size) s.heap s.heap [] := va_S.rf
  have hA : ∀ q : Nat, s.heap.size ≤ q → va_A [oX_ h0 hd hp d N w nw sz u kr dn lf dw, ar_ hd cA (2 * sz) F, ar_ hp cA sz G] s.heap.size q := fun q h => Or.inr h
  have hl := lv_entry ([.ref h0, .int p1, .int p2]) (n := 3) (Nat.le_of_ble_eq_true rfl)
  rw [lg_entry_eq]
  generalize (lg_sl ([.ref h0, .int p1, .int p2]) ++ List.replicate (3 - (lg_sl ([.ref h0, .int p1, .int p2])).length) Slot.unset).toArray = ls at hl ⊢
  have hl : lv_has ls 3 [(0, .ref h0), (1, .int p1), (2, .int p2)] := hl
  refine lv_aload_n hx hb dX0_tamper_0 rfl (lv_at hl 0 rfl) ?_
  refine lv_iload_n hx hb dX0_tamper_1 rfl (lv_at hl 1 rfl) ?_
  refine hs_pe (v := hs_b (hs_hb (2 * sz) p1)) (va_runV (As := [.int p1]) (rest := []) ⟨hx, hb, hml, hown, hts⟩ (kX0_hasCell l dC dI h0 hd hp cA d N w nw sz u F G kr dn lf dw ok p1) (cwV 1 hts gX0_tamper_X0_hasCell rfl rfl rfl (by decide +kernel) ⟨(Nat.le_of_ble_eq_true rfl), (Nat.le_of_ble_eq_true rfl)⟩) (hs_preV (q := (RX0, TX0, 12)) (ci := 0) hK (hP.sub [0, 1] rfl) rfl rfl) rfl rfl hl.1 rfl (lv_room (Nat.le_of_ble_eq_true rfl)) dX0_tamper_2 ⟨Nat.zero_le _, Nat.zero_le _⟩) hS hP (fun H locs hP hS => ?_)
  refine hs_beq (tgt := 15) hx hb dX0_tamper_5 (by decide) (fun c1 => ?_) (fun c1 => ?_)
  · exact W.vret hx hb hr (fun t ht hW => ⟨⟨((F, u, kr, dn, lf, dw), G), rfl, (by rw [hs_tm_1 c1]), by rw [ht]; exact hP, va_K.moved hW.alike hK, hD⟩, hS.F ht⟩) hS.2.2 dX0_tamper_15
  · obtain ⟨j, hj, rfl⟩ := hs_hb_t (by omega) c1
    refine lv_aload_n hx hb dX0_tamper_8 rfl (lv_at hl 0 rfl) ?_
    refine va_get (D := (dC, dI)) (ci := 0) (v := .ref hd) (C := RX0) (T := TX0) (N := 12) hx hb hts (by decide +kernel) hown hK hP 0 rfl rfl 5 (by decide) (hts (.fieldLink RX0 34 "HashedStore" "disk" "[I") (by decide +kernel)) (fun _ h9 => h9) rfl dX0_tamper_9 ?_
    refine lv_iload_n hx hb dX0_tamper_12 rfl (lv_at hl 1 rfl) ?_
    refine lv_iload_n hx hb dX0_tamper_13 rfl (lv_at hl 2 rfl) ?_
    refine hs_ast hx hb hK hP hD hS 1 0 rfl rfl (k := j) (by omega) (by omega) dX0_tamper_14 (fun H locs hP hD hS => ?_)
    have hP : va_P (dC, dI) vwCl [oX_ h0 hd hp d N w nw sz u kr dn lf dw, ar_ hd cA (2 * sz) (upd F j p2), ar_ hp cA sz G] H := hP
    have hD : va_D (va_A [oX_ h0 hd hp d N w nw sz u kr dn lf dw, ar_ hd cA (2 * sz) F, ar_ hp cA sz G] s.heap.size) [oX_ h0 hd hp d N w nw sz u kr dn lf dw, ar_ hd cA (2 * sz) (upd F j p2), ar_ hp cA sz G] := hD
    exact W.vret hx hb hr (fun t ht hW => ⟨⟨((upd F j p2, u, kr, dn, lf, dw), G), rfl, (by rw [hs_tm_2 hj (by omega)]), by rw [ht]; exact hP, va_K.moved hW.alike hK, hD⟩, hS.F ht⟩) hS.2.2 dX0_tamper_15
set_option maxHeartbeats 4000000 in
set_option maxRecDepth 100000 in
theorem kX0_crashAfter (l : Launch) (dC : Nat → ClassId) (dI : Nat → Nat → Nat) (h0 hd hp : Nat) (cA : ClassId) (d N w nw sz u : Nat) (F G : Nat → Int32) (kr dn lf : Int32) (dw : Bool) (ok : hs_ok d N w nw sz) (zz : Nat) (p1 : Int32) : Met l yX0_crashAfter wsX0_crashAfter ({ frames := 0, cells := 0, slots := 0, locals := 0 }) (va_Pc [.ref h0, .int p1] (hs_pm (dC, dI) vwCl [(cA, .int)] [oX_ h0 hd hp d N w nw sz u kr dn lf dw, ar_ hd cA (2 * sz) F, ar_ hp cA sz G] zz)) (va_Qv (S := hs_S × (Nat → Int32)) (fun uu => uu = (hs_cr p1 (F, u, kr, dn, lf, dw), G)) (hs_B (dC, dI) vwCl [(cA, .int)] (wfX h0 hd hp cA d N w nw sz) (va_A [oX_ h0 hd hp d N w nw sz u kr dn lf dw, ar_ hd cA (2 * sz) F, ar_ hp cA sz G] zz)) (va_A [oX_ h0 hd hp d N w nw sz u kr dn lf dw, ar_ hd cA (2 * sz) F, ar_ hp cA sz G] zz)) 0 0 (va_A [oX_ h0 hd hp d N w nw sz u kr dn lf dw, ar_ hd cA (2 * sz) F, ar_ hp cA sz G] zz) := by
  refine Met.ofW (cc := cX0_crashAfter) (maxL := 2) (ret := none) (by decide) rfl ?_
  intro p e s m args below meth c s₁ B hml hv
  obtain ⟨rfl, hzz, hP, hK, hD0⟩ := hv
  have hx := B.exec
  have hb := B.bytes
  have hr := B.returns
  have hts := atoms_spec (ws := wsX0_crashAfter) B.pre
  have hown : s.vm.findClass RX0 = some m.cls := findClass_of_methodNamed B.named
  have hlocks := B.notSynchronized
  obtain ⟨hd5, hN1, hN2, hw1, hw2, hn1, hn2, hsz, hsz2⟩ := hs_okf ok
  have hnw : nw = N * w := ok.2.2.2.2.1
  subst hzz
  have hD := hD0.self (sz := s.heap.size)
  have hS : va_S (va_A [oX_ h0 hd hp d N w nw sz u kr dn lf dw, ar_ hd cA (2 * sz) F, ar_ hp cA sz G] s.heap.size) s.heap s.heap [] := va_S.rf
  have hA : ∀ q : Nat, s.heap.size ≤ q → va_A [oX_ h0 hd hp d N w nw sz u kr dn lf dw, ar_ hd cA (2 * sz) F, ar_ hp cA sz G] s.heap.size q := fun q h => Or.inr h
  have hl := lv_entry ([.ref h0, .int p1]) (n := 2) (Nat.le_of_ble_eq_true rfl)
  rw [lg_entry_eq]
  generalize (lg_sl ([.ref h0, .int p1]) ++ List.replicate (2 - (lg_sl ([.ref h0, .int p1])).length) Slot.unset).toArray = ls at hl ⊢
  have hl : lv_has ls 2 [(0, .ref h0), (1, .int p1)] := hl
  refine lv_iload_n hx hb dX0_crashAfter_0 rfl (lv_at hl 1 rfl) ?_
  refine lv_if_lt (tgt := 16) hx hb dX0_crashAfter_1 (by decide) (fun c1 => ?_) (fun c1 => ?_)
  · exact W.vret hx hb hr (fun t ht hW => ⟨⟨((F, u, kr, dn, lf, dw), G), rfl, (by rw [hs_cr_1 c1]), by rw [ht]; exact hP, va_K.moved hW.alike hK, hD⟩, hS.F ht⟩) hS.2.2 dX0_crashAfter_16
  · refine lv_aload_n hx hb dX0_crashAfter_4 rfl (lv_at hl 0 rfl) ?_
    refine va_get (D := (dC, dI)) (ci := 0) (v := .int (hs_b dw)) (C := RX0) (T := TX0) (N := 12) hx hb hts (by decide +kernel) hown hK hP 0 rfl rfl 11 (by decide) (hts (.fieldLink RX0 48 "HashedStore" "isDown" "Z") (by decide +kernel)) (fun _ h9 => h9) rfl dX0_crashAfter_5 ?_
    refine hs_bne (tgt := 16) hx hb dX0_crashAfter_8 (by decide) (fun c2 => ?_) (fun c2 => ?_)
    · exact W.vret hx hb hr (fun t ht hW => ⟨⟨((F, u, kr, dn, lf, dw), G), rfl, (by rw [hs_cr_2 c2]), by rw [ht]; exact hP, va_K.moved hW.alike hK, hD⟩, hS.F ht⟩) hS.2.2 dX0_crashAfter_16
    · refine lv_aload_n hx hb dX0_crashAfter_11 rfl (lv_at hl 0 rfl) ?_
      refine lv_iload_n hx hb dX0_crashAfter_12 rfl (lv_at hl 1 rfl) ?_
      refine va_put (D := (dC, dI)) (ci := 0) (v := .int p1) (ty := .int) (C := RX0) (T := TX0) (N := 12) hx hb hts (by decide +kernel) tyX0 tyX0_ok nmX0 hown hK hP hD hS 0 rfl rfl 10 (by decide) (hts (.fieldLink RX0 89 "HashedStore" "writesUntilCrash" "I") (by decide +kernel)) (fun _ h9 => h9) rfl (by decide +kernel) rfl rfl (Nat.le_of_ble_eq_true rfl) dX0_crashAfter_13 (fun H locs hP hD hS => ?_)
      have hP : va_P (dC, dI) vwCl [oX_ h0 hd hp d N w nw sz u kr dn p1 dw, ar_ hd cA (2 * sz) F, ar_ hp cA sz G] H := hP
      have hD : va_D (va_A [oX_ h0 hd hp d N w nw sz u kr dn lf dw, ar_ hd cA (2 * sz) F, ar_ hp cA sz G] s.heap.size) [oX_ h0 hd hp d N w nw sz u kr dn p1 dw, ar_ hd cA (2 * sz) F, ar_ hp cA sz G] := hD
      exact W.vret hx hb hr (fun t ht hW => ⟨⟨((F, u, kr, dn, p1, dw), G), rfl, (by rw [hs_cr_3 c1 c2]), by rw [ht]; exact hP, va_K.moved hW.alike hK, hD⟩, hS.F ht⟩) hS.2.2 dX0_crashAfter_16
set_option maxHeartbeats 4000000 in
set_option maxRecDepth 100000 in
theorem kX0_recover (l : Launch) (dC : Nat → ClassId) (dI : Nat → Nat → Nat) (h0 hd hp : Nat) (cA : ClassId) (d N w nw sz u : Nat) (F G : Nat → Int32) (kr dn lf : Int32) (dw : Bool) (ok : hs_ok d N w nw sz) (zz : Nat) (p1 : Int32) : Met l yX0_recover wsX0_recover ({ frames := 1, cells := 0, slots := 0, locals := 22 }) (va_Pc [.ref h0, .int p1] (hs_pm (dC, dI) vwCl [(cA, .int)] [oX_ h0 hd hp d N w nw sz u kr dn lf dw, ar_ hd cA (2 * sz) F, ar_ hp cA sz G] zz)) (va_Qi (S := hs_S × (Nat → Int32)) (fun r uu => (r, uu.1) = hs_rc nw sz p1 (F, u, kr, dn, lf, dw)) (hs_B (dC, dI) vwCl [(cA, .int)] (wfX h0 hd hp cA d N w nw sz) (va_A [oX_ h0 hd hp d N w nw sz u kr dn lf dw, ar_ hd cA (2 * sz) F, ar_ hp cA sz G] zz)) (va_A [oX_ h0 hd hp d N w nw sz u kr dn lf dw, ar_ hd cA (2 * sz) F, ar_ hp cA sz G] zz)) 0 0 (va_A [oX_ h0 hd hp d N w nw sz u kr dn lf dw, ar_ hd cA (2 * sz) F, ar_ hp cA sz G] zz) := by
  refine Met.ofW (cc := cX0_recover) (maxL := 3) (ret := (some .int)) (by decide) rfl ?_
  intro p e s m args below meth c s₁ B hml hv
  obtain ⟨rfl, hzz, hP, hK, hD0⟩ := hv
  have hx := B.exec
  have hb := B.bytes
  have hr := B.returns
  have hts := atoms_spec (ws := wsX0_recover) B.pre
  have hown : s.vm.findClass RX0 = some m.cls := findClass_of_methodNamed B.named
  have hlocks := B.notSynchronized
  obtain ⟨hd5, hN1, hN2, hw1, hw2, hn1, hn2, hsz, hsz2⟩ := hs_okf ok
  have hnw : nw = N * w := ok.2.2.2.2.1
  subst hzz
  have hD := hD0.self (sz := s.heap.size)
  have hS : va_S (va_A [oX_ h0 hd hp d N w nw sz u kr dn lf dw, ar_ hd cA (2 * sz) F, ar_ hp cA sz G] s.heap.size) s.heap s.heap [] := va_S.rf
  have hA : ∀ q : Nat, s.heap.size ≤ q → va_A [oX_ h0 hd hp d N w nw sz u kr dn lf dw, ar_ hd cA (2 * sz) F, ar_ hp cA sz G] s.heap.size q := fun q h => Or.inr h
  have hl := lv_entry ([.ref h0, .int p1]) (n := 3) (Nat.le_of_ble_eq_true rfl)
  rw [lg_entry_eq]
  generalize (lg_sl ([.ref h0, .int p1]) ++ List.replicate (3 - (lg_sl ([.ref h0, .int p1])).length) Slot.unset).toArray = ls at hl ⊢
  have hl : lv_has ls 3 [(0, .ref h0), (1, .int p1)] := hl
  refine lv_aload_n hx hb dX0_recover_0 rfl (lv_at hl 0 rfl) ?_
  refine va_get (D := (dC, dI)) (ci := 0) (v := .int (hs_b dw)) (C := RX0) (T := TX0) (N := 12) hx hb hts (by decide +kernel) hown hK hP 0 rfl rfl 11 (by decide) (hts (.fieldLink RX0 48 "HashedStore" "isDown" "Z") (by decide +kernel)) (fun _ h9 => h9) rfl dX0_recover_1 ?_
  refine hs_bne (tgt := 10) hx hb dX0_recover_4 (by decide) (fun c1 => ?_) (fun c1 => ?_)
  · refine lv_iconst (v := nI 0) hx hb dX0_recover_10 (by decide) ?_
    refine lv_istore_n (lv' := [(2, .int (nI 0)), (0, .ref h0), (1, .int p1)]) hx hb dX0_recover_11 rfl hl (by decide) rfl (fun ls hl => ?_)
    refine lv_iload_n hx hb dX0_recover_12 rfl (lv_at hl 0 rfl) ?_
    refine lv_iconst (v := nI 2) hx hb dX0_recover_13 (by decide) ?_
    refine hs_cge (tgt := 55) hx hb (by omega) (by omega) dX0_recover_14 (by decide) (fun a1 => ?_) (fun a1 => ?_)
    · exact absurd a1 (by omega)
    · refine lv_aload_n hx hb dX0_recover_17 rfl (lv_at hl 1 rfl) ?_
      refine va_get (D := (dC, dI)) (ci := 0) (v := .ref hd) (C := RX0) (T := TX0) (N := 12) hx hb hts (by decide +kernel) hown hK hP 0 rfl rfl 5 (by decide) (hts (.fieldLink RX0 34 "HashedStore" "disk" "[I") (by decide +kernel)) (fun _ h9 => h9) rfl dX0_recover_18 ?_
      refine lv_aload_n hx hb dX0_recover_21 rfl (lv_at hl 1 rfl) ?_
      refine lv_iload_n hx hb dX0_recover_22 rfl (lv_at hl 0 rfl) ?_
      refine hs_pe (v := nI (0 * sz)) (va_runV (As := [.int (nI 0)]) (rest := [.ref hd]) ⟨hx, hb, hml, hown, hts⟩ (kX0_areaStart l dC dI h0 hd hp cA d N w nw sz u F G kr dn lf dw ok 0) (cwV 1 hts gX0_recover_X0_areaStart rfl rfl rfl (by decide +kernel) ⟨(Nat.le_of_ble_eq_true rfl), (Nat.le_of_ble_eq_true rfl)⟩) (hs_preV (q := (RX0, TX0, 12)) (ci := 0) hK (hP.sub [0] rfl) rfl rfl) rfl rfl hl.1 rfl (lv_room (Nat.le_of_ble_eq_true rfl)) dX0_recover_23 ⟨Nat.zero_le _, Nat.zero_le _⟩) hS hP (fun H locs hP hS => ?_)
      refine lv_aload_n hx hb dX0_recover_26 rfl (lv_at hl 1 rfl) ?_
      refine lv_iconst (v := nI 1) hx hb dX0_recover_27 (by decide) ?_
      refine hs_pe (v := nI (nw + 1 - 1)) (va_runV (As := [.int (nI 1)]) (rest := [.int (nI (0 * sz)), .ref hd]) ⟨hx, hb, hml, hown, hts⟩ (kX0_nodeCell l dC dI h0 hd hp cA d N w nw sz u F G kr dn lf dw ok 1) (cwV 1 hts gX0_recover_X0_nodeCell rfl rfl rfl (by decide +kernel) ⟨(Nat.le_of_ble_eq_true rfl), (Nat.le_of_ble_eq_true rfl)⟩) (hs_preV (q := (RX0, TX0, 12)) (ci := 0) hK (hP.sub [0] rfl) rfl rfl) rfl rfl hl.1 rfl (lv_room (Nat.le_of_ble_eq_true rfl)) dX0_recover_28 ⟨Nat.zero_le _, Nat.zero_le _⟩) hS hP (fun H locs hP hS => ?_)
      refine hs_addN hx hb dX0_recover_31 ?_
      refine hs_ald hx hb hK hP 1 0 rfl rfl (k := (0 * sz) + (nw + 1 - 1)) (by omega) (by omega) dX0_recover_32 ?_
      refine lv_iload_n hx hb dX0_recover_33 rfl (lv_at hl 2 rfl) ?_
      refine lv_icmp_ne (tgt := 49) hx hb dX0_recover_34 (by decide) (fun e1 => ?_) (fun e1 => ?_)
      · refine lv_iinc (v := nI (0 + 1)) (lv' := [(2, .int (nI (0 + 1))), (0, .ref h0), (1, .int p1)]) hx hb dX0_recover_49 hl (k := 0) rfl (nI_1 _) (by decide) rfl (fun ls hl => ?_)
        refine lv_goto (tgt := 12) hx hb dX0_recover_52 (by decide) ?_
        refine lv_iload_n hx hb dX0_recover_12 rfl (lv_at hl 0 rfl) ?_
        refine lv_iconst (v := nI 2) hx hb dX0_recover_13 (by decide) ?_
        refine hs_cge (tgt := 55) hx hb (by omega) (by omega) dX0_recover_14 (by decide) (fun a2 => ?_) (fun a2 => ?_)
        · exact absurd a2 (by omega)
        · refine lv_aload_n hx hb dX0_recover_17 rfl (lv_at hl 1 rfl) ?_
          refine va_get (D := (dC, dI)) (ci := 0) (v := .ref hd) (C := RX0) (T := TX0) (N := 12) hx hb hts (by decide +kernel) hown hK hP 0 rfl rfl 5 (by decide) (hts (.fieldLink RX0 34 "HashedStore" "disk" "[I") (by decide +kernel)) (fun _ h9 => h9) rfl dX0_recover_18 ?_
          refine lv_aload_n hx hb dX0_recover_21 rfl (lv_at hl 1 rfl) ?_
          refine lv_iload_n hx hb dX0_recover_22 rfl (lv_at hl 0 rfl) ?_
          refine hs_pe (v := nI ((0 + 1) * sz)) (va_runV (As := [.int (nI (0 + 1))]) (rest := [.ref hd]) ⟨hx, hb, hml, hown, hts⟩ (kX0_areaStart l dC dI h0 hd hp cA d N w nw sz u F G kr dn lf dw ok (0 + 1)) (cwV 1 hts gX0_recover_X0_areaStart rfl rfl rfl (by decide +kernel) ⟨(Nat.le_of_ble_eq_true rfl), (Nat.le_of_ble_eq_true rfl)⟩) (hs_preV (q := (RX0, TX0, 12)) (ci := 0) hK (hP.sub [0] rfl) rfl rfl) rfl rfl hl.1 rfl (lv_room (Nat.le_of_ble_eq_true rfl)) dX0_recover_23 ⟨Nat.zero_le _, Nat.zero_le _⟩) hS hP (fun H locs hP hS => ?_)
          refine lv_aload_n hx hb dX0_recover_26 rfl (lv_at hl 1 rfl) ?_
          refine lv_iconst (v := nI 1) hx hb dX0_recover_27 (by decide) ?_
          refine hs_pe (v := nI (nw + 1 - 1)) (va_runV (As := [.int (nI 1)]) (rest := [.int (nI ((0 + 1) * sz)), .ref hd]) ⟨hx, hb, hml, hown, hts⟩ (kX0_nodeCell l dC dI h0 hd hp cA d N w nw sz u F G kr dn lf dw ok 1) (cwV 1 hts gX0_recover_X0_nodeCell rfl rfl rfl (by decide +kernel) ⟨(Nat.le_of_ble_eq_true rfl), (Nat.le_of_ble_eq_true rfl)⟩) (hs_preV (q := (RX0, TX0, 12)) (ci := 0) hK (hP.sub [0] rfl) rfl rfl) rfl rfl hl.1 rfl (lv_room (Nat.le_of_ble_eq_true rfl)) dX0_recover_28 ⟨Nat.zero_le _, Nat.zero_le _⟩) hS hP (fun H locs hP hS => ?_)
          refine hs_addN hx hb dX0_recover_31 ?_
          refine hs_ald hx hb hK hP 1 0 rfl rfl (k := ((0 + 1) * sz) + (nw + 1 - 1)) (by omega) (by omega) dX0_recover_32 ?_
          refine lv_iload_n hx hb dX0_recover_33 rfl (lv_at hl 2 rfl) ?_
          refine lv_icmp_ne (tgt := 49) hx hb dX0_recover_34 (by decide) (fun e2 => ?_) (fun e2 => ?_)
          · refine lv_iinc (v := nI ((0 + 1) + 1)) (lv' := [(2, .int (nI ((0 + 1) + 1))), (0, .ref h0), (1, .int p1)]) hx hb dX0_recover_49 hl (k := 0) rfl (nI_1 _) (by decide) rfl (fun ls hl => ?_)
            refine lv_goto (tgt := 12) hx hb dX0_recover_52 (by decide) ?_
            refine lv_iload_n hx hb dX0_recover_12 rfl (lv_at hl 0 rfl) ?_
            refine lv_iconst (v := nI 2) hx hb dX0_recover_13 (by decide) ?_
            refine hs_cge (tgt := 55) hx hb (by omega) (by omega) dX0_recover_14 (by decide) (fun a3 => ?_) (fun a3 => ?_)
            · refine lv_bipush (v := (-5)) hx hb dX0_recover_55 (by decide) ?_
              exact W.iret (v := (-5)) hx hb hr (fun t ht hW => ⟨⟨(-5), ((F, u, kr, dn, lf, dw), G), rfl, (by rw [hs_rc_4 c1 e1 e2]), by rw [ht]; exact hP, va_K.moved hW.alike hK, hD⟩, hS.F ht⟩) hS.2.2 dX0_recover_57
            · exact absurd a3 (by omega)
          · refine lv_aload_n hx hb dX0_recover_37 rfl (lv_at hl 1 rfl) ?_
            refine lv_iload_n hx hb dX0_recover_38 rfl (lv_at hl 0 rfl) ?_
            refine lv_iload_n hx hb dX0_recover_39 rfl (lv_at hl 2 rfl) ?_
            refine hs_cv (va_runV (As := [.int (nI (0 + 1)), .int p1]) (rest := []) ⟨hx, hb, hml, hown, hts⟩ (kX0_turnTo l dC dI h0 hd hp cA d N w nw sz u F G kr dn lf dw ok _ (0 + 1) p1) (cwV 2 hts gX0_recover_X0_turnTo rfl rfl rfl (by decide +kernel) ⟨(Nat.le_of_ble_eq_true rfl), (Nat.le_of_ble_eq_true rfl)⟩) (hs_preM (q := (RX0, TX0, 12)) (ci := 0) hK hP hD rfl rfl) rfl rfl hl.1 rfl (lv_room (Nat.le_of_ble_eq_true rfl)) dX0_recover_40 ⟨Nat.zero_le _, Nat.zero_le _⟩) hS hD hA (fun v H locs hv hP hD hS => ?_)
            subst hv
            have hP : va_P (dC, dI) vwCl [oX_ h0 hd hp d N w nw sz (0 + 1) p1 dn lf dw, ar_ hd cA (2 * sz) F, ar_ hp cA sz G] H := hP
            have hD : va_D (va_A [oX_ h0 hd hp d N w nw sz u kr dn lf dw, ar_ hd cA (2 * sz) F, ar_ hp cA sz G] s.heap.size) [oX_ h0 hd hp d N w nw sz (0 + 1) p1 dn lf dw, ar_ hd cA (2 * sz) F, ar_ hp cA sz G] := hD
            refine lv_aload_n hx hb dX0_recover_43 rfl (lv_at hl 1 rfl) ?_
            refine hs_cv (va_runV (As := []) (rest := []) ⟨hx, hb, hml, hown, hts⟩ (kX0_comeUp l dC dI h0 hd hp cA d N w nw sz (0 + 1) F G p1 dn lf dw ok _ ) (cwV 0 hts gX0_recover_X0_comeUp rfl rfl rfl (by decide +kernel) ⟨(Nat.le_of_ble_eq_true rfl), (Nat.le_of_ble_eq_true rfl)⟩) (hs_preM (q := (RX0, TX0, 12)) (ci := 0) hK hP hD rfl rfl) rfl rfl hl.1 rfl (lv_room (Nat.le_of_ble_eq_true rfl)) dX0_recover_44 ⟨Nat.zero_le _, Nat.zero_le _⟩) hS hD hA (fun v H locs hv hP hD hS => ?_)
            subst hv
            have hP : va_P (dC, dI) vwCl [oX_ h0 hd hp d N w nw sz (0 + 1) p1 dn (-1) false, ar_ hd cA (2 * sz) F, ar_ hp cA sz G] H := hP
            have hD : va_D (va_A [oX_ h0 hd hp d N w nw sz u kr dn lf dw, ar_ hd cA (2 * sz) F, ar_ hp cA sz G] s.heap.size) [oX_ h0 hd hp d N w nw sz (0 + 1) p1 dn (-1) false, ar_ hd cA (2 * sz) F, ar_ hp cA sz G] := hD
            refine lv_iconst (v := nI 0) hx hb dX0_recover_47 (by decide) ?_
            exact W.iret (v := nI 0) hx hb hr (fun t ht hW => ⟨⟨nI 0, ((F, (0 + 1), p1, dn, (-1), false), G), rfl, (by rw [hs_rc_3 c1 e1 e2]; rfl), by rw [ht]; exact hP, va_K.moved hW.alike hK, hD⟩, hS.F ht⟩) hS.2.2 dX0_recover_48
      · refine lv_aload_n hx hb dX0_recover_37 rfl (lv_at hl 1 rfl) ?_
        refine lv_iload_n hx hb dX0_recover_38 rfl (lv_at hl 0 rfl) ?_
        refine lv_iload_n hx hb dX0_recover_39 rfl (lv_at hl 2 rfl) ?_
        refine hs_cv (va_runV (As := [.int (nI 0), .int p1]) (rest := []) ⟨hx, hb, hml, hown, hts⟩ (kX0_turnTo l dC dI h0 hd hp cA d N w nw sz u F G kr dn lf dw ok _ 0 p1) (cwV 2 hts gX0_recover_X0_turnTo rfl rfl rfl (by decide +kernel) ⟨(Nat.le_of_ble_eq_true rfl), (Nat.le_of_ble_eq_true rfl)⟩) (hs_preM (q := (RX0, TX0, 12)) (ci := 0) hK hP hD rfl rfl) rfl rfl hl.1 rfl (lv_room (Nat.le_of_ble_eq_true rfl)) dX0_recover_40 ⟨Nat.zero_le _, Nat.zero_le _⟩) hS hD hA (fun v H locs hv hP hD hS => ?_)
        subst hv
        have hP : va_P (dC, dI) vwCl [oX_ h0 hd hp d N w nw sz 0 p1 dn lf dw, ar_ hd cA (2 * sz) F, ar_ hp cA sz G] H := hP
        have hD : va_D (va_A [oX_ h0 hd hp d N w nw sz u kr dn lf dw, ar_ hd cA (2 * sz) F, ar_ hp cA sz G] s.heap.size) [oX_ h0 hd hp d N w nw sz 0 p1 dn lf dw, ar_ hd cA (2 * sz) F, ar_ hp cA sz G] := hD
        refine lv_aload_n hx hb dX0_recover_43 rfl (lv_at hl 1 rfl) ?_
        refine hs_cv (va_runV (As := []) (rest := []) ⟨hx, hb, hml, hown, hts⟩ (kX0_comeUp l dC dI h0 hd hp cA d N w nw sz 0 F G p1 dn lf dw ok _ ) (cwV 0 hts gX0_recover_X0_comeUp rfl rfl rfl (by decide +kernel) ⟨(Nat.le_of_ble_eq_true rfl), (Nat.le_of_ble_eq_true rfl)⟩) (hs_preM (q := (RX0, TX0, 12)) (ci := 0) hK hP hD rfl rfl) rfl rfl hl.1 rfl (lv_room (Nat.le_of_ble_eq_true rfl)) dX0_recover_44 ⟨Nat.zero_le _, Nat.zero_le _⟩) hS hD hA (fun v H locs hv hP hD hS => ?_)
        subst hv
        have hP : va_P (dC, dI) vwCl [oX_ h0 hd hp d N w nw sz 0 p1 dn (-1) false, ar_ hd cA (2 * sz) F, ar_ hp cA sz G] H := hP
        have hD : va_D (va_A [oX_ h0 hd hp d N w nw sz u kr dn lf dw, ar_ hd cA (2 * sz) F, ar_ hp cA sz G] s.heap.size) [oX_ h0 hd hp d N w nw sz 0 p1 dn (-1) false, ar_ hd cA (2 * sz) F, ar_ hp cA sz G] := hD
        refine lv_iconst (v := nI 0) hx hb dX0_recover_47 (by decide) ?_
        exact W.iret (v := nI 0) hx hb hr (fun t ht hW => ⟨⟨nI 0, ((F, 0, p1, dn, (-1), false), G), rfl, (by rw [hs_rc_2 c1 e1]; rfl), by rw [ht]; exact hP, va_K.moved hW.alike hK, hD⟩, hS.F ht⟩) hS.2.2 dX0_recover_48
  · refine lv_bipush (v := (-2)) hx hb dX0_recover_7 (by decide) ?_
    exact W.iret (v := (-2)) hx hb hr (fun t ht hW => ⟨⟨(-2), ((F, u, kr, dn, lf, dw), G), rfl, (by rw [hs_rc_1 c1]), by rw [ht]; exact hP, va_K.moved hW.alike hK, hD⟩, hS.F ht⟩) hS.2.2 dX0_recover_9
end
section
set_option maxHeartbeats 4000000 in
set_option maxRecDepth 100000 in
theorem kX1_mix (l : Launch) (p0 p1 : Int32) : Met l yX1_mix wsX1_mix ({ frames := 0, cells := 0, slots := 0, locals := 0 }) (va_Pc [.int p0, .int p1] (fun _ => True)) (hs_Qp (fun r => r = hs_mx p0 p1)) 0 0 (fun _ => False) := by
  refine Met.ofW (cc := cX1_mix) (maxL := 3) (ret := (some .int)) (by decide) rfl ?_
  intro p e s m args below meth c s₁ B hml hv
  obtain ⟨rfl, -⟩ := hv
  have hx := B.exec
  have hb := B.bytes
  have hr := B.returns
  have hts := atoms_spec (ws := wsX1_mix) B.pre
  have hown : s.vm.findClass RX1 = some m.cls := findClass_of_methodNamed B.named
  have hlocks := B.notSynchronized
  have hS : va_S (fun _ => False) s.heap s.heap [] := va_S.rf
  have hP : va_P (fun _ => 0, fun _ _ => 0) vwCl [] s.heap := fun k q h => by simp at h
  have hl := lv_entry ([.int p0, .int p1]) (n := 3) (Nat.le_of_ble_eq_true rfl)
  rw [lg_entry_eq]
  generalize (lg_sl ([.int p0, .int p1]) ++ List.replicate (3 - (lg_sl ([.int p0, .int p1])).length) Slot.unset).toArray = ls at hl ⊢
  have hl : lv_has ls 3 [(0, .int p0), (1, .int p1)] := hl
  refine lv_iload_n hx hb dX1_mix_0 rfl (lv_at hl 0 rfl) ?_
  refine lv_iload_n hx hb dX1_mix_1 rfl (lv_at hl 1 rfl) ?_
  refine lv_bipush (v := 13) hx hb dX1_mix_2 (by decide) ?_
  refine lv_ishl hx hb dX1_mix_4 ?_
  refine lv_iload_n hx hb dX1_mix_5 rfl (lv_at hl 1 rfl) ?_
  refine lv_bipush (v := 19) hx hb dX1_mix_6 (by decide) ?_
  refine lv_iushr hx hb dX1_mix_8 rfl ?_
  refine lv_ior hx hb dX1_mix_9 ?_
  refine lv_ixor hx hb dX1_mix_10 ?_
  refine lv_ldc (v := 739982445) hx hb hown (hts (.constant RX1 36 739982445) (by decide +kernel)) dX1_mix_11 ?_
  refine lv_imul hx hb dX1_mix_13 ?_
  refine lv_topi (fun x1 ex1 => ?_)
  refine lv_istore_n (lv' := [(2, .int x1), (0, .int p0), (1, .int p1)]) hx hb dX1_mix_14 rfl hl (by decide) rfl (fun ls hl => ?_)
  refine lv_iload_n hx hb dX1_mix_15 rfl (lv_at hl 0 rfl) ?_
  refine lv_iload_n hx hb dX1_mix_16 rfl (lv_at hl 0 rfl) ?_
  refine lv_bipush (v := 15) hx hb dX1_mix_17 (by decide) ?_
  refine lv_iushr hx hb dX1_mix_19 rfl ?_
  refine lv_ixor hx hb dX1_mix_20 ?_
  refine lv_topi (fun x2 ex2 => ?_)
  refine lv_istore_n (lv' := [(2, .int x2), (0, .int p0), (1, .int p1)]) hx hb dX1_mix_21 rfl hl (by decide) rfl (fun ls hl => ?_)
  refine lv_iload_n hx hb dX1_mix_22 rfl (lv_at hl 0 rfl) ?_
  refine lv_iload_n hx hb dX1_mix_23 rfl (lv_at hl 2 rfl) ?_
  refine lv_iadd hx hb dX1_mix_24 ?_
  refine lv_ldc (v := 695872825) hx hb hown (hts (.constant RX1 37 695872825) (by decide +kernel)) dX1_mix_25 ?_
  refine lv_imul hx hb dX1_mix_27 ?_
  refine lv_topi (fun x3 ex3 => ?_)
  refine lv_istore_n (lv' := [(2, .int x3), (0, .int p0), (1, .int p1)]) hx hb dX1_mix_28 rfl hl (by decide) rfl (fun ls hl => ?_)
  refine lv_iload_n hx hb dX1_mix_29 rfl (lv_at hl 0 rfl) ?_
  refine lv_iload_n hx hb dX1_mix_30 rfl (lv_at hl 0 rfl) ?_
  refine lv_bipush (v := 14) hx hb dX1_mix_31 (by decide) ?_
  refine lv_iushr hx hb dX1_mix_33 rfl ?_
  refine lv_ixor hx hb dX1_mix_34 ?_
  exact W.iret (v := x3 ^^^ ((x3.toUInt32 >>> ((14 : Int32).toUInt32 &&& Int32.toUInt32 31)).toInt32)) hx hb hr (fun t ht hW => ⟨⟨x3 ^^^ ((x3.toUInt32 >>> ((14 : Int32).toUInt32 &&& Int32.toUInt32 31)).toInt32), (), rfl, (by rw [hs_mx_eq]; subst ex3; subst ex2; subst ex1; rfl), trivial⟩, hS.F ht⟩) hS.2.2 dX1_mix_35
set_option maxHeartbeats 4000000 in
set_option maxRecDepth 100000 in
theorem kX1_root (l : Launch) (dC : Nat → ClassId) (dI : Nat → Nat → Nat) (h0 hd hp : Nat) (cA : ClassId) (d N w nw sz u : Nat) (F G : Nat → Int32) (kr dn lf : Int32) (dw : Bool) (ok : hs_ok d N w nw sz)  : Met l yX1_root wsX1_root ({ frames := 0, cells := 0, slots := 0, locals := 0 }) (va_Pc [.ref h0] (hs_pr (dC, dI) vwCl [(cA, .int)] [oM_ h0 hd hp d N w nw sz u kr dn lf dw])) (hs_Qp (fun r => r = kr)) 0 0 (fun _ => False) := by
  refine Met.ofW (cc := cX1_root) (maxL := 1) (ret := (some .int)) (by decide) rfl ?_
  intro p e s m args below meth c s₁ B hml hv
  obtain ⟨rfl, hP, hK⟩ := hv
  have hx := B.exec
  have hb := B.bytes
  have hr := B.returns
  have hts := atoms_spec (ws := wsX1_root) B.pre
  have hown : s.vm.findClass RX1 = some m.cls := findClass_of_methodNamed B.named
  have hlocks := B.notSynchronized
  obtain ⟨hd5, hN1, hN2, hw1, hw2, hn1, hn2, hsz, hsz2⟩ := hs_okf ok
  have hnw : nw = N * w := ok.2.2.2.2.1
  have hS : va_S (fun _ => False) s.heap s.heap [] := va_S.rf
  have hl := lv_entry ([.ref h0]) (n := 1) (Nat.le_of_ble_eq_true rfl)
  rw [lg_entry_eq]
  generalize (lg_sl ([.ref h0]) ++ List.replicate (1 - (lg_sl ([.ref h0])).length) Slot.unset).toArray = ls at hl ⊢
  have hl : lv_has ls 1 [(0, .ref h0)] := hl
  refine lv_aload_n hx hb dX1_root_0 rfl (lv_at hl 0 rfl) ?_
  refine va_get (D := (dC, dI)) (ci := 1) (v := .int kr) (C := RX1) (T := TX1) (N := 11) hx hb hts (by decide +kernel) hown hK hP 0 rfl rfl 7 (by decide) (hts (.fieldLink RX1 52 "HashedStoreModel" "kept" "I") (by decide +kernel)) (fun _ h9 => h9) rfl dX1_root_1 ?_
  exact W.iret (v := kr) hx hb hr (fun t ht hW => ⟨⟨kr, (), rfl, rfl, trivial⟩, hS.F ht⟩) hS.2.2 dX1_root_4
set_option maxHeartbeats 4000000 in
set_option maxRecDepth 100000 in
theorem kX1_writes (l : Launch) (dC : Nat → ClassId) (dI : Nat → Nat → Nat) (h0 hd hp : Nat) (cA : ClassId) (d N w nw sz u : Nat) (F G : Nat → Int32) (kr dn lf : Int32) (dw : Bool) (ok : hs_ok d N w nw sz)  : Met l yX1_writes wsX1_writes ({ frames := 0, cells := 0, slots := 0, locals := 0 }) (va_Pc [.ref h0] (hs_pr (dC, dI) vwCl [(cA, .int)] [oM_ h0 hd hp d N w nw sz u kr dn lf dw])) (hs_Qp (fun r => r = dn)) 0 0 (fun _ => False) := by
  refine Met.ofW (cc := cX1_writes) (maxL := 1) (ret := (some .int)) (by decide) rfl ?_
  intro p e s m args below meth c s₁ B hml hv
  obtain ⟨rfl, hP, hK⟩ := hv
  have hx := B.exec
  have hb := B.bytes
  have hr := B.returns
  have hts := atoms_spec (ws := wsX1_writes) B.pre
  have hown : s.vm.findClass RX1 = some m.cls := findClass_of_methodNamed B.named
  have hlocks := B.notSynchronized
  obtain ⟨hd5, hN1, hN2, hw1, hw2, hn1, hn2, hsz, hsz2⟩ := hs_okf ok
  have hnw : nw = N * w := ok.2.2.2.2.1
  have hS : va_S (fun _ => False) s.heap s.heap [] := va_S.rf
  have hl := lv_entry ([.ref h0]) (n := 1) (Nat.le_of_ble_eq_true rfl)
  rw [lg_entry_eq]
  generalize (lg_sl ([.ref h0]) ++ List.replicate (1 - (lg_sl ([.ref h0])).length) Slot.unset).toArray = ls at hl ⊢
  have hl : lv_has ls 1 [(0, .ref h0)] := hl
  refine lv_aload_n hx hb dX1_writes_0 rfl (lv_at hl 0 rfl) ?_
  refine va_get (D := (dC, dI)) (ci := 1) (v := .int dn) (C := RX1) (T := TX1) (N := 11) hx hb hts (by decide +kernel) hown hK hP 0 rfl rfl 8 (by decide) (hts (.fieldLink RX1 55 "HashedStoreModel" "done" "I") (by decide +kernel)) (fun _ h9 => h9) rfl dX1_writes_1 ?_
  exact W.iret (v := dn) hx hb hr (fun t ht hW => ⟨⟨dn, (), rfl, rfl, trivial⟩, hS.F ht⟩) hS.2.2 dX1_writes_4
set_option maxHeartbeats 4000000 in
set_option maxRecDepth 100000 in
theorem kX1_slot (l : Launch) (dC : Nat → ClassId) (dI : Nat → Nat → Nat) (h0 hd hp : Nat) (cA : ClassId) (d N w nw sz u : Nat) (F G : Nat → Int32) (kr dn lf : Int32) (dw : Bool) (ok : hs_ok d N w nw sz)  : Met l yX1_slot wsX1_slot ({ frames := 0, cells := 0, slots := 0, locals := 0 }) (va_Pc [.ref h0] (hs_pr (dC, dI) vwCl [(cA, .int)] [oM_ h0 hd hp d N w nw sz u kr dn lf dw])) (hs_Qp (fun r => r = nI u)) 0 0 (fun _ => False) := by
  refine Met.ofW (cc := cX1_slot) (maxL := 1) (ret := (some .int)) (by decide) rfl ?_
  intro p e s m args below meth c s₁ B hml hv
  obtain ⟨rfl, hP, hK⟩ := hv
  have hx := B.exec
  have hb := B.bytes
  have hr := B.returns
  have hts := atoms_spec (ws := wsX1_slot) B.pre
  have hown : s.vm.findClass RX1 = some m.cls := findClass_of_methodNamed B.named
  have hlocks := B.notSynchronized
  obtain ⟨hd5, hN1, hN2, hw1, hw2, hn1, hn2, hsz, hsz2⟩ := hs_okf ok
  have hnw : nw = N * w := ok.2.2.2.2.1
  have hS : va_S (fun _ => False) s.heap s.heap [] := va_S.rf
  have hl := lv_entry ([.ref h0]) (n := 1) (Nat.le_of_ble_eq_true rfl)
  rw [lg_entry_eq]
  generalize (lg_sl ([.ref h0]) ++ List.replicate (1 - (lg_sl ([.ref h0])).length) Slot.unset).toArray = ls at hl ⊢
  have hl : lv_has ls 1 [(0, .ref h0)] := hl
  refine lv_aload_n hx hb dX1_slot_0 rfl (lv_at hl 0 rfl) ?_
  refine va_get (D := (dC, dI)) (ci := 1) (v := .int (nI u)) (C := RX1) (T := TX1) (N := 11) hx hb hts (by decide +kernel) hown hK hP 0 rfl rfl 6 (by decide) (hts (.fieldLink RX1 42 "HashedStoreModel" "used" "I") (by decide +kernel)) (fun _ h9 => h9) rfl dX1_slot_1 ?_
  exact W.iret (v := nI u) hx hb hr (fun t ht hW => ⟨⟨nI u, (), rfl, rfl, trivial⟩, hS.F ht⟩) hS.2.2 dX1_slot_4
set_option maxHeartbeats 4000000 in
set_option maxRecDepth 100000 in
theorem kX1_down (l : Launch) (dC : Nat → ClassId) (dI : Nat → Nat → Nat) (h0 hd hp : Nat) (cA : ClassId) (d N w nw sz u : Nat) (F G : Nat → Int32) (kr dn lf : Int32) (dw : Bool) (ok : hs_ok d N w nw sz)  : Met l yX1_down wsX1_down ({ frames := 0, cells := 0, slots := 0, locals := 0 }) (va_Pc [.ref h0] (hs_pr (dC, dI) vwCl [(cA, .int)] [oM_ h0 hd hp d N w nw sz u kr dn lf dw])) (hs_Qp (fun r => r = hs_b dw)) 0 0 (fun _ => False) := by
  refine Met.ofW (cc := cX1_down) (maxL := 1) (ret := (some .boolean)) (by decide) rfl ?_
  intro p e s m args below meth c s₁ B hml hv
  obtain ⟨rfl, hP, hK⟩ := hv
  have hx := B.exec
  have hb := B.bytes
  have hr := B.returns
  have hts := atoms_spec (ws := wsX1_down) B.pre
  have hown : s.vm.findClass RX1 = some m.cls := findClass_of_methodNamed B.named
  have hlocks := B.notSynchronized
  obtain ⟨hd5, hN1, hN2, hw1, hw2, hn1, hn2, hsz, hsz2⟩ := hs_okf ok
  have hnw : nw = N * w := ok.2.2.2.2.1
  have hS : va_S (fun _ => False) s.heap s.heap [] := va_S.rf
  have hl := lv_entry ([.ref h0]) (n := 1) (Nat.le_of_ble_eq_true rfl)
  rw [lg_entry_eq]
  generalize (lg_sl ([.ref h0]) ++ List.replicate (1 - (lg_sl ([.ref h0])).length) Slot.unset).toArray = ls at hl ⊢
  have hl : lv_has ls 1 [(0, .ref h0)] := hl
  refine lv_aload_n hx hb dX1_down_0 rfl (lv_at hl 0 rfl) ?_
  refine va_get (D := (dC, dI)) (ci := 1) (v := .int (hs_b dw)) (C := RX1) (T := TX1) (N := 11) hx hb hts (by decide +kernel) hown hK hP 0 rfl rfl 10 (by decide) (hts (.fieldLink RX1 58 "HashedStoreModel" "isDown" "Z") (by decide +kernel)) (fun _ h9 => h9) rfl dX1_down_1 ?_
  exact W.zret (v := hs_b dw) hx hb hr (hs_nb _) (fun t ht hW => ⟨⟨hs_b dw, (), rfl, rfl, trivial⟩, hS.F ht⟩) hS.2.2 dX1_down_4
set_option maxHeartbeats 4000000 in
set_option maxRecDepth 100000 in
theorem kX1_cells (l : Launch) (dC : Nat → ClassId) (dI : Nat → Nat → Nat) (h0 hd hp : Nat) (cA : ClassId) (d N w nw sz u : Nat) (F G : Nat → Int32) (kr dn lf : Int32) (dw : Bool) (ok : hs_ok d N w nw sz)  : Met l yX1_cells wsX1_cells ({ frames := 0, cells := 0, slots := 0, locals := 0 }) (va_Pc [.ref h0] (hs_pr (dC, dI) vwCl [(cA, .int)] [oM_ h0 hd hp d N w nw sz u kr dn lf dw])) (hs_Qp (fun r => r = nI (2 * sz))) 0 0 (fun _ => False) := by
  refine Met.ofW (cc := cX1_cells) (maxL := 1) (ret := (some .int)) (by decide) rfl ?_
  intro p e s m args below meth c s₁ B hml hv
  obtain ⟨rfl, hP, hK⟩ := hv
  have hx := B.exec
  have hb := B.bytes
  have hr := B.returns
  have hts := atoms_spec (ws := wsX1_cells) B.pre
  have hown : s.vm.findClass RX1 = some m.cls := findClass_of_methodNamed B.named
  have hlocks := B.notSynchronized
  obtain ⟨hd5, hN1, hN2, hw1, hw2, hn1, hn2, hsz, hsz2⟩ := hs_okf ok
  have hnw : nw = N * w := ok.2.2.2.2.1
  have hS : va_S (fun _ => False) s.heap s.heap [] := va_S.rf
  have hl := lv_entry ([.ref h0]) (n := 1) (Nat.le_of_ble_eq_true rfl)
  rw [lg_entry_eq]
  generalize (lg_sl ([.ref h0]) ++ List.replicate (1 - (lg_sl ([.ref h0])).length) Slot.unset).toArray = ls at hl ⊢
  have hl : lv_has ls 1 [(0, .ref h0)] := hl
  refine lv_iconst (v := nI 2) hx hb dX1_cells_0 (by decide) ?_
  refine lv_aload_n hx hb dX1_cells_1 rfl (lv_at hl 0 rfl) ?_
  refine va_get (D := (dC, dI)) (ci := 1) (v := .int (nI sz)) (C := RX1) (T := TX1) (N := 11) hx hb hts (by decide +kernel) hown hK hP 0 rfl rfl 3 (by decide) (hts (.fieldLink RX1 29 "HashedStoreModel" "size" "I") (by decide +kernel)) (fun _ h9 => h9) rfl dX1_cells_2 ?_
  refine hs_mulN hx hb dX1_cells_5 ?_
  exact W.iret (v := nI (2 * sz)) hx hb hr (fun t ht hW => ⟨⟨nI (2 * sz), (), rfl, rfl, trivial⟩, hS.F ht⟩) hS.2.2 dX1_cells_6
set_option maxHeartbeats 4000000 in
set_option maxRecDepth 100000 in
theorem kX1_node (l : Launch) (dC : Nat → ClassId) (dI : Nat → Nat → Nat) (h0 hd hp : Nat) (cA : ClassId) (d N w nw sz u : Nat) (F G : Nat → Int32) (kr dn lf : Int32) (dw : Bool) (ok : hs_ok d N w nw sz) (x1 : Nat) : Met l yX1_node wsX1_node ({ frames := 0, cells := 0, slots := 0, locals := 0 }) (va_Pc [.ref h0, .int (nI x1)] (hs_pr (dC, dI) vwCl [(cA, .int)] [oM_ h0 hd hp d N w nw sz u kr dn lf dw])) (hs_Qp (fun r => r = nI (nw + x1 - 1))) 0 0 (fun _ => False) := by
  refine Met.ofW (cc := cX1_node) (maxL := 2) (ret := (some .int)) (by decide) rfl ?_
  intro p e s m args below meth c s₁ B hml hv
  obtain ⟨rfl, hP, hK⟩ := hv
  have hx := B.exec
  have hb := B.bytes
  have hr := B.returns
  have hts := atoms_spec (ws := wsX1_node) B.pre
  have hown : s.vm.findClass RX1 = some m.cls := findClass_of_methodNamed B.named
  have hlocks := B.notSynchronized
  obtain ⟨hd5, hN1, hN2, hw1, hw2, hn1, hn2, hsz, hsz2⟩ := hs_okf ok
  have hnw : nw = N * w := ok.2.2.2.2.1
  have hS : va_S (fun _ => False) s.heap s.heap [] := va_S.rf
  have hl := lv_entry ([.ref h0, .int (nI x1)]) (n := 2) (Nat.le_of_ble_eq_true rfl)
  rw [lg_entry_eq]
  generalize (lg_sl ([.ref h0, .int (nI x1)]) ++ List.replicate (2 - (lg_sl ([.ref h0, .int (nI x1)])).length) Slot.unset).toArray = ls at hl ⊢
  have hl : lv_has ls 2 [(0, .ref h0), (1, .int (nI x1))] := hl
  refine lv_aload_n hx hb dX1_node_0 rfl (lv_at hl 0 rfl) ?_
  refine va_get (D := (dC, dI)) (ci := 1) (v := .int (nI N)) (C := RX1) (T := TX1) (N := 11) hx hb hts (by decide +kernel) hown hK hP 0 rfl rfl 1 (by decide) (hts (.fieldLink RX1 23 "HashedStoreModel" "blocks" "I") (by decide +kernel)) (fun _ h9 => h9) rfl dX1_node_1 ?_
  refine lv_aload_n hx hb dX1_node_4 rfl (lv_at hl 0 rfl) ?_
  refine va_get (D := (dC, dI)) (ci := 1) (v := .int (nI w)) (C := RX1) (T := TX1) (N := 11) hx hb hts (by decide +kernel) hown hK hP 0 rfl rfl 2 (by decide) (hts (.fieldLink RX1 26 "HashedStoreModel" "words" "I") (by decide +kernel)) (fun _ h9 => h9) rfl dX1_node_5 ?_
  refine hs_mulN hx hb dX1_node_8 ?_
  refine lv_iload_n hx hb dX1_node_9 rfl (lv_at hl 1 rfl) ?_
  refine hs_addN hx hb dX1_node_10 ?_
  refine lv_iconst (v := nI 1) hx hb dX1_node_11 (by decide) ?_
  refine hs_subN hx hb (by omega) dX1_node_12 ?_
  exact W.iret (v := nI (((N * w) + x1) - 1)) hx hb hr (fun t ht hW => ⟨⟨nI (((N * w) + x1) - 1), (), rfl, (by rw [hnw]), trivial⟩, hS.F ht⟩) hS.2.2 dX1_node_13
set_option maxHeartbeats 4000000 in
set_option maxRecDepth 100000 in
theorem kX1_isBlock (l : Launch) (dC : Nat → ClassId) (dI : Nat → Nat → Nat) (h0 hd hp : Nat) (cA : ClassId) (d N w nw sz u : Nat) (F G : Nat → Int32) (kr dn lf : Int32) (dw : Bool) (ok : hs_ok d N w nw sz) (p1 : Int32) : Met l yX1_isBlock wsX1_isBlock ({ frames := 0, cells := 0, slots := 0, locals := 0 }) (va_Pc [.ref h0, .int p1] (hs_pr (dC, dI) vwCl [(cA, .int)] [oM_ h0 hd hp d N w nw sz u kr dn lf dw])) (hs_Qp (fun r => r = hs_b (hs_hb N p1))) 0 0 (fun _ => False) := by
  refine Met.ofW (cc := cX1_isBlock) (maxL := 2) (ret := (some .boolean)) (by decide) rfl ?_
  intro p e s m args below meth c s₁ B hml hv
  obtain ⟨rfl, hP, hK⟩ := hv
  have hx := B.exec
  have hb := B.bytes
  have hr := B.returns
  have hts := atoms_spec (ws := wsX1_isBlock) B.pre
  have hown : s.vm.findClass RX1 = some m.cls := findClass_of_methodNamed B.named
  have hlocks := B.notSynchronized
  obtain ⟨hd5, hN1, hN2, hw1, hw2, hn1, hn2, hsz, hsz2⟩ := hs_okf ok
  have hnw : nw = N * w := ok.2.2.2.2.1
  have hS : va_S (fun _ => False) s.heap s.heap [] := va_S.rf
  have hl := lv_entry ([.ref h0, .int p1]) (n := 2) (Nat.le_of_ble_eq_true rfl)
  rw [lg_entry_eq]
  generalize (lg_sl ([.ref h0, .int p1]) ++ List.replicate (2 - (lg_sl ([.ref h0, .int p1])).length) Slot.unset).toArray = ls at hl ⊢
  have hl : lv_has ls 2 [(0, .ref h0), (1, .int p1)] := hl
  refine lv_iload_n hx hb dX1_isBlock_0 rfl (lv_at hl 1 rfl) ?_
  refine lv_if_lt (tgt := 16) hx hb dX1_isBlock_1 (by decide) (fun c2 => ?_) (fun c2 => ?_)
  · refine lv_iconst (v := nI 0) hx hb dX1_isBlock_16 (by decide) ?_
    exact W.zret (v := nI 0) hx hb hr rfl (fun t ht hW => ⟨⟨nI 0, (), rfl, (by rw [hs_hb_n c2]; rfl), trivial⟩, hS.F ht⟩) hS.2.2 dX1_isBlock_17
  · refine lv_iload_n hx hb dX1_isBlock_4 rfl (lv_at hl 1 rfl) ?_
    refine lv_aload_n hx hb dX1_isBlock_5 rfl (lv_at hl 0 rfl) ?_
    refine va_get (D := (dC, dI)) (ci := 1) (v := .int (nI N)) (C := RX1) (T := TX1) (N := 11) hx hb hts (by decide +kernel) hown hK hP 0 rfl rfl 1 (by decide) (hts (.fieldLink RX1 23 "HashedStoreModel" "blocks" "I") (by decide +kernel)) (fun _ h9 => h9) rfl dX1_isBlock_6 ?_
    refine lv_icmp_ge (tgt := 16) hx hb dX1_isBlock_9 (by decide) (fun c3 => ?_) (fun c3 => ?_)
    · refine lv_iconst (v := nI 0) hx hb dX1_isBlock_16 (by decide) ?_
      exact W.zret (v := nI 0) hx hb hr rfl (fun t ht hW => ⟨⟨nI 0, (), rfl, (by rw [hs_hb_g c3]; rfl), trivial⟩, hS.F ht⟩) hS.2.2 dX1_isBlock_17
    · refine lv_iconst (v := nI 1) hx hb dX1_isBlock_12 (by decide) ?_
      refine lv_goto (tgt := 17) hx hb dX1_isBlock_13 (by decide) ?_
      exact W.zret (v := nI 1) hx hb hr rfl (fun t ht hW => ⟨⟨nI 1, (), rfl, (by rw [hs_hb_o c2 (Int32.not_le.mp c3)]; rfl), trivial⟩, hS.F ht⟩) hS.2.2 dX1_isBlock_17
set_option maxHeartbeats 4000000 in
set_option maxRecDepth 100000 in
theorem kX1_hash (l : Launch) (dC : Nat → ClassId) (dI : Nat → Nat → Nat) (h0 hd hp : Nat) (cA : ClassId) (d N w nw sz u : Nat) (F G : Nat → Int32) (kr dn lf : Int32) (dw : Bool) (ok : hs_ok d N w nw sz) (j : Nat) (hj : j < N) : Met l yX1_hash wsX1_hash ({ frames := 1, cells := 0, slots := 0, locals := 22 }) (va_Pc [.ref h0, .int (nI j)] (hs_pr (dC, dI) vwCl [(cA, .int)] [oM_ h0 hd hp d N w nw sz u kr dn lf dw, ar_ hp cA 300 G])) (hs_Qp (fun r => r = hs_bl G w (j * w) (nI j))) 0 0 (fun _ => False) := by
  refine Met.ofW (cc := cX1_hash) (maxL := 4) (ret := (some .int)) (by decide) rfl ?_
  intro p e s m args below meth c s₁ B hml hv
  obtain ⟨rfl, hP, hK⟩ := hv
  have hx := B.exec
  have hb := B.bytes
  have hr := B.returns
  have hts := atoms_spec (ws := wsX1_hash) B.pre
  have hown : s.vm.findClass RX1 = some m.cls := findClass_of_methodNamed B.named
  have hlocks := B.notSynchronized
  obtain ⟨hd5, hN1, hN2, hw1, hw2, hn1, hn2, hsz, hsz2⟩ := hs_okf ok
  have hnw : nw = N * w := ok.2.2.2.2.1
  have hS : va_S (fun _ => False) s.heap s.heap [] := va_S.rf
  have hl := lv_entry ([.ref h0, .int (nI j)]) (n := 4) (Nat.le_of_ble_eq_true rfl)
  rw [lg_entry_eq]
  generalize (lg_sl ([.ref h0, .int (nI j)]) ++ List.replicate (4 - (lg_sl ([.ref h0, .int (nI j)])).length) Slot.unset).toArray = ls at hl ⊢
  have hl : lv_has ls 4 [(0, .ref h0), (1, .int (nI j))] := hl
  have hrow := hs_row ok hj
  refine lv_iload_n hx hb dX1_hash_0 rfl (lv_at hl 1 rfl) ?_
  refine lv_istore_n (lv' := [(2, .int (nI j)), (0, .ref h0), (1, .int (nI j))]) hx hb dX1_hash_1 rfl hl (by decide) rfl (fun ls hl => ?_)
  refine lv_iconst (v := nI 0) hx hb dX1_hash_2 (by decide) ?_
  refine lv_istore_n (lv' := [(3, .int (nI 0)), (2, .int (nI j)), (0, .ref h0), (1, .int (nI j))]) hx hb dX1_hash_3 rfl hl (by decide) rfl (fun ls hl => ?_)
  have loop : ∀ (n : Nat) (i : Nat) (h : Int32) (H : Heap) (locs : List Loc) (ls : Array Slot), (i + n = w) → (hs_bl G n (j * w + i) h = hs_bl G w (j * w) (nI j)) → va_P (dC, dI) vwCl [oM_ h0 hd hp d N w nw sz u kr dn lf dw, ar_ hp cA 300 G] H → va_S (fun _ => False) s.heap H locs → lv_has ls 4 [(3, .int (nI i)), (2, .int h), (0, .ref h0), (1, .int (nI j))] → W p l e (headSpec wsX1_hash ({ frames := 1, cells := 0, slots := 0, locals := 22 })).room s m ([.ref h0, .int (nI j)] : List Value).toArray below meth c H locs 0 0 (MQ below (hs_Qp (fun r => r = hs_bl G w (j * w) (nI j))) ([.ref h0, .int (nI j)] : List Value).toArray s 0 0 (fun _ => False)) (F0 m 4 ls []) := by
    intro n
    induction n with
    | zero =>
      intro i h H locs ls hi he hP hS hl
      refine lv_iload_n hx hb dX1_hash_4 rfl (lv_at hl 0 rfl) ?_
      refine lv_aload_n hx hb dX1_hash_5 rfl (lv_at hl 2 rfl) ?_
      refine va_get (D := (dC, dI)) (ci := 1) (v := .int (nI w)) (C := RX1) (T := TX1) (N := 11) hx hb hts (by decide +kernel) hown hK hP 0 rfl rfl 2 (by decide) (hts (.fieldLink RX1 26 "HashedStoreModel" "words" "I") (by decide +kernel)) (fun _ h9 => h9) rfl dX1_hash_6 ?_
      refine hs_cge (tgt := 36) hx hb (by omega) (by omega) dX1_hash_9 (by decide) (fun c1 => ?_) (fun c1 => ?_)
      · refine lv_iload_n hx hb dX1_hash_36 rfl (lv_at hl 1 rfl) ?_
        exact W.iret (v := h) hx hb hr (fun t ht hW => ⟨⟨h, (), rfl, he, trivial⟩, hS.F ht⟩) hS.2.2 dX1_hash_37
      · exact absurd c1 (by omega)
    | succ n ih =>
      intro i h H locs ls hi he hP hS hl
      refine lv_iload_n hx hb dX1_hash_4 rfl (lv_at hl 0 rfl) ?_
      refine lv_aload_n hx hb dX1_hash_5 rfl (lv_at hl 2 rfl) ?_
      refine va_get (D := (dC, dI)) (ci := 1) (v := .int (nI w)) (C := RX1) (T := TX1) (N := 11) hx hb hts (by decide +kernel) hown hK hP 0 rfl rfl 2 (by decide) (hts (.fieldLink RX1 26 "HashedStoreModel" "words" "I") (by decide +kernel)) (fun _ h9 => h9) rfl dX1_hash_6 ?_
      refine hs_cge (tgt := 36) hx hb (by omega) (by omega) dX1_hash_9 (by decide) (fun c1 => ?_) (fun c1 => ?_)
      · exact absurd c1 (by omega)
      · refine lv_iload_n hx hb dX1_hash_12 rfl (lv_at hl 1 rfl) ?_
        refine lv_aload_n hx hb dX1_hash_13 rfl (lv_at hl 2 rfl) ?_
        refine va_get (D := (dC, dI)) (ci := 1) (v := .ref hp) (C := RX1) (T := TX1) (N := 11) hx hb hts (by decide +kernel) hown hK hP 0 rfl rfl 5 (by decide) (hts (.fieldLink RX1 13 "HashedStoreModel" "goal" "[I") (by decide +kernel)) (fun _ h9 => h9) rfl dX1_hash_14 ?_
        refine lv_iload_n hx hb dX1_hash_17 rfl (lv_at hl 3 rfl) ?_
        refine lv_aload_n hx hb dX1_hash_18 rfl (lv_at hl 2 rfl) ?_
        refine va_get (D := (dC, dI)) (ci := 1) (v := .int (nI w)) (C := RX1) (T := TX1) (N := 11) hx hb hts (by decide +kernel) hown hK hP 0 rfl rfl 2 (by decide) (hts (.fieldLink RX1 26 "HashedStoreModel" "words" "I") (by decide +kernel)) (fun _ h9 => h9) rfl dX1_hash_19 ?_
        refine hs_mulN hx hb dX1_hash_22 ?_
        refine lv_iload_n hx hb dX1_hash_23 rfl (lv_at hl 0 rfl) ?_
        refine hs_addN hx hb dX1_hash_24 ?_
        refine hs_ald hx hb hK hP 1 0 rfl rfl (k := (j * w) + i) (by omega) (by omega) dX1_hash_25 ?_
        refine hs_pe (v := hs_mx h (G (j * w + i))) (va_runS (As := [.int h, .int (G ((j * w) + i))]) (rest := []) ⟨hx, hb, hml, hown, hts⟩ (kX1_mix l _ _) (va_cwS 2 hts gX1_hash_X1_mix rfl rfl rfl (by decide +kernel) ⟨(Nat.le_of_ble_eq_true rfl), (Nat.le_of_ble_eq_true rfl)⟩) hs_preT rfl rfl hl.1 rfl (lv_room (Nat.le_of_ble_eq_true rfl)) dX1_hash_26 ⟨Nat.zero_le _, Nat.zero_le _⟩) hS hP (fun H locs hP hS => ?_)
        refine lv_istore_n (lv' := [(2, .int (hs_mx h (G (j * w + i)))), (3, .int (nI i)), (0, .ref h0), (1, .int (nI j))]) hx hb dX1_hash_29 rfl hl (by decide) rfl (fun ls hl => ?_)
        refine lv_iinc (v := nI (i + 1)) (lv' := [(3, .int (nI (i + 1))), (2, .int (hs_mx h (G (j * w + i)))), (0, .ref h0), (1, .int (nI j))]) hx hb dX1_hash_30 hl (k := 1) rfl (nI_1 _) (by decide) rfl (fun ls hl => ?_)
        refine lv_goto (tgt := 4) hx hb dX1_hash_33 (by decide) ?_
        exact ih (i + 1) _ H locs ls (by omega) he hP hS (lv_sub hl [0, 1, 2, 3] rfl)
  exact loop w 0 (nI j) _ _ ls (by omega) rfl hP hS (lv_sub hl [0, 1, 2, 3] rfl)
set_option maxHeartbeats 4000000 in
set_option maxRecDepth 100000 in
theorem kX1_toGoal (l : Launch) (dC : Nat → ClassId) (dI : Nat → Nat → Nat) (h0 hd hp : Nat) (cA : ClassId) (d N w nw sz u : Nat) (F G : Nat → Int32) (kr dn lf : Int32) (dw : Bool) (ok : hs_ok d N w nw sz) (zz : Nat) (hu : u < 2) : Met l yX1_toGoal wsX1_toGoal ({ frames := 0, cells := 0, slots := 0, locals := 0 }) (va_Pc [.ref h0] (hs_pm (dC, dI) vwCl [(cA, .int)] [oM_ h0 hd hp d N w nw sz u kr dn lf dw, ar_ hd cA 600 F, ar_ hp cA 300 G] zz)) (va_Qv (S := hs_S × (Nat → Int32)) (fun uu => ∃ g, uu = ((F, u, kr, dn, lf, dw), g) ∧ ∀ x, x < sz → g x = hs_vw sz F u x) (hs_B (dC, dI) vwCl [(cA, .int)] (wfM h0 hd hp cA d N w nw sz) (va_A [oM_ h0 hd hp d N w nw sz u kr dn lf dw, ar_ hd cA 600 F, ar_ hp cA 300 G] zz)) (va_A [oM_ h0 hd hp d N w nw sz u kr dn lf dw, ar_ hd cA 600 F, ar_ hp cA 300 G] zz)) 0 0 (va_A [oM_ h0 hd hp d N w nw sz u kr dn lf dw, ar_ hd cA 600 F, ar_ hp cA 300 G] zz) := by
  refine Met.ofW (cc := cX1_toGoal) (maxL := 2) (ret := none) (by decide) rfl ?_
  intro p e s m args below meth c s₁ B hml hv
  obtain ⟨rfl, hzz, hP, hK, hD0⟩ := hv
  have hx := B.exec
  have hb := B.bytes
  have hr := B.returns
  have hts := atoms_spec (ws := wsX1_toGoal) B.pre
  have hown : s.vm.findClass RX1 = some m.cls := findClass_of_methodNamed B.named
  have hlocks := B.notSynchronized
  obtain ⟨hd5, hN1, hN2, hw1, hw2, hn1, hn2, hsz, hsz2⟩ := hs_okf ok
  have hnw : nw = N * w := ok.2.2.2.2.1
  subst hzz
  have hD := hD0.self (sz := s.heap.size)
  have hS : va_S (va_A [oM_ h0 hd hp d N w nw sz u kr dn lf dw, ar_ hd cA 600 F, ar_ hp cA 300 G] s.heap.size) s.heap s.heap [] := va_S.rf
  have hA : ∀ q : Nat, s.heap.size ≤ q → va_A [oM_ h0 hd hp d N w nw sz u kr dn lf dw, ar_ hd cA 600 F, ar_ hp cA 300 G] s.heap.size q := fun q h => Or.inr h
  have hl := lv_entry ([.ref h0]) (n := 2) (Nat.le_of_ble_eq_true rfl)
  rw [lg_entry_eq]
  generalize (lg_sl ([.ref h0]) ++ List.replicate (2 - (lg_sl ([.ref h0])).length) Slot.unset).toArray = ls at hl ⊢
  have hl : lv_has ls 2 [(0, .ref h0)] := hl
  have hus : u * sz + sz ≤ 2 * sz := hs_us2 hu
  have hcm : sz * u = u * sz := Nat.mul_comm sz u
  refine lv_iconst (v := nI 0) hx hb dX1_toGoal_0 (by decide) ?_
  refine lv_istore_n (lv' := [(1, .int (nI 0)), (0, .ref h0)]) hx hb dX1_toGoal_1 rfl hl (by decide) rfl (fun ls hl => ?_)
  have loop : ∀ (n : Nat) (i : Nat) (g : Nat → Int32) (H : Heap) (locs : List Loc) (ls : Array Slot), (i + n = sz) → (∀ x, x < i → g x = hs_vw sz F u x) → va_P (dC, dI) vwCl [oM_ h0 hd hp d N w nw sz u kr dn lf dw, ar_ hd cA 600 F, ar_ hp cA 300 g] H → va_D (va_A [oM_ h0 hd hp d N w nw sz u kr dn lf dw, ar_ hd cA 600 F, ar_ hp cA 300 G] s.heap.size) [oM_ h0 hd hp d N w nw sz u kr dn lf dw, ar_ hd cA 600 F, ar_ hp cA 300 g] → va_S (va_A [oM_ h0 hd hp d N w nw sz u kr dn lf dw, ar_ hd cA 600 F, ar_ hp cA 300 G] s.heap.size) s.heap H locs → lv_has ls 2 [(1, .int (nI i)), (0, .ref h0)] → W p l e (headSpec wsX1_toGoal ({ frames := 0, cells := 0, slots := 0, locals := 0 })).room s m ([.ref h0] : List Value).toArray below meth c H locs 0 0 (MQ below (va_Qv (S := hs_S × (Nat → Int32)) (fun uu => ∃ g, uu = ((F, u, kr, dn, lf, dw), g) ∧ ∀ x, x < sz → g x = hs_vw sz F u x) (hs_B (dC, dI) vwCl [(cA, .int)] (wfM h0 hd hp cA d N w nw sz) (va_A [oM_ h0 hd hp d N w nw sz u kr dn lf dw, ar_ hd cA 600 F, ar_ hp cA 300 G] s.heap.size)) (va_A [oM_ h0 hd hp d N w nw sz u kr dn lf dw, ar_ hd cA 600 F, ar_ hp cA 300 G] s.heap.size)) ([.ref h0] : List Value).toArray s 0 0 (va_A [oM_ h0 hd hp d N w nw sz u kr dn lf dw, ar_ hd cA 600 F, ar_ hp cA 300 G] s.heap.size)) (F0 m 2 ls []) := by
    intro n
    induction n with
    | zero =>
      intro i g H locs ls hi hg hP hD hS hl
      refine lv_iload_n hx hb dX1_toGoal_2 rfl (lv_at hl 0 rfl) ?_
      refine lv_aload_n hx hb dX1_toGoal_3 rfl (lv_at hl 1 rfl) ?_
      refine va_get (D := (dC, dI)) (ci := 1) (v := .int (nI sz)) (C := RX1) (T := TX1) (N := 11) hx hb hts (by decide +kernel) hown hK hP 0 rfl rfl 3 (by decide) (hts (.fieldLink RX1 29 "HashedStoreModel" "size" "I") (by decide +kernel)) (fun _ h9 => h9) rfl dX1_toGoal_4 ?_
      refine hs_cge (tgt := 38) hx hb (by omega) (by omega) dX1_toGoal_7 (by decide) (fun c1 => ?_) (fun c1 => ?_)
      · exact W.vret hx hb hr (fun t ht hW => ⟨⟨((F, u, kr, dn, lf, dw), g), rfl, ⟨g, rfl, fun x hx9 => hg x (by omega)⟩, by rw [ht]; exact hP, va_K.moved hW.alike hK, hD⟩, hS.F ht⟩) hS.2.2 dX1_toGoal_38
      · exact absurd c1 (by omega)
    | succ n ih =>
      intro i g H locs ls hi hg hP hD hS hl
      refine lv_iload_n hx hb dX1_toGoal_2 rfl (lv_at hl 0 rfl) ?_
      refine lv_aload_n hx hb dX1_toGoal_3 rfl (lv_at hl 1 rfl) ?_
      refine va_get (D := (dC, dI)) (ci := 1) (v := .int (nI sz)) (C := RX1) (T := TX1) (N := 11) hx hb hts (by decide +kernel) hown hK hP 0 rfl rfl 3 (by decide) (hts (.fieldLink RX1 29 "HashedStoreModel" "size" "I") (by decide +kernel)) (fun _ h9 => h9) rfl dX1_toGoal_4 ?_
      refine hs_cge (tgt := 38) hx hb (by omega) (by omega) dX1_toGoal_7 (by decide) (fun c1 => ?_) (fun c1 => ?_)
      · exact absurd c1 (by omega)
      · refine lv_aload_n hx hb dX1_toGoal_10 rfl (lv_at hl 1 rfl) ?_
        refine va_get (D := (dC, dI)) (ci := 1) (v := .ref hp) (C := RX1) (T := TX1) (N := 11) hx hb hts (by decide +kernel) hown hK hP 0 rfl rfl 5 (by decide) (hts (.fieldLink RX1 13 "HashedStoreModel" "goal" "[I") (by decide +kernel)) (fun _ h9 => h9) rfl dX1_toGoal_11 ?_
        refine lv_iload_n hx hb dX1_toGoal_14 rfl (lv_at hl 0 rfl) ?_
        refine lv_aload_n hx hb dX1_toGoal_15 rfl (lv_at hl 1 rfl) ?_
        refine va_get (D := (dC, dI)) (ci := 1) (v := .ref hd) (C := RX1) (T := TX1) (N := 11) hx hb hts (by decide +kernel) hown hK hP 0 rfl rfl 4 (by decide) (hts (.fieldLink RX1 7 "HashedStoreModel" "disk" "[I") (by decide +kernel)) (fun _ h9 => h9) rfl dX1_toGoal_16 ?_
        refine lv_aload_n hx hb dX1_toGoal_19 rfl (lv_at hl 1 rfl) ?_
        refine va_get (D := (dC, dI)) (ci := 1) (v := .int (nI sz)) (C := RX1) (T := TX1) (N := 11) hx hb hts (by decide +kernel) hown hK hP 0 rfl rfl 3 (by decide) (hts (.fieldLink RX1 29 "HashedStoreModel" "size" "I") (by decide +kernel)) (fun _ h9 => h9) rfl dX1_toGoal_20 ?_
        refine lv_aload_n hx hb dX1_toGoal_23 rfl (lv_at hl 1 rfl) ?_
        refine va_get (D := (dC, dI)) (ci := 1) (v := .int (nI u)) (C := RX1) (T := TX1) (N := 11) hx hb hts (by decide +kernel) hown hK hP 0 rfl rfl 6 (by decide) (hts (.fieldLink RX1 42 "HashedStoreModel" "used" "I") (by decide +kernel)) (fun _ h9 => h9) rfl dX1_toGoal_24 ?_
        refine hs_mulN hx hb dX1_toGoal_27 ?_
        refine lv_iload_n hx hb dX1_toGoal_28 rfl (lv_at hl 0 rfl) ?_
        refine hs_addN hx hb dX1_toGoal_29 ?_
        refine hs_ald hx hb hK hP 1 0 rfl rfl (k := (sz * u) + i) (by omega) (by omega) dX1_toGoal_30 ?_
        refine hs_ast hx hb hK hP hD hS 2 0 rfl rfl (k := i) (by omega) (by omega) dX1_toGoal_31 (fun H locs hP hD hS => ?_)
        have hP : va_P (dC, dI) vwCl [oM_ h0 hd hp d N w nw sz u kr dn lf dw, ar_ hd cA 600 F, ar_ hp cA 300 (upd g i (F ((sz * u) + i)))] H := hP
        have hD : va_D (va_A [oM_ h0 hd hp d N w nw sz u kr dn lf dw, ar_ hd cA 600 F, ar_ hp cA 300 G] s.heap.size) [oM_ h0 hd hp d N w nw sz u kr dn lf dw, ar_ hd cA 600 F, ar_ hp cA 300 (upd g i (F ((sz * u) + i)))] := hD
        refine lv_iinc (v := nI (i + 1)) (lv' := [(1, .int (nI (i + 1))), (0, .ref h0)]) hx hb dX1_toGoal_32 hl (k := 0) rfl (nI_1 _) (by decide) rfl (fun ls hl => ?_)
        refine lv_goto (tgt := 2) hx hb dX1_toGoal_35 (by decide) ?_
        exact ih (i + 1) _ H locs ls (by omega) (fun x hx9 => by
          by_cases e : x = i
          · subst e; rw [pk_us, hcm]; rfl
          · exact (pk_un e).trans (hg x (by omega))) hP hD hS (lv_sub hl [0, 1] rfl)
  exact loop sz 0 G _ _ ls (by omega) (fun x hx9 => absurd hx9 (Nat.not_lt_zero x)) hP hD hS (lv_sub hl [0, 1] rfl)
end
section
set_option maxHeartbeats 4000000 in
set_option maxRecDepth 100000 in
theorem kX1_way_f (l : Launch) (dC : Nat → ClassId) (dI : Nat → Nat → Nat) (h0 hd hp : Nat) (cA : ClassId) (d N w nw sz u : Nat) (F G : Nat → Int32) (kr dn lf : Int32) (dw : Bool) (ok : hs_ok d N w nw sz) (j : Nat) (hj : j < N) : Met l yX1_way wsX1_way ({ frames := 2, cells := 0, slots := 0, locals := 45 }) (va_Pc [.ref h0, .int (nI j), .int (hs_b false)] (hs_pr (dC, dI) vwCl [(cA, .int)] [oM_ h0 hd hp d N w nw sz u kr dn lf dw, ar_ hp cA 300 G])) (hs_Qp (fun r => r = hs_up nw G d (N + j) (hs_bl G w (j * w) (nI j)))) 0 0 (fun _ => False) := by
  refine Met.ofW (cc := cX1_way) (maxL := 6) (ret := (some .int)) (by decide) rfl ?_
  intro p e s m args below meth c s₁ B hml hv
  obtain ⟨rfl, hP, hK⟩ := hv
  have hx := B.exec
  have hb := B.bytes
  have hr := B.returns
  have hts := atoms_spec (ws := wsX1_way) B.pre
  have hown : s.vm.findClass RX1 = some m.cls := findClass_of_methodNamed B.named
  have hlocks := B.notSynchronized
  obtain ⟨hd5, hN1, hN2, hw1, hw2, hn1, hn2, hsz, hsz2⟩ := hs_okf ok
  have hnw : nw = N * w := ok.2.2.2.2.1
  have hS : va_S (fun _ => False) s.heap s.heap [] := va_S.rf
  have hl := lv_entry ([.ref h0, .int (nI j), .int (hs_b false)]) (n := 6) (Nat.le_of_ble_eq_true rfl)
  rw [lg_entry_eq]
  generalize (lg_sl ([.ref h0, .int (nI j), .int (hs_b false)]) ++ List.replicate (6 - (lg_sl ([.ref h0, .int (nI j), .int (hs_b false)])).length) Slot.unset).toArray = ls at hl ⊢
  have hl : lv_has ls 6 [(0, .ref h0), (1, .int (nI j)), (2, .int (hs_b false))] := hl
  have hrow := hs_row ok hj
  refine lv_aload_n hx hb dX1_way_0 rfl (lv_at hl 0 rfl) ?_
  refine lv_iload_n hx hb dX1_way_1 rfl (lv_at hl 1 rfl) ?_
  refine hs_pe (v := hs_bl G w (j * w) (nI j)) (va_runV (As := [.int (nI j)]) (rest := []) ⟨hx, hb, hml, hown, hts⟩ (kX1_hash l dC dI h0 hd hp cA d N w nw sz u F G kr dn lf dw ok j hj) (cwV 1 hts gX1_way_X1_hash rfl rfl rfl (by decide +kernel) ⟨(Nat.le_of_ble_eq_true rfl), (Nat.le_of_ble_eq_true rfl)⟩) (hs_preV (q := (RX1, TX1, 11)) (ci := 1) hK hP rfl rfl) rfl rfl hl.1 rfl (lv_room (Nat.le_of_ble_eq_true rfl)) dX1_way_2 ⟨Nat.zero_le _, Nat.zero_le _⟩) hS hP (fun H locs hP hS => ?_)
  refine lv_istore_n (lv' := [(3, .int (hs_bl G w (j * w) (nI j))), (0, .ref h0), (1, .int (nI j)), (2, .int (hs_b false))]) hx hb dX1_way_5 rfl hl (by decide) rfl (fun ls hl => ?_)
  refine lv_aload_n hx hb dX1_way_6 rfl (lv_at hl 1 rfl) ?_
  refine va_get (D := (dC, dI)) (ci := 1) (v := .int (nI N)) (C := RX1) (T := TX1) (N := 11) hx hb hts (by decide +kernel) hown hK hP 0 rfl rfl 1 (by decide) (hts (.fieldLink RX1 23 "HashedStoreModel" "blocks" "I") (by decide +kernel)) (fun _ h9 => h9) rfl dX1_way_7 ?_
  refine lv_iload_n hx hb dX1_way_10 rfl (lv_at hl 2 rfl) ?_
  refine hs_addN hx hb dX1_way_11 ?_
  refine lv_istore (lv' := [(4, .int (nI (N + j))), (3, .int (hs_bl G w (j * w) (nI j))), (0, .ref h0), (1, .int (nI j)), (2, .int (hs_b false))]) hx hb dX1_way_12 hl (by decide) rfl (fun ls hl => ?_)
  have loop : ∀ (n : Nat) (kk : Nat) (h : Int32) (H : Heap) (locs : List Loc) (ls : Array Slot), (hs_lv n kk) → (kk < 2 * N) → (hs_up nw G n kk h = hs_up nw G d (N + j) (hs_bl G w (j * w) (nI j))) → va_P (dC, dI) vwCl [oM_ h0 hd hp d N w nw sz u kr dn lf dw, ar_ hp cA 300 G] H → va_S (fun _ => False) s.heap H locs → lv_has ls 6 [(4, .int (nI kk)), (3, .int h), (0, .ref h0), (1, .int (nI j)), (2, .int (hs_b false))] → W p l e (headSpec wsX1_way ({ frames := 2, cells := 0, slots := 0, locals := 45 })).room s m ([.ref h0, .int (nI j), .int (hs_b false)] : List Value).toArray below meth c H locs 0 0 (MQ below (hs_Qp (fun r => r = hs_up nw G d (N + j) (hs_bl G w (j * w) (nI j)))) ([.ref h0, .int (nI j), .int (hs_b false)] : List Value).toArray s 0 0 (fun _ => False)) (F0 m 14 ls []) := by
    intro n
    induction n with
    | zero =>
      intro kk h H locs ls hlv hk2 he hP hS hl
      have hk1 := hs_lv_0 hlv
      subst hk1
      refine lv_iload hx hb dX1_way_14 (lv_at hl 0 rfl) ?_
      refine hs_zle (tgt := 102) hx hb (by omega) dX1_way_16 (by decide) (fun c1 => ?_) (fun c1 => ?_)
      · exact absurd c1 (by omega)
      · refine lv_iload_n hx hb dX1_way_19 rfl (lv_at hl 4 rfl) ?_
        refine hs_beq (tgt := 35) hx hb dX1_way_20 (by decide) (fun c2 => ?_) (fun c2 => ?_)
        · refine lv_iload hx hb dX1_way_35 (lv_at hl 0 rfl) ?_
          refine lv_iconst (v := nI 1) hx hb dX1_way_37 (by decide) ?_
          refine hs_cle (tgt := 93) hx hb (by omega) (by omega) dX1_way_38 (by decide) (fun c3 => ?_) (fun c3 => ?_)
          · refine lv_iload hx hb dX1_way_93 (lv_at hl 0 rfl) ?_
            refine lv_iconst (v := nI 2) hx hb dX1_way_95 (by decide) ?_
            refine hs_divN hx hb (by omega) (by omega) (by omega) dX1_way_96 ?_
            refine lv_istore (lv' := [(4, .int (nI (1 / 2))), (3, .int h), (0, .ref h0), (1, .int (nI j)), (2, .int (hs_b false))]) hx hb dX1_way_97 hl (by decide) rfl (fun ls hl => ?_)
            refine lv_goto (tgt := 14) hx hb dX1_way_99 (by decide) ?_
            refine lv_iload hx hb dX1_way_14 (lv_at hl 0 rfl) ?_
            refine hs_zle (tgt := 102) hx hb (by omega) dX1_way_16 (by decide) (fun c4 => ?_) (fun c4 => ?_)
            · refine lv_iload_n hx hb dX1_way_102 rfl (lv_at hl 1 rfl) ?_
              exact W.iret (v := h) hx hb hr (fun t ht hW => ⟨⟨h, (), rfl, he, trivial⟩, hS.F ht⟩) hS.2.2 dX1_way_103
            · exact absurd c4 (by omega)
          · exact absurd c3 (by omega)
        · exact absurd c2 (by decide)
    | succ n ih =>
      intro kk h H locs ls hlv hk2 he hP hS hl
      obtain ⟨hlv1, hk1⟩ := hs_lv_s hlv
      refine lv_iload hx hb dX1_way_14 (lv_at hl 0 rfl) ?_
      refine hs_zle (tgt := 102) hx hb (by omega) dX1_way_16 (by decide) (fun c1 => ?_) (fun c1 => ?_)
      · exact absurd c1 (by omega)
      · refine lv_iload_n hx hb dX1_way_19 rfl (lv_at hl 4 rfl) ?_
        refine hs_beq (tgt := 35) hx hb dX1_way_20 (by decide) (fun c2 => ?_) (fun c2 => ?_)
        · refine lv_iload hx hb dX1_way_35 (lv_at hl 0 rfl) ?_
          refine lv_iconst (v := nI 1) hx hb dX1_way_37 (by decide) ?_
          refine hs_cle (tgt := 93) hx hb (by omega) (by omega) dX1_way_38 (by decide) (fun c3 => ?_) (fun c3 => ?_)
          · exact absurd c3 (by omega)
          · refine lv_aload_n hx hb dX1_way_41 rfl (lv_at hl 2 rfl) ?_
            refine va_get (D := (dC, dI)) (ci := 1) (v := .ref hp) (C := RX1) (T := TX1) (N := 11) hx hb hts (by decide +kernel) hown hK hP 0 rfl rfl 5 (by decide) (hts (.fieldLink RX1 13 "HashedStoreModel" "goal" "[I") (by decide +kernel)) (fun _ h9 => h9) rfl dX1_way_42 ?_
            refine lv_aload_n hx hb dX1_way_45 rfl (lv_at hl 2 rfl) ?_
            refine lv_iload hx hb dX1_way_46 (lv_at hl 0 rfl) ?_
            refine lv_iconst (v := nI 2) hx hb dX1_way_48 (by decide) ?_
            refine hs_remN hx hb (by omega) (by omega) (by omega) dX1_way_49 ?_
            refine hs_zne (tgt := 60) hx hb (by omega) dX1_way_50 (by decide) (fun c4 => ?_) (fun c4 => ?_)
            · refine lv_iload hx hb dX1_way_60 (lv_at hl 0 rfl) ?_
              refine lv_iconst (v := nI 1) hx hb dX1_way_62 (by decide) ?_
              refine hs_subN hx hb (by omega) dX1_way_63 ?_
              refine hs_pe (v := nI (nw + (kk - 1) - 1)) (va_runV (As := [.int (nI (kk - 1))]) (rest := [.ref hp]) ⟨hx, hb, hml, hown, hts⟩ (kX1_node l dC dI h0 hd hp cA d N w nw sz u F G kr dn lf dw ok (kk - 1)) (cwV 1 hts gX1_way_X1_node rfl rfl rfl (by decide +kernel) ⟨(Nat.le_of_ble_eq_true rfl), (Nat.le_of_ble_eq_true rfl)⟩) (hs_preV (q := (RX1, TX1, 11)) (ci := 1) hK (hP.sub [0] rfl) rfl rfl) rfl rfl hl.1 rfl (lv_room (Nat.le_of_ble_eq_true rfl)) dX1_way_64 ⟨Nat.zero_le _, Nat.zero_le _⟩) hS hP (fun H locs hP hS => ?_)
              refine hs_ald hx hb hK hP 1 0 rfl rfl (k := nw + (kk - 1) - 1) (by omega) (by omega) dX1_way_67 ?_
              refine lv_istore (lv' := [(5, .int (G (nw + (kk - 1) - 1))), (4, .int (nI kk)), (3, .int h), (0, .ref h0), (1, .int (nI j)), (2, .int (hs_b false))]) hx hb dX1_way_68 hl (by decide) rfl (fun ls hl => ?_)
              refine lv_iload hx hb dX1_way_70 (lv_at hl 1 rfl) ?_
              refine lv_iconst (v := nI 2) hx hb dX1_way_72 (by decide) ?_
              refine hs_remN hx hb (by omega) (by omega) (by omega) dX1_way_73 ?_
              refine hs_zne (tgt := 86) hx hb (by omega) dX1_way_74 (by decide) (fun c5 => ?_) (fun c5 => ?_)
              · refine lv_iload hx hb dX1_way_86 (lv_at hl 0 rfl) ?_
                refine lv_iload_n hx hb dX1_way_88 rfl (lv_at hl 2 rfl) ?_
                refine hs_pe (v := hs_mx (G (nw + (kk - 1) - 1)) h) (va_runS (As := [.int (G (nw + (kk - 1) - 1)), .int h]) (rest := []) ⟨hx, hb, hml, hown, hts⟩ (kX1_mix l _ _) (va_cwS 2 hts gX1_way_X1_mix rfl rfl rfl (by decide +kernel) ⟨(Nat.le_of_ble_eq_true rfl), (Nat.le_of_ble_eq_true rfl)⟩) hs_preT rfl rfl hl.1 rfl (lv_room (Nat.le_of_ble_eq_true rfl)) dX1_way_89 ⟨Nat.zero_le _, Nat.zero_le _⟩) hS hP (fun H locs hP hS => ?_)
                refine lv_istore_n (lv' := [(3, .int (hs_mx (G (nw + (kk - 1) - 1)) h)), (5, .int (G (nw + (kk - 1) - 1))), (4, .int (nI kk)), (0, .ref h0), (1, .int (nI j)), (2, .int (hs_b false))]) hx hb dX1_way_92 rfl hl (by decide) rfl (fun ls hl => ?_)
                refine lv_iload hx hb dX1_way_93 (lv_at hl 2 rfl) ?_
                refine lv_iconst (v := nI 2) hx hb dX1_way_95 (by decide) ?_
                refine hs_divN hx hb (by omega) (by omega) (by omega) dX1_way_96 ?_
                refine lv_istore (lv' := [(4, .int (nI (kk / 2))), (3, .int (hs_mx (G (nw + (kk - 1) - 1)) h)), (5, .int (G (nw + (kk - 1) - 1))), (0, .ref h0), (1, .int (nI j)), (2, .int (hs_b false))]) hx hb dX1_way_97 hl (by decide) rfl (fun ls hl => ?_)
                refine lv_goto (tgt := 14) hx hb dX1_way_99 (by decide) ?_
                exact ih (kk / 2) _ H locs ls hlv1 (by omega) (by rw [← he]; show _ = hs_up nw _ n (kk / 2) (hs_st nw _ kk h); unfold hs_st; rw [if_neg c4]) hP hS (lv_sub hl [0, 1, 3, 4, 5] rfl)
              · exact absurd c5 c4
            · refine lv_iload hx hb dX1_way_53 (lv_at hl 0 rfl) ?_
              refine lv_iconst (v := nI 1) hx hb dX1_way_55 (by decide) ?_
              refine hs_addN hx hb dX1_way_56 ?_
              refine lv_goto (tgt := 64) hx hb dX1_way_57 (by decide) ?_
              refine hs_pe (v := nI (nw + (kk + 1) - 1)) (va_runV (As := [.int (nI (kk + 1))]) (rest := [.ref hp]) ⟨hx, hb, hml, hown, hts⟩ (kX1_node l dC dI h0 hd hp cA d N w nw sz u F G kr dn lf dw ok (kk + 1)) (cwV 1 hts gX1_way_X1_node rfl rfl rfl (by decide +kernel) ⟨(Nat.le_of_ble_eq_true rfl), (Nat.le_of_ble_eq_true rfl)⟩) (hs_preV (q := (RX1, TX1, 11)) (ci := 1) hK (hP.sub [0] rfl) rfl rfl) rfl rfl hl.1 rfl (lv_room (Nat.le_of_ble_eq_true rfl)) dX1_way_64 ⟨Nat.zero_le _, Nat.zero_le _⟩) hS hP (fun H locs hP hS => ?_)
              refine hs_ald hx hb hK hP 1 0 rfl rfl (k := nw + (kk + 1) - 1) (by omega) (by omega) dX1_way_67 ?_
              refine lv_istore (lv' := [(5, .int (G (nw + (kk + 1) - 1))), (4, .int (nI kk)), (3, .int h), (0, .ref h0), (1, .int (nI j)), (2, .int (hs_b false))]) hx hb dX1_way_68 hl (by decide) rfl (fun ls hl => ?_)
              refine lv_iload hx hb dX1_way_70 (lv_at hl 1 rfl) ?_
              refine lv_iconst (v := nI 2) hx hb dX1_way_72 (by decide) ?_
              refine hs_remN hx hb (by omega) (by omega) (by omega) dX1_way_73 ?_
              refine hs_zne (tgt := 86) hx hb (by omega) dX1_way_74 (by decide) (fun c5 => ?_) (fun c5 => ?_)
              · exact absurd c4 c5
              · refine lv_iload_n hx hb dX1_way_77 rfl (lv_at hl 2 rfl) ?_
                refine lv_iload hx hb dX1_way_78 (lv_at hl 0 rfl) ?_
                refine hs_pe (v := hs_mx h (G (nw + (kk + 1) - 1))) (va_runS (As := [.int h, .int (G (nw + (kk + 1) - 1))]) (rest := []) ⟨hx, hb, hml, hown, hts⟩ (kX1_mix l _ _) (va_cwS 2 hts gX1_way_X1_mix rfl rfl rfl (by decide +kernel) ⟨(Nat.le_of_ble_eq_true rfl), (Nat.le_of_ble_eq_true rfl)⟩) hs_preT rfl rfl hl.1 rfl (lv_room (Nat.le_of_ble_eq_true rfl)) dX1_way_80 ⟨Nat.zero_le _, Nat.zero_le _⟩) hS hP (fun H locs hP hS => ?_)
                refine lv_goto (tgt := 92) hx hb dX1_way_83 (by decide) ?_
                refine lv_istore_n (lv' := [(3, .int (hs_mx h (G (nw + (kk + 1) - 1)))), (5, .int (G (nw + (kk + 1) - 1))), (4, .int (nI kk)), (0, .ref h0), (1, .int (nI j)), (2, .int (hs_b false))]) hx hb dX1_way_92 rfl hl (by decide) rfl (fun ls hl => ?_)
                refine lv_iload hx hb dX1_way_93 (lv_at hl 2 rfl) ?_
                refine lv_iconst (v := nI 2) hx hb dX1_way_95 (by decide) ?_
                refine hs_divN hx hb (by omega) (by omega) (by omega) dX1_way_96 ?_
                refine lv_istore (lv' := [(4, .int (nI (kk / 2))), (3, .int (hs_mx h (G (nw + (kk + 1) - 1)))), (5, .int (G (nw + (kk + 1) - 1))), (0, .ref h0), (1, .int (nI j)), (2, .int (hs_b false))]) hx hb dX1_way_97 hl (by decide) rfl (fun ls hl => ?_)
                refine lv_goto (tgt := 14) hx hb dX1_way_99 (by decide) ?_
                exact ih (kk / 2) _ H locs ls hlv1 (by omega) (by rw [← he]; show _ = hs_up nw _ n (kk / 2) (hs_st nw _ kk h); unfold hs_st; rw [if_pos c4]) hP hS (lv_sub hl [0, 1, 3, 4, 5] rfl)
        · exact absurd c2 (by decide)
  exact loop d (N + j) _ _ _ ls (hs_lv_b ok hj) (by omega) rfl hP hS (lv_sub hl [0, 1, 2, 3, 4] rfl)
set_option maxHeartbeats 4000000 in
set_option maxRecDepth 100000 in
theorem kX1_way_t (l : Launch) (dC : Nat → ClassId) (dI : Nat → Nat → Nat) (h0 hd hp : Nat) (cA : ClassId) (d N w nw sz u : Nat) (F G : Nat → Int32) (kr dn lf : Int32) (dw : Bool) (ok : hs_ok d N w nw sz) (zz : Nat) (j : Nat) (hj : j < N) : Met l yX1_way wsX1_way ({ frames := 2, cells := 0, slots := 0, locals := 45 }) (va_Pc [.ref h0, .int (nI j), .int (hs_b true)] (hs_pm (dC, dI) vwCl [(cA, .int)] [oM_ h0 hd hp d N w nw sz u kr dn lf dw, ar_ hd cA 600 F, ar_ hp cA 300 G] zz)) (va_Qi (S := hs_S × (Nat → Int32)) (fun r uu => r = (hs_pw nw d (N + j) (hs_bl G w (j * w) (nI j)) G).2 ∧ uu = ((F, u, kr, dn, lf, dw), (hs_pw nw d (N + j) (hs_bl G w (j * w) (nI j)) G).1)) (hs_B (dC, dI) vwCl [(cA, .int)] (wfM h0 hd hp cA d N w nw sz) (va_A [oM_ h0 hd hp d N w nw sz u kr dn lf dw, ar_ hd cA 600 F, ar_ hp cA 300 G] zz)) (va_A [oM_ h0 hd hp d N w nw sz u kr dn lf dw, ar_ hd cA 600 F, ar_ hp cA 300 G] zz)) 0 0 (va_A [oM_ h0 hd hp d N w nw sz u kr dn lf dw, ar_ hd cA 600 F, ar_ hp cA 300 G] zz) := by
  refine Met.ofW (cc := cX1_way) (maxL := 6) (ret := (some .int)) (by decide) rfl ?_
  intro p e s m args below meth c s₁ B hml hv
  obtain ⟨rfl, hzz, hP, hK, hD0⟩ := hv
  have hx := B.exec
  have hb := B.bytes
  have hr := B.returns
  have hts := atoms_spec (ws := wsX1_way) B.pre
  have hown : s.vm.findClass RX1 = some m.cls := findClass_of_methodNamed B.named
  have hlocks := B.notSynchronized
  obtain ⟨hd5, hN1, hN2, hw1, hw2, hn1, hn2, hsz, hsz2⟩ := hs_okf ok
  have hnw : nw = N * w := ok.2.2.2.2.1
  subst hzz
  have hD := hD0.self (sz := s.heap.size)
  have hS : va_S (va_A [oM_ h0 hd hp d N w nw sz u kr dn lf dw, ar_ hd cA 600 F, ar_ hp cA 300 G] s.heap.size) s.heap s.heap [] := va_S.rf
  have hA : ∀ q : Nat, s.heap.size ≤ q → va_A [oM_ h0 hd hp d N w nw sz u kr dn lf dw, ar_ hd cA 600 F, ar_ hp cA 300 G] s.heap.size q := fun q h => Or.inr h
  have hl := lv_entry ([.ref h0, .int (nI j), .int (hs_b true)]) (n := 6) (Nat.le_of_ble_eq_true rfl)
  rw [lg_entry_eq]
  generalize (lg_sl ([.ref h0, .int (nI j), .int (hs_b true)]) ++ List.replicate (6 - (lg_sl ([.ref h0, .int (nI j), .int (hs_b true)])).length) Slot.unset).toArray = ls at hl ⊢
  have hl : lv_has ls 6 [(0, .ref h0), (1, .int (nI j)), (2, .int (hs_b true))] := hl
  have hrow := hs_row ok hj
  refine lv_aload_n hx hb dX1_way_0 rfl (lv_at hl 0 rfl) ?_
  refine lv_iload_n hx hb dX1_way_1 rfl (lv_at hl 1 rfl) ?_
  refine hs_pe (v := hs_bl G w (j * w) (nI j)) (va_runV (As := [.int (nI j)]) (rest := []) ⟨hx, hb, hml, hown, hts⟩ (kX1_hash l dC dI h0 hd hp cA d N w nw sz u F G kr dn lf dw ok j hj) (cwV 1 hts gX1_way_X1_hash rfl rfl rfl (by decide +kernel) ⟨(Nat.le_of_ble_eq_true rfl), (Nat.le_of_ble_eq_true rfl)⟩) (hs_preV (q := (RX1, TX1, 11)) (ci := 1) hK (hP.sub [0, 2] rfl) rfl rfl) rfl rfl hl.1 rfl (lv_room (Nat.le_of_ble_eq_true rfl)) dX1_way_2 ⟨Nat.zero_le _, Nat.zero_le _⟩) hS hP (fun H locs hP hS => ?_)
  refine lv_istore_n (lv' := [(3, .int (hs_bl G w (j * w) (nI j))), (0, .ref h0), (1, .int (nI j)), (2, .int (hs_b true))]) hx hb dX1_way_5 rfl hl (by decide) rfl (fun ls hl => ?_)
  refine lv_aload_n hx hb dX1_way_6 rfl (lv_at hl 1 rfl) ?_
  refine va_get (D := (dC, dI)) (ci := 1) (v := .int (nI N)) (C := RX1) (T := TX1) (N := 11) hx hb hts (by decide +kernel) hown hK hP 0 rfl rfl 1 (by decide) (hts (.fieldLink RX1 23 "HashedStoreModel" "blocks" "I") (by decide +kernel)) (fun _ h9 => h9) rfl dX1_way_7 ?_
  refine lv_iload_n hx hb dX1_way_10 rfl (lv_at hl 2 rfl) ?_
  refine hs_addN hx hb dX1_way_11 ?_
  refine lv_istore (lv' := [(4, .int (nI (N + j))), (3, .int (hs_bl G w (j * w) (nI j))), (0, .ref h0), (1, .int (nI j)), (2, .int (hs_b true))]) hx hb dX1_way_12 hl (by decide) rfl (fun ls hl => ?_)
  have loop : ∀ (n : Nat) (kk : Nat) (h : Int32) (g : Nat → Int32) (H : Heap) (locs : List Loc) (ls : Array Slot), (hs_lv n kk) → (kk < 2 * N) → (hs_pw nw n kk h g = (hs_pw nw d (N + j) (hs_bl G w (j * w) (nI j)) G)) → va_P (dC, dI) vwCl [oM_ h0 hd hp d N w nw sz u kr dn lf dw, ar_ hd cA 600 F, ar_ hp cA 300 g] H → va_D (va_A [oM_ h0 hd hp d N w nw sz u kr dn lf dw, ar_ hd cA 600 F, ar_ hp cA 300 G] s.heap.size) [oM_ h0 hd hp d N w nw sz u kr dn lf dw, ar_ hd cA 600 F, ar_ hp cA 300 g] → va_S (va_A [oM_ h0 hd hp d N w nw sz u kr dn lf dw, ar_ hd cA 600 F, ar_ hp cA 300 G] s.heap.size) s.heap H locs → lv_has ls 6 [(4, .int (nI kk)), (3, .int h), (0, .ref h0), (1, .int (nI j)), (2, .int (hs_b true))] → W p l e (headSpec wsX1_way ({ frames := 2, cells := 0, slots := 0, locals := 45 })).room s m ([.ref h0, .int (nI j), .int (hs_b true)] : List Value).toArray below meth c H locs 0 0 (MQ below (va_Qi (S := hs_S × (Nat → Int32)) (fun r uu => r = (hs_pw nw d (N + j) (hs_bl G w (j * w) (nI j)) G).2 ∧ uu = ((F, u, kr, dn, lf, dw), (hs_pw nw d (N + j) (hs_bl G w (j * w) (nI j)) G).1)) (hs_B (dC, dI) vwCl [(cA, .int)] (wfM h0 hd hp cA d N w nw sz) (va_A [oM_ h0 hd hp d N w nw sz u kr dn lf dw, ar_ hd cA 600 F, ar_ hp cA 300 G] s.heap.size)) (va_A [oM_ h0 hd hp d N w nw sz u kr dn lf dw, ar_ hd cA 600 F, ar_ hp cA 300 G] s.heap.size)) ([.ref h0, .int (nI j), .int (hs_b true)] : List Value).toArray s 0 0 (va_A [oM_ h0 hd hp d N w nw sz u kr dn lf dw, ar_ hd cA 600 F, ar_ hp cA 300 G] s.heap.size)) (F0 m 14 ls []) := by
    intro n
    induction n with
    | zero =>
      intro kk h g H locs ls hlv hk2 he hP hD hS hl
      have hk1 := hs_lv_0 hlv
      subst hk1
      refine lv_iload hx hb dX1_way_14 (lv_at hl 0 rfl) ?_
      refine hs_zle (tgt := 102) hx hb (by omega) dX1_way_16 (by decide) (fun c1 => ?_) (fun c1 => ?_)
      · exact absurd c1 (by omega)
      · refine lv_iload_n hx hb dX1_way_19 rfl (lv_at hl 4 rfl) ?_
        refine hs_beq (tgt := 35) hx hb dX1_way_20 (by decide) (fun c2 => ?_) (fun c2 => ?_)
        · exact absurd c2 (by decide)
        · refine lv_aload_n hx hb dX1_way_23 rfl (lv_at hl 2 rfl) ?_
          refine va_get (D := (dC, dI)) (ci := 1) (v := .ref hp) (C := RX1) (T := TX1) (N := 11) hx hb hts (by decide +kernel) hown hK hP 0 rfl rfl 5 (by decide) (hts (.fieldLink RX1 13 "HashedStoreModel" "goal" "[I") (by decide +kernel)) (fun _ h9 => h9) rfl dX1_way_24 ?_
          refine lv_aload_n hx hb dX1_way_27 rfl (lv_at hl 2 rfl) ?_
          refine lv_iload hx hb dX1_way_28 (lv_at hl 0 rfl) ?_
          refine hs_pe (v := nI (nw + 1 - 1)) (va_runV (As := [.int (nI 1)]) (rest := [.ref hp]) ⟨hx, hb, hml, hown, hts⟩ (kX1_node l dC dI h0 hd hp cA d N w nw sz u F g kr dn lf dw ok 1) (cwV 1 hts gX1_way_X1_node rfl rfl rfl (by decide +kernel) ⟨(Nat.le_of_ble_eq_true rfl), (Nat.le_of_ble_eq_true rfl)⟩) (hs_preV (q := (RX1, TX1, 11)) (ci := 1) hK (hP.sub [0] rfl) rfl rfl) rfl rfl hl.1 rfl (lv_room (Nat.le_of_ble_eq_true rfl)) dX1_way_30 ⟨Nat.zero_le _, Nat.zero_le _⟩) hS hP (fun H locs hP hS => ?_)
          refine lv_iload_n hx hb dX1_way_33 rfl (lv_at hl 1 rfl) ?_
          refine hs_ast hx hb hK hP hD hS 2 0 rfl rfl (k := nw + 1 - 1) (by omega) (by omega) dX1_way_34 (fun H locs hP hD hS => ?_)
          have hP : va_P (dC, dI) vwCl [oM_ h0 hd hp d N w nw sz u kr dn lf dw, ar_ hd cA 600 F, ar_ hp cA 300 (upd g (nw + 1 - 1) h)] H := hP
          have hD : va_D (va_A [oM_ h0 hd hp d N w nw sz u kr dn lf dw, ar_ hd cA 600 F, ar_ hp cA 300 G] s.heap.size) [oM_ h0 hd hp d N w nw sz u kr dn lf dw, ar_ hd cA 600 F, ar_ hp cA 300 (upd g (nw + 1 - 1) h)] := hD
          refine lv_iload hx hb dX1_way_35 (lv_at hl 0 rfl) ?_
          refine lv_iconst (v := nI 1) hx hb dX1_way_37 (by decide) ?_
          refine hs_cle (tgt := 93) hx hb (by omega) (by omega) dX1_way_38 (by decide) (fun c3 => ?_) (fun c3 => ?_)
          · refine lv_iload hx hb dX1_way_93 (lv_at hl 0 rfl) ?_
            refine lv_iconst (v := nI 2) hx hb dX1_way_95 (by decide) ?_
            refine hs_divN hx hb (by omega) (by omega) (by omega) dX1_way_96 ?_
            refine lv_istore (lv' := [(4, .int (nI (1 / 2))), (3, .int h), (0, .ref h0), (1, .int (nI j)), (2, .int (hs_b true))]) hx hb dX1_way_97 hl (by decide) rfl (fun ls hl => ?_)
            refine lv_goto (tgt := 14) hx hb dX1_way_99 (by decide) ?_
            refine lv_iload hx hb dX1_way_14 (lv_at hl 0 rfl) ?_
            refine hs_zle (tgt := 102) hx hb (by omega) dX1_way_16 (by decide) (fun c4 => ?_) (fun c4 => ?_)
            · refine lv_iload_n hx hb dX1_way_102 rfl (lv_at hl 1 rfl) ?_
              exact W.iret (v := h) hx hb hr (fun t ht hW => ⟨⟨h, ((F, u, kr, dn, lf, dw), upd g (nw + 1 - 1) h), rfl, (by rw [← he]; exact ⟨rfl, rfl⟩), by rw [ht]; exact hP, va_K.moved hW.alike hK, hD⟩, hS.F ht⟩) hS.2.2 dX1_way_103
            · exact absurd c4 (by omega)
          · exact absurd c3 (by omega)
    | succ n ih =>
      intro kk h g H locs ls hlv hk2 he hP hD hS hl
      obtain ⟨hlv1, hk1⟩ := hs_lv_s hlv
      refine lv_iload hx hb dX1_way_14 (lv_at hl 0 rfl) ?_
      refine hs_zle (tgt := 102) hx hb (by omega) dX1_way_16 (by decide) (fun c1 => ?_) (fun c1 => ?_)
      · exact absurd c1 (by omega)
      · refine lv_iload_n hx hb dX1_way_19 rfl (lv_at hl 4 rfl) ?_
        refine hs_beq (tgt := 35) hx hb dX1_way_20 (by decide) (fun c2 => ?_) (fun c2 => ?_)
        · exact absurd c2 (by decide)
        · refine lv_aload_n hx hb dX1_way_23 rfl (lv_at hl 2 rfl) ?_
          refine va_get (D := (dC, dI)) (ci := 1) (v := .ref hp) (C := RX1) (T := TX1) (N := 11) hx hb hts (by decide +kernel) hown hK hP 0 rfl rfl 5 (by decide) (hts (.fieldLink RX1 13 "HashedStoreModel" "goal" "[I") (by decide +kernel)) (fun _ h9 => h9) rfl dX1_way_24 ?_
          refine lv_aload_n hx hb dX1_way_27 rfl (lv_at hl 2 rfl) ?_
          refine lv_iload hx hb dX1_way_28 (lv_at hl 0 rfl) ?_
          refine hs_pe (v := nI (nw + kk - 1)) (va_runV (As := [.int (nI kk)]) (rest := [.ref hp]) ⟨hx, hb, hml, hown, hts⟩ (kX1_node l dC dI h0 hd hp cA d N w nw sz u F g kr dn lf dw ok kk) (cwV 1 hts gX1_way_X1_node rfl rfl rfl (by decide +kernel) ⟨(Nat.le_of_ble_eq_true rfl), (Nat.le_of_ble_eq_true rfl)⟩) (hs_preV (q := (RX1, TX1, 11)) (ci := 1) hK (hP.sub [0] rfl) rfl rfl) rfl rfl hl.1 rfl (lv_room (Nat.le_of_ble_eq_true rfl)) dX1_way_30 ⟨Nat.zero_le _, Nat.zero_le _⟩) hS hP (fun H locs hP hS => ?_)
          refine lv_iload_n hx hb dX1_way_33 rfl (lv_at hl 1 rfl) ?_
          refine hs_ast hx hb hK hP hD hS 2 0 rfl rfl (k := nw + kk - 1) (by omega) (by omega) dX1_way_34 (fun H locs hP hD hS => ?_)
          have hP : va_P (dC, dI) vwCl [oM_ h0 hd hp d N w nw sz u kr dn lf dw, ar_ hd cA 600 F, ar_ hp cA 300 (upd g (nw + kk - 1) h)] H := hP
          have hD : va_D (va_A [oM_ h0 hd hp d N w nw sz u kr dn lf dw, ar_ hd cA 600 F, ar_ hp cA 300 G] s.heap.size) [oM_ h0 hd hp d N w nw sz u kr dn lf dw, ar_ hd cA 600 F, ar_ hp cA 300 (upd g (nw + kk - 1) h)] := hD
          refine lv_iload hx hb dX1_way_35 (lv_at hl 0 rfl) ?_
          refine lv_iconst (v := nI 1) hx hb dX1_way_37 (by decide) ?_
          refine hs_cle (tgt := 93) hx hb (by omega) (by omega) dX1_way_38 (by decide) (fun c3 => ?_) (fun c3 => ?_)
          · exact absurd c3 (by omega)
          · refine lv_aload_n hx hb dX1_way_41 rfl (lv_at hl 2 rfl) ?_
            refine va_get (D := (dC, dI)) (ci := 1) (v := .ref hp) (C := RX1) (T := TX1) (N := 11) hx hb hts (by decide +kernel) hown hK hP 0 rfl rfl 5 (by decide) (hts (.fieldLink RX1 13 "HashedStoreModel" "goal" "[I") (by decide +kernel)) (fun _ h9 => h9) rfl dX1_way_42 ?_
            refine lv_aload_n hx hb dX1_way_45 rfl (lv_at hl 2 rfl) ?_
            refine lv_iload hx hb dX1_way_46 (lv_at hl 0 rfl) ?_
            refine lv_iconst (v := nI 2) hx hb dX1_way_48 (by decide) ?_
            refine hs_remN hx hb (by omega) (by omega) (by omega) dX1_way_49 ?_
            refine hs_zne (tgt := 60) hx hb (by omega) dX1_way_50 (by decide) (fun c4 => ?_) (fun c4 => ?_)
            · refine lv_iload hx hb dX1_way_60 (lv_at hl 0 rfl) ?_
              refine lv_iconst (v := nI 1) hx hb dX1_way_62 (by decide) ?_
              refine hs_subN hx hb (by omega) dX1_way_63 ?_
              refine hs_pe (v := nI (nw + (kk - 1) - 1)) (va_runV (As := [.int (nI (kk - 1))]) (rest := [.ref hp]) ⟨hx, hb, hml, hown, hts⟩ (kX1_node l dC dI h0 hd hp cA d N w nw sz u F (upd g (nw + kk - 1) h) kr dn lf dw ok (kk - 1)) (cwV 1 hts gX1_way_X1_node rfl rfl rfl (by decide +kernel) ⟨(Nat.le_of_ble_eq_true rfl), (Nat.le_of_ble_eq_true rfl)⟩) (hs_preV (q := (RX1, TX1, 11)) (ci := 1) hK (hP.sub [0] rfl) rfl rfl) rfl rfl hl.1 rfl (lv_room (Nat.le_of_ble_eq_true rfl)) dX1_way_64 ⟨Nat.zero_le _, Nat.zero_le _⟩) hS hP (fun H locs hP hS => ?_)
              refine hs_ald hx hb hK hP 2 0 rfl rfl (k := nw + (kk - 1) - 1) (by omega) (by omega) dX1_way_67 ?_
              refine lv_istore (lv' := [(5, .int ((upd g (nw + kk - 1) h) (nw + (kk - 1) - 1))), (4, .int (nI kk)), (3, .int h), (0, .ref h0), (1, .int (nI j)), (2, .int (hs_b true))]) hx hb dX1_way_68 hl (by decide) rfl (fun ls hl => ?_)
              refine lv_iload hx hb dX1_way_70 (lv_at hl 1 rfl) ?_
              refine lv_iconst (v := nI 2) hx hb dX1_way_72 (by decide) ?_
              refine hs_remN hx hb (by omega) (by omega) (by omega) dX1_way_73 ?_
              refine hs_zne (tgt := 86) hx hb (by omega) dX1_way_74 (by decide) (fun c5 => ?_) (fun c5 => ?_)
              · refine lv_iload hx hb dX1_way_86 (lv_at hl 0 rfl) ?_
                refine lv_iload_n hx hb dX1_way_88 rfl (lv_at hl 2 rfl) ?_
                refine hs_pe (v := hs_mx ((upd g (nw + kk - 1) h) (nw + (kk - 1) - 1)) h) (va_runS (As := [.int ((upd g (nw + kk - 1) h) (nw + (kk - 1) - 1)), .int h]) (rest := []) ⟨hx, hb, hml, hown, hts⟩ (kX1_mix l _ _) (va_cwS 2 hts gX1_way_X1_mix rfl rfl rfl (by decide +kernel) ⟨(Nat.le_of_ble_eq_true rfl), (Nat.le_of_ble_eq_true rfl)⟩) hs_preT rfl rfl hl.1 rfl (lv_room (Nat.le_of_ble_eq_true rfl)) dX1_way_89 ⟨Nat.zero_le _, Nat.zero_le _⟩) hS hP (fun H locs hP hS => ?_)
                refine lv_istore_n (lv' := [(3, .int (hs_mx ((upd g (nw + kk - 1) h) (nw + (kk - 1) - 1)) h)), (5, .int ((upd g (nw + kk - 1) h) (nw + (kk - 1) - 1))), (4, .int (nI kk)), (0, .ref h0), (1, .int (nI j)), (2, .int (hs_b true))]) hx hb dX1_way_92 rfl hl (by decide) rfl (fun ls hl => ?_)
                refine lv_iload hx hb dX1_way_93 (lv_at hl 2 rfl) ?_
                refine lv_iconst (v := nI 2) hx hb dX1_way_95 (by decide) ?_
                refine hs_divN hx hb (by omega) (by omega) (by omega) dX1_way_96 ?_
                refine lv_istore (lv' := [(4, .int (nI (kk / 2))), (3, .int (hs_mx ((upd g (nw + kk - 1) h) (nw + (kk - 1) - 1)) h)), (5, .int ((upd g (nw + kk - 1) h) (nw + (kk - 1) - 1))), (0, .ref h0), (1, .int (nI j)), (2, .int (hs_b true))]) hx hb dX1_way_97 hl (by decide) rfl (fun ls hl => ?_)
                refine lv_goto (tgt := 14) hx hb dX1_way_99 (by decide) ?_
                exact ih (kk / 2) _ _ H locs ls hlv1 (by omega) (by rw [← he]; show _ = hs_pw nw n (kk / 2) (hs_st nw _ kk h) _; unfold hs_st; rw [if_neg c4]) hP hD hS (lv_sub hl [0, 1, 3, 4, 5] rfl)
              · exact absurd c5 c4
            · refine lv_iload hx hb dX1_way_53 (lv_at hl 0 rfl) ?_
              refine lv_iconst (v := nI 1) hx hb dX1_way_55 (by decide) ?_
              refine hs_addN hx hb dX1_way_56 ?_
              refine lv_goto (tgt := 64) hx hb dX1_way_57 (by decide) ?_
              refine hs_pe (v := nI (nw + (kk + 1) - 1)) (va_runV (As := [.int (nI (kk + 1))]) (rest := [.ref hp]) ⟨hx, hb, hml, hown, hts⟩ (kX1_node l dC dI h0 hd hp cA d N w nw sz u F (upd g (nw + kk - 1) h) kr dn lf dw ok (kk + 1)) (cwV 1 hts gX1_way_X1_node rfl rfl rfl (by decide +kernel) ⟨(Nat.le_of_ble_eq_true rfl), (Nat.le_of_ble_eq_true rfl)⟩) (hs_preV (q := (RX1, TX1, 11)) (ci := 1) hK (hP.sub [0] rfl) rfl rfl) rfl rfl hl.1 rfl (lv_room (Nat.le_of_ble_eq_true rfl)) dX1_way_64 ⟨Nat.zero_le _, Nat.zero_le _⟩) hS hP (fun H locs hP hS => ?_)
              refine hs_ald hx hb hK hP 2 0 rfl rfl (k := nw + (kk + 1) - 1) (by omega) (by omega) dX1_way_67 ?_
              refine lv_istore (lv' := [(5, .int ((upd g (nw + kk - 1) h) (nw + (kk + 1) - 1))), (4, .int (nI kk)), (3, .int h), (0, .ref h0), (1, .int (nI j)), (2, .int (hs_b true))]) hx hb dX1_way_68 hl (by decide) rfl (fun ls hl => ?_)
              refine lv_iload hx hb dX1_way_70 (lv_at hl 1 rfl) ?_
              refine lv_iconst (v := nI 2) hx hb dX1_way_72 (by decide) ?_
              refine hs_remN hx hb (by omega) (by omega) (by omega) dX1_way_73 ?_
              refine hs_zne (tgt := 86) hx hb (by omega) dX1_way_74 (by decide) (fun c5 => ?_) (fun c5 => ?_)
              · exact absurd c4 c5
              · refine lv_iload_n hx hb dX1_way_77 rfl (lv_at hl 2 rfl) ?_
                refine lv_iload hx hb dX1_way_78 (lv_at hl 0 rfl) ?_
                refine hs_pe (v := hs_mx h ((upd g (nw + kk - 1) h) (nw + (kk + 1) - 1))) (va_runS (As := [.int h, .int ((upd g (nw + kk - 1) h) (nw + (kk + 1) - 1))]) (rest := []) ⟨hx, hb, hml, hown, hts⟩ (kX1_mix l _ _) (va_cwS 2 hts gX1_way_X1_mix rfl rfl rfl (by decide +kernel) ⟨(Nat.le_of_ble_eq_true rfl), (Nat.le_of_ble_eq_true rfl)⟩) hs_preT rfl rfl hl.1 rfl (lv_room (Nat.le_of_ble_eq_true rfl)) dX1_way_80 ⟨Nat.zero_le _, Nat.zero_le _⟩) hS hP (fun H locs hP hS => ?_)
                refine lv_goto (tgt := 92) hx hb dX1_way_83 (by decide) ?_
                refine lv_istore_n (lv' := [(3, .int (hs_mx h ((upd g (nw + kk - 1) h) (nw + (kk + 1) - 1)))), (5, .int ((upd g (nw + kk - 1) h) (nw + (kk + 1) - 1))), (4, .int (nI kk)), (0, .ref h0), (1, .int (nI j)), (2, .int (hs_b true))]) hx hb dX1_way_92 rfl hl (by decide) rfl (fun ls hl => ?_)
                refine lv_iload hx hb dX1_way_93 (lv_at hl 2 rfl) ?_
                refine lv_iconst (v := nI 2) hx hb dX1_way_95 (by decide) ?_
                refine hs_divN hx hb (by omega) (by omega) (by omega) dX1_way_96 ?_
                refine lv_istore (lv' := [(4, .int (nI (kk / 2))), (3, .int (hs_mx h ((upd g (nw + kk - 1) h) (nw + (kk + 1) - 1)))), (5, .int ((upd g (nw + kk - 1) h) (nw + (kk + 1) - 1))), (0, .ref h0), (1, .int (nI j)), (2, .int (hs_b true))]) hx hb dX1_way_97 hl (by decide) rfl (fun ls hl => ?_)
                refine lv_goto (tgt := 14) hx hb dX1_way_99 (by decide) ?_
                exact ih (kk / 2) _ _ H locs ls hlv1 (by omega) (by rw [← he]; show _ = hs_pw nw n (kk / 2) (hs_st nw _ kk h) _; unfold hs_st; rw [if_pos c4]) hP hD hS (lv_sub hl [0, 1, 3, 4, 5] rfl)
  exact loop d (N + j) _ G _ _ ls (hs_lv_b ok hj) (by omega) rfl hP hD hS (lv_sub hl [0, 1, 2, 3, 4] rfl)
set_option maxHeartbeats 4000000 in
set_option maxRecDepth 100000 in
theorem kX1_isRight (l : Launch) (dC : Nat → ClassId) (dI : Nat → Nat → Nat) (h0 hd hp : Nat) (cA : ClassId) (d N w nw sz u : Nat) (F G : Nat → Int32) (kr dn lf : Int32) (dw : Bool) (ok : hs_ok d N w nw sz) (zz : Nat) (j : Nat) (hj : j < N) (hu : u < 2) : Met l yX1_isRight wsX1_isRight ({ frames := 3, cells := 0, slots := 0, locals := 70 }) (va_Pc [.ref h0, .int (nI j)] (hs_pm (dC, dI) vwCl [(cA, .int)] [oM_ h0 hd hp d N w nw sz u kr dn lf dw, ar_ hd cA 600 F, ar_ hp cA 300 G] zz)) (va_Qi (S := hs_S × (Nat → Int32)) (fun r uu => r = hs_b (hs_rg d N w nw (hs_vw sz F u) kr j) ∧ ∃ g, uu = ((F, u, kr, dn, lf, dw), g) ∧ ∀ x, x < sz → g x = hs_vw sz F u x) (hs_B (dC, dI) vwCl [(cA, .int)] (wfM h0 hd hp cA d N w nw sz) (va_A [oM_ h0 hd hp d N w nw sz u kr dn lf dw, ar_ hd cA 600 F, ar_ hp cA 300 G] zz)) (va_A [oM_ h0 hd hp d N w nw sz u kr dn lf dw, ar_ hd cA 600 F, ar_ hp cA 300 G] zz)) 0 0 (va_A [oM_ h0 hd hp d N w nw sz u kr dn lf dw, ar_ hd cA 600 F, ar_ hp cA 300 G] zz) := by
  refine Met.ofW (cc := cX1_isRight) (maxL := 3) (ret := (some .boolean)) (by decide) rfl ?_
  intro p e s m args below meth c s₁ B hml hv
  obtain ⟨rfl, hzz, hP, hK, hD0⟩ := hv
  have hx := B.exec
  have hb := B.bytes
  have hr := B.returns
  have hts := atoms_spec (ws := wsX1_isRight) B.pre
  have hown : s.vm.findClass RX1 = some m.cls := findClass_of_methodNamed B.named
  have hlocks := B.notSynchronized
  obtain ⟨hd5, hN1, hN2, hw1, hw2, hn1, hn2, hsz, hsz2⟩ := hs_okf ok
  have hnw : nw = N * w := ok.2.2.2.2.1
  subst hzz
  have hD := hD0.self (sz := s.heap.size)
  have hS : va_S (va_A [oM_ h0 hd hp d N w nw sz u kr dn lf dw, ar_ hd cA 600 F, ar_ hp cA 300 G] s.heap.size) s.heap s.heap [] := va_S.rf
  have hA : ∀ q : Nat, s.heap.size ≤ q → va_A [oM_ h0 hd hp d N w nw sz u kr dn lf dw, ar_ hd cA 600 F, ar_ hp cA 300 G] s.heap.size q := fun q h => Or.inr h
  have hl := lv_entry ([.ref h0, .int (nI j)]) (n := 3) (Nat.le_of_ble_eq_true rfl)
  rw [lg_entry_eq]
  generalize (lg_sl ([.ref h0, .int (nI j)]) ++ List.replicate (3 - (lg_sl ([.ref h0, .int (nI j)])).length) Slot.unset).toArray = ls at hl ⊢
  have hl : lv_has ls 3 [(0, .ref h0), (1, .int (nI j))] := hl
  have hrow := hs_row ok hj
  refine lv_aload_n hx hb dX1_isRight_0 rfl (lv_at hl 0 rfl) ?_
  refine hs_cv (va_runV (As := []) (rest := []) ⟨hx, hb, hml, hown, hts⟩ (kX1_toGoal l dC dI h0 hd hp cA d N w nw sz u F G kr dn lf dw ok _ hu) (cwV 0 hts gX1_isRight_X1_toGoal rfl rfl rfl (by decide +kernel) ⟨(Nat.le_of_ble_eq_true rfl), (Nat.le_of_ble_eq_true rfl)⟩) (hs_preM (q := (RX1, TX1, 11)) (ci := 1) hK hP hD rfl rfl) rfl rfl hl.1 rfl (lv_room (Nat.le_of_ble_eq_true rfl)) dX1_isRight_1 ⟨Nat.zero_le _, Nat.zero_le _⟩) hS hD hA (fun v H locs hv hP hD hS => ?_)
  obtain ⟨g, rfl, hg⟩ := hv
  have hP : va_P (dC, dI) vwCl [oM_ h0 hd hp d N w nw sz u kr dn lf dw, ar_ hd cA 600 F, ar_ hp cA 300 g] H := hP
  have hD : va_D (va_A [oM_ h0 hd hp d N w nw sz u kr dn lf dw, ar_ hd cA 600 F, ar_ hp cA 300 G] s.heap.size) [oM_ h0 hd hp d N w nw sz u kr dn lf dw, ar_ hd cA 600 F, ar_ hp cA 300 g] := hD
  refine lv_iconst (v := nI 0) hx hb dX1_isRight_4 (by decide) ?_
  refine lv_istore_n (lv' := [(2, .int (nI 0)), (0, .ref h0), (1, .int (nI j))]) hx hb dX1_isRight_5 rfl hl (by decide) rfl (fun ls hl => ?_)
  have loop : ∀ (n : Nat) (i : Nat) (H : Heap) (locs : List Loc) (ls : Array Slot), (i + n = w) → (hs_ng g n (j * w + i) = hs_ng g w (j * w)) → va_P (dC, dI) vwCl [oM_ h0 hd hp d N w nw sz u kr dn lf dw, ar_ hd cA 600 F, ar_ hp cA 300 g] H → va_D (va_A [oM_ h0 hd hp d N w nw sz u kr dn lf dw, ar_ hd cA 600 F, ar_ hp cA 300 G] s.heap.size) [oM_ h0 hd hp d N w nw sz u kr dn lf dw, ar_ hd cA 600 F, ar_ hp cA 300 g] → va_S (va_A [oM_ h0 hd hp d N w nw sz u kr dn lf dw, ar_ hd cA 600 F, ar_ hp cA 300 G] s.heap.size) s.heap H locs → lv_has ls 3 [(2, .int (nI i)), (0, .ref h0), (1, .int (nI j))] → W p l e (headSpec wsX1_isRight ({ frames := 3, cells := 0, slots := 0, locals := 70 })).room s m ([.ref h0, .int (nI j)] : List Value).toArray below meth c H locs 0 0 (MQ below (va_Qi (S := hs_S × (Nat → Int32)) (fun r uu => r = hs_b (hs_rg d N w nw (hs_vw sz F u) kr j) ∧ ∃ g, uu = ((F, u, kr, dn, lf, dw), g) ∧ ∀ x, x < sz → g x = hs_vw sz F u x) (hs_B (dC, dI) vwCl [(cA, .int)] (wfM h0 hd hp cA d N w nw sz) (va_A [oM_ h0 hd hp d N w nw sz u kr dn lf dw, ar_ hd cA 600 F, ar_ hp cA 300 G] s.heap.size)) (va_A [oM_ h0 hd hp d N w nw sz u kr dn lf dw, ar_ hd cA 600 F, ar_ hp cA 300 G] s.heap.size)) ([.ref h0, .int (nI j)] : List Value).toArray s 0 0 (va_A [oM_ h0 hd hp d N w nw sz u kr dn lf dw, ar_ hd cA 600 F, ar_ hp cA 300 G] s.heap.size)) (F0 m 6 ls []) := by
    intro n
    induction n with
    | zero =>
      intro i H locs ls hi he hP hD hS hl
      refine lv_iload_n hx hb dX1_isRight_6 rfl (lv_at hl 0 rfl) ?_
      refine lv_aload_n hx hb dX1_isRight_7 rfl (lv_at hl 1 rfl) ?_
      refine va_get (D := (dC, dI)) (ci := 1) (v := .int (nI w)) (C := RX1) (T := TX1) (N := 11) hx hb hts (by decide +kernel) hown hK hP 0 rfl rfl 2 (by decide) (hts (.fieldLink RX1 26 "HashedStoreModel" "words" "I") (by decide +kernel)) (fun _ h9 => h9) rfl dX1_isRight_8 ?_
      refine hs_cge (tgt := 38) hx hb (by omega) (by omega) dX1_isRight_11 (by decide) (fun c1 => ?_) (fun c1 => ?_)
      · have hq : hs_ng g w (j * w) = false := he.symm
        refine lv_aload_n hx hb dX1_isRight_38 rfl (lv_at hl 1 rfl) ?_
        refine lv_iload_n hx hb dX1_isRight_39 rfl (lv_at hl 2 rfl) ?_
        refine lv_iconst (v := hs_b false) hx hb dX1_isRight_40 (by decide) ?_
        refine hs_pe (v := hs_rt d N w nw g j) (va_runV (As := [.int (nI j), .int (hs_b false)]) (rest := []) ⟨hx, hb, hml, hown, hts⟩ (kX1_way_f l dC dI h0 hd hp cA d N w nw sz u F g kr dn lf dw ok j hj) (cwV 2 hts gX1_isRight_X1_way rfl rfl rfl (by decide +kernel) ⟨(Nat.le_of_ble_eq_true rfl), (Nat.le_of_ble_eq_true rfl)⟩) (hs_preV (q := (RX1, TX1, 11)) (ci := 1) hK (hP.sub [0, 2] rfl) rfl rfl) rfl rfl hl.1 rfl (lv_room (Nat.le_of_ble_eq_true rfl)) dX1_isRight_41 ⟨Nat.zero_le _, Nat.zero_le _⟩) hS hP (fun H locs hP hS => ?_)
        refine lv_aload_n hx hb dX1_isRight_44 rfl (lv_at hl 1 rfl) ?_
        refine va_get (D := (dC, dI)) (ci := 1) (v := .int kr) (C := RX1) (T := TX1) (N := 11) hx hb hts (by decide +kernel) hown hK hP 0 rfl rfl 7 (by decide) (hts (.fieldLink RX1 52 "HashedStoreModel" "kept" "I") (by decide +kernel)) (fun _ h9 => h9) rfl dX1_isRight_45 ?_
        refine lv_icmp_ne (tgt := 55) hx hb dX1_isRight_48 (by decide) (fun c2 => ?_) (fun c2 => ?_)
        · refine lv_iconst (v := nI 0) hx hb dX1_isRight_55 (by decide) ?_
          exact W.zret (v := nI 0) hx hb hr rfl (fun t ht hW => ⟨⟨nI 0, ((F, u, kr, dn, lf, dw), g), rfl, ⟨by rw [← hs_rg_c ok hj hg]; unfold hs_rg; rw [if_neg (hs_ff hq), decide_eq_false c2]; rfl, g, rfl, hg⟩, by rw [ht]; exact hP, va_K.moved hW.alike hK, hD⟩, hS.F ht⟩) hS.2.2 dX1_isRight_56
        · refine lv_iconst (v := nI 1) hx hb dX1_isRight_51 (by decide) ?_
          refine lv_goto (tgt := 56) hx hb dX1_isRight_52 (by decide) ?_
          exact W.zret (v := nI 1) hx hb hr rfl (fun t ht hW => ⟨⟨nI 1, ((F, u, kr, dn, lf, dw), g), rfl, ⟨by rw [← hs_rg_c ok hj hg]; unfold hs_rg; rw [if_neg (hs_ff hq), decide_eq_true c2]; rfl, g, rfl, hg⟩, by rw [ht]; exact hP, va_K.moved hW.alike hK, hD⟩, hS.F ht⟩) hS.2.2 dX1_isRight_56
      · exact absurd c1 (by omega)
    | succ n ih =>
      intro i H locs ls hi he hP hD hS hl
      refine lv_iload_n hx hb dX1_isRight_6 rfl (lv_at hl 0 rfl) ?_
      refine lv_aload_n hx hb dX1_isRight_7 rfl (lv_at hl 1 rfl) ?_
      refine va_get (D := (dC, dI)) (ci := 1) (v := .int (nI w)) (C := RX1) (T := TX1) (N := 11) hx hb hts (by decide +kernel) hown hK hP 0 rfl rfl 2 (by decide) (hts (.fieldLink RX1 26 "HashedStoreModel" "words" "I") (by decide +kernel)) (fun _ h9 => h9) rfl dX1_isRight_8 ?_
      refine hs_cge (tgt := 38) hx hb (by omega) (by omega) dX1_isRight_11 (by decide) (fun c1 => ?_) (fun c1 => ?_)
      · exact absurd c1 (by omega)
      · refine lv_aload_n hx hb dX1_isRight_14 rfl (lv_at hl 1 rfl) ?_
        refine va_get (D := (dC, dI)) (ci := 1) (v := .ref hp) (C := RX1) (T := TX1) (N := 11) hx hb hts (by decide +kernel) hown hK hP 0 rfl rfl 5 (by decide) (hts (.fieldLink RX1 13 "HashedStoreModel" "goal" "[I") (by decide +kernel)) (fun _ h9 => h9) rfl dX1_isRight_15 ?_
        refine lv_iload_n hx hb dX1_isRight_18 rfl (lv_at hl 2 rfl) ?_
        refine lv_aload_n hx hb dX1_isRight_19 rfl (lv_at hl 1 rfl) ?_
        refine va_get (D := (dC, dI)) (ci := 1) (v := .int (nI w)) (C := RX1) (T := TX1) (N := 11) hx hb hts (by decide +kernel) hown hK hP 0 rfl rfl 2 (by decide) (hts (.fieldLink RX1 26 "HashedStoreModel" "words" "I") (by decide +kernel)) (fun _ h9 => h9) rfl dX1_isRight_20 ?_
        refine hs_mulN hx hb dX1_isRight_23 ?_
        refine lv_iload_n hx hb dX1_isRight_24 rfl (lv_at hl 0 rfl) ?_
        refine hs_addN hx hb dX1_isRight_25 ?_
        refine hs_ald hx hb hK hP 2 0 rfl rfl (k := (j * w) + i) (by omega) (by omega) dX1_isRight_26 ?_
        refine lv_if_ge (tgt := 32) hx hb dX1_isRight_27 (by decide) (fun c2 => ?_) (fun c2 => ?_)
        · refine lv_iinc (v := nI (i + 1)) (lv' := [(2, .int (nI (i + 1))), (0, .ref h0), (1, .int (nI j))]) hx hb dX1_isRight_32 hl (k := 0) rfl (nI_1 _) (by decide) rfl (fun ls hl => ?_)
          refine lv_goto (tgt := 6) hx hb dX1_isRight_35 (by decide) ?_
          exact ih (i + 1) H locs ls (by omega) ((if_neg (Int32.not_lt.mpr c2)).symm.trans he) hP hD hS (lv_sub hl [0, 1, 2] rfl)
        · have hq : hs_ng g w (j * w) = true := he.symm.trans (if_pos (Int32.not_le.mp c2))
          refine lv_iconst (v := nI 0) hx hb dX1_isRight_30 (by decide) ?_
          exact W.zret (v := nI 0) hx hb hr rfl (fun t ht hW => ⟨⟨nI 0, ((F, u, kr, dn, lf, dw), g), rfl, ⟨by rw [← hs_rg_c ok hj hg]; unfold hs_rg; rw [if_pos hq]; rfl, g, rfl, hg⟩, by rw [ht]; exact hP, va_K.moved hW.alike hK, hD⟩, hS.F ht⟩) hS.2.2 dX1_isRight_31
  exact loop w 0 _ _ ls (by omega) rfl hP hD hS (lv_sub hl [0, 1, 2] rfl)
set_option maxHeartbeats 4000000 in
set_option maxRecDepth 100000 in
theorem kX1_put (l : Launch) (dC : Nat → ClassId) (dI : Nat → Nat → Nat) (h0 hd hp : Nat) (cA : ClassId) (d N w nw sz u : Nat) (F G : Nat → Int32) (kr dn lf : Int32) (dw : Bool) (ok : hs_ok d N w nw sz) (zz : Nat) (x : Nat) (hxs : x < sz) (hu : u < 2) (hlo : hs_lo lf) : Met l yX1_put wsX1_put ({ frames := 0, cells := 0, slots := 0, locals := 0 }) (va_Pc [.ref h0, .int (nI x)] (hs_pm (dC, dI) vwCl [(cA, .int)] [oM_ h0 hd hp d N w nw sz u kr dn lf dw, ar_ hd cA 600 F, ar_ hp cA 300 G] zz)) (va_Qi (S := hs_S × (Nat → Int32)) (fun r uu => r = hs_b (hs_put ((1 - u) * sz) G x (F, lf, dn, dw)).2 ∧ uu = (((hs_put ((1 - u) * sz) G x (F, lf, dn, dw)).1.1, u, kr, (hs_put ((1 - u) * sz) G x (F, lf, dn, dw)).1.2.2.1, (hs_put ((1 - u) * sz) G x (F, lf, dn, dw)).1.2.1, (hs_put ((1 - u) * sz) G x (F, lf, dn, dw)).1.2.2.2), G)) (hs_B (dC, dI) vwCl [(cA, .int)] (wfM h0 hd hp cA d N w nw sz) (va_A [oM_ h0 hd hp d N w nw sz u kr dn lf dw, ar_ hd cA 600 F, ar_ hp cA 300 G] zz)) (va_A [oM_ h0 hd hp d N w nw sz u kr dn lf dw, ar_ hd cA 600 F, ar_ hp cA 300 G] zz)) 0 0 (va_A [oM_ h0 hd hp d N w nw sz u kr dn lf dw, ar_ hd cA 600 F, ar_ hp cA 300 G] zz) := by
  refine Met.ofW (cc := cX1_put) (maxL := 3) (ret := (some .boolean)) (by decide) rfl ?_
  intro p e s m args below meth c s₁ B hml hv
  obtain ⟨rfl, hzz, hP, hK, hD0⟩ := hv
  have hx := B.exec
  have hb := B.bytes
  have hr := B.returns
  have hts := atoms_spec (ws := wsX1_put) B.pre
  have hown : s.vm.findClass RX1 = some m.cls := findClass_of_methodNamed B.named
  have hlocks := B.notSynchronized
  obtain ⟨hd5, hN1, hN2, hw1, hw2, hn1, hn2, hsz, hsz2⟩ := hs_okf ok
  have hnw : nw = N * w := ok.2.2.2.2.1
  subst hzz
  have hD := hD0.self (sz := s.heap.size)
  have hS : va_S (va_A [oM_ h0 hd hp d N w nw sz u kr dn lf dw, ar_ hd cA 600 F, ar_ hp cA 300 G] s.heap.size) s.heap s.heap [] := va_S.rf
  have hA : ∀ q : Nat, s.heap.size ≤ q → va_A [oM_ h0 hd hp d N w nw sz u kr dn lf dw, ar_ hd cA 600 F, ar_ hp cA 300 G] s.heap.size q := fun q h => Or.inr h
  have hl := lv_entry ([.ref h0, .int (nI x)]) (n := 3) (Nat.le_of_ble_eq_true rfl)
  rw [lg_entry_eq]
  generalize (lg_sl ([.ref h0, .int (nI x)]) ++ List.replicate (3 - (lg_sl ([.ref h0, .int (nI x)])).length) Slot.unset).toArray = ls at hl ⊢
  have hl : lv_has ls 3 [(0, .ref h0), (1, .int (nI x))] := hl
  have hus : (1 - u) * sz + sz ≤ 2 * sz := hs_us2 (by omega)
  have hcm : sz * (1 - u) = (1 - u) * sz := Nat.mul_comm _ _
  refine lv_aload_n hx hb dX1_put_0 rfl (lv_at hl 0 rfl) ?_
  refine va_get (D := (dC, dI)) (ci := 1) (v := .int (nI sz)) (C := RX1) (T := TX1) (N := 11) hx hb hts (by decide +kernel) hown hK hP 0 rfl rfl 3 (by decide) (hts (.fieldLink RX1 29 "HashedStoreModel" "size" "I") (by decide +kernel)) (fun _ h9 => h9) rfl dX1_put_1 ?_
  refine lv_iconst (v := nI 1) hx hb dX1_put_4 (by decide) ?_
  refine lv_aload_n hx hb dX1_put_5 rfl (lv_at hl 0 rfl) ?_
  refine va_get (D := (dC, dI)) (ci := 1) (v := .int (nI u)) (C := RX1) (T := TX1) (N := 11) hx hb hts (by decide +kernel) hown hK hP 0 rfl rfl 6 (by decide) (hts (.fieldLink RX1 42 "HashedStoreModel" "used" "I") (by decide +kernel)) (fun _ h9 => h9) rfl dX1_put_6 ?_
  refine hs_subN hx hb (by omega) dX1_put_9 ?_
  refine hs_mulN hx hb dX1_put_10 ?_
  refine lv_iload_n hx hb dX1_put_11 rfl (lv_at hl 1 rfl) ?_
  refine hs_addN hx hb dX1_put_12 ?_
  refine lv_istore_n (lv' := [(2, .int (nI ((sz * (1 - u)) + x))), (0, .ref h0), (1, .int (nI x))]) hx hb dX1_put_13 rfl hl (by decide) rfl (fun ls hl => ?_)
  rw [hcm] at hl
  refine lv_aload_n hx hb dX1_put_14 rfl (lv_at hl 1 rfl) ?_
  refine va_get (D := (dC, dI)) (ci := 1) (v := .ref hd) (C := RX1) (T := TX1) (N := 11) hx hb hts (by decide +kernel) hown hK hP 0 rfl rfl 4 (by decide) (hts (.fieldLink RX1 7 "HashedStoreModel" "disk" "[I") (by decide +kernel)) (fun _ h9 => h9) rfl dX1_put_15 ?_
  refine lv_iload_n hx hb dX1_put_18 rfl (lv_at hl 0 rfl) ?_
  refine hs_ald hx hb hK hP 1 0 rfl rfl (k := (1 - u) * sz + x) (by omega) (by omega) dX1_put_19 ?_
  refine lv_aload_n hx hb dX1_put_20 rfl (lv_at hl 1 rfl) ?_
  refine va_get (D := (dC, dI)) (ci := 1) (v := .ref hp) (C := RX1) (T := TX1) (N := 11) hx hb hts (by decide +kernel) hown hK hP 0 rfl rfl 5 (by decide) (hts (.fieldLink RX1 13 "HashedStoreModel" "goal" "[I") (by decide +kernel)) (fun _ h9 => h9) rfl dX1_put_21 ?_
  refine lv_iload_n hx hb dX1_put_24 rfl (lv_at hl 2 rfl) ?_
  refine hs_ald hx hb hK hP 2 0 rfl rfl (k := x) (by omega) (by omega) dX1_put_25 ?_
  refine lv_icmp_ne (tgt := 31) hx hb dX1_put_26 (by decide) (fun c1 => ?_) (fun c1 => ?_)
  · refine lv_aload_n hx hb dX1_put_31 rfl (lv_at hl 1 rfl) ?_
    refine va_get (D := (dC, dI)) (ci := 1) (v := .int lf) (C := RX1) (T := TX1) (N := 11) hx hb hts (by decide +kernel) hown hK hP 0 rfl rfl 9 (by decide) (hts (.fieldLink RX1 16 "HashedStoreModel" "left" "I") (by decide +kernel)) (fun _ h9 => h9) rfl dX1_put_32 ?_
    refine lv_if_ne (tgt := 45) hx hb dX1_put_35 (by decide) (fun c2 => ?_) (fun c2 => ?_)
    · refine lv_aload_n hx hb dX1_put_45 rfl (lv_at hl 1 rfl) ?_
      refine lv_aload_n hx hb dX1_put_46 rfl (lv_at hl 1 rfl) ?_
      refine va_get (D := (dC, dI)) (ci := 1) (v := .int lf) (C := RX1) (T := TX1) (N := 11) hx hb hts (by decide +kernel) hown hK hP 0 rfl rfl 9 (by decide) (hts (.fieldLink RX1 16 "HashedStoreModel" "left" "I") (by decide +kernel)) (fun _ h9 => h9) rfl dX1_put_47 ?_
      refine lv_if_le (tgt := 62) hx hb dX1_put_50 (by decide) (fun c3 => ?_) (fun c3 => ?_)
      · refine lv_aload_n hx hb dX1_put_62 rfl (lv_at hl 1 rfl) ?_
        refine va_get (D := (dC, dI)) (ci := 1) (v := .int lf) (C := RX1) (T := TX1) (N := 11) hx hb hts (by decide +kernel) hown hK hP 0 rfl rfl 9 (by decide) (hts (.fieldLink RX1 16 "HashedStoreModel" "left" "I") (by decide +kernel)) (fun _ h9 => h9) rfl dX1_put_63 ?_
        refine va_put (D := (dC, dI)) (ci := 1) (v := .int lf) (ty := .int) (C := RX1) (T := TX1) (N := 11) hx hb hts (by decide +kernel) tyX1 tyX1_ok nmX1 hown hK hP hD hS 0 rfl rfl 9 (by decide) (hts (.fieldLink RX1 16 "HashedStoreModel" "left" "I") (by decide +kernel)) (fun _ h9 => h9) rfl (by decide +kernel) rfl rfl (Nat.le_of_ble_eq_true rfl) dX1_put_66 (fun H locs hP hD hS => ?_)
        have hP : va_P (dC, dI) vwCl [oM_ h0 hd hp d N w nw sz u kr dn lf dw, ar_ hd cA 600 F, ar_ hp cA 300 G] H := hP
        have hD : va_D (va_A [oM_ h0 hd hp d N w nw sz u kr dn lf dw, ar_ hd cA 600 F, ar_ hp cA 300 G] s.heap.size) [oM_ h0 hd hp d N w nw sz u kr dn lf dw, ar_ hd cA 600 F, ar_ hp cA 300 G] := hD
        refine lv_aload_n hx hb dX1_put_69 rfl (lv_at hl 1 rfl) ?_
        refine va_get (D := (dC, dI)) (ci := 1) (v := .ref hd) (C := RX1) (T := TX1) (N := 11) hx hb hts (by decide +kernel) hown hK hP 0 rfl rfl 4 (by decide) (hts (.fieldLink RX1 7 "HashedStoreModel" "disk" "[I") (by decide +kernel)) (fun _ h9 => h9) rfl dX1_put_70 ?_
        refine lv_iload_n hx hb dX1_put_73 rfl (lv_at hl 0 rfl) ?_
        refine lv_aload_n hx hb dX1_put_74 rfl (lv_at hl 1 rfl) ?_
        refine va_get (D := (dC, dI)) (ci := 1) (v := .ref hp) (C := RX1) (T := TX1) (N := 11) hx hb hts (by decide +kernel) hown hK hP 0 rfl rfl 5 (by decide) (hts (.fieldLink RX1 13 "HashedStoreModel" "goal" "[I") (by decide +kernel)) (fun _ h9 => h9) rfl dX1_put_75 ?_
        refine lv_iload_n hx hb dX1_put_78 rfl (lv_at hl 2 rfl) ?_
        refine hs_ald hx hb hK hP 2 0 rfl rfl (k := x) (by omega) (by omega) dX1_put_79 ?_
        refine hs_ast hx hb hK hP hD hS 1 0 rfl rfl (k := (1 - u) * sz + x) (by omega) (by omega) dX1_put_80 (fun H locs hP hD hS => ?_)
        have hP : va_P (dC, dI) vwCl [oM_ h0 hd hp d N w nw sz u kr dn lf dw, ar_ hd cA 600 (upd F ((1 - u) * sz + x) (G x)), ar_ hp cA 300 G] H := hP
        have hD : va_D (va_A [oM_ h0 hd hp d N w nw sz u kr dn lf dw, ar_ hd cA 600 F, ar_ hp cA 300 G] s.heap.size) [oM_ h0 hd hp d N w nw sz u kr dn lf dw, ar_ hd cA 600 (upd F ((1 - u) * sz + x) (G x)), ar_ hp cA 300 G] := hD
        refine lv_aload_n hx hb dX1_put_81 rfl (lv_at hl 1 rfl) ?_
        refine lv_dup hx hb dX1_put_82 rfl ?_
        refine va_get (D := (dC, dI)) (ci := 1) (v := .int dn) (C := RX1) (T := TX1) (N := 11) hx hb hts (by decide +kernel) hown hK hP 0 rfl rfl 8 (by decide) (hts (.fieldLink RX1 55 "HashedStoreModel" "done" "I") (by decide +kernel)) (fun _ h9 => h9) rfl dX1_put_83 ?_
        refine lv_iconst (v := 1) hx hb dX1_put_86 (by decide) ?_
        refine lv_iadd hx hb dX1_put_87 ?_
        refine va_put (D := (dC, dI)) (ci := 1) (v := .int (dn + 1)) (ty := .int) (C := RX1) (T := TX1) (N := 11) hx hb hts (by decide +kernel) tyX1 tyX1_ok nmX1 hown hK hP hD hS 0 rfl rfl 8 (by decide) (hts (.fieldLink RX1 55 "HashedStoreModel" "done" "I") (by decide +kernel)) (fun _ h9 => h9) rfl (by decide +kernel) rfl rfl (Nat.le_of_ble_eq_true rfl) dX1_put_88 (fun H locs hP hD hS => ?_)
        have hP : va_P (dC, dI) vwCl [oM_ h0 hd hp d N w nw sz u kr (dn + 1) lf dw, ar_ hd cA 600 (upd F ((1 - u) * sz + x) (G x)), ar_ hp cA 300 G] H := hP
        have hD : va_D (va_A [oM_ h0 hd hp d N w nw sz u kr dn lf dw, ar_ hd cA 600 F, ar_ hp cA 300 G] s.heap.size) [oM_ h0 hd hp d N w nw sz u kr (dn + 1) lf dw, ar_ hd cA 600 (upd F ((1 - u) * sz + x) (G x)), ar_ hp cA 300 G] := hD
        refine lv_iconst (v := nI 1) hx hb dX1_put_91 (by decide) ?_
        exact W.zret (v := nI 1) hx hb hr rfl (fun t ht hW => ⟨⟨nI 1, ((upd F ((1 - u) * sz + x) (G x), u, kr, (dn + 1), lf, dw), G), rfl, (by rw [hs_put, if_neg c1, if_neg c2, hs_lf1 hlo c2 c3]; exact ⟨rfl, rfl⟩), by rw [ht]; exact hP, va_K.moved hW.alike hK, hD⟩, hS.F ht⟩) hS.2.2 dX1_put_92
      · refine lv_aload_n hx hb dX1_put_53 rfl (lv_at hl 1 rfl) ?_
        refine va_get (D := (dC, dI)) (ci := 1) (v := .int lf) (C := RX1) (T := TX1) (N := 11) hx hb hts (by decide +kernel) hown hK hP 0 rfl rfl 9 (by decide) (hts (.fieldLink RX1 16 "HashedStoreModel" "left" "I") (by decide +kernel)) (fun _ h9 => h9) rfl dX1_put_54 ?_
        refine lv_iconst (v := nI 1) hx hb dX1_put_57 (by decide) ?_
        refine lv_isub hx hb dX1_put_58 ?_
        refine lv_goto (tgt := 66) hx hb dX1_put_59 (by decide) ?_
        refine va_put (D := (dC, dI)) (ci := 1) (v := .int (lf - (nI 1))) (ty := .int) (C := RX1) (T := TX1) (N := 11) hx hb hts (by decide +kernel) tyX1 tyX1_ok nmX1 hown hK hP hD hS 0 rfl rfl 9 (by decide) (hts (.fieldLink RX1 16 "HashedStoreModel" "left" "I") (by decide +kernel)) (fun _ h9 => h9) rfl (by decide +kernel) rfl rfl (Nat.le_of_ble_eq_true rfl) dX1_put_66 (fun H locs hP hD hS => ?_)
        have hP : va_P (dC, dI) vwCl [oM_ h0 hd hp d N w nw sz u kr dn (lf - (nI 1)) dw, ar_ hd cA 600 F, ar_ hp cA 300 G] H := hP
        have hD : va_D (va_A [oM_ h0 hd hp d N w nw sz u kr dn lf dw, ar_ hd cA 600 F, ar_ hp cA 300 G] s.heap.size) [oM_ h0 hd hp d N w nw sz u kr dn (lf - (nI 1)) dw, ar_ hd cA 600 F, ar_ hp cA 300 G] := hD
        refine lv_aload_n hx hb dX1_put_69 rfl (lv_at hl 1 rfl) ?_
        refine va_get (D := (dC, dI)) (ci := 1) (v := .ref hd) (C := RX1) (T := TX1) (N := 11) hx hb hts (by decide +kernel) hown hK hP 0 rfl rfl 4 (by decide) (hts (.fieldLink RX1 7 "HashedStoreModel" "disk" "[I") (by decide +kernel)) (fun _ h9 => h9) rfl dX1_put_70 ?_
        refine lv_iload_n hx hb dX1_put_73 rfl (lv_at hl 0 rfl) ?_
        refine lv_aload_n hx hb dX1_put_74 rfl (lv_at hl 1 rfl) ?_
        refine va_get (D := (dC, dI)) (ci := 1) (v := .ref hp) (C := RX1) (T := TX1) (N := 11) hx hb hts (by decide +kernel) hown hK hP 0 rfl rfl 5 (by decide) (hts (.fieldLink RX1 13 "HashedStoreModel" "goal" "[I") (by decide +kernel)) (fun _ h9 => h9) rfl dX1_put_75 ?_
        refine lv_iload_n hx hb dX1_put_78 rfl (lv_at hl 2 rfl) ?_
        refine hs_ald hx hb hK hP 2 0 rfl rfl (k := x) (by omega) (by omega) dX1_put_79 ?_
        refine hs_ast hx hb hK hP hD hS 1 0 rfl rfl (k := (1 - u) * sz + x) (by omega) (by omega) dX1_put_80 (fun H locs hP hD hS => ?_)
        have hP : va_P (dC, dI) vwCl [oM_ h0 hd hp d N w nw sz u kr dn (lf - (nI 1)) dw, ar_ hd cA 600 (upd F ((1 - u) * sz + x) (G x)), ar_ hp cA 300 G] H := hP
        have hD : va_D (va_A [oM_ h0 hd hp d N w nw sz u kr dn lf dw, ar_ hd cA 600 F, ar_ hp cA 300 G] s.heap.size) [oM_ h0 hd hp d N w nw sz u kr dn (lf - (nI 1)) dw, ar_ hd cA 600 (upd F ((1 - u) * sz + x) (G x)), ar_ hp cA 300 G] := hD
        refine lv_aload_n hx hb dX1_put_81 rfl (lv_at hl 1 rfl) ?_
        refine lv_dup hx hb dX1_put_82 rfl ?_
        refine va_get (D := (dC, dI)) (ci := 1) (v := .int dn) (C := RX1) (T := TX1) (N := 11) hx hb hts (by decide +kernel) hown hK hP 0 rfl rfl 8 (by decide) (hts (.fieldLink RX1 55 "HashedStoreModel" "done" "I") (by decide +kernel)) (fun _ h9 => h9) rfl dX1_put_83 ?_
        refine lv_iconst (v := 1) hx hb dX1_put_86 (by decide) ?_
        refine lv_iadd hx hb dX1_put_87 ?_
        refine va_put (D := (dC, dI)) (ci := 1) (v := .int (dn + 1)) (ty := .int) (C := RX1) (T := TX1) (N := 11) hx hb hts (by decide +kernel) tyX1 tyX1_ok nmX1 hown hK hP hD hS 0 rfl rfl 8 (by decide) (hts (.fieldLink RX1 55 "HashedStoreModel" "done" "I") (by decide +kernel)) (fun _ h9 => h9) rfl (by decide +kernel) rfl rfl (Nat.le_of_ble_eq_true rfl) dX1_put_88 (fun H locs hP hD hS => ?_)
        have hP : va_P (dC, dI) vwCl [oM_ h0 hd hp d N w nw sz u kr (dn + 1) (lf - (nI 1)) dw, ar_ hd cA 600 (upd F ((1 - u) * sz + x) (G x)), ar_ hp cA 300 G] H := hP
        have hD : va_D (va_A [oM_ h0 hd hp d N w nw sz u kr dn lf dw, ar_ hd cA 600 F, ar_ hp cA 300 G] s.heap.size) [oM_ h0 hd hp d N w nw sz u kr (dn + 1) (lf - (nI 1)) dw, ar_ hd cA 600 (upd F ((1 - u) * sz + x) (G x)), ar_ hp cA 300 G] := hD
        refine lv_iconst (v := nI 1) hx hb dX1_put_91 (by decide) ?_
        exact W.zret (v := nI 1) hx hb hr rfl (fun t ht hW => ⟨⟨nI 1, ((upd F ((1 - u) * sz + x) (G x), u, kr, (dn + 1), (lf - (nI 1)), dw), G), rfl, (by rw [hs_put, if_neg c1, if_neg c2, hs_lf2 c3]; exact ⟨rfl, rfl⟩), by rw [ht]; exact hP, va_K.moved hW.alike hK, hD⟩, hS.F ht⟩) hS.2.2 dX1_put_92
    · refine lv_aload_n hx hb dX1_put_38 rfl (lv_at hl 1 rfl) ?_
      refine lv_iconst (v := hs_b true) hx hb dX1_put_39 (by decide) ?_
      refine va_put (D := (dC, dI)) (ci := 1) (v := .int (hs_b true)) (ty := .boolean) (C := RX1) (T := TX1) (N := 11) hx hb hts (by decide +kernel) tyX1 tyX1_ok nmX1 hown hK hP hD hS 0 rfl rfl 10 (by decide) (hts (.fieldLink RX1 58 "HashedStoreModel" "isDown" "Z") (by decide +kernel)) (fun _ h9 => h9) rfl (by decide +kernel) rfl rfl (Nat.le_of_ble_eq_true rfl) dX1_put_40 (fun H locs hP hD hS => ?_)
      have hP : va_P (dC, dI) vwCl [oM_ h0 hd hp d N w nw sz u kr dn lf true, ar_ hd cA 600 F, ar_ hp cA 300 G] H := hP
      have hD : va_D (va_A [oM_ h0 hd hp d N w nw sz u kr dn lf dw, ar_ hd cA 600 F, ar_ hp cA 300 G] s.heap.size) [oM_ h0 hd hp d N w nw sz u kr dn lf true, ar_ hd cA 600 F, ar_ hp cA 300 G] := hD
      refine lv_iconst (v := nI 0) hx hb dX1_put_43 (by decide) ?_
      exact W.zret (v := nI 0) hx hb hr rfl (fun t ht hW => ⟨⟨nI 0, ((F, u, kr, dn, lf, true), G), rfl, (by rw [hs_put, if_neg c1, if_pos c2]; exact ⟨rfl, rfl⟩), by rw [ht]; exact hP, va_K.moved hW.alike hK, hD⟩, hS.F ht⟩) hS.2.2 dX1_put_44
  · refine lv_iconst (v := nI 1) hx hb dX1_put_29 (by decide) ?_
    exact W.zret (v := nI 1) hx hb hr rfl (fun t ht hW => ⟨⟨nI 1, ((F, u, kr, dn, lf, dw), G), rfl, (by rw [hs_put, if_pos c1]; exact ⟨rfl, rfl⟩), by rw [ht]; exact hP, va_K.moved hW.alike hK, hD⟩, hS.F ht⟩) hS.2.2 dX1_put_30
end
section
set_option maxHeartbeats 4000000 in
set_option maxRecDepth 100000 in
theorem kX1_read (l : Launch) (dC : Nat → ClassId) (dI : Nat → Nat → Nat) (h0 hd hp : Nat) (cA : ClassId) (d N w nw sz u : Nat) (F G : Nat → Int32) (kr dn lf : Int32) (dw : Bool) (ok : hs_ok d N w nw sz) (zz : Nat) (p1 p2 : Int32) (hu : u < 2) : Met l yX1_read wsX1_read ({ frames := 4, cells := 0, slots := 0, locals := 92 }) (va_Pc [.ref h0, .int p1, .int p2] (hs_pm (dC, dI) vwCl [(cA, .int)] [oM_ h0 hd hp d N w nw sz u kr dn lf dw, ar_ hd cA 600 F, ar_ hp cA 300 G] zz)) (va_Qi (S := hs_S × (Nat → Int32)) (fun r uu => r = hs_rd d N w nw sz p1 p2 (F, u, kr, dn, lf, dw) ∧ ∃ g, uu = ((F, u, kr, dn, lf, dw), g)) (hs_B (dC, dI) vwCl [(cA, .int)] (wfM h0 hd hp cA d N w nw sz) (va_A [oM_ h0 hd hp d N w nw sz u kr dn lf dw, ar_ hd cA 600 F, ar_ hp cA 300 G] zz)) (va_A [oM_ h0 hd hp d N w nw sz u kr dn lf dw, ar_ hd cA 600 F, ar_ hp cA 300 G] zz)) 0 0 (va_A [oM_ h0 hd hp d N w nw sz u kr dn lf dw, ar_ hd cA 600 F, ar_ hp cA 300 G] zz) := by
  refine Met.ofW (cc := cX1_read) (maxL := 3) (ret := (some .int)) (by decide) rfl ?_
  intro p e s m args below meth c s₁ B hml hv
  obtain ⟨rfl, hzz, hP, hK, hD0⟩ := hv
  have hx := B.exec
  have hb := B.bytes
  have hr := B.returns
  have hts := atoms_spec (ws := wsX1_read) B.pre
  have hown : s.vm.findClass RX1 = some m.cls := findClass_of_methodNamed B.named
  have hlocks := B.notSynchronized
  obtain ⟨hd5, hN1, hN2, hw1, hw2, hn1, hn2, hsz, hsz2⟩ := hs_okf ok
  have hnw : nw = N * w := ok.2.2.2.2.1
  subst hzz
  have hD := hD0.self (sz := s.heap.size)
  have hS : va_S (va_A [oM_ h0 hd hp d N w nw sz u kr dn lf dw, ar_ hd cA 600 F, ar_ hp cA 300 G] s.heap.size) s.heap s.heap [] := va_S.rf
  have hA : ∀ q : Nat, s.heap.size ≤ q → va_A [oM_ h0 hd hp d N w nw sz u kr dn lf dw, ar_ hd cA 600 F, ar_ hp cA 300 G] s.heap.size q := fun q h => Or.inr h
  have hl := lv_entry ([.ref h0, .int p1, .int p2]) (n := 3) (Nat.le_of_ble_eq_true rfl)
  rw [lg_entry_eq]
  generalize (lg_sl ([.ref h0, .int p1, .int p2]) ++ List.replicate (3 - (lg_sl ([.ref h0, .int p1, .int p2])).length) Slot.unset).toArray = ls at hl ⊢
  have hl : lv_has ls 3 [(0, .ref h0), (1, .int p1), (2, .int p2)] := hl
  refine lv_aload_n hx hb dX1_read_0 rfl (lv_at hl 0 rfl) ?_
  refine lv_iload_n hx hb dX1_read_1 rfl (lv_at hl 1 rfl) ?_
  refine hs_pe (v := hs_b (hs_hb N p1)) (va_runV (As := [.int p1]) (rest := []) ⟨hx, hb, hml, hown, hts⟩ (kX1_isBlock l dC dI h0 hd hp cA d N w nw sz u F G kr dn lf dw ok p1) (cwV 1 hts gX1_read_X1_isBlock rfl rfl rfl (by decide +kernel) ⟨(Nat.le_of_ble_eq_true rfl), (Nat.le_of_ble_eq_true rfl)⟩) (hs_preV (q := (RX1, TX1, 11)) (ci := 1) hK (hP.sub [0] rfl) rfl rfl) rfl rfl hl.1 rfl (lv_room (Nat.le_of_ble_eq_true rfl)) dX1_read_2 ⟨Nat.zero_le _, Nat.zero_le _⟩) hS hP (fun H locs hP hS => ?_)
  refine hs_beq (tgt := 20) hx hb dX1_read_5 (by decide) (fun c1 => ?_) (fun c1 => ?_)
  · refine lv_bipush (v := (-2)) hx hb dX1_read_20 (by decide) ?_
    exact W.iret (v := (-2)) hx hb hr (fun t ht hW => ⟨⟨(-2), ((F, u, kr, dn, lf, dw), G), rfl, ⟨hs_rd_1 (hs_af c1), _, rfl⟩, by rw [ht]; exact hP, va_K.moved hW.alike hK, hD⟩, hS.F ht⟩) hS.2.2 dX1_read_22
  · refine lv_iload_n hx hb dX1_read_8 rfl (lv_at hl 2 rfl) ?_
    refine lv_if_lt (tgt := 20) hx hb dX1_read_9 (by decide) (fun c2 => ?_) (fun c2 => ?_)
    · refine lv_bipush (v := (-2)) hx hb dX1_read_20 (by decide) ?_
      exact W.iret (v := (-2)) hx hb hr (fun t ht hW => ⟨⟨(-2), ((F, u, kr, dn, lf, dw), G), rfl, ⟨hs_rd_1 (hs_ag (hs_hb_n c2)), _, rfl⟩, by rw [ht]; exact hP, va_K.moved hW.alike hK, hD⟩, hS.F ht⟩) hS.2.2 dX1_read_22
    · refine lv_iload_n hx hb dX1_read_12 rfl (lv_at hl 2 rfl) ?_
      refine lv_aload_n hx hb dX1_read_13 rfl (lv_at hl 0 rfl) ?_
      refine va_get (D := (dC, dI)) (ci := 1) (v := .int (nI w)) (C := RX1) (T := TX1) (N := 11) hx hb hts (by decide +kernel) hown hK hP 0 rfl rfl 2 (by decide) (hts (.fieldLink RX1 26 "HashedStoreModel" "words" "I") (by decide +kernel)) (fun _ h9 => h9) rfl dX1_read_14 ?_
      refine lv_icmp_lt (tgt := 23) hx hb dX1_read_17 (by decide) (fun c3 => ?_) (fun c3 => ?_)
      · obtain ⟨⟨j, hj, rfl⟩, ⟨i, hi, rfl⟩⟩ := hs_and_t (hs_at c1 (hs_hb_o c2 c3)) (by omega) (by omega)
        have hrow := hs_row ok hj
        refine lv_aload_n hx hb dX1_read_23 rfl (lv_at hl 0 rfl) ?_
        refine va_get (D := (dC, dI)) (ci := 1) (v := .int (hs_b dw)) (C := RX1) (T := TX1) (N := 11) hx hb hts (by decide +kernel) hown hK hP 0 rfl rfl 10 (by decide) (hts (.fieldLink RX1 58 "HashedStoreModel" "isDown" "Z") (by decide +kernel)) (fun _ h9 => h9) rfl dX1_read_24 ?_
        refine hs_beq (tgt := 35) hx hb dX1_read_27 (by decide) (fun c4 => ?_) (fun c4 => ?_)
        · refine lv_aload_n hx hb dX1_read_35 rfl (lv_at hl 0 rfl) ?_
          refine lv_iload_n hx hb dX1_read_36 rfl (lv_at hl 1 rfl) ?_
          refine hs_ci (va_runV (As := [.int (nI j)]) (rest := []) ⟨hx, hb, hml, hown, hts⟩ (kX1_isRight l dC dI h0 hd hp cA d N w nw sz u F G kr dn lf dw ok _ j hj hu) (cwV 1 hts gX1_read_X1_isRight rfl rfl rfl (by decide +kernel) ⟨(Nat.le_of_ble_eq_true rfl), (Nat.le_of_ble_eq_true rfl)⟩) (hs_preM (q := (RX1, TX1, 11)) (ci := 1) hK hP hD rfl rfl) rfl rfl hl.1 rfl (lv_room (Nat.le_of_ble_eq_true rfl)) dX1_read_37 ⟨Nat.zero_le _, Nat.zero_le _⟩) hS hD hA (fun rv v H locs hv hP hD hS => ?_)
          obtain ⟨rfl, g, rfl, hg⟩ := hv
          have hP : va_P (dC, dI) vwCl [oM_ h0 hd hp d N w nw sz u kr dn lf dw, ar_ hd cA 600 F, ar_ hp cA 300 g] H := hP
          have hD : va_D (va_A [oM_ h0 hd hp d N w nw sz u kr dn lf dw, ar_ hd cA 600 F, ar_ hp cA 300 G] s.heap.size) [oM_ h0 hd hp d N w nw sz u kr dn lf dw, ar_ hd cA 600 F, ar_ hp cA 300 g] := hD
          refine hs_beq (tgt := 59) hx hb dX1_read_40 (by decide) (fun c5 => ?_) (fun c5 => ?_)
          · refine lv_bipush (v := (-3)) hx hb dX1_read_59 (by decide) ?_
            exact W.iret (v := (-3)) hx hb hr (fun t ht hW => ⟨⟨(-3), ((F, u, kr, dn, lf, dw), g), rfl, ⟨hs_rd_3 hj hi (by omega) (by omega) c4 c5, _, rfl⟩, by rw [ht]; exact hP, va_K.moved hW.alike hK, hD⟩, hS.F ht⟩) hS.2.2 dX1_read_61
          · refine lv_aload_n hx hb dX1_read_43 rfl (lv_at hl 0 rfl) ?_
            refine va_get (D := (dC, dI)) (ci := 1) (v := .ref hp) (C := RX1) (T := TX1) (N := 11) hx hb hts (by decide +kernel) hown hK hP 0 rfl rfl 5 (by decide) (hts (.fieldLink RX1 13 "HashedStoreModel" "goal" "[I") (by decide +kernel)) (fun _ h9 => h9) rfl dX1_read_44 ?_
            refine lv_iload_n hx hb dX1_read_47 rfl (lv_at hl 1 rfl) ?_
            refine lv_aload_n hx hb dX1_read_48 rfl (lv_at hl 0 rfl) ?_
            refine va_get (D := (dC, dI)) (ci := 1) (v := .int (nI w)) (C := RX1) (T := TX1) (N := 11) hx hb hts (by decide +kernel) hown hK hP 0 rfl rfl 2 (by decide) (hts (.fieldLink RX1 26 "HashedStoreModel" "words" "I") (by decide +kernel)) (fun _ h9 => h9) rfl dX1_read_49 ?_
            refine hs_mulN hx hb dX1_read_52 ?_
            refine lv_iload_n hx hb dX1_read_53 rfl (lv_at hl 2 rfl) ?_
            refine hs_addN hx hb dX1_read_54 ?_
            refine hs_ald hx hb hK hP 2 0 rfl rfl (k := (j * w) + i) (by omega) (by omega) dX1_read_55 ?_
            refine lv_goto (tgt := 61) hx hb dX1_read_56 (by decide) ?_
            exact W.iret (v := g ((j * w) + i)) hx hb hr (fun t ht hW => ⟨⟨g ((j * w) + i), ((F, u, kr, dn, lf, dw), g), rfl, ⟨(hg _ (by omega)).trans (hs_rd_4 hj hi (by omega) (by omega) c4 c5), _, rfl⟩, by rw [ht]; exact hP, va_K.moved hW.alike hK, hD⟩, hS.F ht⟩) hS.2.2 dX1_read_61
        · refine lv_bipush (v := (-4)) hx hb dX1_read_30 (by decide) ?_
          refine lv_goto (tgt := 61) hx hb dX1_read_32 (by decide) ?_
          exact W.iret (v := (-4)) hx hb hr (fun t ht hW => ⟨⟨(-4), ((F, u, kr, dn, lf, dw), G), rfl, ⟨hs_rd_2 hj hi (by omega) (by omega) c4, _, rfl⟩, by rw [ht]; exact hP, va_K.moved hW.alike hK, hD⟩, hS.F ht⟩) hS.2.2 dX1_read_61
      · refine lv_bipush (v := (-2)) hx hb dX1_read_20 (by decide) ?_
        exact W.iret (v := (-2)) hx hb hr (fun t ht hW => ⟨⟨(-2), ((F, u, kr, dn, lf, dw), G), rfl, ⟨hs_rd_1 (hs_ag (hs_hb_g (Int32.not_lt.mp c3))), _, rfl⟩, by rw [ht]; exact hP, va_K.moved hW.alike hK, hD⟩, hS.F ht⟩) hS.2.2 dX1_read_22
set_option maxHeartbeats 4000000 in
set_option maxRecDepth 100000 in
theorem kX1_verify (l : Launch) (dC : Nat → ClassId) (dI : Nat → Nat → Nat) (h0 hd hp : Nat) (cA : ClassId) (d N w nw sz u : Nat) (F G : Nat → Int32) (kr dn lf : Int32) (dw : Bool) (ok : hs_ok d N w nw sz) (zz : Nat) (p1 : Int32) (hu : u < 2) : Met l yX1_verify wsX1_verify ({ frames := 4, cells := 0, slots := 0, locals := 92 }) (va_Pc [.ref h0, .int p1] (hs_pm (dC, dI) vwCl [(cA, .int)] [oM_ h0 hd hp d N w nw sz u kr dn lf dw, ar_ hd cA 600 F, ar_ hp cA 300 G] zz)) (va_Qi (S := hs_S × (Nat → Int32)) (fun r uu => r = hs_b (hs_vf d N w nw sz p1 (F, u, kr, dn, lf, dw)) ∧ ∃ g, uu = ((F, u, kr, dn, lf, dw), g)) (hs_B (dC, dI) vwCl [(cA, .int)] (wfM h0 hd hp cA d N w nw sz) (va_A [oM_ h0 hd hp d N w nw sz u kr dn lf dw, ar_ hd cA 600 F, ar_ hp cA 300 G] zz)) (va_A [oM_ h0 hd hp d N w nw sz u kr dn lf dw, ar_ hd cA 600 F, ar_ hp cA 300 G] zz)) 0 0 (va_A [oM_ h0 hd hp d N w nw sz u kr dn lf dw, ar_ hd cA 600 F, ar_ hp cA 300 G] zz) := by
  refine Met.ofW (cc := cX1_verify) (maxL := 2) (ret := (some .boolean)) (by decide) rfl ?_
  intro p e s m args below meth c s₁ B hml hv
  obtain ⟨rfl, hzz, hP, hK, hD0⟩ := hv
  have hx := B.exec
  have hb := B.bytes
  have hr := B.returns
  have hts := atoms_spec (ws := wsX1_verify) B.pre
  have hown : s.vm.findClass RX1 = some m.cls := findClass_of_methodNamed B.named
  have hlocks := B.notSynchronized
  obtain ⟨hd5, hN1, hN2, hw1, hw2, hn1, hn2, hsz, hsz2⟩ := hs_okf ok
  have hnw : nw = N * w := ok.2.2.2.2.1
  subst hzz
  have hD := hD0.self (sz := s.heap.size)
  have hS : va_S (va_A [oM_ h0 hd hp d N w nw sz u kr dn lf dw, ar_ hd cA 600 F, ar_ hp cA 300 G] s.heap.size) s.heap s.heap [] := va_S.rf
  have hA : ∀ q : Nat, s.heap.size ≤ q → va_A [oM_ h0 hd hp d N w nw sz u kr dn lf dw, ar_ hd cA 600 F, ar_ hp cA 300 G] s.heap.size q := fun q h => Or.inr h
  have hl := lv_entry ([.ref h0, .int p1]) (n := 2) (Nat.le_of_ble_eq_true rfl)
  rw [lg_entry_eq]
  generalize (lg_sl ([.ref h0, .int p1]) ++ List.replicate (2 - (lg_sl ([.ref h0, .int p1])).length) Slot.unset).toArray = ls at hl ⊢
  have hl : lv_has ls 2 [(0, .ref h0), (1, .int p1)] := hl
  refine lv_aload_n hx hb dX1_verify_0 rfl (lv_at hl 0 rfl) ?_
  refine lv_iload_n hx hb dX1_verify_1 rfl (lv_at hl 1 rfl) ?_
  refine hs_pe (v := hs_b (hs_hb N p1)) (va_runV (As := [.int p1]) (rest := []) ⟨hx, hb, hml, hown, hts⟩ (kX1_isBlock l dC dI h0 hd hp cA d N w nw sz u F G kr dn lf dw ok p1) (cwV 1 hts gX1_verify_X1_isBlock rfl rfl rfl (by decide +kernel) ⟨(Nat.le_of_ble_eq_true rfl), (Nat.le_of_ble_eq_true rfl)⟩) (hs_preV (q := (RX1, TX1, 11)) (ci := 1) hK (hP.sub [0] rfl) rfl rfl) rfl rfl hl.1 rfl (lv_room (Nat.le_of_ble_eq_true rfl)) dX1_verify_2 ⟨Nat.zero_le _, Nat.zero_le _⟩) hS hP (fun H locs hP hS => ?_)
  refine hs_beq (tgt := 27) hx hb dX1_verify_5 (by decide) (fun c1 => ?_) (fun c1 => ?_)
  · refine lv_iconst (v := nI 0) hx hb dX1_verify_27 (by decide) ?_
    exact W.zret (v := nI 0) hx hb hr rfl (fun t ht hW => ⟨⟨nI 0, ((F, u, kr, dn, lf, dw), G), rfl, ⟨by rw [← hs_vf_1 c1]; rfl, _, rfl⟩, by rw [ht]; exact hP, va_K.moved hW.alike hK, hD⟩, hS.F ht⟩) hS.2.2 dX1_verify_28
  · obtain ⟨j, hj, rfl⟩ := hs_hb_t (by omega) c1
    refine lv_aload_n hx hb dX1_verify_8 rfl (lv_at hl 0 rfl) ?_
    refine va_get (D := (dC, dI)) (ci := 1) (v := .int (hs_b dw)) (C := RX1) (T := TX1) (N := 11) hx hb hts (by decide +kernel) hown hK hP 0 rfl rfl 10 (by decide) (hts (.fieldLink RX1 58 "HashedStoreModel" "isDown" "Z") (by decide +kernel)) (fun _ h9 => h9) rfl dX1_verify_9 ?_
    refine hs_bne (tgt := 27) hx hb dX1_verify_12 (by decide) (fun c2 => ?_) (fun c2 => ?_)
    · refine lv_iconst (v := nI 0) hx hb dX1_verify_27 (by decide) ?_
      exact W.zret (v := nI 0) hx hb hr rfl (fun t ht hW => ⟨⟨nI 0, ((F, u, kr, dn, lf, dw), G), rfl, ⟨by rw [← hs_vf_2 hj (by omega) c2]; rfl, _, rfl⟩, by rw [ht]; exact hP, va_K.moved hW.alike hK, hD⟩, hS.F ht⟩) hS.2.2 dX1_verify_28
    · refine lv_aload_n hx hb dX1_verify_15 rfl (lv_at hl 0 rfl) ?_
      refine lv_iload_n hx hb dX1_verify_16 rfl (lv_at hl 1 rfl) ?_
      refine hs_ci (va_runV (As := [.int (nI j)]) (rest := []) ⟨hx, hb, hml, hown, hts⟩ (kX1_isRight l dC dI h0 hd hp cA d N w nw sz u F G kr dn lf dw ok _ j hj hu) (cwV 1 hts gX1_verify_X1_isRight rfl rfl rfl (by decide +kernel) ⟨(Nat.le_of_ble_eq_true rfl), (Nat.le_of_ble_eq_true rfl)⟩) (hs_preM (q := (RX1, TX1, 11)) (ci := 1) hK hP hD rfl rfl) rfl rfl hl.1 rfl (lv_room (Nat.le_of_ble_eq_true rfl)) dX1_verify_17 ⟨Nat.zero_le _, Nat.zero_le _⟩) hS hD hA (fun rv v H locs hv hP hD hS => ?_)
      obtain ⟨rfl, g, rfl, hg⟩ := hv
      have hP : va_P (dC, dI) vwCl [oM_ h0 hd hp d N w nw sz u kr dn lf dw, ar_ hd cA 600 F, ar_ hp cA 300 g] H := hP
      have hD : va_D (va_A [oM_ h0 hd hp d N w nw sz u kr dn lf dw, ar_ hd cA 600 F, ar_ hp cA 300 G] s.heap.size) [oM_ h0 hd hp d N w nw sz u kr dn lf dw, ar_ hd cA 600 F, ar_ hp cA 300 g] := hD
      refine hs_beq (tgt := 27) hx hb dX1_verify_20 (by decide) (fun c3 => ?_) (fun c3 => ?_)
      · refine lv_iconst (v := nI 0) hx hb dX1_verify_27 (by decide) ?_
        exact W.zret (v := nI 0) hx hb hr rfl (fun t ht hW => ⟨⟨nI 0, ((F, u, kr, dn, lf, dw), g), rfl, ⟨by rw [← hs_vf_3 hj (by omega) c2, c3]; rfl, _, rfl⟩, by rw [ht]; exact hP, va_K.moved hW.alike hK, hD⟩, hS.F ht⟩) hS.2.2 dX1_verify_28
      · refine lv_iconst (v := nI 1) hx hb dX1_verify_23 (by decide) ?_
        refine lv_goto (tgt := 28) hx hb dX1_verify_24 (by decide) ?_
        exact W.zret (v := nI 1) hx hb hr rfl (fun t ht hW => ⟨⟨nI 1, ((F, u, kr, dn, lf, dw), g), rfl, ⟨by rw [← hs_vf_3 hj (by omega) c2, c3]; rfl, _, rfl⟩, by rw [ht]; exact hP, va_K.moved hW.alike hK, hD⟩, hS.F ht⟩) hS.2.2 dX1_verify_28
set_option maxHeartbeats 4000000 in
set_option maxRecDepth 100000 in
theorem kX1_audit (l : Launch) (dC : Nat → ClassId) (dI : Nat → Nat → Nat) (h0 hd hp : Nat) (cA : ClassId) (d N w nw sz u : Nat) (F G : Nat → Int32) (kr dn lf : Int32) (dw : Bool) (ok : hs_ok d N w nw sz) (zz : Nat) (hu : u < 2) : Met l yX1_audit wsX1_audit ({ frames := 4, cells := 0, slots := 0, locals := 92 }) (va_Pc [.ref h0] (hs_pm (dC, dI) vwCl [(cA, .int)] [oM_ h0 hd hp d N w nw sz u kr dn lf dw, ar_ hd cA 600 F, ar_ hp cA 300 G] zz)) (va_Qi (S := hs_S × (Nat → Int32)) (fun r uu => r = hs_ad d N w nw sz (F, u, kr, dn, lf, dw) ∧ ∃ g, uu = ((F, u, kr, dn, lf, dw), g)) (hs_B (dC, dI) vwCl [(cA, .int)] (wfM h0 hd hp cA d N w nw sz) (va_A [oM_ h0 hd hp d N w nw sz u kr dn lf dw, ar_ hd cA 600 F, ar_ hp cA 300 G] zz)) (va_A [oM_ h0 hd hp d N w nw sz u kr dn lf dw, ar_ hd cA 600 F, ar_ hp cA 300 G] zz)) 0 0 (va_A [oM_ h0 hd hp d N w nw sz u kr dn lf dw, ar_ hd cA 600 F, ar_ hp cA 300 G] zz) := by
  refine Met.ofW (cc := cX1_audit) (maxL := 2) (ret := (some .int)) (by decide) rfl ?_
  intro p e s m args below meth c s₁ B hml hv
  obtain ⟨rfl, hzz, hP, hK, hD0⟩ := hv
  have hx := B.exec
  have hb := B.bytes
  have hr := B.returns
  have hts := atoms_spec (ws := wsX1_audit) B.pre
  have hown : s.vm.findClass RX1 = some m.cls := findClass_of_methodNamed B.named
  have hlocks := B.notSynchronized
  obtain ⟨hd5, hN1, hN2, hw1, hw2, hn1, hn2, hsz, hsz2⟩ := hs_okf ok
  have hnw : nw = N * w := ok.2.2.2.2.1
  subst hzz
  have hD := hD0.self (sz := s.heap.size)
  have hS : va_S (va_A [oM_ h0 hd hp d N w nw sz u kr dn lf dw, ar_ hd cA 600 F, ar_ hp cA 300 G] s.heap.size) s.heap s.heap [] := va_S.rf
  have hA : ∀ q : Nat, s.heap.size ≤ q → va_A [oM_ h0 hd hp d N w nw sz u kr dn lf dw, ar_ hd cA 600 F, ar_ hp cA 300 G] s.heap.size q := fun q h => Or.inr h
  have hl := lv_entry ([.ref h0]) (n := 2) (Nat.le_of_ble_eq_true rfl)
  rw [lg_entry_eq]
  generalize (lg_sl ([.ref h0]) ++ List.replicate (2 - (lg_sl ([.ref h0])).length) Slot.unset).toArray = ls at hl ⊢
  have hl : lv_has ls 2 [(0, .ref h0)] := hl
  refine lv_aload_n hx hb dX1_audit_0 rfl (lv_at hl 0 rfl) ?_
  refine va_get (D := (dC, dI)) (ci := 1) (v := .int (hs_b dw)) (C := RX1) (T := TX1) (N := 11) hx hb hts (by decide +kernel) hown hK hP 0 rfl rfl 10 (by decide) (hts (.fieldLink RX1 58 "HashedStoreModel" "isDown" "Z") (by decide +kernel)) (fun _ h9 => h9) rfl dX1_audit_1 ?_
  refine hs_beq (tgt := 10) hx hb dX1_audit_4 (by decide) (fun c1 => ?_) (fun c1 => ?_)
  · refine lv_iconst (v := nI 0) hx hb dX1_audit_10 (by decide) ?_
    refine lv_istore_n (lv' := [(1, .int (nI 0)), (0, .ref h0)]) hx hb dX1_audit_11 rfl hl (by decide) rfl (fun ls hl => ?_)
    have loop : ∀ (n : Nat) (i : Nat) (g : Nat → Int32) (H : Heap) (locs : List Loc) (ls : Array Slot), (i + n = N) → (hs_au (hs_rg d N w nw (hs_vw sz F u) kr) n i = hs_au (hs_rg d N w nw (hs_vw sz F u) kr) N 0) → va_P (dC, dI) vwCl [oM_ h0 hd hp d N w nw sz u kr dn lf dw, ar_ hd cA 600 F, ar_ hp cA 300 g] H → va_D (va_A [oM_ h0 hd hp d N w nw sz u kr dn lf dw, ar_ hd cA 600 F, ar_ hp cA 300 G] s.heap.size) [oM_ h0 hd hp d N w nw sz u kr dn lf dw, ar_ hd cA 600 F, ar_ hp cA 300 g] → va_S (va_A [oM_ h0 hd hp d N w nw sz u kr dn lf dw, ar_ hd cA 600 F, ar_ hp cA 300 G] s.heap.size) s.heap H locs → lv_has ls 2 [(1, .int (nI i)), (0, .ref h0)] → W p l e (headSpec wsX1_audit ({ frames := 4, cells := 0, slots := 0, locals := 92 })).room s m ([.ref h0] : List Value).toArray below meth c H locs 0 0 (MQ below (va_Qi (S := hs_S × (Nat → Int32)) (fun r uu => r = hs_ad d N w nw sz (F, u, kr, dn, lf, dw) ∧ ∃ g, uu = ((F, u, kr, dn, lf, dw), g)) (hs_B (dC, dI) vwCl [(cA, .int)] (wfM h0 hd hp cA d N w nw sz) (va_A [oM_ h0 hd hp d N w nw sz u kr dn lf dw, ar_ hd cA 600 F, ar_ hp cA 300 G] s.heap.size)) (va_A [oM_ h0 hd hp d N w nw sz u kr dn lf dw, ar_ hd cA 600 F, ar_ hp cA 300 G] s.heap.size)) ([.ref h0] : List Value).toArray s 0 0 (va_A [oM_ h0 hd hp d N w nw sz u kr dn lf dw, ar_ hd cA 600 F, ar_ hp cA 300 G] s.heap.size)) (F0 m 12 ls []) := by
      intro n
      induction n with
      | zero =>
        intro i g H locs ls hi he hP hD hS hl
        refine lv_iload_n hx hb dX1_audit_12 rfl (lv_at hl 0 rfl) ?_
        refine lv_aload_n hx hb dX1_audit_13 rfl (lv_at hl 1 rfl) ?_
        refine va_get (D := (dC, dI)) (ci := 1) (v := .int (nI N)) (C := RX1) (T := TX1) (N := 11) hx hb hts (by decide +kernel) hown hK hP 0 rfl rfl 1 (by decide) (hts (.fieldLink RX1 23 "HashedStoreModel" "blocks" "I") (by decide +kernel)) (fun _ h9 => h9) rfl dX1_audit_14 ?_
        refine hs_cge (tgt := 36) hx hb (by omega) (by omega) dX1_audit_17 (by decide) (fun c2 => ?_) (fun c2 => ?_)
        · refine lv_iconst (v := (-1)) hx hb dX1_audit_36 (by decide) ?_
          exact W.iret (v := (-1)) hx hb hr (fun t ht hW => ⟨⟨(-1), ((F, u, kr, dn, lf, dw), g), rfl, ⟨by rw [← hs_ad_2 c1, ← he]; rfl, _, rfl⟩, by rw [ht]; exact hP, va_K.moved hW.alike hK, hD⟩, hS.F ht⟩) hS.2.2 dX1_audit_37
        · exact absurd c2 (by omega)
      | succ n ih =>
        intro i g H locs ls hi he hP hD hS hl
        refine lv_iload_n hx hb dX1_audit_12 rfl (lv_at hl 0 rfl) ?_
        refine lv_aload_n hx hb dX1_audit_13 rfl (lv_at hl 1 rfl) ?_
        refine va_get (D := (dC, dI)) (ci := 1) (v := .int (nI N)) (C := RX1) (T := TX1) (N := 11) hx hb hts (by decide +kernel) hown hK hP 0 rfl rfl 1 (by decide) (hts (.fieldLink RX1 23 "HashedStoreModel" "blocks" "I") (by decide +kernel)) (fun _ h9 => h9) rfl dX1_audit_14 ?_
        refine hs_cge (tgt := 36) hx hb (by omega) (by omega) dX1_audit_17 (by decide) (fun c2 => ?_) (fun c2 => ?_)
        · exact absurd c2 (by omega)
        · refine lv_aload_n hx hb dX1_audit_20 rfl (lv_at hl 1 rfl) ?_
          refine lv_iload_n hx hb dX1_audit_21 rfl (lv_at hl 0 rfl) ?_
          refine hs_ci (va_runV (As := [.int (nI i)]) (rest := []) ⟨hx, hb, hml, hown, hts⟩ (kX1_isRight l dC dI h0 hd hp cA d N w nw sz u F g kr dn lf dw ok _ i (by omega) hu) (cwV 1 hts gX1_audit_X1_isRight rfl rfl rfl (by decide +kernel) ⟨(Nat.le_of_ble_eq_true rfl), (Nat.le_of_ble_eq_true rfl)⟩) (hs_preM (q := (RX1, TX1, 11)) (ci := 1) hK hP hD rfl rfl) rfl rfl hl.1 rfl (lv_room (Nat.le_of_ble_eq_true rfl)) dX1_audit_22 ⟨Nat.zero_le _, Nat.zero_le _⟩) hS hD hA (fun rv v H locs hv hP hD hS => ?_)
          obtain ⟨rfl, g1, rfl, hg⟩ := hv
          have hP : va_P (dC, dI) vwCl [oM_ h0 hd hp d N w nw sz u kr dn lf dw, ar_ hd cA 600 F, ar_ hp cA 300 g1] H := hP
          have hD : va_D (va_A [oM_ h0 hd hp d N w nw sz u kr dn lf dw, ar_ hd cA 600 F, ar_ hp cA 300 G] s.heap.size) [oM_ h0 hd hp d N w nw sz u kr dn lf dw, ar_ hd cA 600 F, ar_ hp cA 300 g1] := hD
          refine hs_bne (tgt := 30) hx hb dX1_audit_25 (by decide) (fun c3 => ?_) (fun c3 => ?_)
          · refine lv_iinc (v := nI (i + 1)) (lv' := [(1, .int (nI (i + 1))), (0, .ref h0)]) hx hb dX1_audit_30 hl (k := 0) rfl (nI_1 _) (by decide) rfl (fun ls hl => ?_)
            refine lv_goto (tgt := 12) hx hb dX1_audit_33 (by decide) ?_
            exact ih (i + 1) g1 H locs ls (by omega) ((if_pos c3).symm.trans he) hP hD hS (lv_sub hl [0, 1] rfl)
          · refine lv_iload_n hx hb dX1_audit_28 rfl (lv_at hl 0 rfl) ?_
            exact W.iret (v := nI i) hx hb hr (fun t ht hW => ⟨⟨nI i, ((F, u, kr, dn, lf, dw), g1), rfl, ⟨by rw [← hs_ad_2 c1, ← he]; exact (if_neg (hs_ff c3)).symm, _, rfl⟩, by rw [ht]; exact hP, va_K.moved hW.alike hK, hD⟩, hS.F ht⟩) hS.2.2 dX1_audit_29
    exact loop N 0 G _ _ ls (by omega) rfl hP hD hS (lv_sub hl [0, 1] rfl)
  · refine lv_bipush (v := (-4)) hx hb dX1_audit_7 (by decide) ?_
    exact W.iret (v := (-4)) hx hb hr (fun t ht hW => ⟨⟨(-4), ((F, u, kr, dn, lf, dw), G), rfl, ⟨hs_ad_1 c1, _, rfl⟩, by rw [ht]; exact hP, va_K.moved hW.alike hK, hD⟩, hS.F ht⟩) hS.2.2 dX1_audit_9
set_option maxHeartbeats 4000000 in
set_option maxRecDepth 100000 in
theorem kX1_write (l : Launch) (dC : Nat → ClassId) (dI : Nat → Nat → Nat) (h0 hd hp : Nat) (cA : ClassId) (d N w nw sz u : Nat) (F G : Nat → Int32) (kr dn lf : Int32) (dw : Bool) (ok : hs_ok d N w nw sz) (zz : Nat) (p1 p2 p3 : Int32) (hu : u < 2) (hlo : hs_lo lf) : Met l yX1_write wsX1_write ({ frames := 4, cells := 0, slots := 0, locals := 92 }) (va_Pc [.ref h0, .int p1, .int p2, .int p3] (hs_pm (dC, dI) vwCl [(cA, .int)] [oM_ h0 hd hp d N w nw sz u kr dn lf dw, ar_ hd cA 600 F, ar_ hp cA 300 G] zz)) (va_Qi (S := hs_S × (Nat → Int32)) (fun r uu => (r, uu.1) = hs_wr d N w nw sz p1 p2 p3 (F, u, kr, dn, lf, dw)) (hs_B (dC, dI) vwCl [(cA, .int)] (wfM h0 hd hp cA d N w nw sz) (va_A [oM_ h0 hd hp d N w nw sz u kr dn lf dw, ar_ hd cA 600 F, ar_ hp cA 300 G] zz)) (va_A [oM_ h0 hd hp d N w nw sz u kr dn lf dw, ar_ hd cA 600 F, ar_ hp cA 300 G] zz)) 0 0 (va_A [oM_ h0 hd hp d N w nw sz u kr dn lf dw, ar_ hd cA 600 F, ar_ hp cA 300 G] zz) := by
  refine Met.ofW (cc := cX1_write) (maxL := 6) (ret := (some .int)) (by decide) rfl ?_
  intro p e s m args below meth c s₁ B hml hv
  obtain ⟨rfl, hzz, hP, hK, hD0⟩ := hv
  have hx := B.exec
  have hb := B.bytes
  have hr := B.returns
  have hts := atoms_spec (ws := wsX1_write) B.pre
  have hown : s.vm.findClass RX1 = some m.cls := findClass_of_methodNamed B.named
  have hlocks := B.notSynchronized
  obtain ⟨hd5, hN1, hN2, hw1, hw2, hn1, hn2, hsz, hsz2⟩ := hs_okf ok
  have hnw : nw = N * w := ok.2.2.2.2.1
  subst hzz
  have hD := hD0.self (sz := s.heap.size)
  have hS : va_S (va_A [oM_ h0 hd hp d N w nw sz u kr dn lf dw, ar_ hd cA 600 F, ar_ hp cA 300 G] s.heap.size) s.heap s.heap [] := va_S.rf
  have hA : ∀ q : Nat, s.heap.size ≤ q → va_A [oM_ h0 hd hp d N w nw sz u kr dn lf dw, ar_ hd cA 600 F, ar_ hp cA 300 G] s.heap.size q := fun q h => Or.inr h
  have hl := lv_entry ([.ref h0, .int p1, .int p2, .int p3]) (n := 6) (Nat.le_of_ble_eq_true rfl)
  rw [lg_entry_eq]
  generalize (lg_sl ([.ref h0, .int p1, .int p2, .int p3]) ++ List.replicate (6 - (lg_sl ([.ref h0, .int p1, .int p2, .int p3])).length) Slot.unset).toArray = ls at hl ⊢
  have hl : lv_has ls 6 [(0, .ref h0), (1, .int p1), (2, .int p2), (3, .int p3)] := hl
  refine lv_aload_n hx hb dX1_write_0 rfl (lv_at hl 0 rfl) ?_
  refine lv_iload_n hx hb dX1_write_1 rfl (lv_at hl 1 rfl) ?_
  refine hs_pe (v := hs_b (hs_hb N p1)) (va_runV (As := [.int p1]) (rest := []) ⟨hx, hb, hml, hown, hts⟩ (kX1_isBlock l dC dI h0 hd hp cA d N w nw sz u F G kr dn lf dw ok p1) (cwV 1 hts gX1_write_X1_isBlock rfl rfl rfl (by decide +kernel) ⟨(Nat.le_of_ble_eq_true rfl), (Nat.le_of_ble_eq_true rfl)⟩) (hs_preV (q := (RX1, TX1, 11)) (ci := 1) hK (hP.sub [0] rfl) rfl rfl) rfl rfl hl.1 rfl (lv_room (Nat.le_of_ble_eq_true rfl)) dX1_write_2 ⟨Nat.zero_le _, Nat.zero_le _⟩) hS hP (fun H locs hP hS => ?_)
  refine hs_beq (tgt := 24) hx hb dX1_write_5 (by decide) (fun c1 => ?_) (fun c1 => ?_)
  · refine lv_bipush (v := (-2)) hx hb dX1_write_24 (by decide) ?_
    exact W.iret (v := (-2)) hx hb hr (fun t ht hW => ⟨⟨(-2), ((F, u, kr, dn, lf, dw), G), rfl, (by rw [hs_wr_1 (hs_af c1)]), by rw [ht]; exact hP, va_K.moved hW.alike hK, hD⟩, hS.F ht⟩) hS.2.2 dX1_write_26
  · refine lv_iload_n hx hb dX1_write_8 rfl (lv_at hl 2 rfl) ?_
    refine lv_if_lt (tgt := 24) hx hb dX1_write_9 (by decide) (fun c2 => ?_) (fun c2 => ?_)
    · refine lv_bipush (v := (-2)) hx hb dX1_write_24 (by decide) ?_
      exact W.iret (v := (-2)) hx hb hr (fun t ht hW => ⟨⟨(-2), ((F, u, kr, dn, lf, dw), G), rfl, (by rw [hs_wr_1 (hs_ag (hs_hb_n c2))]), by rw [ht]; exact hP, va_K.moved hW.alike hK, hD⟩, hS.F ht⟩) hS.2.2 dX1_write_26
    · refine lv_iload_n hx hb dX1_write_12 rfl (lv_at hl 2 rfl) ?_
      refine lv_aload_n hx hb dX1_write_13 rfl (lv_at hl 0 rfl) ?_
      refine va_get (D := (dC, dI)) (ci := 1) (v := .int (nI w)) (C := RX1) (T := TX1) (N := 11) hx hb hts (by decide +kernel) hown hK hP 0 rfl rfl 2 (by decide) (hts (.fieldLink RX1 26 "HashedStoreModel" "words" "I") (by decide +kernel)) (fun _ h9 => h9) rfl dX1_write_14 ?_
      refine lv_icmp_ge (tgt := 24) hx hb dX1_write_17 (by decide) (fun c3 => ?_) (fun c3 => ?_)
      · refine lv_bipush (v := (-2)) hx hb dX1_write_24 (by decide) ?_
        exact W.iret (v := (-2)) hx hb hr (fun t ht hW => ⟨⟨(-2), ((F, u, kr, dn, lf, dw), G), rfl, (by rw [hs_wr_1 (hs_ag (hs_hb_g c3))]), by rw [ht]; exact hP, va_K.moved hW.alike hK, hD⟩, hS.F ht⟩) hS.2.2 dX1_write_26
      · refine lv_iload_n hx hb dX1_write_20 rfl (lv_at hl 3 rfl) ?_
        refine lv_if_ge (tgt := 27) hx hb dX1_write_21 (by decide) (fun c4 => ?_) (fun c4 => ?_)
        · obtain ⟨⟨j, hj, rfl⟩, ⟨i, hi, rfl⟩⟩ := hs_and_t (hs_at c1 (hs_hb_o c2 (Int32.not_le.mp c3))) (by omega) (by omega)
          have hrow := hs_row ok hj
          have c0 := Int32.not_lt.mpr c4
          refine lv_aload_n hx hb dX1_write_27 rfl (lv_at hl 0 rfl) ?_
          refine va_get (D := (dC, dI)) (ci := 1) (v := .int (hs_b dw)) (C := RX1) (T := TX1) (N := 11) hx hb hts (by decide +kernel) hown hK hP 0 rfl rfl 10 (by decide) (hts (.fieldLink RX1 58 "HashedStoreModel" "isDown" "Z") (by decide +kernel)) (fun _ h9 => h9) rfl dX1_write_28 ?_
          refine hs_beq (tgt := 37) hx hb dX1_write_31 (by decide) (fun c5 => ?_) (fun c5 => ?_)
          · refine lv_aload_n hx hb dX1_write_37 rfl (lv_at hl 0 rfl) ?_
            refine lv_iload_n hx hb dX1_write_38 rfl (lv_at hl 1 rfl) ?_
            refine hs_ci (va_runV (As := [.int (nI j)]) (rest := []) ⟨hx, hb, hml, hown, hts⟩ (kX1_isRight l dC dI h0 hd hp cA d N w nw sz u F G kr dn lf dw ok _ j hj hu) (cwV 1 hts gX1_write_X1_isRight rfl rfl rfl (by decide +kernel) ⟨(Nat.le_of_ble_eq_true rfl), (Nat.le_of_ble_eq_true rfl)⟩) (hs_preM (q := (RX1, TX1, 11)) (ci := 1) hK hP hD rfl rfl) rfl rfl hl.1 rfl (lv_room (Nat.le_of_ble_eq_true rfl)) dX1_write_39 ⟨Nat.zero_le _, Nat.zero_le _⟩) hS hD hA (fun rv v H locs hv hP hD hS => ?_)
            obtain ⟨rfl, g, rfl, hg⟩ := hv
            have hP : va_P (dC, dI) vwCl [oM_ h0 hd hp d N w nw sz u kr dn lf dw, ar_ hd cA 600 F, ar_ hp cA 300 g] H := hP
            have hD : va_D (va_A [oM_ h0 hd hp d N w nw sz u kr dn lf dw, ar_ hd cA 600 F, ar_ hp cA 300 G] s.heap.size) [oM_ h0 hd hp d N w nw sz u kr dn lf dw, ar_ hd cA 600 F, ar_ hp cA 300 g] := hD
            refine hs_bne (tgt := 48) hx hb dX1_write_42 (by decide) (fun c6 => ?_) (fun c6 => ?_)
            · refine lv_aload_n hx hb dX1_write_48 rfl (lv_at hl 0 rfl) ?_
              refine va_get (D := (dC, dI)) (ci := 1) (v := .ref hp) (C := RX1) (T := TX1) (N := 11) hx hb hts (by decide +kernel) hown hK hP 0 rfl rfl 5 (by decide) (hts (.fieldLink RX1 13 "HashedStoreModel" "goal" "[I") (by decide +kernel)) (fun _ h9 => h9) rfl dX1_write_49 ?_
              refine lv_iload_n hx hb dX1_write_52 rfl (lv_at hl 1 rfl) ?_
              refine lv_aload_n hx hb dX1_write_53 rfl (lv_at hl 0 rfl) ?_
              refine va_get (D := (dC, dI)) (ci := 1) (v := .int (nI w)) (C := RX1) (T := TX1) (N := 11) hx hb hts (by decide +kernel) hown hK hP 0 rfl rfl 2 (by decide) (hts (.fieldLink RX1 26 "HashedStoreModel" "words" "I") (by decide +kernel)) (fun _ h9 => h9) rfl dX1_write_54 ?_
              refine hs_mulN hx hb dX1_write_57 ?_
              refine lv_iload_n hx hb dX1_write_58 rfl (lv_at hl 2 rfl) ?_
              refine hs_addN hx hb dX1_write_59 ?_
              refine lv_iload_n hx hb dX1_write_60 rfl (lv_at hl 3 rfl) ?_
              refine hs_ast hx hb hK hP hD hS 2 0 rfl rfl (k := (j * w) + i) (by omega) (by omega) dX1_write_61 (fun H locs hP hD hS => ?_)
              have hP : va_P (dC, dI) vwCl [oM_ h0 hd hp d N w nw sz u kr dn lf dw, ar_ hd cA 600 F, ar_ hp cA 300 (upd g ((j * w) + i) p3)] H := hP
              have hD : va_D (va_A [oM_ h0 hd hp d N w nw sz u kr dn lf dw, ar_ hd cA 600 F, ar_ hp cA 300 G] s.heap.size) [oM_ h0 hd hp d N w nw sz u kr dn lf dw, ar_ hd cA 600 F, ar_ hp cA 300 (upd g ((j * w) + i) p3)] := hD
              refine lv_aload_n hx hb dX1_write_62 rfl (lv_at hl 0 rfl) ?_
              refine lv_iload_n hx hb dX1_write_63 rfl (lv_at hl 1 rfl) ?_
              refine lv_iconst (v := hs_b true) hx hb dX1_write_64 (by decide) ?_
              refine hs_ci (va_runV (As := [.int (nI j), .int (hs_b true)]) (rest := []) ⟨hx, hb, hml, hown, hts⟩ (kX1_way_t l dC dI h0 hd hp cA d N w nw sz u F (upd g ((j * w) + i) p3) kr dn lf dw ok _ j hj) (cwV 2 hts gX1_write_X1_way rfl rfl rfl (by decide +kernel) ⟨(Nat.le_of_ble_eq_true rfl), (Nat.le_of_ble_eq_true rfl)⟩) (hs_preM (q := (RX1, TX1, 11)) (ci := 1) hK hP hD rfl rfl) rfl rfl hl.1 rfl (lv_room (Nat.le_of_ble_eq_true rfl)) dX1_write_65 ⟨Nat.zero_le _, Nat.zero_le _⟩) hS hD hA (fun rv v H locs hv hP hD hS => ?_)
              obtain ⟨rfl, rfl⟩ := hv
              obtain ⟨hpl1, hpl2⟩ := hs_pl_c (i := i) ok hj hg p3
              have hP : va_P (dC, dI) vwCl [oM_ h0 hd hp d N w nw sz u kr dn lf dw, ar_ hd cA 600 F, ar_ hp cA 300 ((hs_pw nw d (N + j) (hs_bl (upd g (j * w + i) p3) w (j * w) (nI j)) (upd g (j * w + i) p3)).1)] H := hP
              have hD : va_D (va_A [oM_ h0 hd hp d N w nw sz u kr dn lf dw, ar_ hd cA 600 F, ar_ hp cA 300 G] s.heap.size) [oM_ h0 hd hp d N w nw sz u kr dn lf dw, ar_ hd cA 600 F, ar_ hp cA 300 ((hs_pw nw d (N + j) (hs_bl (upd g (j * w + i) p3) w (j * w) (nI j)) (upd g (j * w + i) p3)).1)] := hD
              obtain ⟨g2, rt, hg2⟩ : ∃ g2 rt, hs_pl d N w nw g j i p3 = (g2, rt) := ⟨_, _, rfl⟩
              obtain ⟨gv, rv, hgv⟩ : ∃ g2 rt, hs_pl d N w nw (hs_vw sz F u) j i p3 = (g2, rt) := ⟨_, _, rfl⟩
              rw [hg2, hgv] at hpl1 hpl2
              have hpl2 : rt = rv := hpl2
              rw [show (hs_pw nw d (N + j) (hs_bl (upd g (j * w + i) p3) w (j * w) (nI j)) (upd g (j * w + i) p3)) = (g2, rt) from hg2] at hP hD ⊢
              have hP : va_P (dC, dI) vwCl [oM_ h0 hd hp d N w nw sz u kr dn lf dw, ar_ hd cA 600 F, ar_ hp cA 300 g2] H := hP
              have hD : va_D (va_A [oM_ h0 hd hp d N w nw sz u kr dn lf dw, ar_ hd cA 600 F, ar_ hp cA 300 G] s.heap.size) [oM_ h0 hd hp d N w nw sz u kr dn lf dw, ar_ hd cA 600 F, ar_ hp cA 300 g2] := hD
              have hgc : hs_ps ((1 - u) * sz) g2 (hs_cs N nw) (F, lf, dn, dw) = hs_ps ((1 - u) * sz) gv (hs_cs N nw) (F, lf, dn, dw) := hs_ps_c _ _ (fun k hk => hpl1 k (hs_cs_lt hN1 hsz k hk))
              refine lv_istore (lv' := [(4, .int rt), (0, .ref h0), (1, .int (nI j)), (2, .int (nI i)), (3, .int p3)]) hx hb dX1_write_68 hl (by decide) rfl (fun ls hl => ?_)
              refine lv_iconst (v := nI 0) hx hb dX1_write_70 (by decide) ?_
              refine lv_istore (lv' := [(5, .int (nI 0)), (4, .int rt), (0, .ref h0), (1, .int (nI j)), (2, .int (nI i)), (3, .int p3)]) hx hb dX1_write_71 hl (by decide) rfl (fun ls hl => ?_)
              have loop2 : ∀ (n : Nat) (F1 : Nat → Int32) (lf1 : Int32) (dn1 : Int32) (dw1 : Bool) (H : Heap) (locs : List Loc) (ls : Array Slot), (n ≤ 2 * N - 1) → (hs_lo lf1) → (hs_ps ((1 - u) * sz) g2 (hs_ds nw n) (F1, lf1, dn1, dw1) = hs_ps ((1 - u) * sz) g2 (hs_cs N nw) (F, lf, dn, dw)) → va_P (dC, dI) vwCl [oM_ h0 hd hp d N w nw sz u kr dn1 lf1 dw1, ar_ hd cA 600 F1, ar_ hp cA 300 g2] H → va_D (va_A [oM_ h0 hd hp d N w nw sz u kr dn lf dw, ar_ hd cA 600 F, ar_ hp cA 300 G] s.heap.size) [oM_ h0 hd hp d N w nw sz u kr dn1 lf1 dw1, ar_ hd cA 600 F1, ar_ hp cA 300 g2] → va_S (va_A [oM_ h0 hd hp d N w nw sz u kr dn lf dw, ar_ hd cA 600 F, ar_ hp cA 300 G] s.heap.size) s.heap H locs → lv_has ls 6 [(5, .int (nI n)), (4, .int rt), (0, .ref h0), (1, .int (nI j)), (2, .int (nI i)), (3, .int p3)] → W p l e (headSpec wsX1_write ({ frames := 4, cells := 0, slots := 0, locals := 92 })).room s m ([.ref h0, .int (nI j), .int (nI i), .int p3] : List Value).toArray below meth c H locs 0 0 (MQ below (va_Qi (S := hs_S × (Nat → Int32)) (fun r uu => (r, uu.1) = hs_wr d N w nw sz (nI j) (nI i) p3 (F, u, kr, dn, lf, dw)) (hs_B (dC, dI) vwCl [(cA, .int)] (wfM h0 hd hp cA d N w nw sz) (va_A [oM_ h0 hd hp d N w nw sz u kr dn lf dw, ar_ hd cA 600 F, ar_ hp cA 300 G] s.heap.size)) (va_A [oM_ h0 hd hp d N w nw sz u kr dn lf dw, ar_ hd cA 600 F, ar_ hp cA 300 G] s.heap.size)) ([.ref h0, .int (nI j), .int (nI i), .int p3] : List Value).toArray s 0 0 (va_A [oM_ h0 hd hp d N w nw sz u kr dn lf dw, ar_ hd cA 600 F, ar_ hp cA 300 G] s.heap.size)) (F0 m 115 ls []) := by
                intro n
                induction n with
                | zero =>
                  intro F1 lf1 dn1 dw1 H locs ls hn3 hlo1 he hP hD hS hl
                  refine lv_iload hx hb dX1_write_115 (lv_at hl 0 rfl) ?_
                  refine hs_zle (tgt := 142) hx hb (by omega) dX1_write_117 (by decide) (fun c8 => ?_) (fun c8 => ?_)
                  · have e9 : hs_ps ((1 - u) * sz) gv (hs_cs N nw) (F, lf, dn, dw) = ((F1, lf1, dn1, dw1), true) := by rw [← hgc, ← he]; rfl
                    refine lv_aload_n hx hb dX1_write_142 rfl (lv_at hl 2 rfl) ?_
                    refine lv_iconst (v := nI 1) hx hb dX1_write_143 (by decide) ?_
                    refine lv_aload_n hx hb dX1_write_144 rfl (lv_at hl 2 rfl) ?_
                    refine va_get (D := (dC, dI)) (ci := 1) (v := .int (nI u)) (C := RX1) (T := TX1) (N := 11) hx hb hts (by decide +kernel) hown hK hP 0 rfl rfl 6 (by decide) (hts (.fieldLink RX1 42 "HashedStoreModel" "used" "I") (by decide +kernel)) (fun _ h9 => h9) rfl dX1_write_145 ?_
                    refine hs_subN hx hb (by omega) dX1_write_148 ?_
                    refine va_put (D := (dC, dI)) (ci := 1) (v := .int (nI (1 - u))) (ty := .int) (C := RX1) (T := TX1) (N := 11) hx hb hts (by decide +kernel) tyX1 tyX1_ok nmX1 hown hK hP hD hS 0 rfl rfl 6 (by decide) (hts (.fieldLink RX1 42 "HashedStoreModel" "used" "I") (by decide +kernel)) (fun _ h9 => h9) rfl (by decide +kernel) rfl rfl (Nat.le_of_ble_eq_true rfl) dX1_write_149 (fun H locs hP hD hS => ?_)
                    have hP : va_P (dC, dI) vwCl [oM_ h0 hd hp d N w nw sz (1 - u) kr dn1 lf1 dw1, ar_ hd cA 600 F1, ar_ hp cA 300 g2] H := hP
                    have hD : va_D (va_A [oM_ h0 hd hp d N w nw sz u kr dn lf dw, ar_ hd cA 600 F, ar_ hp cA 300 G] s.heap.size) [oM_ h0 hd hp d N w nw sz (1 - u) kr dn1 lf1 dw1, ar_ hd cA 600 F1, ar_ hp cA 300 g2] := hD
                    refine lv_aload_n hx hb dX1_write_152 rfl (lv_at hl 2 rfl) ?_
                    refine lv_iload hx hb dX1_write_153 (lv_at hl 1 rfl) ?_
                    refine va_put (D := (dC, dI)) (ci := 1) (v := .int rt) (ty := .int) (C := RX1) (T := TX1) (N := 11) hx hb hts (by decide +kernel) tyX1 tyX1_ok nmX1 hown hK hP hD hS 0 rfl rfl 7 (by decide) (hts (.fieldLink RX1 52 "HashedStoreModel" "kept" "I") (by decide +kernel)) (fun _ h9 => h9) rfl (by decide +kernel) rfl rfl (Nat.le_of_ble_eq_true rfl) dX1_write_155 (fun H locs hP hD hS => ?_)
                    have hP : va_P (dC, dI) vwCl [oM_ h0 hd hp d N w nw sz (1 - u) rt dn1 lf1 dw1, ar_ hd cA 600 F1, ar_ hp cA 300 g2] H := hP
                    have hD : va_D (va_A [oM_ h0 hd hp d N w nw sz u kr dn lf dw, ar_ hd cA 600 F, ar_ hp cA 300 G] s.heap.size) [oM_ h0 hd hp d N w nw sz (1 - u) rt dn1 lf1 dw1, ar_ hd cA 600 F1, ar_ hp cA 300 g2] := hD
                    refine lv_iconst (v := nI 0) hx hb dX1_write_158 (by decide) ?_
                    exact W.iret (v := nI 0) hx hb hr (fun t ht hW => ⟨⟨nI 0, ((F1, 1 - u, rt, dn1, lf1, dw1), g2), rfl, (by rw [hs_wr_6 hj hi (by omega) (by omega) c0 c5 c6 hgv e9, hpl2]; rfl), by rw [ht]; exact hP, va_K.moved hW.alike hK, hD⟩, hS.F ht⟩) hS.2.2 dX1_write_159
                  · exact absurd c8 (by omega)
                | succ n ih =>
                  intro F1 lf1 dn1 dw1 H locs ls hn3 hlo1 he hP hD hS hl
                  refine lv_iload hx hb dX1_write_115 (lv_at hl 0 rfl) ?_
                  refine hs_zle (tgt := 142) hx hb (by omega) dX1_write_117 (by decide) (fun c8 => ?_) (fun c8 => ?_)
                  · exact absurd c8 (by omega)
                  · refine lv_aload_n hx hb dX1_write_120 rfl (lv_at hl 2 rfl) ?_
                    refine lv_aload_n hx hb dX1_write_121 rfl (lv_at hl 2 rfl) ?_
                    refine lv_iload hx hb dX1_write_122 (lv_at hl 0 rfl) ?_
                    refine hs_pe (v := nI (nw + (n + 1) - 1)) (va_runV (As := [.int (nI (n + 1))]) (rest := [.ref h0]) ⟨hx, hb, hml, hown, hts⟩ (kX1_node l dC dI h0 hd hp cA d N w nw sz u F1 g2 kr dn1 lf1 dw1 ok (n + 1)) (cwV 1 hts gX1_write_X1_node rfl rfl rfl (by decide +kernel) ⟨(Nat.le_of_ble_eq_true rfl), (Nat.le_of_ble_eq_true rfl)⟩) (hs_preV (q := (RX1, TX1, 11)) (ci := 1) hK (hP.sub [0] rfl) rfl rfl) rfl rfl hl.1 rfl (lv_room (Nat.le_of_ble_eq_true rfl)) dX1_write_124 ⟨Nat.zero_le _, Nat.zero_le _⟩) hS hP (fun H locs hP hS => ?_)
                    refine hs_ci (va_runV (As := [.int (nI (nw + (n + 1) - 1))]) (rest := []) ⟨hx, hb, hml, hown, hts⟩ (kX1_put l dC dI h0 hd hp cA d N w nw sz u F1 g2 kr dn1 lf1 dw1 ok _ (nw + (n + 1) - 1) (by omega) hu hlo1) (cwV 1 hts gX1_write_X1_put rfl rfl rfl (by decide +kernel) ⟨(Nat.le_of_ble_eq_true rfl), (Nat.le_of_ble_eq_true rfl)⟩) (hs_preM (q := (RX1, TX1, 11)) (ci := 1) hK hP hD rfl rfl) rfl rfl hl.1 rfl (lv_room (Nat.le_of_ble_eq_true rfl)) dX1_write_127 ⟨Nat.zero_le _, Nat.zero_le _⟩) hS hD hA (fun rv v H locs hv hP hD hS => ?_)
                    obtain ⟨rfl, rfl⟩ := hv
                    have hP : va_P (dC, dI) vwCl [oM_ h0 hd hp d N w nw sz u kr ((hs_put ((1 - u) * sz) g2 (nw + (n + 1) - 1) (F1, lf1, dn1, dw1)).1.2.2.1) ((hs_put ((1 - u) * sz) g2 (nw + (n + 1) - 1) (F1, lf1, dn1, dw1)).1.2.1) ((hs_put ((1 - u) * sz) g2 (nw + (n + 1) - 1) (F1, lf1, dn1, dw1)).1.2.2.2), ar_ hd cA 600 ((hs_put ((1 - u) * sz) g2 (nw + (n + 1) - 1) (F1, lf1, dn1, dw1)).1.1), ar_ hp cA 300 g2] H := hP
                    have hD : va_D (va_A [oM_ h0 hd hp d N w nw sz u kr dn lf dw, ar_ hd cA 600 F, ar_ hp cA 300 G] s.heap.size) [oM_ h0 hd hp d N w nw sz u kr ((hs_put ((1 - u) * sz) g2 (nw + (n + 1) - 1) (F1, lf1, dn1, dw1)).1.2.2.1) ((hs_put ((1 - u) * sz) g2 (nw + (n + 1) - 1) (F1, lf1, dn1, dw1)).1.2.1) ((hs_put ((1 - u) * sz) g2 (nw + (n + 1) - 1) (F1, lf1, dn1, dw1)).1.2.2.2), ar_ hd cA 600 ((hs_put ((1 - u) * sz) g2 (nw + (n + 1) - 1) (F1, lf1, dn1, dw1)).1.1), ar_ hp cA 300 g2] := hD
                    refine hs_bne (tgt := 136) hx hb dX1_write_130 (by decide) (fun c7 => ?_) (fun c7 => ?_)
                    · refine lv_iinc (v := nI n) (lv' := [(5, .int (nI n)), (4, .int rt), (0, .ref h0), (1, .int (nI j)), (2, .int (nI i)), (3, .int p3)]) hx hb dX1_write_136 hl (k := 0) rfl (pk_m1 _) (by decide) rfl (fun ls hl => ?_)
                      refine lv_goto (tgt := 115) hx hb dX1_write_139 (by decide) ?_
                      exact ih _ _ _ _ H locs ls (by omega) (hs_put_lo hlo1) ((hs_psp c7).symm.trans he) hP hD hS (lv_sub hl [0, 1, 2, 3, 4, 5] rfl)
                    · have e9 : hs_ps ((1 - u) * sz) gv (hs_cs N nw) (F, lf, dn, dw) = (((hs_put ((1 - u) * sz) g2 (nw + (n + 1) - 1) (F1, lf1, dn1, dw1)).1.1, (hs_put ((1 - u) * sz) g2 (nw + (n + 1) - 1) (F1, lf1, dn1, dw1)).1.2.1, (hs_put ((1 - u) * sz) g2 (nw + (n + 1) - 1) (F1, lf1, dn1, dw1)).1.2.2.1, (hs_put ((1 - u) * sz) g2 (nw + (n + 1) - 1) (F1, lf1, dn1, dw1)).1.2.2.2), false) := by rw [← hgc, ← he]; exact (hs_psn c7).trans (Prod.ext rfl c7)
                      refine lv_bipush (v := (-4)) hx hb dX1_write_133 (by decide) ?_
                      exact W.iret (v := (-4)) hx hb hr (fun t ht hW => ⟨⟨(-4), (((hs_put ((1 - u) * sz) g2 (nw + (n + 1) - 1) (F1, lf1, dn1, dw1)).1.1, u, kr, (hs_put ((1 - u) * sz) g2 (nw + (n + 1) - 1) (F1, lf1, dn1, dw1)).1.2.2.1, (hs_put ((1 - u) * sz) g2 (nw + (n + 1) - 1) (F1, lf1, dn1, dw1)).1.2.1, (hs_put ((1 - u) * sz) g2 (nw + (n + 1) - 1) (F1, lf1, dn1, dw1)).1.2.2.2), g2), rfl, (by rw [hs_wr_5 hj hi (by omega) (by omega) c0 c5 c6 hgv e9]), by rw [ht]; exact hP, va_K.moved hW.alike hK, hD⟩, hS.F ht⟩) hS.2.2 dX1_write_135
              have loop1 : ∀ (n : Nat) (y : Nat) (F1 : Nat → Int32) (lf1 : Int32) (dn1 : Int32) (dw1 : Bool) (H : Heap) (locs : List Loc) (ls : Array Slot), (y + n = nw) → (hs_lo lf1) → (hs_ps ((1 - u) * sz) g2 (hs_us n y ++ hs_ds nw (2 * N - 1)) (F1, lf1, dn1, dw1) = hs_ps ((1 - u) * sz) g2 (hs_cs N nw) (F, lf, dn, dw)) → va_P (dC, dI) vwCl [oM_ h0 hd hp d N w nw sz u kr dn1 lf1 dw1, ar_ hd cA 600 F1, ar_ hp cA 300 g2] H → va_D (va_A [oM_ h0 hd hp d N w nw sz u kr dn lf dw, ar_ hd cA 600 F, ar_ hp cA 300 G] s.heap.size) [oM_ h0 hd hp d N w nw sz u kr dn1 lf1 dw1, ar_ hd cA 600 F1, ar_ hp cA 300 g2] → va_S (va_A [oM_ h0 hd hp d N w nw sz u kr dn lf dw, ar_ hd cA 600 F, ar_ hp cA 300 G] s.heap.size) s.heap H locs → lv_has ls 6 [(5, .int (nI y)), (4, .int rt), (0, .ref h0), (1, .int (nI j)), (2, .int (nI i)), (3, .int p3)] → W p l e (headSpec wsX1_write ({ frames := 4, cells := 0, slots := 0, locals := 92 })).room s m ([.ref h0, .int (nI j), .int (nI i), .int p3] : List Value).toArray below meth c H locs 0 0 (MQ below (va_Qi (S := hs_S × (Nat → Int32)) (fun r uu => (r, uu.1) = hs_wr d N w nw sz (nI j) (nI i) p3 (F, u, kr, dn, lf, dw)) (hs_B (dC, dI) vwCl [(cA, .int)] (wfM h0 hd hp cA d N w nw sz) (va_A [oM_ h0 hd hp d N w nw sz u kr dn lf dw, ar_ hd cA 600 F, ar_ hp cA 300 G] s.heap.size)) (va_A [oM_ h0 hd hp d N w nw sz u kr dn lf dw, ar_ hd cA 600 F, ar_ hp cA 300 G] s.heap.size)) ([.ref h0, .int (nI j), .int (nI i), .int p3] : List Value).toArray s 0 0 (va_A [oM_ h0 hd hp d N w nw sz u kr dn lf dw, ar_ hd cA 600 F, ar_ hp cA 300 G] s.heap.size)) (F0 m 73 ls []) := by
                intro n
                induction n with
                | zero =>
                  intro y F1 lf1 dn1 dw1 H locs ls hy hlo1 he hP hD hS hl
                  refine lv_iload hx hb dX1_write_73 (lv_at hl 0 rfl) ?_
                  refine lv_aload_n hx hb dX1_write_75 rfl (lv_at hl 2 rfl) ?_
                  refine va_get (D := (dC, dI)) (ci := 1) (v := .int (nI N)) (C := RX1) (T := TX1) (N := 11) hx hb hts (by decide +kernel) hown hK hP 0 rfl rfl 1 (by decide) (hts (.fieldLink RX1 23 "HashedStoreModel" "blocks" "I") (by decide +kernel)) (fun _ h9 => h9) rfl dX1_write_76 ?_
                  refine lv_aload_n hx hb dX1_write_79 rfl (lv_at hl 2 rfl) ?_
                  refine va_get (D := (dC, dI)) (ci := 1) (v := .int (nI w)) (C := RX1) (T := TX1) (N := 11) hx hb hts (by decide +kernel) hown hK hP 0 rfl rfl 2 (by decide) (hts (.fieldLink RX1 26 "HashedStoreModel" "words" "I") (by decide +kernel)) (fun _ h9 => h9) rfl dX1_write_80 ?_
                  refine hs_mulN hx hb dX1_write_83 ?_
                  refine hs_cge (tgt := 105) hx hb (by omega) (by omega) dX1_write_84 (by decide) (fun c8 => ?_) (fun c8 => ?_)
                  · refine lv_iconst (v := nI 2) hx hb dX1_write_105 (by decide) ?_
                    refine lv_aload_n hx hb dX1_write_106 rfl (lv_at hl 2 rfl) ?_
                    refine va_get (D := (dC, dI)) (ci := 1) (v := .int (nI N)) (C := RX1) (T := TX1) (N := 11) hx hb hts (by decide +kernel) hown hK hP 0 rfl rfl 1 (by decide) (hts (.fieldLink RX1 23 "HashedStoreModel" "blocks" "I") (by decide +kernel)) (fun _ h9 => h9) rfl dX1_write_107 ?_
                    refine hs_mulN hx hb dX1_write_110 ?_
                    refine lv_iconst (v := nI 1) hx hb dX1_write_111 (by decide) ?_
                    refine hs_subN hx hb (by omega) dX1_write_112 ?_
                    refine lv_istore (lv' := [(5, .int (nI ((2 * N) - 1))), (4, .int rt), (0, .ref h0), (1, .int (nI j)), (2, .int (nI i)), (3, .int p3)]) hx hb dX1_write_113 hl (by decide) rfl (fun ls hl => ?_)
                    exact loop2 (2 * N - 1) F1 lf1 dn1 dw1 H locs ls (Nat.le_refl _) hlo1 he hP hD hS (lv_sub hl [0, 1, 2, 3, 4, 5] rfl)
                  · exact absurd c8 (by omega)
                | succ n ih =>
                  intro y F1 lf1 dn1 dw1 H locs ls hy hlo1 he hP hD hS hl
                  refine lv_iload hx hb dX1_write_73 (lv_at hl 0 rfl) ?_
                  refine lv_aload_n hx hb dX1_write_75 rfl (lv_at hl 2 rfl) ?_
                  refine va_get (D := (dC, dI)) (ci := 1) (v := .int (nI N)) (C := RX1) (T := TX1) (N := 11) hx hb hts (by decide +kernel) hown hK hP 0 rfl rfl 1 (by decide) (hts (.fieldLink RX1 23 "HashedStoreModel" "blocks" "I") (by decide +kernel)) (fun _ h9 => h9) rfl dX1_write_76 ?_
                  refine lv_aload_n hx hb dX1_write_79 rfl (lv_at hl 2 rfl) ?_
                  refine va_get (D := (dC, dI)) (ci := 1) (v := .int (nI w)) (C := RX1) (T := TX1) (N := 11) hx hb hts (by decide +kernel) hown hK hP 0 rfl rfl 2 (by decide) (hts (.fieldLink RX1 26 "HashedStoreModel" "words" "I") (by decide +kernel)) (fun _ h9 => h9) rfl dX1_write_80 ?_
                  refine hs_mulN hx hb dX1_write_83 ?_
                  refine hs_cge (tgt := 105) hx hb (by omega) (by omega) dX1_write_84 (by decide) (fun c8 => ?_) (fun c8 => ?_)
                  · exact absurd c8 (by omega)
                  · refine lv_aload_n hx hb dX1_write_87 rfl (lv_at hl 2 rfl) ?_
                    refine lv_iload hx hb dX1_write_88 (lv_at hl 0 rfl) ?_
                    refine hs_ci (va_runV (As := [.int (nI y)]) (rest := []) ⟨hx, hb, hml, hown, hts⟩ (kX1_put l dC dI h0 hd hp cA d N w nw sz u F1 g2 kr dn1 lf1 dw1 ok _ y (by omega) hu hlo1) (cwV 1 hts gX1_write_X1_put rfl rfl rfl (by decide +kernel) ⟨(Nat.le_of_ble_eq_true rfl), (Nat.le_of_ble_eq_true rfl)⟩) (hs_preM (q := (RX1, TX1, 11)) (ci := 1) hK hP hD rfl rfl) rfl rfl hl.1 rfl (lv_room (Nat.le_of_ble_eq_true rfl)) dX1_write_90 ⟨Nat.zero_le _, Nat.zero_le _⟩) hS hD hA (fun rv v H locs hv hP hD hS => ?_)
                    obtain ⟨rfl, rfl⟩ := hv
                    have hP : va_P (dC, dI) vwCl [oM_ h0 hd hp d N w nw sz u kr ((hs_put ((1 - u) * sz) g2 y (F1, lf1, dn1, dw1)).1.2.2.1) ((hs_put ((1 - u) * sz) g2 y (F1, lf1, dn1, dw1)).1.2.1) ((hs_put ((1 - u) * sz) g2 y (F1, lf1, dn1, dw1)).1.2.2.2), ar_ hd cA 600 ((hs_put ((1 - u) * sz) g2 y (F1, lf1, dn1, dw1)).1.1), ar_ hp cA 300 g2] H := hP
                    have hD : va_D (va_A [oM_ h0 hd hp d N w nw sz u kr dn lf dw, ar_ hd cA 600 F, ar_ hp cA 300 G] s.heap.size) [oM_ h0 hd hp d N w nw sz u kr ((hs_put ((1 - u) * sz) g2 y (F1, lf1, dn1, dw1)).1.2.2.1) ((hs_put ((1 - u) * sz) g2 y (F1, lf1, dn1, dw1)).1.2.1) ((hs_put ((1 - u) * sz) g2 y (F1, lf1, dn1, dw1)).1.2.2.2), ar_ hd cA 600 ((hs_put ((1 - u) * sz) g2 y (F1, lf1, dn1, dw1)).1.1), ar_ hp cA 300 g2] := hD
                    refine hs_bne (tgt := 99) hx hb dX1_write_93 (by decide) (fun c7 => ?_) (fun c7 => ?_)
                    · refine lv_iinc (v := nI (y + 1)) (lv' := [(5, .int (nI (y + 1))), (4, .int rt), (0, .ref h0), (1, .int (nI j)), (2, .int (nI i)), (3, .int p3)]) hx hb dX1_write_99 hl (k := 0) rfl (nI_1 _) (by decide) rfl (fun ls hl => ?_)
                      refine lv_goto (tgt := 73) hx hb dX1_write_102 (by decide) ?_
                      exact ih (y + 1) _ _ _ _ H locs ls (by omega) (hs_put_lo hlo1) ((hs_psp c7).symm.trans he) hP hD hS (lv_sub hl [0, 1, 2, 3, 4, 5] rfl)
                    · have e9 : hs_ps ((1 - u) * sz) gv (hs_cs N nw) (F, lf, dn, dw) = (((hs_put ((1 - u) * sz) g2 y (F1, lf1, dn1, dw1)).1.1, (hs_put ((1 - u) * sz) g2 y (F1, lf1, dn1, dw1)).1.2.1, (hs_put ((1 - u) * sz) g2 y (F1, lf1, dn1, dw1)).1.2.2.1, (hs_put ((1 - u) * sz) g2 y (F1, lf1, dn1, dw1)).1.2.2.2), false) := by rw [← hgc, ← he]; exact (hs_psn c7).trans (Prod.ext rfl c7)
                      refine lv_bipush (v := (-4)) hx hb dX1_write_96 (by decide) ?_
                      exact W.iret (v := (-4)) hx hb hr (fun t ht hW => ⟨⟨(-4), (((hs_put ((1 - u) * sz) g2 y (F1, lf1, dn1, dw1)).1.1, u, kr, (hs_put ((1 - u) * sz) g2 y (F1, lf1, dn1, dw1)).1.2.2.1, (hs_put ((1 - u) * sz) g2 y (F1, lf1, dn1, dw1)).1.2.1, (hs_put ((1 - u) * sz) g2 y (F1, lf1, dn1, dw1)).1.2.2.2), g2), rfl, (by rw [hs_wr_5 hj hi (by omega) (by omega) c0 c5 c6 hgv e9]), by rw [ht]; exact hP, va_K.moved hW.alike hK, hD⟩, hS.F ht⟩) hS.2.2 dX1_write_98
              exact loop1 nw 0 F lf dn dw _ _ ls (by omega) hlo rfl hP hD hS (lv_sub hl [0, 1, 2, 3, 4, 5] rfl)
            · refine lv_bipush (v := (-3)) hx hb dX1_write_45 (by decide) ?_
              exact W.iret (v := (-3)) hx hb hr (fun t ht hW => ⟨⟨(-3), ((F, u, kr, dn, lf, dw), g), rfl, (by rw [hs_wr_4 hj hi (by omega) (by omega) c0 c5 c6]), by rw [ht]; exact hP, va_K.moved hW.alike hK, hD⟩, hS.F ht⟩) hS.2.2 dX1_write_47
          · refine lv_bipush (v := (-4)) hx hb dX1_write_34 (by decide) ?_
            exact W.iret (v := (-4)) hx hb hr (fun t ht hW => ⟨⟨(-4), ((F, u, kr, dn, lf, dw), G), rfl, (by rw [hs_wr_3 hj hi (by omega) (by omega) c0 c5]), by rw [ht]; exact hP, va_K.moved hW.alike hK, hD⟩, hS.F ht⟩) hS.2.2 dX1_write_36
        · refine lv_bipush (v := (-2)) hx hb dX1_write_24 (by decide) ?_
          exact W.iret (v := (-2)) hx hb hr (fun t ht hW => ⟨⟨(-2), ((F, u, kr, dn, lf, dw), G), rfl, (by rw [hs_wr_2 (Int32.not_le.mp c4)]), by rw [ht]; exact hP, va_K.moved hW.alike hK, hD⟩, hS.F ht⟩) hS.2.2 dX1_write_26
set_option maxHeartbeats 4000000 in
set_option maxRecDepth 100000 in
theorem kX1_tamper (l : Launch) (dC : Nat → ClassId) (dI : Nat → Nat → Nat) (h0 hd hp : Nat) (cA : ClassId) (d N w nw sz u : Nat) (F G : Nat → Int32) (kr dn lf : Int32) (dw : Bool) (ok : hs_ok d N w nw sz) (zz : Nat) (p1 p2 : Int32) : Met l yX1_tamper wsX1_tamper ({ frames := 0, cells := 0, slots := 0, locals := 0 }) (va_Pc [.ref h0, .int p1, .int p2] (hs_pm (dC, dI) vwCl [(cA, .int)] [oM_ h0 hd hp d N w nw sz u kr dn lf dw, ar_ hd cA 600 F, ar_ hp cA 300 G] zz)) (va_Qv (S := hs_S × (Nat → Int32)) (fun uu => uu = (hs_tm sz p1 p2 (F, u, kr, dn, lf, dw), G)) (hs_B (dC, dI) vwCl [(cA, .int)] (wfM h0 hd hp cA d N w nw sz) (va_A [oM_ h0 hd hp d N w nw sz u kr dn lf dw, ar_ hd cA 600 F, ar_ hp cA 300 G] zz)) (va_A [oM_ h0 hd hp d N w nw sz u kr dn lf dw, ar_ hd cA 600 F, ar_ hp cA 300 G] zz)) 0 0 (va_A [oM_ h0 hd hp d N w nw sz u kr dn lf dw, ar_ hd cA 600 F, ar_ hp cA 300 G] zz) := by
  refine Met.ofW (cc := cX1_tamper) (maxL := 3) (ret := none) (by decide) rfl ?_
  intro p e s m args below meth c s₁ B hml hv
  obtain ⟨rfl, hzz, hP, hK, hD0⟩ := hv
  have hx := B.exec
  have hb := B.bytes
  have hr := B.returns
  have hts := atoms_spec (ws := wsX1_tamper) B.pre
  have hown : s.vm.findClass RX1 = some m.cls := findClass_of_methodNamed B.named
  have hlocks := B.notSynchronized
  obtain ⟨hd5, hN1, hN2, hw1, hw2, hn1, hn2, hsz, hsz2⟩ := hs_okf ok
  have hnw : nw = N * w := ok.2.2.2.2.1
  subst hzz
  have hD := hD0.self (sz := s.heap.size)
  have hS : va_S (va_A [oM_ h0 hd hp d N w nw sz u kr dn lf dw, ar_ hd cA 600 F, ar_ hp cA 300 G] s.heap.size) s.heap s.heap [] := va_S.rf
  have hA : ∀ q : Nat, s.heap.size ≤ q → va_A [oM_ h0 hd hp d N w nw sz u kr dn lf dw, ar_ hd cA 600 F, ar_ hp cA 300 G] s.heap.size q := fun q h => Or.inr h
  have hl := lv_entry ([.ref h0, .int p1, .int p2]) (n := 3) (Nat.le_of_ble_eq_true rfl)
  rw [lg_entry_eq]
  generalize (lg_sl ([.ref h0, .int p1, .int p2]) ++ List.replicate (3 - (lg_sl ([.ref h0, .int p1, .int p2])).length) Slot.unset).toArray = ls at hl ⊢
  have hl : lv_has ls 3 [(0, .ref h0), (1, .int p1), (2, .int p2)] := hl
  refine lv_iload_n hx hb dX1_tamper_0 rfl (lv_at hl 1 rfl) ?_
  refine lv_if_lt (tgt := 21) hx hb dX1_tamper_1 (by decide) (fun c1 => ?_) (fun c1 => ?_)
  · exact W.vret hx hb hr (fun t ht hW => ⟨⟨((F, u, kr, dn, lf, dw), G), rfl, (by rw [hs_tm_1 (hs_hb_n c1)]), by rw [ht]; exact hP, va_K.moved hW.alike hK, hD⟩, hS.F ht⟩) hS.2.2 dX1_tamper_21
  · refine lv_iload_n hx hb dX1_tamper_4 rfl (lv_at hl 1 rfl) ?_
    refine lv_iconst (v := nI 2) hx hb dX1_tamper_5 (by decide) ?_
    refine lv_aload_n hx hb dX1_tamper_6 rfl (lv_at hl 0 rfl) ?_
    refine va_get (D := (dC, dI)) (ci := 1) (v := .int (nI sz)) (C := RX1) (T := TX1) (N := 11) hx hb hts (by decide +kernel) hown hK hP 0 rfl rfl 3 (by decide) (hts (.fieldLink RX1 29 "HashedStoreModel" "size" "I") (by decide +kernel)) (fun _ h9 => h9) rfl dX1_tamper_7 ?_
    refine hs_mulN hx hb dX1_tamper_10 ?_
    refine lv_icmp_ge (tgt := 21) hx hb dX1_tamper_11 (by decide) (fun c2 => ?_) (fun c2 => ?_)
    · exact W.vret hx hb hr (fun t ht hW => ⟨⟨((F, u, kr, dn, lf, dw), G), rfl, (by rw [hs_tm_1 (hs_hb_g c2)]), by rw [ht]; exact hP, va_K.moved hW.alike hK, hD⟩, hS.F ht⟩) hS.2.2 dX1_tamper_21
    · obtain ⟨j, hj, rfl⟩ := hs_hb_t (by omega) (hs_hb_o c1 (Int32.not_le.mp c2))
      refine lv_aload_n hx hb dX1_tamper_14 rfl (lv_at hl 0 rfl) ?_
      refine va_get (D := (dC, dI)) (ci := 1) (v := .ref hd) (C := RX1) (T := TX1) (N := 11) hx hb hts (by decide +kernel) hown hK hP 0 rfl rfl 4 (by decide) (hts (.fieldLink RX1 7 "HashedStoreModel" "disk" "[I") (by decide +kernel)) (fun _ h9 => h9) rfl dX1_tamper_15 ?_
      refine lv_iload_n hx hb dX1_tamper_18 rfl (lv_at hl 1 rfl) ?_
      refine lv_iload_n hx hb dX1_tamper_19 rfl (lv_at hl 2 rfl) ?_
      refine hs_ast hx hb hK hP hD hS 1 0 rfl rfl (k := j) (by omega) (by omega) dX1_tamper_20 (fun H locs hP hD hS => ?_)
      have hP : va_P (dC, dI) vwCl [oM_ h0 hd hp d N w nw sz u kr dn lf dw, ar_ hd cA 600 (upd F j p2), ar_ hp cA 300 G] H := hP
      have hD : va_D (va_A [oM_ h0 hd hp d N w nw sz u kr dn lf dw, ar_ hd cA 600 F, ar_ hp cA 300 G] s.heap.size) [oM_ h0 hd hp d N w nw sz u kr dn lf dw, ar_ hd cA 600 (upd F j p2), ar_ hp cA 300 G] := hD
      exact W.vret hx hb hr (fun t ht hW => ⟨⟨((upd F j p2, u, kr, dn, lf, dw), G), rfl, (by rw [hs_tm_2 hj (by omega)]), by rw [ht]; exact hP, va_K.moved hW.alike hK, hD⟩, hS.F ht⟩) hS.2.2 dX1_tamper_21
set_option maxHeartbeats 4000000 in
set_option maxRecDepth 100000 in
theorem kX1_peek (l : Launch) (dC : Nat → ClassId) (dI : Nat → Nat → Nat) (h0 hd hp : Nat) (cA : ClassId) (d N w nw sz u : Nat) (F G : Nat → Int32) (kr dn lf : Int32) (dw : Bool) (ok : hs_ok d N w nw sz) (p1 : Int32) : Met l yX1_peek wsX1_peek ({ frames := 0, cells := 0, slots := 0, locals := 0 }) (va_Pc [.ref h0, .int p1] (hs_pr (dC, dI) vwCl [(cA, .int)] [oM_ h0 hd hp d N w nw sz u kr dn lf dw, ar_ hd cA 600 F])) (hs_Qp (fun r => r = hs_pk sz F p1)) 0 0 (fun _ => False) := by
  refine Met.ofW (cc := cX1_peek) (maxL := 2) (ret := (some .int)) (by decide) rfl ?_
  intro p e s m args below meth c s₁ B hml hv
  obtain ⟨rfl, hP, hK⟩ := hv
  have hx := B.exec
  have hb := B.bytes
  have hr := B.returns
  have hts := atoms_spec (ws := wsX1_peek) B.pre
  have hown : s.vm.findClass RX1 = some m.cls := findClass_of_methodNamed B.named
  have hlocks := B.notSynchronized
  obtain ⟨hd5, hN1, hN2, hw1, hw2, hn1, hn2, hsz, hsz2⟩ := hs_okf ok
  have hnw : nw = N * w := ok.2.2.2.2.1
  have hS : va_S (fun _ => False) s.heap s.heap [] := va_S.rf
  have hl := lv_entry ([.ref h0, .int p1]) (n := 2) (Nat.le_of_ble_eq_true rfl)
  rw [lg_entry_eq]
  generalize (lg_sl ([.ref h0, .int p1]) ++ List.replicate (2 - (lg_sl ([.ref h0, .int p1])).length) Slot.unset).toArray = ls at hl ⊢
  have hl : lv_has ls 2 [(0, .ref h0), (1, .int p1)] := hl
  refine lv_iload_n hx hb dX1_peek_0 rfl (lv_at hl 1 rfl) ?_
  refine lv_if_lt (tgt := 14) hx hb dX1_peek_1 (by decide) (fun c1 => ?_) (fun c1 => ?_)
  · refine lv_iconst (v := nI 0) hx hb dX1_peek_14 (by decide) ?_
    refine lv_goto (tgt := 24) hx hb dX1_peek_15 (by decide) ?_
    exact W.iret (v := nI 0) hx hb hr (fun t ht hW => ⟨⟨nI 0, (), rfl, (hs_pk_1 (hs_hb_n c1)), trivial⟩, hS.F ht⟩) hS.2.2 dX1_peek_24
  · refine lv_iload_n hx hb dX1_peek_4 rfl (lv_at hl 1 rfl) ?_
    refine lv_iconst (v := nI 2) hx hb dX1_peek_5 (by decide) ?_
    refine lv_aload_n hx hb dX1_peek_6 rfl (lv_at hl 0 rfl) ?_
    refine va_get (D := (dC, dI)) (ci := 1) (v := .int (nI sz)) (C := RX1) (T := TX1) (N := 11) hx hb hts (by decide +kernel) hown hK hP 0 rfl rfl 3 (by decide) (hts (.fieldLink RX1 29 "HashedStoreModel" "size" "I") (by decide +kernel)) (fun _ h9 => h9) rfl dX1_peek_7 ?_
    refine hs_mulN hx hb dX1_peek_10 ?_
    refine lv_icmp_lt (tgt := 18) hx hb dX1_peek_11 (by decide) (fun c2 => ?_) (fun c2 => ?_)
    · obtain ⟨j, hj, rfl⟩ := hs_hb_t (by omega) (hs_hb_o c1 c2)
      refine lv_aload_n hx hb dX1_peek_18 rfl (lv_at hl 0 rfl) ?_
      refine va_get (D := (dC, dI)) (ci := 1) (v := .ref hd) (C := RX1) (T := TX1) (N := 11) hx hb hts (by decide +kernel) hown hK hP 0 rfl rfl 4 (by decide) (hts (.fieldLink RX1 7 "HashedStoreModel" "disk" "[I") (by decide +kernel)) (fun _ h9 => h9) rfl dX1_peek_19 ?_
      refine lv_iload_n hx hb dX1_peek_22 rfl (lv_at hl 1 rfl) ?_
      refine hs_ald hx hb hK hP 1 0 rfl rfl (k := j) (by omega) (by omega) dX1_peek_23 ?_
      exact W.iret (v := F j) hx hb hr (fun t ht hW => ⟨⟨F j, (), rfl, (hs_pk_2 hj (by omega)), trivial⟩, hS.F ht⟩) hS.2.2 dX1_peek_24
    · refine lv_iconst (v := nI 0) hx hb dX1_peek_14 (by decide) ?_
      refine lv_goto (tgt := 24) hx hb dX1_peek_15 (by decide) ?_
      exact W.iret (v := nI 0) hx hb hr (fun t ht hW => ⟨⟨nI 0, (), rfl, (hs_pk_1 (hs_hb_g (Int32.not_lt.mp c2))), trivial⟩, hS.F ht⟩) hS.2.2 dX1_peek_24
set_option maxHeartbeats 4000000 in
set_option maxRecDepth 100000 in
theorem kX1_crashAfter (l : Launch) (dC : Nat → ClassId) (dI : Nat → Nat → Nat) (h0 hd hp : Nat) (cA : ClassId) (d N w nw sz u : Nat) (F G : Nat → Int32) (kr dn lf : Int32) (dw : Bool) (ok : hs_ok d N w nw sz) (zz : Nat) (p1 : Int32) : Met l yX1_crashAfter wsX1_crashAfter ({ frames := 0, cells := 0, slots := 0, locals := 0 }) (va_Pc [.ref h0, .int p1] (hs_pm (dC, dI) vwCl [(cA, .int)] [oM_ h0 hd hp d N w nw sz u kr dn lf dw, ar_ hd cA 600 F, ar_ hp cA 300 G] zz)) (va_Qv (S := hs_S × (Nat → Int32)) (fun uu => uu = (hs_cr p1 (F, u, kr, dn, lf, dw), G)) (hs_B (dC, dI) vwCl [(cA, .int)] (wfM h0 hd hp cA d N w nw sz) (va_A [oM_ h0 hd hp d N w nw sz u kr dn lf dw, ar_ hd cA 600 F, ar_ hp cA 300 G] zz)) (va_A [oM_ h0 hd hp d N w nw sz u kr dn lf dw, ar_ hd cA 600 F, ar_ hp cA 300 G] zz)) 0 0 (va_A [oM_ h0 hd hp d N w nw sz u kr dn lf dw, ar_ hd cA 600 F, ar_ hp cA 300 G] zz) := by
  refine Met.ofW (cc := cX1_crashAfter) (maxL := 2) (ret := none) (by decide) rfl ?_
  intro p e s m args below meth c s₁ B hml hv
  obtain ⟨rfl, hzz, hP, hK, hD0⟩ := hv
  have hx := B.exec
  have hb := B.bytes
  have hr := B.returns
  have hts := atoms_spec (ws := wsX1_crashAfter) B.pre
  have hown : s.vm.findClass RX1 = some m.cls := findClass_of_methodNamed B.named
  have hlocks := B.notSynchronized
  obtain ⟨hd5, hN1, hN2, hw1, hw2, hn1, hn2, hsz, hsz2⟩ := hs_okf ok
  have hnw : nw = N * w := ok.2.2.2.2.1
  subst hzz
  have hD := hD0.self (sz := s.heap.size)
  have hS : va_S (va_A [oM_ h0 hd hp d N w nw sz u kr dn lf dw, ar_ hd cA 600 F, ar_ hp cA 300 G] s.heap.size) s.heap s.heap [] := va_S.rf
  have hA : ∀ q : Nat, s.heap.size ≤ q → va_A [oM_ h0 hd hp d N w nw sz u kr dn lf dw, ar_ hd cA 600 F, ar_ hp cA 300 G] s.heap.size q := fun q h => Or.inr h
  have hl := lv_entry ([.ref h0, .int p1]) (n := 2) (Nat.le_of_ble_eq_true rfl)
  rw [lg_entry_eq]
  generalize (lg_sl ([.ref h0, .int p1]) ++ List.replicate (2 - (lg_sl ([.ref h0, .int p1])).length) Slot.unset).toArray = ls at hl ⊢
  have hl : lv_has ls 2 [(0, .ref h0), (1, .int p1)] := hl
  refine lv_iload_n hx hb dX1_crashAfter_0 rfl (lv_at hl 1 rfl) ?_
  refine lv_if_lt (tgt := 16) hx hb dX1_crashAfter_1 (by decide) (fun c1 => ?_) (fun c1 => ?_)
  · exact W.vret hx hb hr (fun t ht hW => ⟨⟨((F, u, kr, dn, lf, dw), G), rfl, (by rw [hs_cr_1 c1]), by rw [ht]; exact hP, va_K.moved hW.alike hK, hD⟩, hS.F ht⟩) hS.2.2 dX1_crashAfter_16
  · refine lv_aload_n hx hb dX1_crashAfter_4 rfl (lv_at hl 0 rfl) ?_
    refine va_get (D := (dC, dI)) (ci := 1) (v := .int (hs_b dw)) (C := RX1) (T := TX1) (N := 11) hx hb hts (by decide +kernel) hown hK hP 0 rfl rfl 10 (by decide) (hts (.fieldLink RX1 58 "HashedStoreModel" "isDown" "Z") (by decide +kernel)) (fun _ h9 => h9) rfl dX1_crashAfter_5 ?_
    refine hs_bne (tgt := 16) hx hb dX1_crashAfter_8 (by decide) (fun c2 => ?_) (fun c2 => ?_)
    · exact W.vret hx hb hr (fun t ht hW => ⟨⟨((F, u, kr, dn, lf, dw), G), rfl, (by rw [hs_cr_2 c2]), by rw [ht]; exact hP, va_K.moved hW.alike hK, hD⟩, hS.F ht⟩) hS.2.2 dX1_crashAfter_16
    · refine lv_aload_n hx hb dX1_crashAfter_11 rfl (lv_at hl 0 rfl) ?_
      refine lv_iload_n hx hb dX1_crashAfter_12 rfl (lv_at hl 1 rfl) ?_
      refine va_put (D := (dC, dI)) (ci := 1) (v := .int p1) (ty := .int) (C := RX1) (T := TX1) (N := 11) hx hb hts (by decide +kernel) tyX1 tyX1_ok nmX1 hown hK hP hD hS 0 rfl rfl 9 (by decide) (hts (.fieldLink RX1 16 "HashedStoreModel" "left" "I") (by decide +kernel)) (fun _ h9 => h9) rfl (by decide +kernel) rfl rfl (Nat.le_of_ble_eq_true rfl) dX1_crashAfter_13 (fun H locs hP hD hS => ?_)
      have hP : va_P (dC, dI) vwCl [oM_ h0 hd hp d N w nw sz u kr dn p1 dw, ar_ hd cA 600 F, ar_ hp cA 300 G] H := hP
      have hD : va_D (va_A [oM_ h0 hd hp d N w nw sz u kr dn lf dw, ar_ hd cA 600 F, ar_ hp cA 300 G] s.heap.size) [oM_ h0 hd hp d N w nw sz u kr dn p1 dw, ar_ hd cA 600 F, ar_ hp cA 300 G] := hD
      exact W.vret hx hb hr (fun t ht hW => ⟨⟨((F, u, kr, dn, p1, dw), G), rfl, (by rw [hs_cr_3 c1 c2]), by rw [ht]; exact hP, va_K.moved hW.alike hK, hD⟩, hS.F ht⟩) hS.2.2 dX1_crashAfter_16
set_option maxHeartbeats 4000000 in
set_option maxRecDepth 100000 in
theorem kX1_recover (l : Launch) (dC : Nat → ClassId) (dI : Nat → Nat → Nat) (h0 hd hp : Nat) (cA : ClassId) (d N w nw sz u : Nat) (F G : Nat → Int32) (kr dn lf : Int32) (dw : Bool) (ok : hs_ok d N w nw sz) (zz : Nat) (p1 : Int32) : Met l yX1_recover wsX1_recover ({ frames := 1, cells := 0, slots := 0, locals := 21 }) (va_Pc [.ref h0, .int p1] (hs_pm (dC, dI) vwCl [(cA, .int)] [oM_ h0 hd hp d N w nw sz u kr dn lf dw, ar_ hd cA 600 F, ar_ hp cA 300 G] zz)) (va_Qi (S := hs_S × (Nat → Int32)) (fun r uu => (r, uu.1) = hs_rc nw sz p1 (F, u, kr, dn, lf, dw)) (hs_B (dC, dI) vwCl [(cA, .int)] (wfM h0 hd hp cA d N w nw sz) (va_A [oM_ h0 hd hp d N w nw sz u kr dn lf dw, ar_ hd cA 600 F, ar_ hp cA 300 G] zz)) (va_A [oM_ h0 hd hp d N w nw sz u kr dn lf dw, ar_ hd cA 600 F, ar_ hp cA 300 G] zz)) 0 0 (va_A [oM_ h0 hd hp d N w nw sz u kr dn lf dw, ar_ hd cA 600 F, ar_ hp cA 300 G] zz) := by
  refine Met.ofW (cc := cX1_recover) (maxL := 3) (ret := (some .int)) (by decide) rfl ?_
  intro p e s m args below meth c s₁ B hml hv
  obtain ⟨rfl, hzz, hP, hK, hD0⟩ := hv
  have hx := B.exec
  have hb := B.bytes
  have hr := B.returns
  have hts := atoms_spec (ws := wsX1_recover) B.pre
  have hown : s.vm.findClass RX1 = some m.cls := findClass_of_methodNamed B.named
  have hlocks := B.notSynchronized
  obtain ⟨hd5, hN1, hN2, hw1, hw2, hn1, hn2, hsz, hsz2⟩ := hs_okf ok
  have hnw : nw = N * w := ok.2.2.2.2.1
  subst hzz
  have hD := hD0.self (sz := s.heap.size)
  have hS : va_S (va_A [oM_ h0 hd hp d N w nw sz u kr dn lf dw, ar_ hd cA 600 F, ar_ hp cA 300 G] s.heap.size) s.heap s.heap [] := va_S.rf
  have hA : ∀ q : Nat, s.heap.size ≤ q → va_A [oM_ h0 hd hp d N w nw sz u kr dn lf dw, ar_ hd cA 600 F, ar_ hp cA 300 G] s.heap.size q := fun q h => Or.inr h
  have hl := lv_entry ([.ref h0, .int p1]) (n := 3) (Nat.le_of_ble_eq_true rfl)
  rw [lg_entry_eq]
  generalize (lg_sl ([.ref h0, .int p1]) ++ List.replicate (3 - (lg_sl ([.ref h0, .int p1])).length) Slot.unset).toArray = ls at hl ⊢
  have hl : lv_has ls 3 [(0, .ref h0), (1, .int p1)] := hl
  refine lv_aload_n hx hb dX1_recover_0 rfl (lv_at hl 0 rfl) ?_
  refine va_get (D := (dC, dI)) (ci := 1) (v := .int (hs_b dw)) (C := RX1) (T := TX1) (N := 11) hx hb hts (by decide +kernel) hown hK hP 0 rfl rfl 10 (by decide) (hts (.fieldLink RX1 58 "HashedStoreModel" "isDown" "Z") (by decide +kernel)) (fun _ h9 => h9) rfl dX1_recover_1 ?_
  refine hs_bne (tgt := 10) hx hb dX1_recover_4 (by decide) (fun c1 => ?_) (fun c1 => ?_)
  · refine lv_iconst (v := nI 0) hx hb dX1_recover_10 (by decide) ?_
    refine lv_istore_n (lv' := [(2, .int (nI 0)), (0, .ref h0), (1, .int p1)]) hx hb dX1_recover_11 rfl hl (by decide) rfl (fun ls hl => ?_)
    refine lv_iload_n hx hb dX1_recover_12 rfl (lv_at hl 0 rfl) ?_
    refine lv_iconst (v := nI 2) hx hb dX1_recover_13 (by decide) ?_
    refine hs_cge (tgt := 66) hx hb (by omega) (by omega) dX1_recover_14 (by decide) (fun a1 => ?_) (fun a1 => ?_)
    · exact absurd a1 (by omega)
    · refine lv_aload_n hx hb dX1_recover_17 rfl (lv_at hl 1 rfl) ?_
      refine va_get (D := (dC, dI)) (ci := 1) (v := .ref hd) (C := RX1) (T := TX1) (N := 11) hx hb hts (by decide +kernel) hown hK hP 0 rfl rfl 4 (by decide) (hts (.fieldLink RX1 7 "HashedStoreModel" "disk" "[I") (by decide +kernel)) (fun _ h9 => h9) rfl dX1_recover_18 ?_
      refine lv_aload_n hx hb dX1_recover_21 rfl (lv_at hl 1 rfl) ?_
      refine va_get (D := (dC, dI)) (ci := 1) (v := .int (nI sz)) (C := RX1) (T := TX1) (N := 11) hx hb hts (by decide +kernel) hown hK hP 0 rfl rfl 3 (by decide) (hts (.fieldLink RX1 29 "HashedStoreModel" "size" "I") (by decide +kernel)) (fun _ h9 => h9) rfl dX1_recover_22 ?_
      refine lv_iload_n hx hb dX1_recover_25 rfl (lv_at hl 0 rfl) ?_
      refine hs_mulN hx hb dX1_recover_26 ?_
      refine lv_aload_n hx hb dX1_recover_27 rfl (lv_at hl 1 rfl) ?_
      refine lv_iconst (v := nI 1) hx hb dX1_recover_28 (by decide) ?_
      refine hs_pe (v := nI (nw + 1 - 1)) (va_runV (As := [.int (nI 1)]) (rest := [.int (nI (sz * 0)), .ref hd]) ⟨hx, hb, hml, hown, hts⟩ (kX1_node l dC dI h0 hd hp cA d N w nw sz u F G kr dn lf dw ok 1) (cwV 1 hts gX1_recover_X1_node rfl rfl rfl (by decide +kernel) ⟨(Nat.le_of_ble_eq_true rfl), (Nat.le_of_ble_eq_true rfl)⟩) (hs_preV (q := (RX1, TX1, 11)) (ci := 1) hK (hP.sub [0] rfl) rfl rfl) rfl rfl hl.1 rfl (lv_room (Nat.le_of_ble_eq_true rfl)) dX1_recover_29 ⟨Nat.zero_le _, Nat.zero_le _⟩) hS hP (fun H locs hP hS => ?_)
      refine hs_addN hx hb dX1_recover_32 ?_
      refine hs_ald hx hb hK hP 1 0 rfl rfl (k := (sz * 0) + (nw + 1 - 1)) (by omega) (by omega) dX1_recover_33 ?_
      rw [Nat.mul_comm sz 0]
      refine lv_iload_n hx hb dX1_recover_34 rfl (lv_at hl 2 rfl) ?_
      refine lv_icmp_ne (tgt := 60) hx hb dX1_recover_35 (by decide) (fun e1 => ?_) (fun e1 => ?_)
      · refine lv_iinc (v := nI (0 + 1)) (lv' := [(2, .int (nI (0 + 1))), (0, .ref h0), (1, .int p1)]) hx hb dX1_recover_60 hl (k := 0) rfl (nI_1 _) (by decide) rfl (fun ls hl => ?_)
        refine lv_goto (tgt := 12) hx hb dX1_recover_63 (by decide) ?_
        refine lv_iload_n hx hb dX1_recover_12 rfl (lv_at hl 0 rfl) ?_
        refine lv_iconst (v := nI 2) hx hb dX1_recover_13 (by decide) ?_
        refine hs_cge (tgt := 66) hx hb (by omega) (by omega) dX1_recover_14 (by decide) (fun a2 => ?_) (fun a2 => ?_)
        · exact absurd a2 (by omega)
        · refine lv_aload_n hx hb dX1_recover_17 rfl (lv_at hl 1 rfl) ?_
          refine va_get (D := (dC, dI)) (ci := 1) (v := .ref hd) (C := RX1) (T := TX1) (N := 11) hx hb hts (by decide +kernel) hown hK hP 0 rfl rfl 4 (by decide) (hts (.fieldLink RX1 7 "HashedStoreModel" "disk" "[I") (by decide +kernel)) (fun _ h9 => h9) rfl dX1_recover_18 ?_
          refine lv_aload_n hx hb dX1_recover_21 rfl (lv_at hl 1 rfl) ?_
          refine va_get (D := (dC, dI)) (ci := 1) (v := .int (nI sz)) (C := RX1) (T := TX1) (N := 11) hx hb hts (by decide +kernel) hown hK hP 0 rfl rfl 3 (by decide) (hts (.fieldLink RX1 29 "HashedStoreModel" "size" "I") (by decide +kernel)) (fun _ h9 => h9) rfl dX1_recover_22 ?_
          refine lv_iload_n hx hb dX1_recover_25 rfl (lv_at hl 0 rfl) ?_
          refine hs_mulN hx hb dX1_recover_26 ?_
          refine lv_aload_n hx hb dX1_recover_27 rfl (lv_at hl 1 rfl) ?_
          refine lv_iconst (v := nI 1) hx hb dX1_recover_28 (by decide) ?_
          refine hs_pe (v := nI (nw + 1 - 1)) (va_runV (As := [.int (nI 1)]) (rest := [.int (nI (sz * (0 + 1))), .ref hd]) ⟨hx, hb, hml, hown, hts⟩ (kX1_node l dC dI h0 hd hp cA d N w nw sz u F G kr dn lf dw ok 1) (cwV 1 hts gX1_recover_X1_node rfl rfl rfl (by decide +kernel) ⟨(Nat.le_of_ble_eq_true rfl), (Nat.le_of_ble_eq_true rfl)⟩) (hs_preV (q := (RX1, TX1, 11)) (ci := 1) hK (hP.sub [0] rfl) rfl rfl) rfl rfl hl.1 rfl (lv_room (Nat.le_of_ble_eq_true rfl)) dX1_recover_29 ⟨Nat.zero_le _, Nat.zero_le _⟩) hS hP (fun H locs hP hS => ?_)
          refine hs_addN hx hb dX1_recover_32 ?_
          refine hs_ald hx hb hK hP 1 0 rfl rfl (k := (sz * (0 + 1)) + (nw + 1 - 1)) (by omega) (by omega) dX1_recover_33 ?_
          rw [Nat.mul_comm sz (0 + 1)]
          refine lv_iload_n hx hb dX1_recover_34 rfl (lv_at hl 2 rfl) ?_
          refine lv_icmp_ne (tgt := 60) hx hb dX1_recover_35 (by decide) (fun e2 => ?_) (fun e2 => ?_)
          · refine lv_iinc (v := nI ((0 + 1) + 1)) (lv' := [(2, .int (nI ((0 + 1) + 1))), (0, .ref h0), (1, .int p1)]) hx hb dX1_recover_60 hl (k := 0) rfl (nI_1 _) (by decide) rfl (fun ls hl => ?_)
            refine lv_goto (tgt := 12) hx hb dX1_recover_63 (by decide) ?_
            refine lv_iload_n hx hb dX1_recover_12 rfl (lv_at hl 0 rfl) ?_
            refine lv_iconst (v := nI 2) hx hb dX1_recover_13 (by decide) ?_
            refine hs_cge (tgt := 66) hx hb (by omega) (by omega) dX1_recover_14 (by decide) (fun a3 => ?_) (fun a3 => ?_)
            · refine lv_bipush (v := (-5)) hx hb dX1_recover_66 (by decide) ?_
              exact W.iret (v := (-5)) hx hb hr (fun t ht hW => ⟨⟨(-5), ((F, u, kr, dn, lf, dw), G), rfl, (by rw [hs_rc_4 c1 e1 e2]), by rw [ht]; exact hP, va_K.moved hW.alike hK, hD⟩, hS.F ht⟩) hS.2.2 dX1_recover_68
            · exact absurd a3 (by omega)
          · refine lv_aload_n hx hb dX1_recover_38 rfl (lv_at hl 1 rfl) ?_
            refine lv_iload_n hx hb dX1_recover_39 rfl (lv_at hl 0 rfl) ?_
            refine va_put (D := (dC, dI)) (ci := 1) (v := .int (nI (0 + 1))) (ty := .int) (C := RX1) (T := TX1) (N := 11) hx hb hts (by decide +kernel) tyX1 tyX1_ok nmX1 hown hK hP hD hS 0 rfl rfl 6 (by decide) (hts (.fieldLink RX1 42 "HashedStoreModel" "used" "I") (by decide +kernel)) (fun _ h9 => h9) rfl (by decide +kernel) rfl rfl (Nat.le_of_ble_eq_true rfl) dX1_recover_40 (fun H locs hP hD hS => ?_)
            have hP : va_P (dC, dI) vwCl [oM_ h0 hd hp d N w nw sz (0 + 1) kr dn lf dw, ar_ hd cA 600 F, ar_ hp cA 300 G] H := hP
            have hD : va_D (va_A [oM_ h0 hd hp d N w nw sz u kr dn lf dw, ar_ hd cA 600 F, ar_ hp cA 300 G] s.heap.size) [oM_ h0 hd hp d N w nw sz (0 + 1) kr dn lf dw, ar_ hd cA 600 F, ar_ hp cA 300 G] := hD
            refine lv_aload_n hx hb dX1_recover_43 rfl (lv_at hl 1 rfl) ?_
            refine lv_iload_n hx hb dX1_recover_44 rfl (lv_at hl 2 rfl) ?_
            refine va_put (D := (dC, dI)) (ci := 1) (v := .int p1) (ty := .int) (C := RX1) (T := TX1) (N := 11) hx hb hts (by decide +kernel) tyX1 tyX1_ok nmX1 hown hK hP hD hS 0 rfl rfl 7 (by decide) (hts (.fieldLink RX1 52 "HashedStoreModel" "kept" "I") (by decide +kernel)) (fun _ h9 => h9) rfl (by decide +kernel) rfl rfl (Nat.le_of_ble_eq_true rfl) dX1_recover_45 (fun H locs hP hD hS => ?_)
            have hP : va_P (dC, dI) vwCl [oM_ h0 hd hp d N w nw sz (0 + 1) p1 dn lf dw, ar_ hd cA 600 F, ar_ hp cA 300 G] H := hP
            have hD : va_D (va_A [oM_ h0 hd hp d N w nw sz u kr dn lf dw, ar_ hd cA 600 F, ar_ hp cA 300 G] s.heap.size) [oM_ h0 hd hp d N w nw sz (0 + 1) p1 dn lf dw, ar_ hd cA 600 F, ar_ hp cA 300 G] := hD
            refine lv_aload_n hx hb dX1_recover_48 rfl (lv_at hl 1 rfl) ?_
            refine lv_iconst (v := hs_b false) hx hb dX1_recover_49 (by decide) ?_
            refine va_put (D := (dC, dI)) (ci := 1) (v := .int (hs_b false)) (ty := .boolean) (C := RX1) (T := TX1) (N := 11) hx hb hts (by decide +kernel) tyX1 tyX1_ok nmX1 hown hK hP hD hS 0 rfl rfl 10 (by decide) (hts (.fieldLink RX1 58 "HashedStoreModel" "isDown" "Z") (by decide +kernel)) (fun _ h9 => h9) rfl (by decide +kernel) rfl rfl (Nat.le_of_ble_eq_true rfl) dX1_recover_50 (fun H locs hP hD hS => ?_)
            have hP : va_P (dC, dI) vwCl [oM_ h0 hd hp d N w nw sz (0 + 1) p1 dn lf false, ar_ hd cA 600 F, ar_ hp cA 300 G] H := hP
            have hD : va_D (va_A [oM_ h0 hd hp d N w nw sz u kr dn lf dw, ar_ hd cA 600 F, ar_ hp cA 300 G] s.heap.size) [oM_ h0 hd hp d N w nw sz (0 + 1) p1 dn lf false, ar_ hd cA 600 F, ar_ hp cA 300 G] := hD
            refine lv_aload_n hx hb dX1_recover_53 rfl (lv_at hl 1 rfl) ?_
            refine lv_iconst (v := (-1)) hx hb dX1_recover_54 (by decide) ?_
            refine va_put (D := (dC, dI)) (ci := 1) (v := .int (-1)) (ty := .int) (C := RX1) (T := TX1) (N := 11) hx hb hts (by decide +kernel) tyX1 tyX1_ok nmX1 hown hK hP hD hS 0 rfl rfl 9 (by decide) (hts (.fieldLink RX1 16 "HashedStoreModel" "left" "I") (by decide +kernel)) (fun _ h9 => h9) rfl (by decide +kernel) rfl rfl (Nat.le_of_ble_eq_true rfl) dX1_recover_55 (fun H locs hP hD hS => ?_)
            have hP : va_P (dC, dI) vwCl [oM_ h0 hd hp d N w nw sz (0 + 1) p1 dn (-1) false, ar_ hd cA 600 F, ar_ hp cA 300 G] H := hP
            have hD : va_D (va_A [oM_ h0 hd hp d N w nw sz u kr dn lf dw, ar_ hd cA 600 F, ar_ hp cA 300 G] s.heap.size) [oM_ h0 hd hp d N w nw sz (0 + 1) p1 dn (-1) false, ar_ hd cA 600 F, ar_ hp cA 300 G] := hD
            refine lv_iconst (v := nI 0) hx hb dX1_recover_58 (by decide) ?_
            exact W.iret (v := nI 0) hx hb hr (fun t ht hW => ⟨⟨nI 0, ((F, 0 + 1, p1, dn, (-1), false), G), rfl, (by rw [hs_rc_3 c1 e1 e2]; rfl), by rw [ht]; exact hP, va_K.moved hW.alike hK, hD⟩, hS.F ht⟩) hS.2.2 dX1_recover_59
      · refine lv_aload_n hx hb dX1_recover_38 rfl (lv_at hl 1 rfl) ?_
        refine lv_iload_n hx hb dX1_recover_39 rfl (lv_at hl 0 rfl) ?_
        refine va_put (D := (dC, dI)) (ci := 1) (v := .int (nI 0)) (ty := .int) (C := RX1) (T := TX1) (N := 11) hx hb hts (by decide +kernel) tyX1 tyX1_ok nmX1 hown hK hP hD hS 0 rfl rfl 6 (by decide) (hts (.fieldLink RX1 42 "HashedStoreModel" "used" "I") (by decide +kernel)) (fun _ h9 => h9) rfl (by decide +kernel) rfl rfl (Nat.le_of_ble_eq_true rfl) dX1_recover_40 (fun H locs hP hD hS => ?_)
        have hP : va_P (dC, dI) vwCl [oM_ h0 hd hp d N w nw sz 0 kr dn lf dw, ar_ hd cA 600 F, ar_ hp cA 300 G] H := hP
        have hD : va_D (va_A [oM_ h0 hd hp d N w nw sz u kr dn lf dw, ar_ hd cA 600 F, ar_ hp cA 300 G] s.heap.size) [oM_ h0 hd hp d N w nw sz 0 kr dn lf dw, ar_ hd cA 600 F, ar_ hp cA 300 G] := hD
        refine lv_aload_n hx hb dX1_recover_43 rfl (lv_at hl 1 rfl) ?_
        refine lv_iload_n hx hb dX1_recover_44 rfl (lv_at hl 2 rfl) ?_
        refine va_put (D := (dC, dI)) (ci := 1) (v := .int p1) (ty := .int) (C := RX1) (T := TX1) (N := 11) hx hb hts (by decide +kernel) tyX1 tyX1_ok nmX1 hown hK hP hD hS 0 rfl rfl 7 (by decide) (hts (.fieldLink RX1 52 "HashedStoreModel" "kept" "I") (by decide +kernel)) (fun _ h9 => h9) rfl (by decide +kernel) rfl rfl (Nat.le_of_ble_eq_true rfl) dX1_recover_45 (fun H locs hP hD hS => ?_)
        have hP : va_P (dC, dI) vwCl [oM_ h0 hd hp d N w nw sz 0 p1 dn lf dw, ar_ hd cA 600 F, ar_ hp cA 300 G] H := hP
        have hD : va_D (va_A [oM_ h0 hd hp d N w nw sz u kr dn lf dw, ar_ hd cA 600 F, ar_ hp cA 300 G] s.heap.size) [oM_ h0 hd hp d N w nw sz 0 p1 dn lf dw, ar_ hd cA 600 F, ar_ hp cA 300 G] := hD
        refine lv_aload_n hx hb dX1_recover_48 rfl (lv_at hl 1 rfl) ?_
        refine lv_iconst (v := hs_b false) hx hb dX1_recover_49 (by decide) ?_
        refine va_put (D := (dC, dI)) (ci := 1) (v := .int (hs_b false)) (ty := .boolean) (C := RX1) (T := TX1) (N := 11) hx hb hts (by decide +kernel) tyX1 tyX1_ok nmX1 hown hK hP hD hS 0 rfl rfl 10 (by decide) (hts (.fieldLink RX1 58 "HashedStoreModel" "isDown" "Z") (by decide +kernel)) (fun _ h9 => h9) rfl (by decide +kernel) rfl rfl (Nat.le_of_ble_eq_true rfl) dX1_recover_50 (fun H locs hP hD hS => ?_)
        have hP : va_P (dC, dI) vwCl [oM_ h0 hd hp d N w nw sz 0 p1 dn lf false, ar_ hd cA 600 F, ar_ hp cA 300 G] H := hP
        have hD : va_D (va_A [oM_ h0 hd hp d N w nw sz u kr dn lf dw, ar_ hd cA 600 F, ar_ hp cA 300 G] s.heap.size) [oM_ h0 hd hp d N w nw sz 0 p1 dn lf false, ar_ hd cA 600 F, ar_ hp cA 300 G] := hD
        refine lv_aload_n hx hb dX1_recover_53 rfl (lv_at hl 1 rfl) ?_
        refine lv_iconst (v := (-1)) hx hb dX1_recover_54 (by decide) ?_
        refine va_put (D := (dC, dI)) (ci := 1) (v := .int (-1)) (ty := .int) (C := RX1) (T := TX1) (N := 11) hx hb hts (by decide +kernel) tyX1 tyX1_ok nmX1 hown hK hP hD hS 0 rfl rfl 9 (by decide) (hts (.fieldLink RX1 16 "HashedStoreModel" "left" "I") (by decide +kernel)) (fun _ h9 => h9) rfl (by decide +kernel) rfl rfl (Nat.le_of_ble_eq_true rfl) dX1_recover_55 (fun H locs hP hD hS => ?_)
        have hP : va_P (dC, dI) vwCl [oM_ h0 hd hp d N w nw sz 0 p1 dn (-1) false, ar_ hd cA 600 F, ar_ hp cA 300 G] H := hP
        have hD : va_D (va_A [oM_ h0 hd hp d N w nw sz u kr dn lf dw, ar_ hd cA 600 F, ar_ hp cA 300 G] s.heap.size) [oM_ h0 hd hp d N w nw sz 0 p1 dn (-1) false, ar_ hd cA 600 F, ar_ hp cA 300 G] := hD
        refine lv_iconst (v := nI 0) hx hb dX1_recover_58 (by decide) ?_
        exact W.iret (v := nI 0) hx hb hr (fun t ht hW => ⟨⟨nI 0, ((F, 0, p1, dn, (-1), false), G), rfl, (by rw [hs_rc_2 c1 e1]; rfl), by rw [ht]; exact hP, va_K.moved hW.alike hK, hD⟩, hS.F ht⟩) hS.2.2 dX1_recover_59
  · refine lv_bipush (v := (-2)) hx hb dX1_recover_7 (by decide) ?_
    exact W.iret (v := (-2)) hx hb hr (fun t ht hW => ⟨⟨(-2), ((F, u, kr, dn, lf, dw), G), rfl, (by rw [hs_rc_1 c1]), by rw [ht]; exact hP, va_K.moved hW.alike hK, hD⟩, hS.F ht⟩) hS.2.2 dX1_recover_9
set_option maxHeartbeats 4000000 in
set_option maxRecDepth 100000 in
theorem kX1_format (l : Launch) (dC : Nat → ClassId) (dI : Nat → Nat → Nat) (h0 hd hp : Nat) (cA : ClassId) (d N w nw sz u : Nat) (F G : Nat → Int32) (kr dn lf : Int32) (dw : Bool) (ok : hs_ok d N w nw sz) (zz : Nat)  : Met l yX1_format wsX1_format ({ frames := 2, cells := 0, slots := 0, locals := 45 }) (va_Pc [.ref h0] (hs_pm (dC, dI) vwCl [(cA, .int)] [oM_ h0 hd hp d N w nw sz u kr dn lf dw, ar_ hd cA 600 F, ar_ hp cA 300 G] zz)) (va_Qi (S := hs_S × (Nat → Int32)) (fun r uu => r = 0 ∧ ∃ F9 g, uu = ((F9, 0, F9 (nw + 1 - 1), 0, -1, false), g) ∧ hs_E N w nw sz F9) (hs_B (dC, dI) vwCl [(cA, .int)] (wfM h0 hd hp cA d N w nw sz) (va_A [oM_ h0 hd hp d N w nw sz u kr dn lf dw, ar_ hd cA 600 F, ar_ hp cA 300 G] zz)) (va_A [oM_ h0 hd hp d N w nw sz u kr dn lf dw, ar_ hd cA 600 F, ar_ hp cA 300 G] zz)) 0 0 (va_A [oM_ h0 hd hp d N w nw sz u kr dn lf dw, ar_ hd cA 600 F, ar_ hp cA 300 G] zz) := by
  refine Met.ofW (cc := cX1_format) (maxL := 2) (ret := (some .int)) (by decide) rfl ?_
  intro p e s m args below meth c s₁ B hml hv
  obtain ⟨rfl, hzz, hP, hK, hD0⟩ := hv
  have hx := B.exec
  have hb := B.bytes
  have hr := B.returns
  have hts := atoms_spec (ws := wsX1_format) B.pre
  have hown : s.vm.findClass RX1 = some m.cls := findClass_of_methodNamed B.named
  have hlocks := B.notSynchronized
  obtain ⟨hd5, hN1, hN2, hw1, hw2, hn1, hn2, hsz, hsz2⟩ := hs_okf ok
  have hnw : nw = N * w := ok.2.2.2.2.1
  subst hzz
  have hD := hD0.self (sz := s.heap.size)
  have hS : va_S (va_A [oM_ h0 hd hp d N w nw sz u kr dn lf dw, ar_ hd cA 600 F, ar_ hp cA 300 G] s.heap.size) s.heap s.heap [] := va_S.rf
  have hA : ∀ q : Nat, s.heap.size ≤ q → va_A [oM_ h0 hd hp d N w nw sz u kr dn lf dw, ar_ hd cA 600 F, ar_ hp cA 300 G] s.heap.size q := fun q h => Or.inr h
  have hl := lv_entry ([.ref h0]) (n := 2) (Nat.le_of_ble_eq_true rfl)
  rw [lg_entry_eq]
  generalize (lg_sl ([.ref h0]) ++ List.replicate (2 - (lg_sl ([.ref h0])).length) Slot.unset).toArray = ls at hl ⊢
  have hl : lv_has ls 2 [(0, .ref h0)] := hl
  have loopD : ∀ (n : Nat) (i : Nat) (F1 : Nat → Int32) (g : Nat → Int32) (H : Heap) (locs : List Loc) (ls : Array Slot), (i + n = sz) → (hs_I N w nw 0 g) → (∀ x, x < i → F1 x = g x) → (∀ x, x < 600 → sz ≤ x → F1 x = 0) → va_P (dC, dI) vwCl [oM_ h0 hd hp d N w nw sz u kr dn lf dw, ar_ hd cA 600 F1, ar_ hp cA 300 g] H → va_D (va_A [oM_ h0 hd hp d N w nw sz u kr dn lf dw, ar_ hd cA 600 F, ar_ hp cA 300 G] s.heap.size) [oM_ h0 hd hp d N w nw sz u kr dn lf dw, ar_ hd cA 600 F1, ar_ hp cA 300 g] → va_S (va_A [oM_ h0 hd hp d N w nw sz u kr dn lf dw, ar_ hd cA 600 F, ar_ hp cA 300 G] s.heap.size) s.heap H locs → lv_has ls 2 [(1, .int (nI i)), (0, .ref h0)] → W p l e (headSpec wsX1_format ({ frames := 2, cells := 0, slots := 0, locals := 45 })).room s m ([.ref h0] : List Value).toArray below meth c H locs 0 0 (MQ below (va_Qi (S := hs_S × (Nat → Int32)) (fun r uu => r = 0 ∧ ∃ F9 g, uu = ((F9, 0, F9 (nw + 1 - 1), 0, -1, false), g) ∧ hs_E N w nw sz F9) (hs_B (dC, dI) vwCl [(cA, .int)] (wfM h0 hd hp cA d N w nw sz) (va_A [oM_ h0 hd hp d N w nw sz u kr dn lf dw, ar_ hd cA 600 F, ar_ hp cA 300 G] s.heap.size)) (va_A [oM_ h0 hd hp d N w nw sz u kr dn lf dw, ar_ hd cA 600 F, ar_ hp cA 300 G] s.heap.size)) ([.ref h0] : List Value).toArray s 0 0 (va_A [oM_ h0 hd hp d N w nw sz u kr dn lf dw, ar_ hd cA 600 F, ar_ hp cA 300 G] s.heap.size)) (F0 m 126 ls []) := by
    intro n
    induction n with
    | zero =>
      intro i F1 g H locs ls hi hI hA1 hA2 hP hD hS hl
      refine lv_iload_n hx hb dX1_format_126 rfl (lv_at hl 0 rfl) ?_
      refine lv_aload_n hx hb dX1_format_127 rfl (lv_at hl 1 rfl) ?_
      refine va_get (D := (dC, dI)) (ci := 1) (v := .int (nI sz)) (C := RX1) (T := TX1) (N := 11) hx hb hts (by decide +kernel) hown hK hP 0 rfl rfl 3 (by decide) (hts (.fieldLink RX1 29 "HashedStoreModel" "size" "I") (by decide +kernel)) (fun _ h9 => h9) rfl dX1_format_128 ?_
      refine hs_cge (tgt := 152) hx hb (by omega) (by omega) dX1_format_131 (by decide) (fun c1 => ?_) (fun c1 => ?_)
      · obtain ⟨hP, hD⟩ := hs_repP (q0 := 1) (g := fun x => if x < sz then g x else 0) hP hD rfl (fun x hx9 => by
          by_cases e : x < sz
          · rw [if_pos e]; exact hA1 x (by omega)
          · rw [if_neg e]; exact hA2 x hx9 (by omega))
        have hP : va_P (dC, dI) vwCl [oM_ h0 hd hp d N w nw sz u kr dn lf dw, ar_ hd cA 600 (fun x => if x < sz then g x else 0), ar_ hp cA 300 g] H := hP
        have hD : va_D (va_A [oM_ h0 hd hp d N w nw sz u kr dn lf dw, ar_ hd cA 600 F, ar_ hp cA 300 G] s.heap.size) [oM_ h0 hd hp d N w nw sz u kr dn lf dw, ar_ hd cA 600 (fun x => if x < sz then g x else 0), ar_ hp cA 300 g] := hD
        refine lv_aload_n hx hb dX1_format_152 rfl (lv_at hl 1 rfl) ?_
        refine lv_iconst (v := nI 0) hx hb dX1_format_153 (by decide) ?_
        refine va_put (D := (dC, dI)) (ci := 1) (v := .int (nI 0)) (ty := .int) (C := RX1) (T := TX1) (N := 11) hx hb hts (by decide +kernel) tyX1 tyX1_ok nmX1 hown hK hP hD hS 0 rfl rfl 6 (by decide) (hts (.fieldLink RX1 42 "HashedStoreModel" "used" "I") (by decide +kernel)) (fun _ h9 => h9) rfl (by decide +kernel) rfl rfl (Nat.le_of_ble_eq_true rfl) dX1_format_154 (fun H locs hP hD hS => ?_)
        have hP : va_P (dC, dI) vwCl [oM_ h0 hd hp d N w nw sz 0 kr dn lf dw, ar_ hd cA 600 (fun x => if x < sz then g x else 0), ar_ hp cA 300 g] H := hP
        have hD : va_D (va_A [oM_ h0 hd hp d N w nw sz u kr dn lf dw, ar_ hd cA 600 F, ar_ hp cA 300 G] s.heap.size) [oM_ h0 hd hp d N w nw sz 0 kr dn lf dw, ar_ hd cA 600 (fun x => if x < sz then g x else 0), ar_ hp cA 300 g] := hD
        refine lv_aload_n hx hb dX1_format_157 rfl (lv_at hl 1 rfl) ?_
        refine lv_aload_n hx hb dX1_format_158 rfl (lv_at hl 1 rfl) ?_
        refine va_get (D := (dC, dI)) (ci := 1) (v := .ref hp) (C := RX1) (T := TX1) (N := 11) hx hb hts (by decide +kernel) hown hK hP 0 rfl rfl 5 (by decide) (hts (.fieldLink RX1 13 "HashedStoreModel" "goal" "[I") (by decide +kernel)) (fun _ h9 => h9) rfl dX1_format_159 ?_
        refine lv_aload_n hx hb dX1_format_162 rfl (lv_at hl 1 rfl) ?_
        refine lv_iconst (v := nI 1) hx hb dX1_format_163 (by decide) ?_
        refine hs_pe (v := nI (nw + 1 - 1)) (va_runV (As := [.int (nI 1)]) (rest := [.ref hp, .ref h0]) ⟨hx, hb, hml, hown, hts⟩ (kX1_node l dC dI h0 hd hp cA d N w nw sz 0 (fun x => if x < sz then g x else 0) g kr dn lf dw ok 1) (cwV 1 hts gX1_format_X1_node rfl rfl rfl (by decide +kernel) ⟨(Nat.le_of_ble_eq_true rfl), (Nat.le_of_ble_eq_true rfl)⟩) (hs_preV (q := (RX1, TX1, 11)) (ci := 1) hK (hP.sub [0] rfl) rfl rfl) rfl rfl hl.1 rfl (lv_room (Nat.le_of_ble_eq_true rfl)) dX1_format_164 ⟨Nat.zero_le _, Nat.zero_le _⟩) hS hP (fun H locs hP hS => ?_)
        refine hs_ald hx hb hK hP 2 0 rfl rfl (k := nw + 1 - 1) (by omega) (by omega) dX1_format_167 ?_
        refine va_put (D := (dC, dI)) (ci := 1) (v := .int (g (nw + 1 - 1))) (ty := .int) (C := RX1) (T := TX1) (N := 11) hx hb hts (by decide +kernel) tyX1 tyX1_ok nmX1 hown hK hP hD hS 0 rfl rfl 7 (by decide) (hts (.fieldLink RX1 52 "HashedStoreModel" "kept" "I") (by decide +kernel)) (fun _ h9 => h9) rfl (by decide +kernel) rfl rfl (Nat.le_of_ble_eq_true rfl) dX1_format_168 (fun H locs hP hD hS => ?_)
        have hP : va_P (dC, dI) vwCl [oM_ h0 hd hp d N w nw sz 0 (g (nw + 1 - 1)) dn lf dw, ar_ hd cA 600 (fun x => if x < sz then g x else 0), ar_ hp cA 300 g] H := hP
        have hD : va_D (va_A [oM_ h0 hd hp d N w nw sz u kr dn lf dw, ar_ hd cA 600 F, ar_ hp cA 300 G] s.heap.size) [oM_ h0 hd hp d N w nw sz 0 (g (nw + 1 - 1)) dn lf dw, ar_ hd cA 600 (fun x => if x < sz then g x else 0), ar_ hp cA 300 g] := hD
        refine lv_aload_n hx hb dX1_format_171 rfl (lv_at hl 1 rfl) ?_
        refine lv_iconst (v := 0) hx hb dX1_format_172 (by decide) ?_
        refine va_put (D := (dC, dI)) (ci := 1) (v := .int 0) (ty := .int) (C := RX1) (T := TX1) (N := 11) hx hb hts (by decide +kernel) tyX1 tyX1_ok nmX1 hown hK hP hD hS 0 rfl rfl 8 (by decide) (hts (.fieldLink RX1 55 "HashedStoreModel" "done" "I") (by decide +kernel)) (fun _ h9 => h9) rfl (by decide +kernel) rfl rfl (Nat.le_of_ble_eq_true rfl) dX1_format_173 (fun H locs hP hD hS => ?_)
        have hP : va_P (dC, dI) vwCl [oM_ h0 hd hp d N w nw sz 0 (g (nw + 1 - 1)) 0 lf dw, ar_ hd cA 600 (fun x => if x < sz then g x else 0), ar_ hp cA 300 g] H := hP
        have hD : va_D (va_A [oM_ h0 hd hp d N w nw sz u kr dn lf dw, ar_ hd cA 600 F, ar_ hp cA 300 G] s.heap.size) [oM_ h0 hd hp d N w nw sz 0 (g (nw + 1 - 1)) 0 lf dw, ar_ hd cA 600 (fun x => if x < sz then g x else 0), ar_ hp cA 300 g] := hD
        refine lv_aload_n hx hb dX1_format_176 rfl (lv_at hl 1 rfl) ?_
        refine lv_iconst (v := (-1)) hx hb dX1_format_177 (by decide) ?_
        refine va_put (D := (dC, dI)) (ci := 1) (v := .int (-1)) (ty := .int) (C := RX1) (T := TX1) (N := 11) hx hb hts (by decide +kernel) tyX1 tyX1_ok nmX1 hown hK hP hD hS 0 rfl rfl 9 (by decide) (hts (.fieldLink RX1 16 "HashedStoreModel" "left" "I") (by decide +kernel)) (fun _ h9 => h9) rfl (by decide +kernel) rfl rfl (Nat.le_of_ble_eq_true rfl) dX1_format_178 (fun H locs hP hD hS => ?_)
        have hP : va_P (dC, dI) vwCl [oM_ h0 hd hp d N w nw sz 0 (g (nw + 1 - 1)) 0 (-1) dw, ar_ hd cA 600 (fun x => if x < sz then g x else 0), ar_ hp cA 300 g] H := hP
        have hD : va_D (va_A [oM_ h0 hd hp d N w nw sz u kr dn lf dw, ar_ hd cA 600 F, ar_ hp cA 300 G] s.heap.size) [oM_ h0 hd hp d N w nw sz 0 (g (nw + 1 - 1)) 0 (-1) dw, ar_ hd cA 600 (fun x => if x < sz then g x else 0), ar_ hp cA 300 g] := hD
        refine lv_aload_n hx hb dX1_format_181 rfl (lv_at hl 1 rfl) ?_
        refine lv_iconst (v := hs_b false) hx hb dX1_format_182 (by decide) ?_
        refine va_put (D := (dC, dI)) (ci := 1) (v := .int (hs_b false)) (ty := .boolean) (C := RX1) (T := TX1) (N := 11) hx hb hts (by decide +kernel) tyX1 tyX1_ok nmX1 hown hK hP hD hS 0 rfl rfl 10 (by decide) (hts (.fieldLink RX1 58 "HashedStoreModel" "isDown" "Z") (by decide +kernel)) (fun _ h9 => h9) rfl (by decide +kernel) rfl rfl (Nat.le_of_ble_eq_true rfl) dX1_format_183 (fun H locs hP hD hS => ?_)
        have hP : va_P (dC, dI) vwCl [oM_ h0 hd hp d N w nw sz 0 (g (nw + 1 - 1)) 0 (-1) false, ar_ hd cA 600 (fun x => if x < sz then g x else 0), ar_ hp cA 300 g] H := hP
        have hD : va_D (va_A [oM_ h0 hd hp d N w nw sz u kr dn lf dw, ar_ hd cA 600 F, ar_ hp cA 300 G] s.heap.size) [oM_ h0 hd hp d N w nw sz 0 (g (nw + 1 - 1)) 0 (-1) false, ar_ hd cA 600 (fun x => if x < sz then g x else 0), ar_ hp cA 300 g] := hD
        refine lv_iconst (v := nI 0) hx hb dX1_format_186 (by decide) ?_
        exact W.iret (v := nI 0) hx hb hr (fun t ht hW => ⟨⟨nI 0, (((fun x => if x < sz then g x else 0), 0, (g (nw + 1 - 1)), 0, (-1), false), g), rfl, ⟨rfl, _, g, by rw [if_pos (show nw + 1 - 1 < sz by omega)], hs_E_of ok hI⟩, by rw [ht]; exact hP, va_K.moved hW.alike hK, hD⟩, hS.F ht⟩) hS.2.2 dX1_format_187
      · exact absurd c1 (by omega)
    | succ n ih =>
      intro i F1 g H locs ls hi hI hA1 hA2 hP hD hS hl
      refine lv_iload_n hx hb dX1_format_126 rfl (lv_at hl 0 rfl) ?_
      refine lv_aload_n hx hb dX1_format_127 rfl (lv_at hl 1 rfl) ?_
      refine va_get (D := (dC, dI)) (ci := 1) (v := .int (nI sz)) (C := RX1) (T := TX1) (N := 11) hx hb hts (by decide +kernel) hown hK hP 0 rfl rfl 3 (by decide) (hts (.fieldLink RX1 29 "HashedStoreModel" "size" "I") (by decide +kernel)) (fun _ h9 => h9) rfl dX1_format_128 ?_
      refine hs_cge (tgt := 152) hx hb (by omega) (by omega) dX1_format_131 (by decide) (fun c1 => ?_) (fun c1 => ?_)
      · exact absurd c1 (by omega)
      · refine lv_aload_n hx hb dX1_format_134 rfl (lv_at hl 1 rfl) ?_
        refine va_get (D := (dC, dI)) (ci := 1) (v := .ref hd) (C := RX1) (T := TX1) (N := 11) hx hb hts (by decide +kernel) hown hK hP 0 rfl rfl 4 (by decide) (hts (.fieldLink RX1 7 "HashedStoreModel" "disk" "[I") (by decide +kernel)) (fun _ h9 => h9) rfl dX1_format_135 ?_
        refine lv_iload_n hx hb dX1_format_138 rfl (lv_at hl 0 rfl) ?_
        refine lv_aload_n hx hb dX1_format_139 rfl (lv_at hl 1 rfl) ?_
        refine va_get (D := (dC, dI)) (ci := 1) (v := .ref hp) (C := RX1) (T := TX1) (N := 11) hx hb hts (by decide +kernel) hown hK hP 0 rfl rfl 5 (by decide) (hts (.fieldLink RX1 13 "HashedStoreModel" "goal" "[I") (by decide +kernel)) (fun _ h9 => h9) rfl dX1_format_140 ?_
        refine lv_iload_n hx hb dX1_format_143 rfl (lv_at hl 0 rfl) ?_
        refine hs_ald hx hb hK hP 2 0 rfl rfl (k := i) (by omega) (by omega) dX1_format_144 ?_
        refine hs_ast hx hb hK hP hD hS 1 0 rfl rfl (k := i) (by omega) (by omega) dX1_format_145 (fun H locs hP hD hS => ?_)
        have hP : va_P (dC, dI) vwCl [oM_ h0 hd hp d N w nw sz u kr dn lf dw, ar_ hd cA 600 (upd F1 i (g i)), ar_ hp cA 300 g] H := hP
        have hD : va_D (va_A [oM_ h0 hd hp d N w nw sz u kr dn lf dw, ar_ hd cA 600 F, ar_ hp cA 300 G] s.heap.size) [oM_ h0 hd hp d N w nw sz u kr dn lf dw, ar_ hd cA 600 (upd F1 i (g i)), ar_ hp cA 300 g] := hD
        refine lv_iinc (v := nI (i + 1)) (lv' := [(1, .int (nI (i + 1))), (0, .ref h0)]) hx hb dX1_format_146 hl (k := 0) rfl (nI_1 _) (by decide) rfl (fun ls hl => ?_)
        refine lv_goto (tgt := 126) hx hb dX1_format_149 (by decide) ?_
        exact ih (i + 1) _ _ H locs ls (by omega) hI (fun x hx9 => by
          by_cases e : x = i
          · subst e; exact pk_us
          · exact (pk_un e).trans (hA1 x (by omega))) (fun x hx9 h9 => (pk_un (by omega)).trans (hA2 x hx9 h9)) hP hD hS (lv_sub hl [0, 1] rfl)
  have loopC : ∀ (n : Nat) (F1 : Nat → Int32) (g : Nat → Int32) (H : Heap) (locs : List Loc) (ls : Array Slot), (n < 2 * N) → (hs_I N w nw n g) → (∀ x, x < 600 → sz ≤ x → F1 x = 0) → va_P (dC, dI) vwCl [oM_ h0 hd hp d N w nw sz u kr dn lf dw, ar_ hd cA 600 F1, ar_ hp cA 300 g] H → va_D (va_A [oM_ h0 hd hp d N w nw sz u kr dn lf dw, ar_ hd cA 600 F, ar_ hp cA 300 G] s.heap.size) [oM_ h0 hd hp d N w nw sz u kr dn lf dw, ar_ hd cA 600 F1, ar_ hp cA 300 g] → va_S (va_A [oM_ h0 hd hp d N w nw sz u kr dn lf dw, ar_ hd cA 600 F, ar_ hp cA 300 G] s.heap.size) s.heap H locs → lv_has ls 2 [(1, .int (nI n)), (0, .ref h0)] → W p l e (headSpec wsX1_format ({ frames := 2, cells := 0, slots := 0, locals := 45 })).room s m ([.ref h0] : List Value).toArray below meth c H locs 0 0 (MQ below (va_Qi (S := hs_S × (Nat → Int32)) (fun r uu => r = 0 ∧ ∃ F9 g, uu = ((F9, 0, F9 (nw + 1 - 1), 0, -1, false), g) ∧ hs_E N w nw sz F9) (hs_B (dC, dI) vwCl [(cA, .int)] (wfM h0 hd hp cA d N w nw sz) (va_A [oM_ h0 hd hp d N w nw sz u kr dn lf dw, ar_ hd cA 600 F, ar_ hp cA 300 G] s.heap.size)) (va_A [oM_ h0 hd hp d N w nw sz u kr dn lf dw, ar_ hd cA 600 F, ar_ hp cA 300 G] s.heap.size)) ([.ref h0] : List Value).toArray s 0 0 (va_A [oM_ h0 hd hp d N w nw sz u kr dn lf dw, ar_ hd cA 600 F, ar_ hp cA 300 G] s.heap.size)) (F0 m 54 ls []) := by
    intro n
    induction n with
    | zero =>
      intro F1 g H locs ls hn3 hI hA2 hP hD hS hl
      refine lv_iload_n hx hb dX1_format_54 rfl (lv_at hl 0 rfl) ?_
      refine hs_zle (tgt := 124) hx hb (by omega) dX1_format_55 (by decide) (fun c1 => ?_) (fun c1 => ?_)
      · refine lv_iconst (v := nI 0) hx hb dX1_format_124 (by decide) ?_
        refine lv_istore_n (lv' := [(1, .int (nI 0)), (0, .ref h0)]) hx hb dX1_format_125 rfl hl (by decide) rfl (fun ls hl => ?_)
        exact loopD sz 0 F1 g H locs ls (by omega) hI (fun x hx9 => absurd hx9 (Nat.not_lt_zero x)) hA2 hP hD hS (lv_sub hl [0, 1] rfl)
      · exact absurd c1 (by omega)
    | succ n ih =>
      intro F1 g H locs ls hn3 hI hA2 hP hD hS hl
      refine lv_iload_n hx hb dX1_format_54 rfl (lv_at hl 0 rfl) ?_
      refine hs_zle (tgt := 124) hx hb (by omega) dX1_format_55 (by decide) (fun c1 => ?_) (fun c1 => ?_)
      · exact absurd c1 (by omega)
      · refine lv_aload_n hx hb dX1_format_58 rfl (lv_at hl 1 rfl) ?_
        refine va_get (D := (dC, dI)) (ci := 1) (v := .ref hp) (C := RX1) (T := TX1) (N := 11) hx hb hts (by decide +kernel) hown hK hP 0 rfl rfl 5 (by decide) (hts (.fieldLink RX1 13 "HashedStoreModel" "goal" "[I") (by decide +kernel)) (fun _ h9 => h9) rfl dX1_format_59 ?_
        refine lv_aload_n hx hb dX1_format_62 rfl (lv_at hl 1 rfl) ?_
        refine lv_iload_n hx hb dX1_format_63 rfl (lv_at hl 0 rfl) ?_
        refine hs_pe (v := nI (nw + (n + 1) - 1)) (va_runV (As := [.int (nI (n + 1))]) (rest := [.ref hp]) ⟨hx, hb, hml, hown, hts⟩ (kX1_node l dC dI h0 hd hp cA d N w nw sz u F1 g kr dn lf dw ok (n + 1)) (cwV 1 hts gX1_format_X1_node rfl rfl rfl (by decide +kernel) ⟨(Nat.le_of_ble_eq_true rfl), (Nat.le_of_ble_eq_true rfl)⟩) (hs_preV (q := (RX1, TX1, 11)) (ci := 1) hK (hP.sub [0] rfl) rfl rfl) rfl rfl hl.1 rfl (lv_room (Nat.le_of_ble_eq_true rfl)) dX1_format_64 ⟨Nat.zero_le _, Nat.zero_le _⟩) hS hP (fun H locs hP hS => ?_)
        refine lv_iload_n hx hb dX1_format_67 rfl (lv_at hl 0 rfl) ?_
        refine lv_aload_n hx hb dX1_format_68 rfl (lv_at hl 1 rfl) ?_
        refine va_get (D := (dC, dI)) (ci := 1) (v := .int (nI N)) (C := RX1) (T := TX1) (N := 11) hx hb hts (by decide +kernel) hown hK hP 0 rfl rfl 1 (by decide) (hts (.fieldLink RX1 23 "HashedStoreModel" "blocks" "I") (by decide +kernel)) (fun _ h9 => h9) rfl dX1_format_69 ?_
        refine hs_clt (tgt := 88) hx hb (by omega) (by omega) dX1_format_72 (by decide) (fun c2 => ?_) (fun c2 => ?_)
        · refine lv_aload_n hx hb dX1_format_88 rfl (lv_at hl 1 rfl) ?_
          refine va_get (D := (dC, dI)) (ci := 1) (v := .ref hp) (C := RX1) (T := TX1) (N := 11) hx hb hts (by decide +kernel) hown hK hP 0 rfl rfl 5 (by decide) (hts (.fieldLink RX1 13 "HashedStoreModel" "goal" "[I") (by decide +kernel)) (fun _ h9 => h9) rfl dX1_format_89 ?_
          refine lv_aload_n hx hb dX1_format_92 rfl (lv_at hl 1 rfl) ?_
          refine lv_iconst (v := nI 2) hx hb dX1_format_93 (by decide) ?_
          refine lv_iload_n hx hb dX1_format_94 rfl (lv_at hl 0 rfl) ?_
          refine hs_mulN hx hb dX1_format_95 ?_
          refine hs_pe (v := nI (nw + 2 * (n + 1) - 1)) (va_runV (As := [.int (nI (2 * (n + 1)))]) (rest := [.ref hp, .int (nI (nw + (n + 1) - 1)), .ref hp]) ⟨hx, hb, hml, hown, hts⟩ (kX1_node l dC dI h0 hd hp cA d N w nw sz u F1 g kr dn lf dw ok (2 * (n + 1))) (cwV 1 hts gX1_format_X1_node rfl rfl rfl (by decide +kernel) ⟨(Nat.le_of_ble_eq_true rfl), (Nat.le_of_ble_eq_true rfl)⟩) (hs_preV (q := (RX1, TX1, 11)) (ci := 1) hK (hP.sub [0] rfl) rfl rfl) rfl rfl hl.1 rfl (lv_room (Nat.le_of_ble_eq_true rfl)) dX1_format_96 ⟨Nat.zero_le _, Nat.zero_le _⟩) hS hP (fun H locs hP hS => ?_)
          refine hs_ald hx hb hK hP 2 0 rfl rfl (k := nw + 2 * (n + 1) - 1) (by omega) (by omega) dX1_format_99 ?_
          refine lv_aload_n hx hb dX1_format_100 rfl (lv_at hl 1 rfl) ?_
          refine va_get (D := (dC, dI)) (ci := 1) (v := .ref hp) (C := RX1) (T := TX1) (N := 11) hx hb hts (by decide +kernel) hown hK hP 0 rfl rfl 5 (by decide) (hts (.fieldLink RX1 13 "HashedStoreModel" "goal" "[I") (by decide +kernel)) (fun _ h9 => h9) rfl dX1_format_101 ?_
          refine lv_aload_n hx hb dX1_format_104 rfl (lv_at hl 1 rfl) ?_
          refine lv_iconst (v := nI 2) hx hb dX1_format_105 (by decide) ?_
          refine lv_iload_n hx hb dX1_format_106 rfl (lv_at hl 0 rfl) ?_
          refine hs_mulN hx hb dX1_format_107 ?_
          refine lv_iconst (v := nI 1) hx hb dX1_format_108 (by decide) ?_
          refine hs_addN hx hb dX1_format_109 ?_
          refine hs_pe (v := nI (nw + (2 * (n + 1) + 1) - 1)) (va_runV (As := [.int (nI ((2 * (n + 1)) + 1))]) (rest := [.ref hp, .int (g (nw + 2 * (n + 1) - 1)), .int (nI (nw + (n + 1) - 1)), .ref hp]) ⟨hx, hb, hml, hown, hts⟩ (kX1_node l dC dI h0 hd hp cA d N w nw sz u F1 g kr dn lf dw ok (2 * (n + 1) + 1)) (cwV 1 hts gX1_format_X1_node rfl rfl rfl (by decide +kernel) ⟨(Nat.le_of_ble_eq_true rfl), (Nat.le_of_ble_eq_true rfl)⟩) (hs_preV (q := (RX1, TX1, 11)) (ci := 1) hK (hP.sub [0] rfl) rfl rfl) rfl rfl hl.1 rfl (lv_room (Nat.le_of_ble_eq_true rfl)) dX1_format_110 ⟨Nat.zero_le _, Nat.zero_le _⟩) hS hP (fun H locs hP hS => ?_)
          refine hs_ald hx hb hK hP 2 0 rfl rfl (k := nw + (2 * (n + 1) + 1) - 1) (by omega) (by omega) dX1_format_113 ?_
          refine hs_pe (v := hs_mx (g (nw + 2 * (n + 1) - 1)) (g (nw + (2 * (n + 1) + 1) - 1))) (va_runS (As := [.int (g (nw + 2 * (n + 1) - 1)), .int (g (nw + (2 * (n + 1) + 1) - 1))]) (rest := [.int (nI (nw + (n + 1) - 1)), .ref hp]) ⟨hx, hb, hml, hown, hts⟩ (kX1_mix l _ _) (va_cwS 2 hts gX1_format_X1_mix rfl rfl rfl (by decide +kernel) ⟨(Nat.le_of_ble_eq_true rfl), (Nat.le_of_ble_eq_true rfl)⟩) hs_preT rfl rfl hl.1 rfl (lv_room (Nat.le_of_ble_eq_true rfl)) dX1_format_114 ⟨Nat.zero_le _, Nat.zero_le _⟩) hS hP (fun H locs hP hS => ?_)
          refine hs_ast hx hb hK hP hD hS 2 0 rfl rfl (k := nw + (n + 1) - 1) (by omega) (by omega) dX1_format_117 (fun H locs hP hD hS => ?_)
          have hP : va_P (dC, dI) vwCl [oM_ h0 hd hp d N w nw sz u kr dn lf dw, ar_ hd cA 600 F1, ar_ hp cA 300 (upd g (nw + (n + 1) - 1) (hs_mx (g (nw + 2 * (n + 1) - 1)) (g (nw + (2 * (n + 1) + 1) - 1))))] H := hP
          have hD : va_D (va_A [oM_ h0 hd hp d N w nw sz u kr dn lf dw, ar_ hd cA 600 F, ar_ hp cA 300 G] s.heap.size) [oM_ h0 hd hp d N w nw sz u kr dn lf dw, ar_ hd cA 600 F1, ar_ hp cA 300 (upd g (nw + (n + 1) - 1) (hs_mx (g (nw + 2 * (n + 1) - 1)) (g (nw + (2 * (n + 1) + 1) - 1))))] := hD
          refine lv_iinc (v := nI n) (lv' := [(1, .int (nI n)), (0, .ref h0)]) hx hb dX1_format_118 hl (k := 0) rfl (pk_m1 _) (by decide) rfl (fun ls hl => ?_)
          refine lv_goto (tgt := 54) hx hb dX1_format_121 (by decide) ?_
          exact ih _ _ H locs ls (by omega) (hs_I_s ok hI (by omega) (fun b hb => by omega) (fun _ => rfl)) hA2 hP hD hS (lv_sub hl [0, 1] rfl)
        · refine lv_aload_n hx hb dX1_format_75 rfl (lv_at hl 1 rfl) ?_
          refine lv_iload_n hx hb dX1_format_76 rfl (lv_at hl 0 rfl) ?_
          refine lv_aload_n hx hb dX1_format_77 rfl (lv_at hl 1 rfl) ?_
          refine va_get (D := (dC, dI)) (ci := 1) (v := .int (nI N)) (C := RX1) (T := TX1) (N := 11) hx hb hts (by decide +kernel) hown hK hP 0 rfl rfl 1 (by decide) (hts (.fieldLink RX1 23 "HashedStoreModel" "blocks" "I") (by decide +kernel)) (fun _ h9 => h9) rfl dX1_format_78 ?_
          refine hs_subN hx hb (by omega) dX1_format_81 ?_
          refine hs_pe (v := hs_bl g w ((n + 1 - N) * w) (nI (n + 1 - N))) (va_runV (As := [.int (nI ((n + 1) - N))]) (rest := [.int (nI (nw + (n + 1) - 1)), .ref hp]) ⟨hx, hb, hml, hown, hts⟩ (kX1_hash l dC dI h0 hd hp cA d N w nw sz u F1 g kr dn lf dw ok (n + 1 - N) (by omega)) (cwV 1 hts gX1_format_X1_hash rfl rfl rfl (by decide +kernel) ⟨(Nat.le_of_ble_eq_true rfl), (Nat.le_of_ble_eq_true rfl)⟩) (hs_preV (q := (RX1, TX1, 11)) (ci := 1) hK (hP.sub [0, 2] rfl) rfl rfl) rfl rfl hl.1 rfl (lv_room (Nat.le_of_ble_eq_true rfl)) dX1_format_82 ⟨Nat.zero_le _, Nat.zero_le _⟩) hS hP (fun H locs hP hS => ?_)
          refine lv_goto (tgt := 117) hx hb dX1_format_85 (by decide) ?_
          refine hs_ast hx hb hK hP hD hS 2 0 rfl rfl (k := nw + (n + 1) - 1) (by omega) (by omega) dX1_format_117 (fun H locs hP hD hS => ?_)
          have hP : va_P (dC, dI) vwCl [oM_ h0 hd hp d N w nw sz u kr dn lf dw, ar_ hd cA 600 F1, ar_ hp cA 300 (upd g (nw + (n + 1) - 1) (hs_bl g w ((n + 1 - N) * w) (nI (n + 1 - N))))] H := hP
          have hD : va_D (va_A [oM_ h0 hd hp d N w nw sz u kr dn lf dw, ar_ hd cA 600 F, ar_ hp cA 300 G] s.heap.size) [oM_ h0 hd hp d N w nw sz u kr dn lf dw, ar_ hd cA 600 F1, ar_ hp cA 300 (upd g (nw + (n + 1) - 1) (hs_bl g w ((n + 1 - N) * w) (nI (n + 1 - N))))] := hD
          refine lv_iinc (v := nI n) (lv' := [(1, .int (nI n)), (0, .ref h0)]) hx hb dX1_format_118 hl (k := 0) rfl (pk_m1 _) (by decide) rfl (fun ls hl => ?_)
          refine lv_goto (tgt := 54) hx hb dX1_format_121 (by decide) ?_
          exact ih _ _ H locs ls (by omega) (hs_I_s ok hI (by omega) (fun b hb => by rw [show n + 1 - N = b by omega]) (fun h9 => absurd h9 (by omega))) hA2 hP hD hS (lv_sub hl [0, 1] rfl)
  have loopB : ∀ (n : Nat) (i : Nat) (F1 : Nat → Int32) (g : Nat → Int32) (H : Heap) (locs : List Loc) (ls : Array Slot), (i + n = sz) → (∀ x, x < i → g x = 0) → (∀ x, x < 600 → sz ≤ x → F1 x = 0) → va_P (dC, dI) vwCl [oM_ h0 hd hp d N w nw sz u kr dn lf dw, ar_ hd cA 600 F1, ar_ hp cA 300 g] H → va_D (va_A [oM_ h0 hd hp d N w nw sz u kr dn lf dw, ar_ hd cA 600 F, ar_ hp cA 300 G] s.heap.size) [oM_ h0 hd hp d N w nw sz u kr dn lf dw, ar_ hd cA 600 F1, ar_ hp cA 300 g] → va_S (va_A [oM_ h0 hd hp d N w nw sz u kr dn lf dw, ar_ hd cA 600 F, ar_ hp cA 300 G] s.heap.size) s.heap H locs → lv_has ls 2 [(1, .int (nI i)), (0, .ref h0)] → W p l e (headSpec wsX1_format ({ frames := 2, cells := 0, slots := 0, locals := 45 })).room s m ([.ref h0] : List Value).toArray below meth c H locs 0 0 (MQ below (va_Qi (S := hs_S × (Nat → Int32)) (fun r uu => r = 0 ∧ ∃ F9 g, uu = ((F9, 0, F9 (nw + 1 - 1), 0, -1, false), g) ∧ hs_E N w nw sz F9) (hs_B (dC, dI) vwCl [(cA, .int)] (wfM h0 hd hp cA d N w nw sz) (va_A [oM_ h0 hd hp d N w nw sz u kr dn lf dw, ar_ hd cA 600 F, ar_ hp cA 300 G] s.heap.size)) (va_A [oM_ h0 hd hp d N w nw sz u kr dn lf dw, ar_ hd cA 600 F, ar_ hp cA 300 G] s.heap.size)) ([.ref h0] : List Value).toArray s 0 0 (va_A [oM_ h0 hd hp d N w nw sz u kr dn lf dw, ar_ hd cA 600 F, ar_ hp cA 300 G] s.heap.size)) (F0 m 24 ls []) := by
    intro n
    induction n with
    | zero =>
      intro i F1 g H locs ls hi hg hA2 hP hD hS hl
      refine lv_iload_n hx hb dX1_format_24 rfl (lv_at hl 0 rfl) ?_
      refine lv_aload_n hx hb dX1_format_25 rfl (lv_at hl 1 rfl) ?_
      refine va_get (D := (dC, dI)) (ci := 1) (v := .int (nI sz)) (C := RX1) (T := TX1) (N := 11) hx hb hts (by decide +kernel) hown hK hP 0 rfl rfl 3 (by decide) (hts (.fieldLink RX1 29 "HashedStoreModel" "size" "I") (by decide +kernel)) (fun _ h9 => h9) rfl dX1_format_26 ?_
      refine hs_cge (tgt := 45) hx hb (by omega) (by omega) dX1_format_29 (by decide) (fun c1 => ?_) (fun c1 => ?_)
      · refine lv_iconst (v := nI 2) hx hb dX1_format_45 (by decide) ?_
        refine lv_aload_n hx hb dX1_format_46 rfl (lv_at hl 1 rfl) ?_
        refine va_get (D := (dC, dI)) (ci := 1) (v := .int (nI N)) (C := RX1) (T := TX1) (N := 11) hx hb hts (by decide +kernel) hown hK hP 0 rfl rfl 1 (by decide) (hts (.fieldLink RX1 23 "HashedStoreModel" "blocks" "I") (by decide +kernel)) (fun _ h9 => h9) rfl dX1_format_47 ?_
        refine hs_mulN hx hb dX1_format_50 ?_
        refine lv_iconst (v := nI 1) hx hb dX1_format_51 (by decide) ?_
        refine hs_subN hx hb (by omega) dX1_format_52 ?_
        refine lv_istore_n (lv' := [(1, .int (nI ((2 * N) - 1))), (0, .ref h0)]) hx hb dX1_format_53 rfl hl (by decide) rfl (fun ls hl => ?_)
        exact loopC (2 * N - 1) F1 g H locs ls (by omega) ⟨fun x hx9 => hg x (by omega), fun b hb h9 => by omega, fun k h1 h2 h3 => by omega⟩ hA2 hP hD hS (lv_sub hl [0, 1] rfl)
      · exact absurd c1 (by omega)
    | succ n ih =>
      intro i F1 g H locs ls hi hg hA2 hP hD hS hl
      refine lv_iload_n hx hb dX1_format_24 rfl (lv_at hl 0 rfl) ?_
      refine lv_aload_n hx hb dX1_format_25 rfl (lv_at hl 1 rfl) ?_
      refine va_get (D := (dC, dI)) (ci := 1) (v := .int (nI sz)) (C := RX1) (T := TX1) (N := 11) hx hb hts (by decide +kernel) hown hK hP 0 rfl rfl 3 (by decide) (hts (.fieldLink RX1 29 "HashedStoreModel" "size" "I") (by decide +kernel)) (fun _ h9 => h9) rfl dX1_format_26 ?_
      refine hs_cge (tgt := 45) hx hb (by omega) (by omega) dX1_format_29 (by decide) (fun c1 => ?_) (fun c1 => ?_)
      · exact absurd c1 (by omega)
      · refine lv_aload_n hx hb dX1_format_32 rfl (lv_at hl 1 rfl) ?_
        refine va_get (D := (dC, dI)) (ci := 1) (v := .ref hp) (C := RX1) (T := TX1) (N := 11) hx hb hts (by decide +kernel) hown hK hP 0 rfl rfl 5 (by decide) (hts (.fieldLink RX1 13 "HashedStoreModel" "goal" "[I") (by decide +kernel)) (fun _ h9 => h9) rfl dX1_format_33 ?_
        refine lv_iload_n hx hb dX1_format_36 rfl (lv_at hl 0 rfl) ?_
        refine lv_iconst (v := nI 0) hx hb dX1_format_37 (by decide) ?_
        refine hs_ast hx hb hK hP hD hS 2 0 rfl rfl (k := i) (by omega) (by omega) dX1_format_38 (fun H locs hP hD hS => ?_)
        have hP : va_P (dC, dI) vwCl [oM_ h0 hd hp d N w nw sz u kr dn lf dw, ar_ hd cA 600 F1, ar_ hp cA 300 (upd g i (nI 0))] H := hP
        have hD : va_D (va_A [oM_ h0 hd hp d N w nw sz u kr dn lf dw, ar_ hd cA 600 F, ar_ hp cA 300 G] s.heap.size) [oM_ h0 hd hp d N w nw sz u kr dn lf dw, ar_ hd cA 600 F1, ar_ hp cA 300 (upd g i (nI 0))] := hD
        refine lv_iinc (v := nI (i + 1)) (lv' := [(1, .int (nI (i + 1))), (0, .ref h0)]) hx hb dX1_format_39 hl (k := 0) rfl (nI_1 _) (by decide) rfl (fun ls hl => ?_)
        refine lv_goto (tgt := 24) hx hb dX1_format_42 (by decide) ?_
        exact ih (i + 1) _ _ H locs ls (by omega) (fun x hx9 => by
          by_cases e : x = i
          · subst e; exact pk_us.trans nI_0
          · exact (pk_un e).trans (hg x (by omega))) hA2 hP hD hS (lv_sub hl [0, 1] rfl)
  refine lv_iconst (v := nI 0) hx hb dX1_format_0 (by decide) ?_
  refine lv_istore_n (lv' := [(1, .int (nI 0)), (0, .ref h0)]) hx hb dX1_format_1 rfl hl (by decide) rfl (fun ls hl => ?_)
  have loopA : ∀ (n : Nat) (i : Nat) (F1 : Nat → Int32) (H : Heap) (locs : List Loc) (ls : Array Slot), (i + n = 600) → (∀ x, x < i → F1 x = 0) → va_P (dC, dI) vwCl [oM_ h0 hd hp d N w nw sz u kr dn lf dw, ar_ hd cA 600 F1, ar_ hp cA 300 G] H → va_D (va_A [oM_ h0 hd hp d N w nw sz u kr dn lf dw, ar_ hd cA 600 F, ar_ hp cA 300 G] s.heap.size) [oM_ h0 hd hp d N w nw sz u kr dn lf dw, ar_ hd cA 600 F1, ar_ hp cA 300 G] → va_S (va_A [oM_ h0 hd hp d N w nw sz u kr dn lf dw, ar_ hd cA 600 F, ar_ hp cA 300 G] s.heap.size) s.heap H locs → lv_has ls 2 [(1, .int (nI i)), (0, .ref h0)] → W p l e (headSpec wsX1_format ({ frames := 2, cells := 0, slots := 0, locals := 45 })).room s m ([.ref h0] : List Value).toArray below meth c H locs 0 0 (MQ below (va_Qi (S := hs_S × (Nat → Int32)) (fun r uu => r = 0 ∧ ∃ F9 g, uu = ((F9, 0, F9 (nw + 1 - 1), 0, -1, false), g) ∧ hs_E N w nw sz F9) (hs_B (dC, dI) vwCl [(cA, .int)] (wfM h0 hd hp cA d N w nw sz) (va_A [oM_ h0 hd hp d N w nw sz u kr dn lf dw, ar_ hd cA 600 F, ar_ hp cA 300 G] s.heap.size)) (va_A [oM_ h0 hd hp d N w nw sz u kr dn lf dw, ar_ hd cA 600 F, ar_ hp cA 300 G] s.heap.size)) ([.ref h0] : List Value).toArray s 0 0 (va_A [oM_ h0 hd hp d N w nw sz u kr dn lf dw, ar_ hd cA 600 F, ar_ hp cA 300 G] s.heap.size)) (F0 m 2 ls []) := by
    intro n
    induction n with
    | zero =>
      intro i F1 H locs ls hi hg hP hD hS hl
      refine lv_iload_n hx hb dX1_format_2 rfl (lv_at hl 0 rfl) ?_
      refine lv_sipush (v := nI 600) hx hb dX1_format_3 (by decide) ?_
      refine hs_cge (tgt := 22) hx hb (by omega) (by omega) dX1_format_6 (by decide) (fun c1 => ?_) (fun c1 => ?_)
      · refine lv_iconst (v := nI 0) hx hb dX1_format_22 (by decide) ?_
        refine lv_istore_n (lv' := [(1, .int (nI 0)), (0, .ref h0)]) hx hb dX1_format_23 rfl hl (by decide) rfl (fun ls hl => ?_)
        exact loopB sz 0 F1 G H locs ls (by omega) (fun x hx9 => absurd hx9 (Nat.not_lt_zero x)) (fun x hx9 _ => hg x (by omega)) hP hD hS (lv_sub hl [0, 1] rfl)
      · exact absurd c1 (by omega)
    | succ n ih =>
      intro i F1 H locs ls hi hg hP hD hS hl
      refine lv_iload_n hx hb dX1_format_2 rfl (lv_at hl 0 rfl) ?_
      refine lv_sipush (v := nI 600) hx hb dX1_format_3 (by decide) ?_
      refine hs_cge (tgt := 22) hx hb (by omega) (by omega) dX1_format_6 (by decide) (fun c1 => ?_) (fun c1 => ?_)
      · exact absurd c1 (by omega)
      · refine lv_aload_n hx hb dX1_format_9 rfl (lv_at hl 1 rfl) ?_
        refine va_get (D := (dC, dI)) (ci := 1) (v := .ref hd) (C := RX1) (T := TX1) (N := 11) hx hb hts (by decide +kernel) hown hK hP 0 rfl rfl 4 (by decide) (hts (.fieldLink RX1 7 "HashedStoreModel" "disk" "[I") (by decide +kernel)) (fun _ h9 => h9) rfl dX1_format_10 ?_
        refine lv_iload_n hx hb dX1_format_13 rfl (lv_at hl 0 rfl) ?_
        refine lv_iconst (v := nI 0) hx hb dX1_format_14 (by decide) ?_
        refine hs_ast hx hb hK hP hD hS 1 0 rfl rfl (k := i) (by omega) (by omega) dX1_format_15 (fun H locs hP hD hS => ?_)
        have hP : va_P (dC, dI) vwCl [oM_ h0 hd hp d N w nw sz u kr dn lf dw, ar_ hd cA 600 (upd F1 i (nI 0)), ar_ hp cA 300 G] H := hP
        have hD : va_D (va_A [oM_ h0 hd hp d N w nw sz u kr dn lf dw, ar_ hd cA 600 F, ar_ hp cA 300 G] s.heap.size) [oM_ h0 hd hp d N w nw sz u kr dn lf dw, ar_ hd cA 600 (upd F1 i (nI 0)), ar_ hp cA 300 G] := hD
        refine lv_iinc (v := nI (i + 1)) (lv' := [(1, .int (nI (i + 1))), (0, .ref h0)]) hx hb dX1_format_16 hl (k := 0) rfl (nI_1 _) (by decide) rfl (fun ls hl => ?_)
        refine lv_goto (tgt := 2) hx hb dX1_format_19 (by decide) ?_
        exact ih (i + 1) _ H locs ls (by omega) (fun x hx9 => by
          by_cases e : x = i
          · subst e; exact pk_us.trans nI_0
          · exact (pk_un e).trans (hg x (by omega))) hP hD hS (lv_sub hl [0, 1] rfl)
  exact loopA 600 0 F _ _ ls (by omega) (fun x hx9 => absurd hx9 (Nat.not_lt_zero x)) hP hD hS (lv_sub hl [0, 1] rfl)
end
section
/-! the constructors' numbers -/
def hs_cd (x : Int32) : Nat := if x < 0 then 0 else if 5 < x then 5 else x.toNatClampNeg
def hs_cw (x : Int32) : Nat := if x < 1 then 1 else if 6 < x then 6 else x.toNatClampNeg
theorem hs_5 : (5 : Int32).toInt = 5 := by decide
theorem hs_6 : (6 : Int32).toInt = 6 := by decide
theorem hs_1 : (1 : Int32).toInt = 1 := by decide
theorem hs_0 : (0 : Int32).toInt = 0 := by decide
theorem hs_cd1 {x : Int32} (c : ¬ 0 ≤ x) : nI 0 = nI (hs_cd x) := by unfold hs_cd; rw [if_pos (Int32.not_le.mp c)]
theorem hs_cd2 {x : Int32} (c : 0 ≤ x) (c2 : ¬ x ≤ 5) : nI 5 = nI (hs_cd x) := by unfold hs_cd; rw [if_neg (Int32.not_lt.mpr c), if_pos (Int32.not_le.mp c2)]
theorem hs_cd3 {x : Int32} (c : 0 ≤ x) (c2 : x ≤ 5) : x = nI (hs_cd x) := by
  obtain ⟨j, hj, rfl⟩ := nI_of2 (M := 5) (n := 5) hs_5 (Int32.not_lt.mpr c) c2
  unfold hs_cd
  rw [if_neg (Int32.not_lt.mpr c), if_neg (Int32.not_lt.mpr c2), nI_clamp (by omega)]
theorem hs_cw1 {x : Int32} (c : ¬ 1 ≤ x) : nI 1 = nI (hs_cw x) := by unfold hs_cw; rw [if_pos (Int32.not_le.mp c)]
theorem hs_cw2 {x : Int32} (c : 1 ≤ x) (c2 : ¬ x ≤ 6) : nI 6 = nI (hs_cw x) := by unfold hs_cw; rw [if_neg (Int32.not_lt.mpr c), if_pos (Int32.not_le.mp c2)]
theorem hs_ge1 {x : Int32} (c : 1 ≤ x) : ¬ x < 0 := fun q => by
  rw [Int32.le_iff_toInt_le, hs_1] at c
  rw [Int32.lt_iff_toInt_lt, hs_0] at q
  omega
theorem hs_cw3 {x : Int32} (c : 1 ≤ x) (c2 : x ≤ 6) : x = nI (hs_cw x) := by
  obtain ⟨j, hj, rfl⟩ := nI_of2 (M := 6) (n := 6) hs_6 (hs_ge1 c) c2
  unfold hs_cw
  rw [if_neg (Int32.not_lt.mpr c), if_neg (Int32.not_lt.mpr c2), nI_clamp (by omega)]
theorem hs_cd_le (x : Int32) : hs_cd x ≤ 5 := by
  by_cases c : 0 ≤ x
  · by_cases c2 : x ≤ 5
    · obtain ⟨j, hj, rfl⟩ := nI_of2 (M := 5) (n := 5) hs_5 (Int32.not_lt.mpr c) c2
      unfold hs_cd
      rw [if_neg (Int32.not_lt.mpr c), if_neg (Int32.not_lt.mpr c2), nI_clamp (by omega)]; exact hj
    · unfold hs_cd; rw [if_neg (Int32.not_lt.mpr c), if_pos (Int32.not_le.mp c2)]; omega
  · unfold hs_cd; rw [if_pos (Int32.not_le.mp c)]; omega
theorem hs_cw_le (x : Int32) : 1 ≤ hs_cw x ∧ hs_cw x ≤ 6 := by
  by_cases c : 1 ≤ x
  · by_cases c2 : x ≤ 6
    · obtain ⟨j, hj, rfl⟩ := nI_of2 (M := 6) (n := 6) hs_6 (hs_ge1 c) c2
      unfold hs_cw
      rw [if_neg (Int32.not_lt.mpr c), if_neg (Int32.not_lt.mpr c2), nI_clamp (by omega)]
      refine ⟨?_, hj⟩
      rw [Int32.le_iff_toInt_le, hs_1, nI_toInt (by omega)] at c
      omega
    · unfold hs_cw; rw [if_neg (Int32.not_lt.mpr c), if_pos (Int32.not_le.mp c2)]; omega
  · unfold hs_cw; rw [if_pos (Int32.not_le.mp c)]; omega
theorem hs_ok_c (x y : Int32) : hs_ok (hs_cd x) (2 ^ hs_cd x) (hs_cw y) (2 ^ hs_cd x * hs_cw y) (2 ^ hs_cd x * hs_cw y + 2 * 2 ^ hs_cd x - 1) := ⟨hs_cd_le x, rfl, (hs_cw_le y).1, (hs_cw_le y).2, rfl, rfl⟩
/-- max(0, min(x, 5)), max(1, min(x, 6)) -/
theorem hs_cdX (x : Int32) : (if (0 : Int32) < (if (5 : Int32) < x then 5 else x) then (if (5 : Int32) < x then 5 else x) else 0) = nI (hs_cd x) := by
  by_cases c5 : (5 : Int32) < x
  · simp only [if_pos c5]
    rw [if_pos (by decide)]
    refine hs_cd2 (Int32.not_lt.mp fun q => ?_) (Int32.not_le.mpr c5)
    rw [Int32.lt_iff_toInt_lt, hs_0] at q
    rw [Int32.lt_iff_toInt_lt, hs_5] at c5
    omega
  · simp only [if_neg c5]
    by_cases c0 : (0 : Int32) < x
    · rw [if_pos c0]
      refine hs_cd3 (Int32.not_lt.mp fun q => ?_) (Int32.not_lt.mp c5)
      rw [Int32.lt_iff_toInt_lt, hs_0] at q c0
      omega
    · rw [if_neg c0]
      by_cases c : 0 ≤ x
      · have e : x = 0 := Int32.le_antisymm (Int32.not_lt.mp c0) c
        rw [← hs_cd3 c (Int32.not_lt.mp c5), e]
      · exact nI_0.symm.trans (hs_cd1 c)
theorem hs_cwX (x : Int32) : (if (1 : Int32) < (if (6 : Int32) < x then 6 else x) then (if (6 : Int32) < x then 6 else x) else 1) = nI (hs_cw x) := by
  by_cases c5 : (6 : Int32) < x
  · simp only [if_pos c5]
    rw [if_pos (by decide)]
    refine hs_cw2 (Int32.not_lt.mp fun q => ?_) (Int32.not_le.mpr c5)
    rw [Int32.lt_iff_toInt_lt, hs_1] at q
    rw [Int32.lt_iff_toInt_lt, hs_6] at c5
    omega
  · simp only [if_neg c5]
    by_cases c0 : (1 : Int32) < x
    · rw [if_pos c0]
      refine hs_cw3 (Int32.not_lt.mp fun q => ?_) (Int32.not_lt.mp c5)
      rw [Int32.lt_iff_toInt_lt, hs_1] at q c0
      omega
    · rw [if_neg c0]
      by_cases c : 1 ≤ x
      · have e : x = 1 := Int32.le_antisymm (Int32.not_lt.mp c0) c
        rw [← hs_cw3 c (Int32.not_lt.mp c5), e]
      · exact (show (1 : Int32) = nI 1 from rfl).trans (hs_cw1 c)
theorem hs_shl : ∀ d, d < 6 → nI 1 <<< (nI d &&& 31) = nI (2 ^ d) := by decide
theorem hs_sameA {D : va_G} {cl : List vw_C} {c1 c2 : ClassId} {s : State} (hK : va_K D cl [(c1, .int), (c2, .int)] s) : c1 = c2 := Option.some.inj ((va_nm_int (hK.2 0 _ rfl).2).symm.trans (va_nm_int (hK.2 1 _ rfl).2))
theorem hs_new {n : Nat} (cA : ClassId) : vp_cell cA (n, .inl (fun _ => 0)) = arrV cA n (fun _ => defaultValue .int) := by rw [vp_cell_i]; rfl
theorem hs_bytes {n : Nat} (h : n ≤ 600) : n * componentBytes .int ≤ 536870912 := by
  have e : componentBytes .int = 4 := rfl
  rw [e]
  omega
end
section
set_option maxHeartbeats 4000000 in
set_option maxRecDepth 100000 in
theorem kX0_init (l : Launch) (dC : Nat → ClassId) (dI : Nat → Nat → Nat) (h0 : Nat) (d N w nw sz : Nat) (ok : hs_ok d N w nw sz) (p1 p2 : Int32) (e1 : d = hs_cd p1) (e2 : w = hs_cw p2) (zz : Nat) : Met l yX0_init wsX0_init ({ frames := 4, cells := 2, slots := 765, locals := 88 }) (va_Pc [.ref h0, .int p1, .int p2] (hs_pm (dC, dI) vwCl [] [(h0, .inr (0, [.int 0, .int 0, .int 0, .int 0, .int 0, .null, .null, .int 0, .int 0, .int 0, .int 0, .int 0]))] zz)) (va_Qv (S := Nat × Nat × ClassId × (Nat → Int32) × (Nat → Int32)) (fun uu => hs_E N w nw sz uu.2.2.2.1) (fun uu t => va_P (dC, dI) vwCl (wfX h0 uu.1 uu.2.1 uu.2.2.1 d N w nw sz ((uu.2.2.2.1, 0, uu.2.2.2.1 (nw + 1 - 1), 0, -1, false), uu.2.2.2.2)) t.heap ∧ va_K (dC, dI) vwCl [(uu.2.2.1, .int)] t ∧ va_D (va_A [(h0, .inr (0, [.int 0, .int 0, .int 0, .int 0, .int 0, .null, .null, .int 0, .int 0, .int 0, .int 0, .int 0]))] zz) (wfX h0 uu.1 uu.2.1 uu.2.2.1 d N w nw sz ((uu.2.2.2.1, 0, uu.2.2.2.1 (nw + 1 - 1), 0, -1, false), uu.2.2.2.2))) (va_A [(h0, .inr (0, [.int 0, .int 0, .int 0, .int 0, .int 0, .null, .null, .int 0, .int 0, .int 0, .int 0, .int 0]))] zz)) 2 765 (va_A [(h0, .inr (0, [.int 0, .int 0, .int 0, .int 0, .int 0, .null, .null, .int 0, .int 0, .int 0, .int 0, .int 0]))] zz) := by
  refine Met.ofW (cc := cX0_init) (maxL := 3) (ret := none) (by decide) rfl ?_
  intro p e s m args below meth c s₁ B hml hv
  obtain ⟨rfl, hzz, hP, hK, hD0⟩ := hv
  have hx := B.exec
  have hb := B.bytes
  have hr := B.returns
  have hts := atoms_spec (ws := wsX0_init) B.pre
  have hown : s.vm.findClass RX0 = some m.cls := findClass_of_methodNamed B.named
  have hlocks := B.notSynchronized
  have hin : meth.name = "<init>" := (name_of_methodNamed B.named B.method).1
  obtain ⟨hd5, hN1, hN2, hw1, hw2, hn1, hn2, hsz, hsz2⟩ := hs_okf ok
  have hnw : nw = N * w := ok.2.2.2.2.1
  have hN : N = 2 ^ d := ok.2.1
  subst hzz
  have hD := hD0.self (sz := s.heap.size)
  have hS : va_S (va_A [(h0, .inr (0, [.int 0, .int 0, .int 0, .int 0, .int 0, .null, .null, .int 0, .int 0, .int 0, .int 0, .int 0]))] s.heap.size) s.heap s.heap [] := va_S.rf
  have hA : ∀ q : Nat, s.heap.size ≤ q → (va_A [(h0, .inr (0, [.int 0, .int 0, .int 0, .int 0, .int 0, .null, .null, .int 0, .int 0, .int 0, .int 0, .int 0]))] s.heap.size) q := fun q h => Or.inr h
  have hl := lv_entry ([.ref h0, .int p1, .int p2]) (n := 3) (Nat.le_of_ble_eq_true rfl)
  rw [lg_entry_eq]
  generalize (lg_sl ([.ref h0, .int p1, .int p2]) ++ List.replicate (3 - (lg_sl ([.ref h0, .int p1, .int p2])).length) Slot.unset).toArray = ls at hl ⊢
  have hl : lv_has ls 3 [(0, .ref h0), (1, .int p1), (2, .int p2)] := hl
  refine lv_aload_n hx hb dX0_init_0 rfl (lv_at hl 0 rfl) ?_
  refine W.objInit hx hb hown (hts (.methodLink RX0 1 objectInit) (by decide +kernel)) (hts (.instanceMethod objectInit) (by decide +kernel)) (hts (.code objectInit ⟨#[0xb1]⟩ 1 none) (by decide +kernel)) rfl (by rw [hml]; exact hl.1) rfl dX0_init_1 (Nat.le_of_ble_eq_true rfl) (Nat.le_of_ble_eq_true rfl) ?_
  refine W.eq (g2 := F0 m 4 ls []) rfl ?_
  refine lv_aload_n hx hb dX0_init_4 rfl (lv_at hl 0 rfl) ?_
  refine lv_iconst (v := 0) hx hb dX0_init_5 (by decide) ?_
  refine lv_iload_n hx hb dX0_init_6 rfl (lv_at hl 1 rfl) ?_
  refine lv_iconst (v := 5) hx hb dX0_init_7 (by decide) ?_
  refine va_mmin hx hb (hml.trans hl.1.symm) hown (hts (.methodLink RX0 9 Lib.Math.min.name) (by decide +kernel)) (hts (.static Lib.Math.min.name) (by decide +kernel)) (hts (.initialized "java/lang/Math") (by decide +kernel)) (hts (.code Lib.Math.min.name Lib.Math.min.code 2 (some .int)) (by decide +kernel)) (Nat.le_of_ble_eq_true rfl) (Nat.le_of_ble_eq_true rfl) (Nat.zero_le _) (Nat.zero_le _) dX0_init_8 ?_
  refine va_mmax hx hb (hml.trans hl.1.symm) hown (hts (.methodLink RX0 15 Lib.Math.max.name) (by decide +kernel)) (hts (.static Lib.Math.max.name) (by decide +kernel)) (hts (.initialized "java/lang/Math") (by decide +kernel)) (hts (.code Lib.Math.max.name Lib.Math.max.code 2 (some .int)) (by decide +kernel)) (Nat.le_of_ble_eq_true rfl) (Nat.le_of_ble_eq_true rfl) (Nat.zero_le _) (Nat.zero_le _) dX0_init_11 ?_
  refine lv_topi (fun zq ezq => ?_)
  rw [hs_cdX, ← e1] at ezq
  subst ezq
  refine va_putF (D := (dC, dI)) (ci := 0) (v := .int (nI d)) (ty := .int) (C := RX0) (T := TX0) (N := 12) hx hb hts (by decide +kernel) tyX0 tyX0_ok nmX0 hown hK hP hD hS 0 rfl rfl 0 (by decide) (hts (.fieldLink RX0 18 "HashedStore" "treeDepth" "I") (by decide +kernel)) (fun _ h9 => h9) rfl hin rfl (by decide +kernel) rfl rfl (Nat.le_of_ble_eq_true rfl) dX0_init_14 (fun H locs hP hD hS => ?_)
  have hP : va_P (dC, dI) vwCl [(h0, .inr (0, [.int (nI d), .int 0, .int 0, .int 0, .int 0, .null, .null, .int 0, .int 0, .int 0, .int 0, .int 0]))] H := hP
  have hD : va_D (va_A [(h0, .inr (0, [.int 0, .int 0, .int 0, .int 0, .int 0, .null, .null, .int 0, .int 0, .int 0, .int 0, .int 0]))] s.heap.size) [(h0, .inr (0, [.int (nI d), .int 0, .int 0, .int 0, .int 0, .null, .null, .int 0, .int 0, .int 0, .int 0, .int 0]))] := hD
  refine lv_aload_n hx hb dX0_init_17 rfl (lv_at hl 0 rfl) ?_
  refine lv_iconst (v := 1) hx hb dX0_init_18 (by decide) ?_
  refine lv_iload_n hx hb dX0_init_19 rfl (lv_at hl 2 rfl) ?_
  refine lv_bipush (v := 6) hx hb dX0_init_20 (by decide) ?_
  refine va_mmin hx hb (hml.trans hl.1.symm) hown (hts (.methodLink RX0 9 Lib.Math.min.name) (by decide +kernel)) (hts (.static Lib.Math.min.name) (by decide +kernel)) (hts (.initialized "java/lang/Math") (by decide +kernel)) (hts (.code Lib.Math.min.name Lib.Math.min.code 2 (some .int)) (by decide +kernel)) (Nat.le_of_ble_eq_true rfl) (Nat.le_of_ble_eq_true rfl) (Nat.zero_le _) (Nat.zero_le _) dX0_init_22 ?_
  refine va_mmax hx hb (hml.trans hl.1.symm) hown (hts (.methodLink RX0 15 Lib.Math.max.name) (by decide +kernel)) (hts (.static Lib.Math.max.name) (by decide +kernel)) (hts (.initialized "java/lang/Math") (by decide +kernel)) (hts (.code Lib.Math.max.name Lib.Math.max.code 2 (some .int)) (by decide +kernel)) (Nat.le_of_ble_eq_true rfl) (Nat.le_of_ble_eq_true rfl) (Nat.zero_le _) (Nat.zero_le _) dX0_init_25 ?_
  refine lv_topi (fun zq ezq => ?_)
  rw [hs_cwX, ← e2] at ezq
  subst ezq
  refine va_putF (D := (dC, dI)) (ci := 0) (v := .int (nI w)) (ty := .int) (C := RX0) (T := TX0) (N := 12) hx hb hts (by decide +kernel) tyX0 tyX0_ok nmX0 hown hK hP hD hS 0 rfl rfl 2 (by decide) (hts (.fieldLink RX0 22 "HashedStore" "wordsPerBlock" "I") (by decide +kernel)) (fun _ h9 => h9) rfl hin rfl (by decide +kernel) rfl rfl (Nat.le_of_ble_eq_true rfl) dX0_init_28 (fun H locs hP hD hS => ?_)
  have hP : va_P (dC, dI) vwCl [(h0, .inr (0, [.int (nI d), .int 0, .int (nI w), .int 0, .int 0, .null, .null, .int 0, .int 0, .int 0, .int 0, .int 0]))] H := hP
  have hD : va_D (va_A [(h0, .inr (0, [.int 0, .int 0, .int 0, .int 0, .int 0, .null, .null, .int 0, .int 0, .int 0, .int 0, .int 0]))] s.heap.size) [(h0, .inr (0, [.int (nI d), .int 0, .int (nI w), .int 0, .int 0, .null, .null, .int 0, .int 0, .int 0, .int 0, .int 0]))] := hD
  refine lv_aload_n hx hb dX0_init_31 rfl (lv_at hl 0 rfl) ?_
  refine lv_iconst (v := nI 1) hx hb dX0_init_32 (by decide) ?_
  refine lv_aload_n hx hb dX0_init_33 rfl (lv_at hl 0 rfl) ?_
  refine va_get (D := (dC, dI)) (ci := 0) (v := .int (nI d)) (C := RX0) (T := TX0) (N := 12) hx hb hts (by decide +kernel) hown hK hP 0 rfl rfl 0 (by decide) (hts (.fieldLink RX0 18 "HashedStore" "treeDepth" "I") (by decide +kernel)) (fun _ h9 => h9) rfl dX0_init_34 ?_
  refine lv_ishl hx hb dX0_init_37 ?_
  refine lv_topi (fun zq ezq => ?_)
  rw [hs_shl d (by omega), ← hN] at ezq
  subst ezq
  refine va_putF (D := (dC, dI)) (ci := 0) (v := .int (nI N)) (ty := .int) (C := RX0) (T := TX0) (N := 12) hx hb hts (by decide +kernel) tyX0 tyX0_ok nmX0 hown hK hP hD hS 0 rfl rfl 1 (by decide) (hts (.fieldLink RX0 25 "HashedStore" "blockCount" "I") (by decide +kernel)) (fun _ h9 => h9) rfl hin rfl (by decide +kernel) rfl rfl (Nat.le_of_ble_eq_true rfl) dX0_init_38 (fun H locs hP hD hS => ?_)
  have hP : va_P (dC, dI) vwCl [(h0, .inr (0, [.int (nI d), .int (nI N), .int (nI w), .int 0, .int 0, .null, .null, .int 0, .int 0, .int 0, .int 0, .int 0]))] H := hP
  have hD : va_D (va_A [(h0, .inr (0, [.int 0, .int 0, .int 0, .int 0, .int 0, .null, .null, .int 0, .int 0, .int 0, .int 0, .int 0]))] s.heap.size) [(h0, .inr (0, [.int (nI d), .int (nI N), .int (nI w), .int 0, .int 0, .null, .null, .int 0, .int 0, .int 0, .int 0, .int 0]))] := hD
  refine lv_aload_n hx hb dX0_init_41 rfl (lv_at hl 0 rfl) ?_
  refine lv_aload_n hx hb dX0_init_42 rfl (lv_at hl 0 rfl) ?_
  refine va_get (D := (dC, dI)) (ci := 0) (v := .int (nI N)) (C := RX0) (T := TX0) (N := 12) hx hb hts (by decide +kernel) hown hK hP 0 rfl rfl 1 (by decide) (hts (.fieldLink RX0 25 "HashedStore" "blockCount" "I") (by decide +kernel)) (fun _ h9 => h9) rfl dX0_init_43 ?_
  refine lv_aload_n hx hb dX0_init_46 rfl (lv_at hl 0 rfl) ?_
  refine va_get (D := (dC, dI)) (ci := 0) (v := .int (nI w)) (C := RX0) (T := TX0) (N := 12) hx hb hts (by decide +kernel) hown hK hP 0 rfl rfl 2 (by decide) (hts (.fieldLink RX0 22 "HashedStore" "wordsPerBlock" "I") (by decide +kernel)) (fun _ h9 => h9) rfl dX0_init_47 ?_
  refine hs_mulN hx hb dX0_init_50 ?_
  refine lv_topi (fun zq ezq => ?_)
  rw [← hnw] at ezq
  subst ezq
  refine va_putF (D := (dC, dI)) (ci := 0) (v := .int (nI nw)) (ty := .int) (C := RX0) (T := TX0) (N := 12) hx hb hts (by decide +kernel) tyX0 tyX0_ok nmX0 hown hK hP hD hS 0 rfl rfl 3 (by decide) (hts (.fieldLink RX0 28 "HashedStore" "areaWords" "I") (by decide +kernel)) (fun _ h9 => h9) rfl hin rfl (by decide +kernel) rfl rfl (Nat.le_of_ble_eq_true rfl) dX0_init_51 (fun H locs hP hD hS => ?_)
  have hP : va_P (dC, dI) vwCl [(h0, .inr (0, [.int (nI d), .int (nI N), .int (nI w), .int (nI nw), .int 0, .null, .null, .int 0, .int 0, .int 0, .int 0, .int 0]))] H := hP
  have hD : va_D (va_A [(h0, .inr (0, [.int 0, .int 0, .int 0, .int 0, .int 0, .null, .null, .int 0, .int 0, .int 0, .int 0, .int 0]))] s.heap.size) [(h0, .inr (0, [.int (nI d), .int (nI N), .int (nI w), .int (nI nw), .int 0, .null, .null, .int 0, .int 0, .int 0, .int 0, .int 0]))] := hD
  refine lv_aload_n hx hb dX0_init_54 rfl (lv_at hl 0 rfl) ?_
  refine lv_aload_n hx hb dX0_init_55 rfl (lv_at hl 0 rfl) ?_
  refine va_get (D := (dC, dI)) (ci := 0) (v := .int (nI nw)) (C := RX0) (T := TX0) (N := 12) hx hb hts (by decide +kernel) hown hK hP 0 rfl rfl 3 (by decide) (hts (.fieldLink RX0 28 "HashedStore" "areaWords" "I") (by decide +kernel)) (fun _ h9 => h9) rfl dX0_init_56 ?_
  refine lv_iconst (v := nI 2) hx hb dX0_init_59 (by decide) ?_
  refine lv_aload_n hx hb dX0_init_60 rfl (lv_at hl 0 rfl) ?_
  refine va_get (D := (dC, dI)) (ci := 0) (v := .int (nI N)) (C := RX0) (T := TX0) (N := 12) hx hb hts (by decide +kernel) hown hK hP 0 rfl rfl 1 (by decide) (hts (.fieldLink RX0 25 "HashedStore" "blockCount" "I") (by decide +kernel)) (fun _ h9 => h9) rfl dX0_init_61 ?_
  refine hs_mulN hx hb dX0_init_64 ?_
  refine hs_addN hx hb dX0_init_65 ?_
  refine lv_iconst (v := nI 1) hx hb dX0_init_66 (by decide) ?_
  refine hs_subN hx hb (by omega) dX0_init_67 ?_
  refine lv_topi (fun zq ezq => ?_)
  rw [← hsz] at ezq
  subst ezq
  refine va_putF (D := (dC, dI)) (ci := 0) (v := .int (nI sz)) (ty := .int) (C := RX0) (T := TX0) (N := 12) hx hb hts (by decide +kernel) tyX0 tyX0_ok nmX0 hown hK hP hD hS 0 rfl rfl 4 (by decide) (hts (.fieldLink RX0 31 "HashedStore" "areaCells" "I") (by decide +kernel)) (fun _ h9 => h9) rfl hin rfl (by decide +kernel) rfl rfl (Nat.le_of_ble_eq_true rfl) dX0_init_68 (fun H locs hP hD hS => ?_)
  have hP : va_P (dC, dI) vwCl [(h0, .inr (0, [.int (nI d), .int (nI N), .int (nI w), .int (nI nw), .int (nI sz), .null, .null, .int 0, .int 0, .int 0, .int 0, .int 0]))] H := hP
  have hD : va_D (va_A [(h0, .inr (0, [.int 0, .int 0, .int 0, .int 0, .int 0, .null, .null, .int 0, .int 0, .int 0, .int 0, .int 0]))] s.heap.size) [(h0, .inr (0, [.int (nI d), .int (nI N), .int (nI w), .int (nI nw), .int (nI sz), .null, .null, .int 0, .int 0, .int 0, .int 0, .int 0]))] := hD
  refine lv_aload_n hx hb dX0_init_71 rfl (lv_at hl 0 rfl) ?_
  refine lv_iconst (v := nI 2) hx hb dX0_init_72 (by decide) ?_
  refine lv_aload_n hx hb dX0_init_73 rfl (lv_at hl 0 rfl) ?_
  refine va_get (D := (dC, dI)) (ci := 0) (v := .int (nI sz)) (C := RX0) (T := TX0) (N := 12) hx hb hts (by decide +kernel) hown hK hP 0 rfl rfl 4 (by decide) (hts (.fieldLink RX0 31 "HashedStore" "areaCells" "I") (by decide +kernel)) (fun _ h9 => h9) rfl dX0_init_74 ?_
  refine hs_mulN hx hb dX0_init_77 ?_
  have hq1 : 0 + 2 * sz ≤ 765 := by omega
  have hq2 : (2 * sz) * componentBytes .int ≤ 536870912 := hs_bytes (by omega)
  have hq3 : ¬ nI (2 * sz) < 0 := nI_pos (by omega)
  have hq4 : (nI (2 * sz)).toNatClampNeg = 2 * sz := nI_clamp (by omega)
  refine va_newa (atype := .int) (ty := .int) (n := nI (2 * sz)) (N' := 2 * sz) (a0 := (2 * sz, .inl (fun _ => 0))) hx hb (hts (.arrayClass .int) (by decide +kernel)) rfl hK hP hD hS hA (fun cA => hs_new cA) hq3 hq4 hq2 (Nat.le_of_ble_eq_true rfl) hq1 dX0_init_78 (fun hd cA H hK hP hD hS => ?_)
  have hK : va_K (dC, dI) vwCl [(cA, .int)] s := hK
  have hP : va_P (dC, dI) vwCl [(h0, .inr (0, [.int (nI d), .int (nI N), .int (nI w), .int (nI nw), .int (nI sz), .null, .null, .int 0, .int 0, .int 0, .int 0, .int 0])), ar_ hd cA (2 * sz) (fun _ => 0)] H := hP
  have hD : va_D (va_A [(h0, .inr (0, [.int 0, .int 0, .int 0, .int 0, .int 0, .null, .null, .int 0, .int 0, .int 0, .int 0, .int 0]))] s.heap.size) [(h0, .inr (0, [.int (nI d), .int (nI N), .int (nI w), .int (nI nw), .int (nI sz), .null, .null, .int 0, .int 0, .int 0, .int 0, .int 0])), ar_ hd cA (2 * sz) (fun _ => 0)] := hD
  refine va_putF (D := (dC, dI)) (ci := 0) (v := .ref hd) (ty := .array .int) (C := RX0) (T := TX0) (N := 12) hx hb hts (by decide +kernel) tyX0 tyX0_ok nmX0 hown hK hP hD hS 0 rfl rfl 5 (by decide) (hts (.fieldLink RX0 34 "HashedStore" "disk" "[I") (by decide +kernel)) (fun _ h9 => h9) rfl hin rfl (by decide +kernel) rfl rfl (Nat.le_of_ble_eq_true rfl) dX0_init_80 (fun H locs hP hD hS => ?_)
  have hP : va_P (dC, dI) vwCl [(h0, .inr (0, [.int (nI d), .int (nI N), .int (nI w), .int (nI nw), .int (nI sz), .ref hd, .null, .int 0, .int 0, .int 0, .int 0, .int 0])), ar_ hd cA (2 * sz) (fun _ => 0)] H := hP
  have hD : va_D (va_A [(h0, .inr (0, [.int 0, .int 0, .int 0, .int 0, .int 0, .null, .null, .int 0, .int 0, .int 0, .int 0, .int 0]))] s.heap.size) [(h0, .inr (0, [.int (nI d), .int (nI N), .int (nI w), .int (nI nw), .int (nI sz), .ref hd, .null, .int 0, .int 0, .int 0, .int 0, .int 0])), ar_ hd cA (2 * sz) (fun _ => 0)] := hD
  refine lv_aload_n hx hb dX0_init_83 rfl (lv_at hl 0 rfl) ?_
  refine lv_aload_n hx hb dX0_init_84 rfl (lv_at hl 0 rfl) ?_
  refine va_get (D := (dC, dI)) (ci := 0) (v := .int (nI sz)) (C := RX0) (T := TX0) (N := 12) hx hb hts (by decide +kernel) hown hK hP 0 rfl rfl 4 (by decide) (hts (.fieldLink RX0 31 "HashedStore" "areaCells" "I") (by decide +kernel)) (fun _ h9 => h9) rfl dX0_init_85 ?_
  have hq1 : 0 + 2 * sz + sz ≤ 765 := by omega
  have hq2 : sz * componentBytes .int ≤ 536870912 := hs_bytes (by omega)
  have hq3 : ¬ nI sz < 0 := nI_pos (by omega)
  have hq4 : (nI sz).toNatClampNeg = sz := nI_clamp (by omega)
  refine va_newa (atype := .int) (ty := .int) (n := nI sz) (N' := sz) (a0 := (sz, .inl (fun _ => 0))) hx hb (hts (.arrayClass .int) (by decide +kernel)) rfl hK hP hD hS hA (fun cA => hs_new cA) hq3 hq4 hq2 (Nat.le_of_ble_eq_true rfl) hq1 dX0_init_88 (fun hp cB H hK hP hD hS => ?_)
  have hAB := hs_sameA hK
  subst hAB
  have hK : va_K (dC, dI) vwCl [(cA, .int)] s := hK.sub [0] rfl
  have hP : va_P (dC, dI) vwCl [(h0, .inr (0, [.int (nI d), .int (nI N), .int (nI w), .int (nI nw), .int (nI sz), .ref hd, .null, .int 0, .int 0, .int 0, .int 0, .int 0])), ar_ hd cA (2 * sz) (fun _ => 0), ar_ hp cA sz (fun _ => 0)] H := hP
  have hD : va_D (va_A [(h0, .inr (0, [.int 0, .int 0, .int 0, .int 0, .int 0, .null, .null, .int 0, .int 0, .int 0, .int 0, .int 0]))] s.heap.size) [(h0, .inr (0, [.int (nI d), .int (nI N), .int (nI w), .int (nI nw), .int (nI sz), .ref hd, .null, .int 0, .int 0, .int 0, .int 0, .int 0])), ar_ hd cA (2 * sz) (fun _ => 0), ar_ hp cA sz (fun _ => 0)] := hD
  refine va_putF (D := (dC, dI)) (ci := 0) (v := .ref hp) (ty := .array .int) (C := RX0) (T := TX0) (N := 12) hx hb hts (by decide +kernel) tyX0 tyX0_ok nmX0 hown hK hP hD hS 0 rfl rfl 6 (by decide) (hts (.fieldLink RX0 38 "HashedStore" "plan" "[I") (by decide +kernel)) (fun _ h9 => h9) rfl hin rfl (by decide +kernel) rfl rfl (Nat.le_of_ble_eq_true rfl) dX0_init_90 (fun H locs hP hD hS => ?_)
  have hP : va_P (dC, dI) vwCl [(h0, .inr (0, [.int (nI d), .int (nI N), .int (nI w), .int (nI nw), .int (nI sz), .ref hd, .ref hp, .int 0, .int 0, .int 0, .int 0, .int 0])), ar_ hd cA (2 * sz) (fun _ => 0), ar_ hp cA sz (fun _ => 0)] H := hP
  have hD : va_D (va_A [(h0, .inr (0, [.int 0, .int 0, .int 0, .int 0, .int 0, .null, .null, .int 0, .int 0, .int 0, .int 0, .int 0]))] s.heap.size) [(h0, .inr (0, [.int (nI d), .int (nI N), .int (nI w), .int (nI nw), .int (nI sz), .ref hd, .ref hp, .int 0, .int 0, .int 0, .int 0, .int 0])), ar_ hd cA (2 * sz) (fun _ => 0), ar_ hp cA sz (fun _ => 0)] := hD
  refine lv_aload_n hx hb dX0_init_93 rfl (lv_at hl 0 rfl) ?_
  have hP : va_P (dC, dI) vwCl [oX_ h0 hd hp d N w nw sz 0 0 0 0 false, ar_ hd cA (2 * sz) (fun _ => 0), ar_ hp cA sz (fun _ => 0)] H := hP
  have hD : va_D (va_A [(h0, .inr (0, [.int 0, .int 0, .int 0, .int 0, .int 0, .null, .null, .int 0, .int 0, .int 0, .int 0, .int 0]))] s.heap.size) [oX_ h0 hd hp d N w nw sz 0 0 0 0 false, ar_ hd cA (2 * sz) (fun _ => 0), ar_ hp cA sz (fun _ => 0)] := hD
  refine hs_cv (va_runV (As := []) (rest := []) ⟨hx, hb, hml, hown, hts⟩ (kX0_startAnew l dC dI h0 hd hp cA d N w nw sz 0 (fun _ => 0) (fun _ => 0) 0 0 0 false ok _ ) (cwV 0 hts gX0_init_X0_startAnew rfl rfl rfl (by decide +kernel) ⟨(Nat.le_of_ble_eq_true rfl), (Nat.le_of_ble_eq_true rfl)⟩) (hs_preM (q := (RX0, TX0, 12)) (ci := 0) hK hP hD rfl rfl) rfl rfl hl.1 rfl (lv_room (Nat.le_of_ble_eq_true rfl)) dX0_init_94 ⟨Nat.le_of_ble_eq_true rfl, by show 0 + 2 * sz + sz + 0 ≤ 765; omega⟩) hS hD hA (fun v H locs hv hP hD hS => ?_)
  obtain ⟨F9, rfl, hE⟩ := hv
  have hP : va_P (dC, dI) vwCl [oX_ h0 hd hp d N w nw sz 0 (F9 (nw + 1 - 1)) 0 (-1) false, ar_ hd cA (2 * sz) F9, ar_ hp cA sz (fun _ => 0)] H := hP
  have hD : va_D (va_A [(h0, .inr (0, [.int 0, .int 0, .int 0, .int 0, .int 0, .null, .null, .int 0, .int 0, .int 0, .int 0, .int 0]))] s.heap.size) [oX_ h0 hd hp d N w nw sz 0 (F9 (nw + 1 - 1)) 0 (-1) false, ar_ hd cA (2 * sz) F9, ar_ hp cA sz (fun _ => 0)] := hD
  refine W.widen (k := 2) (n := 765) (Nat.le_refl 2) (by omega) ?_
  exact W.vret hx hb hr (fun t ht hW => ⟨⟨(hd, hp, cA, F9, (fun _ => 0)), rfl, hE, by rw [ht]; exact hP, va_K.moved hW.alike hK, hD⟩, hS.F ht⟩) hS.2.2 dX0_init_97
set_option maxHeartbeats 4000000 in
set_option maxRecDepth 100000 in
theorem kX1_init (l : Launch) (dC : Nat → ClassId) (dI : Nat → Nat → Nat) (h0 : Nat) (d N w nw sz : Nat) (ok : hs_ok d N w nw sz) (p1 p2 : Int32) (e1 : d = hs_cd p1) (e2 : w = hs_cw p2) (zz : Nat) : Met l yX1_init wsX1_init ({ frames := 3, cells := 2, slots := 900, locals := 66 }) (va_Pc [.ref h0, .int p1, .int p2] (hs_pm (dC, dI) vwCl [] [(h0, .inr (1, [.int 0, .int 0, .int 0, .int 0, .null, .null, .int 0, .int 0, .int 0, .int 0, .int 0]))] zz)) (va_Qv (S := Nat × Nat × ClassId × (Nat → Int32) × (Nat → Int32)) (fun uu => hs_E N w nw sz uu.2.2.2.1) (fun uu t => va_P (dC, dI) vwCl (wfM h0 uu.1 uu.2.1 uu.2.2.1 d N w nw sz ((uu.2.2.2.1, 0, uu.2.2.2.1 (nw + 1 - 1), 0, -1, false), uu.2.2.2.2)) t.heap ∧ va_K (dC, dI) vwCl [(uu.2.2.1, .int)] t ∧ va_D (va_A [(h0, .inr (1, [.int 0, .int 0, .int 0, .int 0, .null, .null, .int 0, .int 0, .int 0, .int 0, .int 0]))] zz) (wfM h0 uu.1 uu.2.1 uu.2.2.1 d N w nw sz ((uu.2.2.2.1, 0, uu.2.2.2.1 (nw + 1 - 1), 0, -1, false), uu.2.2.2.2))) (va_A [(h0, .inr (1, [.int 0, .int 0, .int 0, .int 0, .null, .null, .int 0, .int 0, .int 0, .int 0, .int 0]))] zz)) 2 900 (va_A [(h0, .inr (1, [.int 0, .int 0, .int 0, .int 0, .null, .null, .int 0, .int 0, .int 0, .int 0, .int 0]))] zz) := by
  refine Met.ofW (cc := cX1_init) (maxL := 4) (ret := none) (by decide) rfl ?_
  intro p e s m args below meth c s₁ B hml hv
  obtain ⟨rfl, hzz, hP, hK, hD0⟩ := hv
  have hx := B.exec
  have hb := B.bytes
  have hr := B.returns
  have hts := atoms_spec (ws := wsX1_init) B.pre
  have hown : s.vm.findClass RX1 = some m.cls := findClass_of_methodNamed B.named
  have hlocks := B.notSynchronized
  have hin : meth.name = "<init>" := (name_of_methodNamed B.named B.method).1
  obtain ⟨hd5, hN1, hN2, hw1, hw2, hn1, hn2, hsz, hsz2⟩ := hs_okf ok
  have hnw : nw = N * w := ok.2.2.2.2.1
  have hN : N = 2 ^ d := ok.2.1
  subst hzz
  have hD := hD0.self (sz := s.heap.size)
  have hS : va_S (va_A [(h0, .inr (1, [.int 0, .int 0, .int 0, .int 0, .null, .null, .int 0, .int 0, .int 0, .int 0, .int 0]))] s.heap.size) s.heap s.heap [] := va_S.rf
  have hA : ∀ q : Nat, s.heap.size ≤ q → (va_A [(h0, .inr (1, [.int 0, .int 0, .int 0, .int 0, .null, .null, .int 0, .int 0, .int 0, .int 0, .int 0]))] s.heap.size) q := fun q h => Or.inr h
  have hl := lv_entry ([.ref h0, .int p1, .int p2]) (n := 4) (Nat.le_of_ble_eq_true rfl)
  rw [lg_entry_eq]
  generalize (lg_sl ([.ref h0, .int p1, .int p2]) ++ List.replicate (4 - (lg_sl ([.ref h0, .int p1, .int p2])).length) Slot.unset).toArray = ls at hl ⊢
  have hl : lv_has ls 4 [(0, .ref h0), (1, .int p1), (2, .int p2)] := hl
  refine lv_aload_n hx hb dX1_init_0 rfl (lv_at hl 0 rfl) ?_
  refine W.objInit hx hb hown (hts (.methodLink RX1 1 objectInit) (by decide +kernel)) (hts (.instanceMethod objectInit) (by decide +kernel)) (hts (.code objectInit ⟨#[0xb1]⟩ 1 none) (by decide +kernel)) rfl (by rw [hml]; exact hl.1) rfl dX1_init_1 (Nat.le_of_ble_eq_true rfl) (Nat.le_of_ble_eq_true rfl) ?_
  refine W.eq (g2 := F0 m 4 ls []) rfl ?_
  refine lv_aload_n hx hb dX1_init_4 rfl (lv_at hl 0 rfl) ?_
  refine lv_sipush (v := nI 600) hx hb dX1_init_5 (by decide) ?_
  have hq1 : 0 + 600 ≤ 900 := by omega
  have hq2 : 600 * componentBytes .int ≤ 536870912 := hs_bytes (by omega)
  have hq3 : ¬ nI 600 < 0 := nI_pos (by omega)
  have hq4 : (nI 600).toNatClampNeg = 600 := nI_clamp (by omega)
  refine va_newa (atype := .int) (ty := .int) (n := nI 600) (N' := 600) (a0 := (600, .inl (fun _ => 0))) hx hb (hts (.arrayClass .int) (by decide +kernel)) rfl hK hP hD hS hA (fun cA => hs_new cA) hq3 hq4 hq2 (Nat.le_of_ble_eq_true rfl) hq1 dX1_init_8 (fun hd cA H hK hP hD hS => ?_)
  have hK : va_K (dC, dI) vwCl [(cA, .int)] s := hK
  have hP : va_P (dC, dI) vwCl [(h0, .inr (1, [.int 0, .int 0, .int 0, .int 0, .null, .null, .int 0, .int 0, .int 0, .int 0, .int 0])), ar_ hd cA 600 (fun _ => 0)] H := hP
  have hD : va_D (va_A [(h0, .inr (1, [.int 0, .int 0, .int 0, .int 0, .null, .null, .int 0, .int 0, .int 0, .int 0, .int 0]))] s.heap.size) [(h0, .inr (1, [.int 0, .int 0, .int 0, .int 0, .null, .null, .int 0, .int 0, .int 0, .int 0, .int 0])), ar_ hd cA 600 (fun _ => 0)] := hD
  refine va_putF (D := (dC, dI)) (ci := 1) (v := .ref hd) (ty := .array .int) (C := RX1) (T := TX1) (N := 11) hx hb hts (by decide +kernel) tyX1 tyX1_ok nmX1 hown hK hP hD hS 0 rfl rfl 4 (by decide) (hts (.fieldLink RX1 7 "HashedStoreModel" "disk" "[I") (by decide +kernel)) (fun _ h9 => h9) rfl hin rfl (by decide +kernel) rfl rfl (Nat.le_of_ble_eq_true rfl) dX1_init_10 (fun H locs hP hD hS => ?_)
  have hP : va_P (dC, dI) vwCl [(h0, .inr (1, [.int 0, .int 0, .int 0, .int 0, .ref hd, .null, .int 0, .int 0, .int 0, .int 0, .int 0])), ar_ hd cA 600 (fun _ => 0)] H := hP
  have hD : va_D (va_A [(h0, .inr (1, [.int 0, .int 0, .int 0, .int 0, .null, .null, .int 0, .int 0, .int 0, .int 0, .int 0]))] s.heap.size) [(h0, .inr (1, [.int 0, .int 0, .int 0, .int 0, .ref hd, .null, .int 0, .int 0, .int 0, .int 0, .int 0])), ar_ hd cA 600 (fun _ => 0)] := hD
  refine lv_aload_n hx hb dX1_init_13 rfl (lv_at hl 0 rfl) ?_
  refine lv_sipush (v := nI 300) hx hb dX1_init_14 (by decide) ?_
  have hq1 : 0 + 600 + 300 ≤ 900 := by omega
  have hq2 : 300 * componentBytes .int ≤ 536870912 := hs_bytes (by omega)
  have hq3 : ¬ nI 300 < 0 := nI_pos (by omega)
  have hq4 : (nI 300).toNatClampNeg = 300 := nI_clamp (by omega)
  refine va_newa (atype := .int) (ty := .int) (n := nI 300) (N' := 300) (a0 := (300, .inl (fun _ => 0))) hx hb (hts (.arrayClass .int) (by decide +kernel)) rfl hK hP hD hS hA (fun cA => hs_new cA) hq3 hq4 hq2 (Nat.le_of_ble_eq_true rfl) hq1 dX1_init_17 (fun hp cB H hK hP hD hS => ?_)
  have hAB := hs_sameA hK
  subst hAB
  have hK : va_K (dC, dI) vwCl [(cA, .int)] s := hK.sub [0] rfl
  have hP : va_P (dC, dI) vwCl [(h0, .inr (1, [.int 0, .int 0, .int 0, .int 0, .ref hd, .null, .int 0, .int 0, .int 0, .int 0, .int 0])), ar_ hd cA 600 (fun _ => 0), ar_ hp cA 300 (fun _ => 0)] H := hP
  have hD : va_D (va_A [(h0, .inr (1, [.int 0, .int 0, .int 0, .int 0, .null, .null, .int 0, .int 0, .int 0, .int 0, .int 0]))] s.heap.size) [(h0, .inr (1, [.int 0, .int 0, .int 0, .int 0, .ref hd, .null, .int 0, .int 0, .int 0, .int 0, .int 0])), ar_ hd cA 600 (fun _ => 0), ar_ hp cA 300 (fun _ => 0)] := hD
  refine va_putF (D := (dC, dI)) (ci := 1) (v := .ref hp) (ty := .array .int) (C := RX1) (T := TX1) (N := 11) hx hb hts (by decide +kernel) tyX1 tyX1_ok nmX1 hown hK hP hD hS 0 rfl rfl 5 (by decide) (hts (.fieldLink RX1 13 "HashedStoreModel" "goal" "[I") (by decide +kernel)) (fun _ h9 => h9) rfl hin rfl (by decide +kernel) rfl rfl (Nat.le_of_ble_eq_true rfl) dX1_init_19 (fun H locs hP hD hS => ?_)
  have hP : va_P (dC, dI) vwCl [(h0, .inr (1, [.int 0, .int 0, .int 0, .int 0, .ref hd, .ref hp, .int 0, .int 0, .int 0, .int 0, .int 0])), ar_ hd cA 600 (fun _ => 0), ar_ hp cA 300 (fun _ => 0)] H := hP
  have hD : va_D (va_A [(h0, .inr (1, [.int 0, .int 0, .int 0, .int 0, .null, .null, .int 0, .int 0, .int 0, .int 0, .int 0]))] s.heap.size) [(h0, .inr (1, [.int 0, .int 0, .int 0, .int 0, .ref hd, .ref hp, .int 0, .int 0, .int 0, .int 0, .int 0])), ar_ hd cA 600 (fun _ => 0), ar_ hp cA 300 (fun _ => 0)] := hD
  refine lv_aload_n hx hb dX1_init_22 rfl (lv_at hl 0 rfl) ?_
  refine lv_iconst (v := (-1)) hx hb dX1_init_23 (by decide) ?_
  refine va_put (D := (dC, dI)) (ci := 1) (v := .int (-1)) (ty := .int) (C := RX1) (T := TX1) (N := 11) hx hb hts (by decide +kernel) tyX1 tyX1_ok nmX1 hown hK hP hD hS 0 rfl rfl 9 (by decide) (hts (.fieldLink RX1 16 "HashedStoreModel" "left" "I") (by decide +kernel)) (fun _ h9 => h9) rfl (by decide +kernel) rfl rfl (Nat.le_of_ble_eq_true rfl) dX1_init_24 (fun H locs hP hD hS => ?_)
  have hP : va_P (dC, dI) vwCl [(h0, .inr (1, [.int 0, .int 0, .int 0, .int 0, .ref hd, .ref hp, .int 0, .int 0, .int 0, .int (-1), .int 0])), ar_ hd cA 600 (fun _ => 0), ar_ hp cA 300 (fun _ => 0)] H := hP
  have hD : va_D (va_A [(h0, .inr (1, [.int 0, .int 0, .int 0, .int 0, .null, .null, .int 0, .int 0, .int 0, .int 0, .int 0]))] s.heap.size) [(h0, .inr (1, [.int 0, .int 0, .int 0, .int 0, .ref hd, .ref hp, .int 0, .int 0, .int 0, .int (-1), .int 0])), ar_ hd cA 600 (fun _ => 0), ar_ hp cA 300 (fun _ => 0)] := hD
  refine lv_aload_n hx hb dX1_init_27 rfl (lv_at hl 0 rfl) ?_
  have k46 : W p l e (headSpec wsX1_init ({ frames := 3, cells := 2, slots := 900, locals := 66 })).room s m ([.ref h0, .int p1, .int p2] : List Value).toArray below meth c H locs (0 + 1 + 1) (0 + 600 + 300) (MQ below (va_Qv (S := Nat × Nat × ClassId × (Nat → Int32) × (Nat → Int32)) (fun uu => hs_E N w nw sz uu.2.2.2.1) (fun uu t => va_P (dC, dI) vwCl (wfM h0 uu.1 uu.2.1 uu.2.2.1 d N w nw sz ((uu.2.2.2.1, 0, uu.2.2.2.1 (nw + 1 - 1), 0, -1, false), uu.2.2.2.2)) t.heap ∧ va_K (dC, dI) vwCl [(uu.2.2.1, .int)] t ∧ va_D (va_A [(h0, .inr (1, [.int 0, .int 0, .int 0, .int 0, .null, .null, .int 0, .int 0, .int 0, .int 0, .int 0]))] s.heap.size) (wfM h0 uu.1 uu.2.1 uu.2.2.1 d N w nw sz ((uu.2.2.2.1, 0, uu.2.2.2.1 (nw + 1 - 1), 0, -1, false), uu.2.2.2.2))) (va_A [(h0, .inr (1, [.int 0, .int 0, .int 0, .int 0, .null, .null, .int 0, .int 0, .int 0, .int 0, .int 0]))] s.heap.size)) ([.ref h0, .int p1, .int p2] : List Value).toArray s 2 900 (va_A [(h0, .inr (1, [.int 0, .int 0, .int 0, .int 0, .null, .null, .int 0, .int 0, .int 0, .int 0, .int 0]))] s.heap.size)) (F0 m 46 ls [.int (nI d), .ref h0]) := by
    refine va_putF (D := (dC, dI)) (ci := 1) (v := .int (nI d)) (ty := .int) (C := RX1) (T := TX1) (N := 11) hx hb hts (by decide +kernel) tyX1 tyX1_ok nmX1 hown hK hP hD hS 0 rfl rfl 0 (by decide) (hts (.fieldLink RX1 20 "HashedStoreModel" "depth" "I") (by decide +kernel)) (fun _ h9 => h9) rfl hin rfl (by decide +kernel) rfl rfl (Nat.le_of_ble_eq_true rfl) dX1_init_46 (fun H locs hP hD hS => ?_)
    have hP : va_P (dC, dI) vwCl [(h0, .inr (1, [.int (nI d), .int 0, .int 0, .int 0, .ref hd, .ref hp, .int 0, .int 0, .int 0, .int (-1), .int 0])), ar_ hd cA 600 (fun _ => 0), ar_ hp cA 300 (fun _ => 0)] H := hP
    have hD : va_D (va_A [(h0, .inr (1, [.int 0, .int 0, .int 0, .int 0, .null, .null, .int 0, .int 0, .int 0, .int 0, .int 0]))] s.heap.size) [(h0, .inr (1, [.int (nI d), .int 0, .int 0, .int 0, .ref hd, .ref hp, .int 0, .int 0, .int 0, .int (-1), .int 0])), ar_ hd cA 600 (fun _ => 0), ar_ hp cA 300 (fun _ => 0)] := hD
    refine lv_aload_n hx hb dX1_init_49 rfl (lv_at hl 0 rfl) ?_
    refine lv_iconst (v := nI 1) hx hb dX1_init_50 (by decide) ?_
    refine lv_aload_n hx hb dX1_init_51 rfl (lv_at hl 0 rfl) ?_
    refine va_get (D := (dC, dI)) (ci := 1) (v := .int (nI d)) (C := RX1) (T := TX1) (N := 11) hx hb hts (by decide +kernel) hown hK hP 0 rfl rfl 0 (by decide) (hts (.fieldLink RX1 20 "HashedStoreModel" "depth" "I") (by decide +kernel)) (fun _ h9 => h9) rfl dX1_init_52 ?_
    refine lv_ishl hx hb dX1_init_55 ?_
    refine lv_topi (fun zq ezq => ?_)
    rw [hs_shl d (by omega), ← hN] at ezq
    subst ezq
    refine va_putF (D := (dC, dI)) (ci := 1) (v := .int (nI N)) (ty := .int) (C := RX1) (T := TX1) (N := 11) hx hb hts (by decide +kernel) tyX1 tyX1_ok nmX1 hown hK hP hD hS 0 rfl rfl 1 (by decide) (hts (.fieldLink RX1 23 "HashedStoreModel" "blocks" "I") (by decide +kernel)) (fun _ h9 => h9) rfl hin rfl (by decide +kernel) rfl rfl (Nat.le_of_ble_eq_true rfl) dX1_init_56 (fun H locs hP hD hS => ?_)
    have hP : va_P (dC, dI) vwCl [(h0, .inr (1, [.int (nI d), .int (nI N), .int 0, .int 0, .ref hd, .ref hp, .int 0, .int 0, .int 0, .int (-1), .int 0])), ar_ hd cA 600 (fun _ => 0), ar_ hp cA 300 (fun _ => 0)] H := hP
    have hD : va_D (va_A [(h0, .inr (1, [.int 0, .int 0, .int 0, .int 0, .null, .null, .int 0, .int 0, .int 0, .int 0, .int 0]))] s.heap.size) [(h0, .inr (1, [.int (nI d), .int (nI N), .int 0, .int 0, .ref hd, .ref hp, .int 0, .int 0, .int 0, .int (-1), .int 0])), ar_ hd cA 600 (fun _ => 0), ar_ hp cA 300 (fun _ => 0)] := hD
    refine lv_aload_n hx hb dX1_init_59 rfl (lv_at hl 0 rfl) ?_
    have k81 : W p l e (headSpec wsX1_init ({ frames := 3, cells := 2, slots := 900, locals := 66 })).room s m ([.ref h0, .int p1, .int p2] : List Value).toArray below meth c H locs (0 + 1 + 1) (0 + 600 + 300) (MQ below (va_Qv (S := Nat × Nat × ClassId × (Nat → Int32) × (Nat → Int32)) (fun uu => hs_E N w nw sz uu.2.2.2.1) (fun uu t => va_P (dC, dI) vwCl (wfM h0 uu.1 uu.2.1 uu.2.2.1 d N w nw sz ((uu.2.2.2.1, 0, uu.2.2.2.1 (nw + 1 - 1), 0, -1, false), uu.2.2.2.2)) t.heap ∧ va_K (dC, dI) vwCl [(uu.2.2.1, .int)] t ∧ va_D (va_A [(h0, .inr (1, [.int 0, .int 0, .int 0, .int 0, .null, .null, .int 0, .int 0, .int 0, .int 0, .int 0]))] s.heap.size) (wfM h0 uu.1 uu.2.1 uu.2.2.1 d N w nw sz ((uu.2.2.2.1, 0, uu.2.2.2.1 (nw + 1 - 1), 0, -1, false), uu.2.2.2.2))) (va_A [(h0, .inr (1, [.int 0, .int 0, .int 0, .int 0, .null, .null, .int 0, .int 0, .int 0, .int 0, .int 0]))] s.heap.size)) ([.ref h0, .int p1, .int p2] : List Value).toArray s 2 900 (va_A [(h0, .inr (1, [.int 0, .int 0, .int 0, .int 0, .null, .null, .int 0, .int 0, .int 0, .int 0, .int 0]))] s.heap.size)) (F0 m 81 ls [.int (nI w), .ref h0]) := by
      refine va_putF (D := (dC, dI)) (ci := 1) (v := .int (nI w)) (ty := .int) (C := RX1) (T := TX1) (N := 11) hx hb hts (by decide +kernel) tyX1 tyX1_ok nmX1 hown hK hP hD hS 0 rfl rfl 2 (by decide) (hts (.fieldLink RX1 26 "HashedStoreModel" "words" "I") (by decide +kernel)) (fun _ h9 => h9) rfl hin rfl (by decide +kernel) rfl rfl (Nat.le_of_ble_eq_true rfl) dX1_init_81 (fun H locs hP hD hS => ?_)
      have hP : va_P (dC, dI) vwCl [(h0, .inr (1, [.int (nI d), .int (nI N), .int (nI w), .int 0, .ref hd, .ref hp, .int 0, .int 0, .int 0, .int (-1), .int 0])), ar_ hd cA 600 (fun _ => 0), ar_ hp cA 300 (fun _ => 0)] H := hP
      have hD : va_D (va_A [(h0, .inr (1, [.int 0, .int 0, .int 0, .int 0, .null, .null, .int 0, .int 0, .int 0, .int 0, .int 0]))] s.heap.size) [(h0, .inr (1, [.int (nI d), .int (nI N), .int (nI w), .int 0, .ref hd, .ref hp, .int 0, .int 0, .int 0, .int (-1), .int 0])), ar_ hd cA 600 (fun _ => 0), ar_ hp cA 300 (fun _ => 0)] := hD
      refine lv_aload_n hx hb dX1_init_84 rfl (lv_at hl 0 rfl) ?_
      refine lv_aload_n hx hb dX1_init_85 rfl (lv_at hl 0 rfl) ?_
      refine va_get (D := (dC, dI)) (ci := 1) (v := .int (nI N)) (C := RX1) (T := TX1) (N := 11) hx hb hts (by decide +kernel) hown hK hP 0 rfl rfl 1 (by decide) (hts (.fieldLink RX1 23 "HashedStoreModel" "blocks" "I") (by decide +kernel)) (fun _ h9 => h9) rfl dX1_init_86 ?_
      refine lv_aload_n hx hb dX1_init_89 rfl (lv_at hl 0 rfl) ?_
      refine va_get (D := (dC, dI)) (ci := 1) (v := .int (nI w)) (C := RX1) (T := TX1) (N := 11) hx hb hts (by decide +kernel) hown hK hP 0 rfl rfl 2 (by decide) (hts (.fieldLink RX1 26 "HashedStoreModel" "words" "I") (by decide +kernel)) (fun _ h9 => h9) rfl dX1_init_90 ?_
      refine hs_mulN hx hb dX1_init_93 ?_
      refine lv_iconst (v := nI 2) hx hb dX1_init_94 (by decide) ?_
      refine lv_aload_n hx hb dX1_init_95 rfl (lv_at hl 0 rfl) ?_
      refine va_get (D := (dC, dI)) (ci := 1) (v := .int (nI N)) (C := RX1) (T := TX1) (N := 11) hx hb hts (by decide +kernel) hown hK hP 0 rfl rfl 1 (by decide) (hts (.fieldLink RX1 23 "HashedStoreModel" "blocks" "I") (by decide +kernel)) (fun _ h9 => h9) rfl dX1_init_96 ?_
      refine hs_mulN hx hb dX1_init_99 ?_
      refine hs_addN hx hb dX1_init_100 ?_
      refine lv_iconst (v := nI 1) hx hb dX1_init_101 (by decide) ?_
      refine hs_subN hx hb (by omega) dX1_init_102 ?_
      refine lv_topi (fun zq ezq => ?_)
      rw [← hnw, ← hsz] at ezq
      subst ezq
      refine va_putF (D := (dC, dI)) (ci := 1) (v := .int (nI sz)) (ty := .int) (C := RX1) (T := TX1) (N := 11) hx hb hts (by decide +kernel) tyX1 tyX1_ok nmX1 hown hK hP hD hS 0 rfl rfl 3 (by decide) (hts (.fieldLink RX1 29 "HashedStoreModel" "size" "I") (by decide +kernel)) (fun _ h9 => h9) rfl hin rfl (by decide +kernel) rfl rfl (Nat.le_of_ble_eq_true rfl) dX1_init_103 (fun H locs hP hD hS => ?_)
      have hP : va_P (dC, dI) vwCl [(h0, .inr (1, [.int (nI d), .int (nI N), .int (nI w), .int (nI sz), .ref hd, .ref hp, .int 0, .int 0, .int 0, .int (-1), .int 0])), ar_ hd cA 600 (fun _ => 0), ar_ hp cA 300 (fun _ => 0)] H := hP
      have hD : va_D (va_A [(h0, .inr (1, [.int 0, .int 0, .int 0, .int 0, .null, .null, .int 0, .int 0, .int 0, .int 0, .int 0]))] s.heap.size) [(h0, .inr (1, [.int (nI d), .int (nI N), .int (nI w), .int (nI sz), .ref hd, .ref hp, .int 0, .int 0, .int 0, .int (-1), .int 0])), ar_ hd cA 600 (fun _ => 0), ar_ hp cA 300 (fun _ => 0)] := hD
      refine lv_aload_n hx hb dX1_init_106 rfl (lv_at hl 0 rfl) ?_
      have hP : va_P (dC, dI) vwCl [oM_ h0 hd hp d N w nw sz 0 0 0 (-1) false, ar_ hd cA 600 (fun _ => 0), ar_ hp cA 300 (fun _ => 0)] H := hP
      have hD : va_D (va_A [(h0, .inr (1, [.int 0, .int 0, .int 0, .int 0, .null, .null, .int 0, .int 0, .int 0, .int 0, .int 0]))] s.heap.size) [oM_ h0 hd hp d N w nw sz 0 0 0 (-1) false, ar_ hd cA 600 (fun _ => 0), ar_ hp cA 300 (fun _ => 0)] := hD
      refine hs_ci (va_runV (As := []) (rest := []) ⟨hx, hb, hml, hown, hts⟩ (kX1_format l dC dI h0 hd hp cA d N w nw sz 0 (fun _ => 0) (fun _ => 0) 0 0 (-1) false ok _ ) (cwV 0 hts gX1_init_X1_format rfl rfl rfl (by decide +kernel) ⟨(Nat.le_of_ble_eq_true rfl), (Nat.le_of_ble_eq_true rfl)⟩) (hs_preM (q := (RX1, TX1, 11)) (ci := 1) hK hP hD rfl rfl) rfl rfl hl.1 rfl (lv_room (Nat.le_of_ble_eq_true rfl)) dX1_init_107 ⟨Nat.le_of_ble_eq_true rfl, Nat.le_of_ble_eq_true rfl⟩) hS hD hA (fun rv v H locs hv hP hD hS => ?_)
      obtain ⟨rfl, F9, g9, rfl, hE⟩ := hv
      have hP : va_P (dC, dI) vwCl [oM_ h0 hd hp d N w nw sz 0 (F9 (nw + 1 - 1)) 0 (-1) false, ar_ hd cA 600 F9, ar_ hp cA 300 g9] H := hP
      have hD : va_D (va_A [(h0, .inr (1, [.int 0, .int 0, .int 0, .int 0, .null, .null, .int 0, .int 0, .int 0, .int 0, .int 0]))] s.heap.size) [oM_ h0 hd hp d N w nw sz 0 (F9 (nw + 1 - 1)) 0 (-1) false, ar_ hd cA 600 F9, ar_ hp cA 300 g9] := hD
      refine lv_istore_n (lv' := [(3, .int 0), (0, .ref h0), (1, .int p1), (2, .int p2)]) hx hb dX1_init_110 rfl hl (by decide) rfl (fun ls hl => ?_)
      exact W.vret hx hb hr (fun t ht hW => ⟨⟨(hd, hp, cA, F9, g9), rfl, hE, by rw [ht]; exact hP, va_K.moved hW.alike hK, hD⟩, hS.F ht⟩) hS.2.2 dX1_init_111
    refine lv_iload_n hx hb dX1_init_60 rfl (lv_at hl 2 rfl) ?_
    refine lv_iconst (v := 1) hx hb dX1_init_61 (by decide) ?_
    refine lv_icmp_ge (tgt := 69) hx hb dX1_init_62 (by decide) (fun c1 => ?_) (fun c1 => ?_)
    · refine lv_iload_n hx hb dX1_init_69 rfl (lv_at hl 2 rfl) ?_
      refine lv_bipush (v := 6) hx hb dX1_init_70 (by decide) ?_
      refine lv_icmp_le (tgt := 80) hx hb dX1_init_72 (by decide) (fun c2 => ?_) (fun c2 => ?_)
      · refine lv_iload_n hx hb dX1_init_80 rfl (lv_at hl 2 rfl) ?_
        have e9 : p2 = nI w := by rw [e2]; exact hs_cw3 c1 c2
        refine W.eq ?_ k81
        rw [e9]
      · refine lv_bipush (v := nI 6) hx hb dX1_init_75 (by decide) ?_
        refine lv_goto (tgt := 81) hx hb dX1_init_77 (by decide) ?_
        have e9 : nI 6 = nI w := by rw [e2]; exact hs_cw2 c1 c2
        refine W.eq ?_ k81
        rw [e9]
    · refine lv_iconst (v := nI 1) hx hb dX1_init_65 (by decide) ?_
      refine lv_goto (tgt := 81) hx hb dX1_init_66 (by decide) ?_
      have e9 : nI 1 = nI w := by rw [e2]; exact hs_cw1 c1
      refine W.eq ?_ k81
      rw [e9]
  refine lv_iload_n hx hb dX1_init_28 rfl (lv_at hl 1 rfl) ?_
  refine lv_if_ge (tgt := 36) hx hb dX1_init_29 (by decide) (fun c1 => ?_) (fun c1 => ?_)
  · refine lv_iload_n hx hb dX1_init_36 rfl (lv_at hl 1 rfl) ?_
    refine lv_iconst (v := 5) hx hb dX1_init_37 (by decide) ?_
    refine lv_icmp_le (tgt := 45) hx hb dX1_init_38 (by decide) (fun c2 => ?_) (fun c2 => ?_)
    · refine lv_iload_n hx hb dX1_init_45 rfl (lv_at hl 1 rfl) ?_
      have e9 : p1 = nI d := by rw [e1]; exact hs_cd3 c1 c2
      refine W.eq ?_ k46
      rw [e9]
    · refine lv_iconst (v := nI 5) hx hb dX1_init_41 (by decide) ?_
      refine lv_goto (tgt := 46) hx hb dX1_init_42 (by decide) ?_
      have e9 : nI 5 = nI d := by rw [e1]; exact hs_cd2 c1 c2
      refine W.eq ?_ k46
      rw [e9]
  · refine lv_iconst (v := nI 0) hx hb dX1_init_32 (by decide) ?_
    refine lv_goto (tgt := 46) hx hb dX1_init_33 (by decide) ?_
    have e9 : nI 0 = nI d := by rw [e1]; exact hs_cd1 c1
    refine W.eq ?_ k46
    rw [e9]
end
section
/-! rows for the law: the script's ints, calls of one object beside the other -/
def hs_sc (xs : Nat → Int32) (L k : Nat) : Int32 := if k < L then xs k else 0
section HLW
variable {p : Program} {l : Launch} {e : Env} {R : Room} {s : State} {m : MethodId} {args : Array Value} {below : List Frame} {meth : Method} {c : Code} {H : Heap} {locs : List Loc} {cells slots : Nat} {Q : State → Prop}
variable {cc : ByteArray} {pc : Nat} {ls : Array Slot} {rest st0 : List Value} {a : Array Value} {A A0 : Nat → Prop} {H0 : Heap} {D : va_G} {cl : List vw_C} {tys : List (ClassId × FieldType)} {ws : va_W}
theorem hs_sld (hx : p.tables.exec = Jvm.exec) (hb : c.code = cc) {b L : Nat} {xs : Nat → Int32} (hX : va_X b L xs s H0) (hbl : b < H0.size) (hbA : ¬ A b) (hS : va_S A H0 H locs) {k : Nat} (hk : k < L) (hL : L < 2 ^ 31) (hdg : decode cc pc = .ok (.iaload, 1))
    (kk : W p l e R s m args below meth c H locs cells slots Q (F0 m (pc + 1) ls (.int (xs k) :: rest))) : W p l e R s m args below meth c H locs cells slots Q (F0 m pc ls (.int (nI k) :: .ref b :: rest)) := by
  refine va_sld hx hb hX hbl hbA hS (vp_in_nI hk hL) hdg ?_
  rw [nI_clamp (by omega)]
  exact kk
theorem hs_slen (hx : p.tables.exec = Jvm.exec) (hb : c.code = cc) {b L : Nat} {xs : Nat → Int32} (hX : va_X b L xs s H0) (hbl : b < H0.size) (hbA : ¬ A b) (hS : va_S A H0 H locs) (hdg : decode cc pc = .ok (.arraylength, 1))
    (kk : W p l e R s m args below meth c H locs cells slots Q (F0 m (pc + 1) ls (.int (nI L) :: rest))) : W p l e R s m args below meth c H locs cells slots Q (F0 m pc ls (.ref b :: rest)) := va_slen hx hb hX hbl hbA hS hdg kk
theorem hs_xi {S : Type} {post : Int32 → S → Prop} {wf : S → va_W} {a1 a2 a3 b1 b2 b3 : Nat × va_E} (hr : va_Run p l e R s m args below meth c H locs cells slots 0 0 (F0 m pc ls st0) rest (va_Qi post (hs_B D cl tys wf (va_A [a1, a2, a3] H.size)) (va_A [a1, a2, a3] H.size) a) (va_A [a1, a2, a3] H.size)) (hS : va_S A0 H0 H locs) (hP : va_P D cl ([a1, a2, a3] ++ [b1, b2, b3]) H) (hD : va_D A0 ([a1, a2, a3] ++ [b1, b2, b3])) (hA : ∀ q, H0.size ≤ q → A0 q)
    (kk : ∀ (r : Int32) (u : S) (H1 : Heap) (locs1 : List Loc), post r u → va_P D cl (wf u ++ [b1, b2, b3]) H1 → va_D A0 (wf u ++ [b1, b2, b3]) → va_S A0 H0 H1 locs1 → W p l e R s m args below meth c H1 locs1 cells slots Q (F0 m (pc + 3) ls (.int r :: rest))) : W p l e R s m args below meth c H locs cells slots Q (F0 m pc ls st0) := by
  have hF := va_free (wc := [a1, a2, a3]) hD hS hA [0, 1, 2] rfl
  refine va_calli hr hS (fun q _ h => hF q h) hF (fun r u t H1 locs1 ht _ hw hB _ hk hS => ?_)
  have hP1 : va_P D cl (wf u) H1 := by rw [← ht]; exact hB.1
  obtain ⟨hP2, hD2⟩ := va_join (wr := [b1, b2, b3]) (w1 := wf u) hP hD [0, 1, 2] [3, 4, 5] rfl rfl (by decide) (by decide) hk hF hP1 hB.2.2
  exact kk r u H1 locs1 hw (va_P.swap (a := []) hP2) (va_D.swap (a := []) hD2) hS
theorem hs_xv {S : Type} {post : S → Prop} {wf : S → va_W} {a1 a2 a3 b1 b2 b3 : Nat × va_E} (hr : va_Run p l e R s m args below meth c H locs cells slots 0 0 (F0 m pc ls st0) rest (va_Qv post (hs_B D cl tys wf (va_A [a1, a2, a3] H.size)) (va_A [a1, a2, a3] H.size) a) (va_A [a1, a2, a3] H.size)) (hS : va_S A0 H0 H locs) (hP : va_P D cl ([a1, a2, a3] ++ [b1, b2, b3]) H) (hD : va_D A0 ([a1, a2, a3] ++ [b1, b2, b3])) (hA : ∀ q, H0.size ≤ q → A0 q)
    (kk : ∀ (u : S) (H1 : Heap) (locs1 : List Loc), post u → va_P D cl (wf u ++ [b1, b2, b3]) H1 → va_D A0 (wf u ++ [b1, b2, b3]) → va_S A0 H0 H1 locs1 → W p l e R s m args below meth c H1 locs1 cells slots Q (F0 m (pc + 3) ls rest)) : W p l e R s m args below meth c H locs cells slots Q (F0 m pc ls st0) := by
  have hF := va_free (wc := [a1, a2, a3]) hD hS hA [0, 1, 2] rfl
  refine va_callv hr hS (fun q _ h => hF q h) hF (fun u t H1 locs1 ht _ hw hB _ hk hS => ?_)
  have hP1 : va_P D cl (wf u) H1 := by rw [← ht]; exact hB.1
  obtain ⟨hP2, hD2⟩ := va_join (wr := [b1, b2, b3]) (w1 := wf u) hP hD [0, 1, 2] [3, 4, 5] rfl rfl (by decide) (by decide) hk hF hP1 hB.2.2
  exact kk u H1 locs1 hw (va_P.swap (a := []) hP2) (va_D.swap (a := []) hD2) hS
theorem hs_mi {S : Type} {post : Int32 → S → Prop} {wf : S → va_W} {a1 a2 a3 b1 b2 b3 : Nat × va_E} (hr : va_Run p l e R s m args below meth c H locs cells slots 0 0 (F0 m pc ls st0) rest (va_Qi post (hs_B D cl tys wf (va_A [b1, b2, b3] H.size)) (va_A [b1, b2, b3] H.size) a) (va_A [b1, b2, b3] H.size)) (hS : va_S A0 H0 H locs) (hP : va_P D cl ([a1, a2, a3] ++ [b1, b2, b3]) H) (hD : va_D A0 ([a1, a2, a3] ++ [b1, b2, b3])) (hA : ∀ q, H0.size ≤ q → A0 q)
    (kk : ∀ (r : Int32) (u : S) (H1 : Heap) (locs1 : List Loc), post r u → va_P D cl ([a1, a2, a3] ++ wf u) H1 → va_D A0 ([a1, a2, a3] ++ wf u) → va_S A0 H0 H1 locs1 → W p l e R s m args below meth c H1 locs1 cells slots Q (F0 m (pc + 3) ls (.int r :: rest))) : W p l e R s m args below meth c H locs cells slots Q (F0 m pc ls st0) := by
  have hF := va_free (wc := [b1, b2, b3]) hD hS hA [3, 4, 5] rfl
  refine va_calli hr hS (fun q _ h => hF q h) hF (fun r u t H1 locs1 ht _ hw hB _ hk hS => ?_)
  have hP1 : va_P D cl (wf u) H1 := by rw [← ht]; exact hB.1
  obtain ⟨hP2, hD2⟩ := va_join (wr := [a1, a2, a3]) (w1 := wf u) hP hD [3, 4, 5] [0, 1, 2] rfl rfl (by decide) (by decide) hk hF hP1 hB.2.2
  exact kk r u H1 locs1 hw hP2 hD2 hS
theorem hs_mv {S : Type} {post : S → Prop} {wf : S → va_W} {a1 a2 a3 b1 b2 b3 : Nat × va_E} (hr : va_Run p l e R s m args below meth c H locs cells slots 0 0 (F0 m pc ls st0) rest (va_Qv post (hs_B D cl tys wf (va_A [b1, b2, b3] H.size)) (va_A [b1, b2, b3] H.size) a) (va_A [b1, b2, b3] H.size)) (hS : va_S A0 H0 H locs) (hP : va_P D cl ([a1, a2, a3] ++ [b1, b2, b3]) H) (hD : va_D A0 ([a1, a2, a3] ++ [b1, b2, b3])) (hA : ∀ q, H0.size ≤ q → A0 q)
    (kk : ∀ (u : S) (H1 : Heap) (locs1 : List Loc), post u → va_P D cl ([a1, a2, a3] ++ wf u) H1 → va_D A0 ([a1, a2, a3] ++ wf u) → va_S A0 H0 H1 locs1 → W p l e R s m args below meth c H1 locs1 cells slots Q (F0 m (pc + 3) ls rest)) : W p l e R s m args below meth c H locs cells slots Q (F0 m pc ls st0) := by
  have hF := va_free (wc := [b1, b2, b3]) hD hS hA [3, 4, 5] rfl
  refine va_callv hr hS (fun q _ h => hF q h) hF (fun u t H1 locs1 ht _ hw hB _ hk hS => ?_)
  have hP1 : va_P D cl (wf u) H1 := by rw [← ht]; exact hB.1
  obtain ⟨hP2, hD2⟩ := va_join (wr := [a1, a2, a3]) (w1 := wf u) hP hD [3, 4, 5] [0, 1, 2] rfl rfl (by decide) (by decide) hk hF hP1 hB.2.2
  exact kk u H1 locs1 hw hP2 hD2 hS
end HLW
end
section
-- ===== end of PART A; then your names; then what follows =====
/-! THE CLAIM OUT OF ONE WALK OF THE LAW'S BODY. Your part is whole_start (and what it stands on); all else here is the same for every law, but numbers. -/
def R_law : String := "HashedStoreLaw"
def lw_P (b : Addr) (xs : List Int32) (args : Array Value) (s : State) : Prop := args = #[.ref b] ∧ s.IntsAt b xs ∧ xs.length ≤ 2050 ∧ (Jvm.Cond.and given_1 narrow_1).before args s = true
def lw_Q (_ : Array Value) (s : State) (o : Outcome) (t : State) : Prop := o = .returned (some (.int 1)) ∧ Framed s o t [] 600000 7302250
def lw_Z (below : List Frame) (a : Array Value) (s : State) : State → Prop := fun t => ∃ o, t.status = .running ∧ Ended t below o ∧ lw_Q a s o t
/-- the law's own end, with 1 on the stack, nothing written that was there before, its room as the claim has it -/
theorem lw_ret {p : Program} {l : Launch} {e : Env} {s : State} {m : MethodId} {below : List Frame} {meth : Method} {c : Code} {b : Nat} (hx : p.tables.exec = Jvm.exec) (hb : c.code = code) (hr : meth.sig.returnType = ret) (hlocks : meth.locks = false) {pc : Nat} {H : Heap} {ls : Array Slot} (hdg : decode code pc = .ok (.ireturn, 1)) : W p l e room_1 s m #[Value.ref b] below meth c H [] 600000 7302250 (lw_Z below #[Value.ref b] s) (F0 m pc ls [.int 1]) := by
  intro T hT X
  obtain ⟨fs, hret, hrun, hended, hW, hframe⟩ := X.leave (v := some (.int 1)) (hlocks := hlocks) (fun h => by rw [hr] at h; cases h)
  have hmeth' : T.vm.method? m = some meth := X.method'
  refine ⟨T.setFrames fs, ?_, .returned (some (.int 1)), hrun, hended, rfl, ⟨_, rfl⟩, hW, hframe⟩
  jvm_step X.here [X.here.top, hx, hb, hdg, hmeth', hr, ret, narrow_b1]
  (try refine ⟨rfl, ?_⟩); (try refine ⟨rfl, ?_⟩)
  first | (intro acts; rw [hret _ acts rfl rfl rfl]) | rw [hret _ _ rfl rfl rfl]
  exact Steps.refl _
/-- what holds at the law's entry: the machine, the code, the tables' words (any of lw_tbl by 'hts w (by decide +kernel)'), the script of L ints xs at the cell b, what the Statement gives of the start (any of its parts by flat_of_before) -/
def lw_At (p : Program) (s : State) (m : MethodId) (meth : Method) (c : Code) (b L : Nat) (xs : Nat → Int32) : Prop :=
  p.tables.exec = Jvm.exec ∧ c.code = code ∧ meth.sig.returnType = ret ∧ c.maxLocals = 4 ∧ s.vm.findClass R_law = some m.cls ∧ (∀ w ∈ lw_tbl, w.before #[Value.ref b] s = true) ∧ va_X b L xs s s.heap ∧ b < s.heap.size ∧ meth.locks = false ∧ (Jvm.Cond.and given_1 narrow_1).before #[Value.ref b] s = true
end
section
/-- the two objects side by side, in one state -/
abbrev lw_Wd (x0 xd xp m0 md mp : Nat) (cA : ClassId) (d N w nw sz : Nat) (y : hs_S) (G G2 : Nat → Int32) : va_W := wfX x0 xd xp cA d N w nw sz (y, G) ++ wfM m0 md mp cA d N w nw sz (y, G2)
/-- from this place of the law, with i ints read, all goes well -/
def lw_K (p : Program) (l : Launch) (e : Env) (s : State) (m : MethodId) (below : List Frame) (meth : Method) (c : Code) (dC : Nat → ClassId) (dI : Nat → Nat → Nat) (b : Nat) (cA : ClassId) (d N w nw sz x0 xd xp m0 md mp : Nat) (i pc : Nat) : Prop := ∀ (y : hs_S) (G G2 : Nat → Int32) (H : Heap) (locs : List Loc) (ls : Array Slot), hs_in y → va_P (dC, dI) vwCl (lw_Wd x0 xd xp m0 md mp cA d N w nw sz y G G2) H → va_D (fun q : Nat => s.heap.size ≤ q) (lw_Wd x0 xd xp m0 md mp cA d N w nw sz y G G2) → va_S (fun q : Nat => s.heap.size ≤ q) s.heap H locs → lv_has ls 4 [(0, .ref b), (1, .ref x0), (2, .ref m0), (3, .int (nI i))] → W p l e room_1 s m #[Value.ref b] below meth c H locs 6 1688 (lw_Z below #[Value.ref b] s) (F0 m pc ls [])
set_option maxHeartbeats 4000000 in
set_option maxRecDepth 100000 in
theorem law_format {p : Program} {l : Launch} {e : Env} {s : State} {m : MethodId} {below : List Frame} {meth : Method} {c : Code} {dC : Nat → ClassId} {dI : Nat → Nat → Nat} {b L : Nat} {xs : Nat → Int32} (hL : L ≤ 2050) (C0 : lw_At p s m meth c b L xs) {cA : ClassId} {d N w nw sz x0 xd xp m0 md mp : Nat} (ok : hs_ok d N w nw sz) (hK : va_K (dC, dI) vwCl [(cA, .int)] s) {i : Nat} (hi : i + 4 ≤ L) (k412 : lw_K p l e s m below meth c dC dI b cA d N w nw sz x0 xd xp m0 md mp i 412) : lw_K p l e s m below meth c dC dI b cA d N w nw sz x0 xd xp m0 md mp i 124 := by
  obtain ⟨hx, hb, hr, hml, hown, hts, hX, hbl, hlocks, hgv⟩ := C0
  have hts := fun w h => hts w (wsL_law_in w h)
  have hA : ∀ q : Nat, s.heap.size ≤ q → (fun q : Nat => s.heap.size ≤ q) q := fun _ h => h
  have hbA : ¬ (fun q : Nat => s.heap.size ≤ q) b := Nat.not_le.mpr hbl
  intro y G G2 H locs ls hin hP hD hS hl
  obtain ⟨F, u, kr, dn, lf, dw⟩ := y
  obtain ⟨hu, hlo⟩ := id hin
  have hu : u < 2 := hu
  have hlo : hs_lo lf := hlo
  refine lv_aload_n hx hb dL_law_124 rfl (lv_at hl 1 rfl) ?_
  refine hs_xi (va_runV (As := []) (rest := []) ⟨hx, hb, hml, hown, hts⟩ (kX0_format l dC dI x0 xd xp cA d N w nw sz u F G kr dn lf dw ok _ ) (cwV 0 hts gL_law_X0_format rfl rfl rfl (by decide +kernel) ⟨(Nat.le_of_ble_eq_true rfl), (Nat.le_of_ble_eq_true rfl)⟩) (hs_preM (q := (RX0, TX0, 12)) (ci := 0) hK (hP.sub [0, 1, 2] rfl) (hD.sub [0, 1, 2] (by decide) rfl) rfl rfl) rfl rfl hl.1 rfl (lv_room (Nat.le_of_ble_eq_true rfl)) dL_law_125 ⟨(Nat.le_of_ble_eq_true rfl), (Nat.le_of_ble_eq_true rfl)⟩) hS hP hD hA (fun rv v H locs hv hP hD hS => ?_)
  obtain ⟨rfl, F9, rfl, hE⟩ := hv
  refine lv_aload_n hx hb dL_law_128 rfl (lv_at hl 2 rfl) ?_
  refine hs_mi (va_runV (As := []) (rest := [.int 0]) ⟨hx, hb, hml, hown, hts⟩ (kX1_format l dC dI m0 md mp cA d N w nw sz u F G2 kr dn lf dw ok _ ) (cwV 0 hts gL_law_X1_format rfl rfl rfl (by decide +kernel) ⟨(Nat.le_of_ble_eq_true rfl), (Nat.le_of_ble_eq_true rfl)⟩) (hs_preM (q := (RX1, TX1, 11)) (ci := 1) hK (hP.sub [3, 4, 5] rfl) (hD.sub [3, 4, 5] (by decide) rfl) rfl rfl) rfl rfl hl.1 rfl (lv_room (Nat.le_of_ble_eq_true rfl)) dL_law_129 ⟨(Nat.le_of_ble_eq_true rfl), (Nat.le_of_ble_eq_true rfl)⟩) hS hP hD hA (fun rz z H locs hz hP hD hS => ?_)
  obtain ⟨rfl, F8, g8, rfl, hE8⟩ := hz
  have hEE := hs_E_u ok hE hE8
  subst hEE
  refine lv_icmp_eq (tgt := 412) hx hb dL_law_132 (by decide) (fun c9 => ?_) (fun c9 => ?_)
  · exact k412 (F9, 0, F9 (nw + 1 - 1), 0, -1, false) _ _ H locs ls ⟨Nat.zero_lt_succ 1, Or.inl rfl⟩ hP hD hS hl
  · exact absurd rfl c9
set_option maxHeartbeats 4000000 in
set_option maxRecDepth 100000 in
theorem law_write {p : Program} {l : Launch} {e : Env} {s : State} {m : MethodId} {below : List Frame} {meth : Method} {c : Code} {dC : Nat → ClassId} {dI : Nat → Nat → Nat} {b L : Nat} {xs : Nat → Int32} (hL : L ≤ 2050) (C0 : lw_At p s m meth c b L xs) {cA : ClassId} {d N w nw sz x0 xd xp m0 md mp : Nat} (ok : hs_ok d N w nw sz) (hK : va_K (dC, dI) vwCl [(cA, .int)] s) {i : Nat} (hi : i + 4 ≤ L) (k412 : lw_K p l e s m below meth c dC dI b cA d N w nw sz x0 xd xp m0 md mp i 412) : lw_K p l e s m below meth c dC dI b cA d N w nw sz x0 xd xp m0 md mp i 137 := by
  obtain ⟨hx, hb, hr, hml, hown, hts, hX, hbl, hlocks, hgv⟩ := C0
  have hts := fun w h => hts w (wsL_law_in w h)
  have hA : ∀ q : Nat, s.heap.size ≤ q → (fun q : Nat => s.heap.size ≤ q) q := fun _ h => h
  have hbA : ¬ (fun q : Nat => s.heap.size ≤ q) b := Nat.not_le.mpr hbl
  intro y G G2 H locs ls hin hP hD hS hl
  obtain ⟨F, u, kr, dn, lf, dw⟩ := y
  obtain ⟨hu, hlo⟩ := id hin
  have hu : u < 2 := hu
  have hlo : hs_lo lf := hlo
  refine lv_aload_n hx hb dL_law_137 rfl (lv_at hl 1 rfl) ?_
  refine lv_aload_n hx hb dL_law_138 rfl (lv_at hl 0 rfl) ?_
  refine lv_iload_n hx hb dL_law_139 rfl (lv_at hl 3 rfl) ?_
  refine lv_iconst (v := nI 1) hx hb dL_law_140 (by decide) ?_
  refine hs_addN hx hb dL_law_141 ?_
  refine hs_sld hx hb hX hbl hbA hS (k := i + 1) (by omega) (by omega) dL_law_142 ?_
  refine lv_aload_n hx hb dL_law_143 rfl (lv_at hl 0 rfl) ?_
  refine lv_iload_n hx hb dL_law_144 rfl (lv_at hl 3 rfl) ?_
  refine lv_iconst (v := nI 2) hx hb dL_law_145 (by decide) ?_
  refine hs_addN hx hb dL_law_146 ?_
  refine hs_sld hx hb hX hbl hbA hS (k := i + 2) (by omega) (by omega) dL_law_147 ?_
  refine lv_aload_n hx hb dL_law_148 rfl (lv_at hl 0 rfl) ?_
  refine lv_iload_n hx hb dL_law_149 rfl (lv_at hl 3 rfl) ?_
  refine lv_iconst (v := nI 3) hx hb dL_law_150 (by decide) ?_
  refine hs_addN hx hb dL_law_151 ?_
  refine hs_sld hx hb hX hbl hbA hS (k := i + 3) (by omega) (by omega) dL_law_152 ?_
  refine hs_xi (va_runV (As := [.int (xs (i + 1)), .int (xs (i + 2)), .int (xs (i + 3))]) (rest := []) ⟨hx, hb, hml, hown, hts⟩ (kX0_write l dC dI x0 xd xp cA d N w nw sz u F G kr dn lf dw ok _ (xs (i + 1)) (xs (i + 2)) (xs (i + 3)) hu) (cwV 3 hts gL_law_X0_write rfl rfl rfl (by decide +kernel) ⟨(Nat.le_of_ble_eq_true rfl), (Nat.le_of_ble_eq_true rfl)⟩) (hs_preM (q := (RX0, TX0, 12)) (ci := 0) hK (hP.sub [0, 1, 2] rfl) (hD.sub [0, 1, 2] (by decide) rfl) rfl rfl) rfl rfl hl.1 rfl (lv_room (Nat.le_of_ble_eq_true rfl)) dL_law_153 ⟨(Nat.le_of_ble_eq_true rfl), (Nat.le_of_ble_eq_true rfl)⟩) hS hP hD hA (fun rv v H locs hv hP hD hS => ?_)
  obtain ⟨v1, g1⟩ := v
  have q1 : rv = (hs_wr d N w nw sz (xs (i + 1)) (xs (i + 2)) (xs (i + 3)) (F, u, kr, dn, lf, dw)).1 := congrArg Prod.fst hv
  have q2 : v1 = (hs_wr d N w nw sz (xs (i + 1)) (xs (i + 2)) (xs (i + 3)) (F, u, kr, dn, lf, dw)).2 := congrArg Prod.snd hv
  subst q1
  subst q2
  refine lv_aload_n hx hb dL_law_156 rfl (lv_at hl 2 rfl) ?_
  refine lv_aload_n hx hb dL_law_157 rfl (lv_at hl 0 rfl) ?_
  refine lv_iload_n hx hb dL_law_158 rfl (lv_at hl 3 rfl) ?_
  refine lv_iconst (v := nI 1) hx hb dL_law_159 (by decide) ?_
  refine hs_addN hx hb dL_law_160 ?_
  refine hs_sld hx hb hX hbl hbA hS (k := i + 1) (by omega) (by omega) dL_law_161 ?_
  refine lv_aload_n hx hb dL_law_162 rfl (lv_at hl 0 rfl) ?_
  refine lv_iload_n hx hb dL_law_163 rfl (lv_at hl 3 rfl) ?_
  refine lv_iconst (v := nI 2) hx hb dL_law_164 (by decide) ?_
  refine hs_addN hx hb dL_law_165 ?_
  refine hs_sld hx hb hX hbl hbA hS (k := i + 2) (by omega) (by omega) dL_law_166 ?_
  refine lv_aload_n hx hb dL_law_167 rfl (lv_at hl 0 rfl) ?_
  refine lv_iload_n hx hb dL_law_168 rfl (lv_at hl 3 rfl) ?_
  refine lv_iconst (v := nI 3) hx hb dL_law_169 (by decide) ?_
  refine hs_addN hx hb dL_law_170 ?_
  refine hs_sld hx hb hX hbl hbA hS (k := i + 3) (by omega) (by omega) dL_law_171 ?_
  refine hs_mi (va_runV (As := [.int (xs (i + 1)), .int (xs (i + 2)), .int (xs (i + 3))]) (rest := [.int ((hs_wr d N w nw sz (xs (i + 1)) (xs (i + 2)) (xs (i + 3)) (F, u, kr, dn, lf, dw)).1)]) ⟨hx, hb, hml, hown, hts⟩ (kX1_write l dC dI m0 md mp cA d N w nw sz u F G2 kr dn lf dw ok _ (xs (i + 1)) (xs (i + 2)) (xs (i + 3)) hu hlo) (cwV 3 hts gL_law_X1_write rfl rfl rfl (by decide +kernel) ⟨(Nat.le_of_ble_eq_true rfl), (Nat.le_of_ble_eq_true rfl)⟩) (hs_preM (q := (RX1, TX1, 11)) (ci := 1) hK (hP.sub [3, 4, 5] rfl) (hD.sub [3, 4, 5] (by decide) rfl) rfl rfl) rfl rfl hl.1 rfl (lv_room (Nat.le_of_ble_eq_true rfl)) dL_law_172 ⟨(Nat.le_of_ble_eq_true rfl), (Nat.le_of_ble_eq_true rfl)⟩) hS hP hD hA (fun rz z H locs hz hP hD hS => ?_)
  obtain ⟨v2, g2⟩ := z
  have q3 : rz = (hs_wr d N w nw sz (xs (i + 1)) (xs (i + 2)) (xs (i + 3)) (F, u, kr, dn, lf, dw)).1 := congrArg Prod.fst hz
  have q4 : v2 = (hs_wr d N w nw sz (xs (i + 1)) (xs (i + 2)) (xs (i + 3)) (F, u, kr, dn, lf, dw)).2 := congrArg Prod.snd hz
  subst q3
  subst q4
  refine lv_icmp_eq (tgt := 412) hx hb dL_law_175 (by decide) (fun c9 => ?_) (fun c9 => ?_)
  · exact k412 (hs_wr d N w nw sz (xs (i + 1)) (xs (i + 2)) (xs (i + 3)) (F, u, kr, dn, lf, dw)).2 _ _ H locs ls (hs_in_wr hin) hP hD hS hl
  · exact absurd rfl c9
set_option maxHeartbeats 4000000 in
set_option maxRecDepth 100000 in
theorem law_read {p : Program} {l : Launch} {e : Env} {s : State} {m : MethodId} {below : List Frame} {meth : Method} {c : Code} {dC : Nat → ClassId} {dI : Nat → Nat → Nat} {b L : Nat} {xs : Nat → Int32} (hL : L ≤ 2050) (C0 : lw_At p s m meth c b L xs) {cA : ClassId} {d N w nw sz x0 xd xp m0 md mp : Nat} (ok : hs_ok d N w nw sz) (hK : va_K (dC, dI) vwCl [(cA, .int)] s) {i : Nat} (hi : i + 4 ≤ L) (k412 : lw_K p l e s m below meth c dC dI b cA d N w nw sz x0 xd xp m0 md mp i 412) : lw_K p l e s m below meth c dC dI b cA d N w nw sz x0 xd xp m0 md mp i 180 := by
  obtain ⟨hx, hb, hr, hml, hown, hts, hX, hbl, hlocks, hgv⟩ := C0
  have hts := fun w h => hts w (wsL_law_in w h)
  have hA : ∀ q : Nat, s.heap.size ≤ q → (fun q : Nat => s.heap.size ≤ q) q := fun _ h => h
  have hbA : ¬ (fun q : Nat => s.heap.size ≤ q) b := Nat.not_le.mpr hbl
  intro y G G2 H locs ls hin hP hD hS hl
  obtain ⟨F, u, kr, dn, lf, dw⟩ := y
  obtain ⟨hu, hlo⟩ := id hin
  have hu : u < 2 := hu
  have hlo : hs_lo lf := hlo
  refine lv_aload_n hx hb dL_law_180 rfl (lv_at hl 1 rfl) ?_
  refine lv_aload_n hx hb dL_law_181 rfl (lv_at hl 0 rfl) ?_
  refine lv_iload_n hx hb dL_law_182 rfl (lv_at hl 3 rfl) ?_
  refine lv_iconst (v := nI 1) hx hb dL_law_183 (by decide) ?_
  refine hs_addN hx hb dL_law_184 ?_
  refine hs_sld hx hb hX hbl hbA hS (k := i + 1) (by omega) (by omega) dL_law_185 ?_
  refine lv_aload_n hx hb dL_law_186 rfl (lv_at hl 0 rfl) ?_
  refine lv_iload_n hx hb dL_law_187 rfl (lv_at hl 3 rfl) ?_
  refine lv_iconst (v := nI 2) hx hb dL_law_188 (by decide) ?_
  refine hs_addN hx hb dL_law_189 ?_
  refine hs_sld hx hb hX hbl hbA hS (k := i + 2) (by omega) (by omega) dL_law_190 ?_
  refine hs_pe (v := hs_rd d N w nw sz (xs (i + 1)) (xs (i + 2)) (F, u, kr, dn, lf, dw)) (va_runV (As := [.int (xs (i + 1)), .int (xs (i + 2))]) (rest := []) ⟨hx, hb, hml, hown, hts⟩ (kX0_read l dC dI x0 xd xp cA d N w nw sz u F G kr dn lf dw ok (xs (i + 1)) (xs (i + 2)) hu) (cwV 2 hts gL_law_X0_read rfl rfl rfl (by decide +kernel) ⟨(Nat.le_of_ble_eq_true rfl), (Nat.le_of_ble_eq_true rfl)⟩) (hs_preV (q := (RX0, TX0, 12)) (ci := 0) hK (hP.sub [0, 1] rfl) rfl rfl) rfl rfl hl.1 rfl (lv_room (Nat.le_of_ble_eq_true rfl)) dL_law_191 ⟨(Nat.le_of_ble_eq_true rfl), (Nat.le_of_ble_eq_true rfl)⟩) hS hP (fun H locs hP hS => ?_)
  refine lv_aload_n hx hb dL_law_194 rfl (lv_at hl 2 rfl) ?_
  refine lv_aload_n hx hb dL_law_195 rfl (lv_at hl 0 rfl) ?_
  refine lv_iload_n hx hb dL_law_196 rfl (lv_at hl 3 rfl) ?_
  refine lv_iconst (v := nI 1) hx hb dL_law_197 (by decide) ?_
  refine hs_addN hx hb dL_law_198 ?_
  refine hs_sld hx hb hX hbl hbA hS (k := i + 1) (by omega) (by omega) dL_law_199 ?_
  refine lv_aload_n hx hb dL_law_200 rfl (lv_at hl 0 rfl) ?_
  refine lv_iload_n hx hb dL_law_201 rfl (lv_at hl 3 rfl) ?_
  refine lv_iconst (v := nI 2) hx hb dL_law_202 (by decide) ?_
  refine hs_addN hx hb dL_law_203 ?_
  refine hs_sld hx hb hX hbl hbA hS (k := i + 2) (by omega) (by omega) dL_law_204 ?_
  refine hs_mi (va_runV (As := [.int (xs (i + 1)), .int (xs (i + 2))]) (rest := [.int (hs_rd d N w nw sz (xs (i + 1)) (xs (i + 2)) (F, u, kr, dn, lf, dw))]) ⟨hx, hb, hml, hown, hts⟩ (kX1_read l dC dI m0 md mp cA d N w nw sz u F G2 kr dn lf dw ok _ (xs (i + 1)) (xs (i + 2)) hu) (cwV 2 hts gL_law_X1_read rfl rfl rfl (by decide +kernel) ⟨(Nat.le_of_ble_eq_true rfl), (Nat.le_of_ble_eq_true rfl)⟩) (hs_preM (q := (RX1, TX1, 11)) (ci := 1) hK (hP.sub [3, 4, 5] rfl) (hD.sub [3, 4, 5] (by decide) rfl) rfl rfl) rfl rfl hl.1 rfl (lv_room (Nat.le_of_ble_eq_true rfl)) dL_law_205 ⟨(Nat.le_of_ble_eq_true rfl), (Nat.le_of_ble_eq_true rfl)⟩) hS hP hD hA (fun rz z H locs hz hP hD hS => ?_)
  obtain ⟨rfl, g2, rfl⟩ := hz
  refine lv_icmp_eq (tgt := 412) hx hb dL_law_208 (by decide) (fun c9 => ?_) (fun c9 => ?_)
  · exact k412 (F, u, kr, dn, lf, dw) _ _ H locs ls hin hP hD hS hl
  · exact absurd rfl c9
set_option maxHeartbeats 4000000 in
set_option maxRecDepth 100000 in
theorem law_verify {p : Program} {l : Launch} {e : Env} {s : State} {m : MethodId} {below : List Frame} {meth : Method} {c : Code} {dC : Nat → ClassId} {dI : Nat → Nat → Nat} {b L : Nat} {xs : Nat → Int32} (hL : L ≤ 2050) (C0 : lw_At p s m meth c b L xs) {cA : ClassId} {d N w nw sz x0 xd xp m0 md mp : Nat} (ok : hs_ok d N w nw sz) (hK : va_K (dC, dI) vwCl [(cA, .int)] s) {i : Nat} (hi : i + 4 ≤ L) (k412 : lw_K p l e s m below meth c dC dI b cA d N w nw sz x0 xd xp m0 md mp i 412) : lw_K p l e s m below meth c dC dI b cA d N w nw sz x0 xd xp m0 md mp i 213 := by
  obtain ⟨hx, hb, hr, hml, hown, hts, hX, hbl, hlocks, hgv⟩ := C0
  have hts := fun w h => hts w (wsL_law_in w h)
  have hA : ∀ q : Nat, s.heap.size ≤ q → (fun q : Nat => s.heap.size ≤ q) q := fun _ h => h
  have hbA : ¬ (fun q : Nat => s.heap.size ≤ q) b := Nat.not_le.mpr hbl
  intro y G G2 H locs ls hin hP hD hS hl
  obtain ⟨F, u, kr, dn, lf, dw⟩ := y
  obtain ⟨hu, hlo⟩ := id hin
  have hu : u < 2 := hu
  have hlo : hs_lo lf := hlo
  refine lv_aload_n hx hb dL_law_213 rfl (lv_at hl 1 rfl) ?_
  refine lv_aload_n hx hb dL_law_214 rfl (lv_at hl 0 rfl) ?_
  refine lv_iload_n hx hb dL_law_215 rfl (lv_at hl 3 rfl) ?_
  refine lv_iconst (v := nI 1) hx hb dL_law_216 (by decide) ?_
  refine hs_addN hx hb dL_law_217 ?_
  refine hs_sld hx hb hX hbl hbA hS (k := i + 1) (by omega) (by omega) dL_law_218 ?_
  refine hs_pe (v := hs_b (hs_vf d N w nw sz (xs (i + 1)) (F, u, kr, dn, lf, dw))) (va_runV (As := [.int (xs (i + 1))]) (rest := []) ⟨hx, hb, hml, hown, hts⟩ (kX0_verify l dC dI x0 xd xp cA d N w nw sz u F G kr dn lf dw ok (xs (i + 1)) hu) (cwV 1 hts gL_law_X0_verify rfl rfl rfl (by decide +kernel) ⟨(Nat.le_of_ble_eq_true rfl), (Nat.le_of_ble_eq_true rfl)⟩) (hs_preV (q := (RX0, TX0, 12)) (ci := 0) hK (hP.sub [0, 1] rfl) rfl rfl) rfl rfl hl.1 rfl (lv_room (Nat.le_of_ble_eq_true rfl)) dL_law_219 ⟨(Nat.le_of_ble_eq_true rfl), (Nat.le_of_ble_eq_true rfl)⟩) hS hP (fun H locs hP hS => ?_)
  refine lv_aload_n hx hb dL_law_222 rfl (lv_at hl 2 rfl) ?_
  refine lv_aload_n hx hb dL_law_223 rfl (lv_at hl 0 rfl) ?_
  refine lv_iload_n hx hb dL_law_224 rfl (lv_at hl 3 rfl) ?_
  refine lv_iconst (v := nI 1) hx hb dL_law_225 (by decide) ?_
  refine hs_addN hx hb dL_law_226 ?_
  refine hs_sld hx hb hX hbl hbA hS (k := i + 1) (by omega) (by omega) dL_law_227 ?_
  refine hs_mi (va_runV (As := [.int (xs (i + 1))]) (rest := [.int (hs_b (hs_vf d N w nw sz (xs (i + 1)) (F, u, kr, dn, lf, dw)))]) ⟨hx, hb, hml, hown, hts⟩ (kX1_verify l dC dI m0 md mp cA d N w nw sz u F G2 kr dn lf dw ok _ (xs (i + 1)) hu) (cwV 1 hts gL_law_X1_verify rfl rfl rfl (by decide +kernel) ⟨(Nat.le_of_ble_eq_true rfl), (Nat.le_of_ble_eq_true rfl)⟩) (hs_preM (q := (RX1, TX1, 11)) (ci := 1) hK (hP.sub [3, 4, 5] rfl) (hD.sub [3, 4, 5] (by decide) rfl) rfl rfl) rfl rfl hl.1 rfl (lv_room (Nat.le_of_ble_eq_true rfl)) dL_law_228 ⟨(Nat.le_of_ble_eq_true rfl), (Nat.le_of_ble_eq_true rfl)⟩) hS hP hD hA (fun rz z H locs hz hP hD hS => ?_)
  obtain ⟨rfl, g2, rfl⟩ := hz
  refine lv_icmp_eq (tgt := 412) hx hb dL_law_231 (by decide) (fun c9 => ?_) (fun c9 => ?_)
  · exact k412 (F, u, kr, dn, lf, dw) _ _ H locs ls hin hP hD hS hl
  · exact absurd rfl c9
set_option maxHeartbeats 4000000 in
set_option maxRecDepth 100000 in
theorem law_root {p : Program} {l : Launch} {e : Env} {s : State} {m : MethodId} {below : List Frame} {meth : Method} {c : Code} {dC : Nat → ClassId} {dI : Nat → Nat → Nat} {b L : Nat} {xs : Nat → Int32} (hL : L ≤ 2050) (C0 : lw_At p s m meth c b L xs) {cA : ClassId} {d N w nw sz x0 xd xp m0 md mp : Nat} (ok : hs_ok d N w nw sz) (hK : va_K (dC, dI) vwCl [(cA, .int)] s) {i : Nat} (hi : i + 4 ≤ L) (k412 : lw_K p l e s m below meth c dC dI b cA d N w nw sz x0 xd xp m0 md mp i 412) : lw_K p l e s m below meth c dC dI b cA d N w nw sz x0 xd xp m0 md mp i 236 := by
  obtain ⟨hx, hb, hr, hml, hown, hts, hX, hbl, hlocks, hgv⟩ := C0
  have hts := fun w h => hts w (wsL_law_in w h)
  have hA : ∀ q : Nat, s.heap.size ≤ q → (fun q : Nat => s.heap.size ≤ q) q := fun _ h => h
  have hbA : ¬ (fun q : Nat => s.heap.size ≤ q) b := Nat.not_le.mpr hbl
  intro y G G2 H locs ls hin hP hD hS hl
  obtain ⟨F, u, kr, dn, lf, dw⟩ := y
  obtain ⟨hu, hlo⟩ := id hin
  have hu : u < 2 := hu
  have hlo : hs_lo lf := hlo
  refine lv_aload_n hx hb dL_law_236 rfl (lv_at hl 1 rfl) ?_
  refine hs_pe (v := kr) (va_runV (As := []) (rest := []) ⟨hx, hb, hml, hown, hts⟩ (kX0_root l dC dI x0 xd xp cA d N w nw sz u F G kr dn lf dw ok ) (cwV 0 hts gL_law_X0_root rfl rfl rfl (by decide +kernel) ⟨(Nat.le_of_ble_eq_true rfl), (Nat.le_of_ble_eq_true rfl)⟩) (hs_preV (q := (RX0, TX0, 12)) (ci := 0) hK (hP.sub [0] rfl) rfl rfl) rfl rfl hl.1 rfl (lv_room (Nat.le_of_ble_eq_true rfl)) dL_law_237 ⟨(Nat.le_of_ble_eq_true rfl), (Nat.le_of_ble_eq_true rfl)⟩) hS hP (fun H locs hP hS => ?_)
  refine lv_aload_n hx hb dL_law_240 rfl (lv_at hl 2 rfl) ?_
  refine hs_pe (v := kr) (va_runV (As := []) (rest := [.int kr]) ⟨hx, hb, hml, hown, hts⟩ (kX1_root l dC dI m0 md mp cA d N w nw sz u F G2 kr dn lf dw ok ) (cwV 0 hts gL_law_X1_root rfl rfl rfl (by decide +kernel) ⟨(Nat.le_of_ble_eq_true rfl), (Nat.le_of_ble_eq_true rfl)⟩) (hs_preV (q := (RX1, TX1, 11)) (ci := 1) hK (hP.sub [3] rfl) rfl rfl) rfl rfl hl.1 rfl (lv_room (Nat.le_of_ble_eq_true rfl)) dL_law_241 ⟨(Nat.le_of_ble_eq_true rfl), (Nat.le_of_ble_eq_true rfl)⟩) hS hP (fun H locs hP hS => ?_)
  refine lv_icmp_eq (tgt := 412) hx hb dL_law_244 (by decide) (fun c9 => ?_) (fun c9 => ?_)
  · exact k412 (F, u, kr, dn, lf, dw) _ _ H locs ls hin hP hD hS hl
  · exact absurd rfl c9
set_option maxHeartbeats 4000000 in
set_option maxRecDepth 100000 in
theorem law_audit {p : Program} {l : Launch} {e : Env} {s : State} {m : MethodId} {below : List Frame} {meth : Method} {c : Code} {dC : Nat → ClassId} {dI : Nat → Nat → Nat} {b L : Nat} {xs : Nat → Int32} (hL : L ≤ 2050) (C0 : lw_At p s m meth c b L xs) {cA : ClassId} {d N w nw sz x0 xd xp m0 md mp : Nat} (ok : hs_ok d N w nw sz) (hK : va_K (dC, dI) vwCl [(cA, .int)] s) {i : Nat} (hi : i + 4 ≤ L) (k412 : lw_K p l e s m below meth c dC dI b cA d N w nw sz x0 xd xp m0 md mp i 412) : lw_K p l e s m below meth c dC dI b cA d N w nw sz x0 xd xp m0 md mp i 249 := by
  obtain ⟨hx, hb, hr, hml, hown, hts, hX, hbl, hlocks, hgv⟩ := C0
  have hts := fun w h => hts w (wsL_law_in w h)
  have hA : ∀ q : Nat, s.heap.size ≤ q → (fun q : Nat => s.heap.size ≤ q) q := fun _ h => h
  have hbA : ¬ (fun q : Nat => s.heap.size ≤ q) b := Nat.not_le.mpr hbl
  intro y G G2 H locs ls hin hP hD hS hl
  obtain ⟨F, u, kr, dn, lf, dw⟩ := y
  obtain ⟨hu, hlo⟩ := id hin
  have hu : u < 2 := hu
  have hlo : hs_lo lf := hlo
  refine lv_aload_n hx hb dL_law_249 rfl (lv_at hl 1 rfl) ?_
  refine hs_pe (v := hs_ad d N w nw sz (F, u, kr, dn, lf, dw)) (va_runV (As := []) (rest := []) ⟨hx, hb, hml, hown, hts⟩ (kX0_audit l dC dI x0 xd xp cA d N w nw sz u F G kr dn lf dw ok hu) (cwV 0 hts gL_law_X0_audit rfl rfl rfl (by decide +kernel) ⟨(Nat.le_of_ble_eq_true rfl), (Nat.le_of_ble_eq_true rfl)⟩) (hs_preV (q := (RX0, TX0, 12)) (ci := 0) hK (hP.sub [0, 1] rfl) rfl rfl) rfl rfl hl.1 rfl (lv_room (Nat.le_of_ble_eq_true rfl)) dL_law_250 ⟨(Nat.le_of_ble_eq_true rfl), (Nat.le_of_ble_eq_true rfl)⟩) hS hP (fun H locs hP hS => ?_)
  refine lv_aload_n hx hb dL_law_253 rfl (lv_at hl 2 rfl) ?_
  refine hs_mi (va_runV (As := []) (rest := [.int (hs_ad d N w nw sz (F, u, kr, dn, lf, dw))]) ⟨hx, hb, hml, hown, hts⟩ (kX1_audit l dC dI m0 md mp cA d N w nw sz u F G2 kr dn lf dw ok _ hu) (cwV 0 hts gL_law_X1_audit rfl rfl rfl (by decide +kernel) ⟨(Nat.le_of_ble_eq_true rfl), (Nat.le_of_ble_eq_true rfl)⟩) (hs_preM (q := (RX1, TX1, 11)) (ci := 1) hK (hP.sub [3, 4, 5] rfl) (hD.sub [3, 4, 5] (by decide) rfl) rfl rfl) rfl rfl hl.1 rfl (lv_room (Nat.le_of_ble_eq_true rfl)) dL_law_254 ⟨(Nat.le_of_ble_eq_true rfl), (Nat.le_of_ble_eq_true rfl)⟩) hS hP hD hA (fun rz z H locs hz hP hD hS => ?_)
  obtain ⟨rfl, g2, rfl⟩ := hz
  refine lv_icmp_eq (tgt := 412) hx hb dL_law_257 (by decide) (fun c9 => ?_) (fun c9 => ?_)
  · exact k412 (F, u, kr, dn, lf, dw) _ _ H locs ls hin hP hD hS hl
  · exact absurd rfl c9
set_option maxHeartbeats 4000000 in
set_option maxRecDepth 100000 in
theorem law_tamper {p : Program} {l : Launch} {e : Env} {s : State} {m : MethodId} {below : List Frame} {meth : Method} {c : Code} {dC : Nat → ClassId} {dI : Nat → Nat → Nat} {b L : Nat} {xs : Nat → Int32} (hL : L ≤ 2050) (C0 : lw_At p s m meth c b L xs) {cA : ClassId} {d N w nw sz x0 xd xp m0 md mp : Nat} (ok : hs_ok d N w nw sz) (hK : va_K (dC, dI) vwCl [(cA, .int)] s) {i : Nat} (hi : i + 4 ≤ L) (k412 : lw_K p l e s m below meth c dC dI b cA d N w nw sz x0 xd xp m0 md mp i 412) : lw_K p l e s m below meth c dC dI b cA d N w nw sz x0 xd xp m0 md mp i 262 := by
  obtain ⟨hx, hb, hr, hml, hown, hts, hX, hbl, hlocks, hgv⟩ := C0
  have hts := fun w h => hts w (wsL_law_in w h)
  have hA : ∀ q : Nat, s.heap.size ≤ q → (fun q : Nat => s.heap.size ≤ q) q := fun _ h => h
  have hbA : ¬ (fun q : Nat => s.heap.size ≤ q) b := Nat.not_le.mpr hbl
  intro y G G2 H locs ls hin hP hD hS hl
  obtain ⟨F, u, kr, dn, lf, dw⟩ := y
  obtain ⟨hu, hlo⟩ := id hin
  have hu : u < 2 := hu
  have hlo : hs_lo lf := hlo
  refine lv_aload_n hx hb dL_law_262 rfl (lv_at hl 1 rfl) ?_
  refine lv_aload_n hx hb dL_law_263 rfl (lv_at hl 0 rfl) ?_
  refine lv_iload_n hx hb dL_law_264 rfl (lv_at hl 3 rfl) ?_
  refine lv_iconst (v := nI 1) hx hb dL_law_265 (by decide) ?_
  refine hs_addN hx hb dL_law_266 ?_
  refine hs_sld hx hb hX hbl hbA hS (k := i + 1) (by omega) (by omega) dL_law_267 ?_
  refine lv_aload_n hx hb dL_law_268 rfl (lv_at hl 0 rfl) ?_
  refine lv_iload_n hx hb dL_law_269 rfl (lv_at hl 3 rfl) ?_
  refine lv_iconst (v := nI 2) hx hb dL_law_270 (by decide) ?_
  refine hs_addN hx hb dL_law_271 ?_
  refine hs_sld hx hb hX hbl hbA hS (k := i + 2) (by omega) (by omega) dL_law_272 ?_
  refine hs_xv (va_runV (As := [.int (xs (i + 1)), .int (xs (i + 2))]) (rest := []) ⟨hx, hb, hml, hown, hts⟩ (kX0_tamper l dC dI x0 xd xp cA d N w nw sz u F G kr dn lf dw ok _ (xs (i + 1)) (xs (i + 2))) (cwV 2 hts gL_law_X0_tamper rfl rfl rfl (by decide +kernel) ⟨(Nat.le_of_ble_eq_true rfl), (Nat.le_of_ble_eq_true rfl)⟩) (hs_preM (q := (RX0, TX0, 12)) (ci := 0) hK (hP.sub [0, 1, 2] rfl) (hD.sub [0, 1, 2] (by decide) rfl) rfl rfl) rfl rfl hl.1 rfl (lv_room (Nat.le_of_ble_eq_true rfl)) dL_law_273 ⟨(Nat.le_of_ble_eq_true rfl), (Nat.le_of_ble_eq_true rfl)⟩) hS hP hD hA (fun v H locs hv hP hD hS => ?_)
  subst hv
  refine lv_aload_n hx hb dL_law_276 rfl (lv_at hl 2 rfl) ?_
  refine lv_aload_n hx hb dL_law_277 rfl (lv_at hl 0 rfl) ?_
  refine lv_iload_n hx hb dL_law_278 rfl (lv_at hl 3 rfl) ?_
  refine lv_iconst (v := nI 1) hx hb dL_law_279 (by decide) ?_
  refine hs_addN hx hb dL_law_280 ?_
  refine hs_sld hx hb hX hbl hbA hS (k := i + 1) (by omega) (by omega) dL_law_281 ?_
  refine lv_aload_n hx hb dL_law_282 rfl (lv_at hl 0 rfl) ?_
  refine lv_iload_n hx hb dL_law_283 rfl (lv_at hl 3 rfl) ?_
  refine lv_iconst (v := nI 2) hx hb dL_law_284 (by decide) ?_
  refine hs_addN hx hb dL_law_285 ?_
  refine hs_sld hx hb hX hbl hbA hS (k := i + 2) (by omega) (by omega) dL_law_286 ?_
  refine hs_mv (va_runV (As := [.int (xs (i + 1)), .int (xs (i + 2))]) (rest := []) ⟨hx, hb, hml, hown, hts⟩ (kX1_tamper l dC dI m0 md mp cA d N w nw sz u F G2 kr dn lf dw ok _ (xs (i + 1)) (xs (i + 2))) (cwV 2 hts gL_law_X1_tamper rfl rfl rfl (by decide +kernel) ⟨(Nat.le_of_ble_eq_true rfl), (Nat.le_of_ble_eq_true rfl)⟩) (hs_preM (q := (RX1, TX1, 11)) (ci := 1) hK (hP.sub [3, 4, 5] rfl) (hD.sub [3, 4, 5] (by decide) rfl) rfl rfl) rfl rfl hl.1 rfl (lv_room (Nat.le_of_ble_eq_true rfl)) dL_law_287 ⟨(Nat.le_of_ble_eq_true rfl), (Nat.le_of_ble_eq_true rfl)⟩) hS hP hD hA (fun z H locs hz hP hD hS => ?_)
  subst hz
  refine lv_goto (tgt := 412) hx hb dL_law_290 (by decide) ?_
  exact k412 (hs_tm sz (xs (i + 1)) (xs (i + 2)) (F, u, kr, dn, lf, dw)) _ _ H locs ls (hs_in_tm hin) hP hD hS hl
set_option maxHeartbeats 4000000 in
set_option maxRecDepth 100000 in
theorem law_crashAfter {p : Program} {l : Launch} {e : Env} {s : State} {m : MethodId} {below : List Frame} {meth : Method} {c : Code} {dC : Nat → ClassId} {dI : Nat → Nat → Nat} {b L : Nat} {xs : Nat → Int32} (hL : L ≤ 2050) (C0 : lw_At p s m meth c b L xs) {cA : ClassId} {d N w nw sz x0 xd xp m0 md mp : Nat} (ok : hs_ok d N w nw sz) (hK : va_K (dC, dI) vwCl [(cA, .int)] s) {i : Nat} (hi : i + 4 ≤ L) (k412 : lw_K p l e s m below meth c dC dI b cA d N w nw sz x0 xd xp m0 md mp i 412) : lw_K p l e s m below meth c dC dI b cA d N w nw sz x0 xd xp m0 md mp i 293 := by
  obtain ⟨hx, hb, hr, hml, hown, hts, hX, hbl, hlocks, hgv⟩ := C0
  have hts := fun w h => hts w (wsL_law_in w h)
  have hA : ∀ q : Nat, s.heap.size ≤ q → (fun q : Nat => s.heap.size ≤ q) q := fun _ h => h
  have hbA : ¬ (fun q : Nat => s.heap.size ≤ q) b := Nat.not_le.mpr hbl
  intro y G G2 H locs ls hin hP hD hS hl
  obtain ⟨F, u, kr, dn, lf, dw⟩ := y
  obtain ⟨hu, hlo⟩ := id hin
  have hu : u < 2 := hu
  have hlo : hs_lo lf := hlo
  refine lv_aload_n hx hb dL_law_293 rfl (lv_at hl 1 rfl) ?_
  refine lv_aload_n hx hb dL_law_294 rfl (lv_at hl 0 rfl) ?_
  refine lv_iload_n hx hb dL_law_295 rfl (lv_at hl 3 rfl) ?_
  refine lv_iconst (v := nI 1) hx hb dL_law_296 (by decide) ?_
  refine hs_addN hx hb dL_law_297 ?_
  refine hs_sld hx hb hX hbl hbA hS (k := i + 1) (by omega) (by omega) dL_law_298 ?_
  refine hs_xv (va_runV (As := [.int (xs (i + 1))]) (rest := []) ⟨hx, hb, hml, hown, hts⟩ (kX0_crashAfter l dC dI x0 xd xp cA d N w nw sz u F G kr dn lf dw ok _ (xs (i + 1))) (cwV 1 hts gL_law_X0_crashAfter rfl rfl rfl (by decide +kernel) ⟨(Nat.le_of_ble_eq_true rfl), (Nat.le_of_ble_eq_true rfl)⟩) (hs_preM (q := (RX0, TX0, 12)) (ci := 0) hK (hP.sub [0, 1, 2] rfl) (hD.sub [0, 1, 2] (by decide) rfl) rfl rfl) rfl rfl hl.1 rfl (lv_room (Nat.le_of_ble_eq_true rfl)) dL_law_299 ⟨(Nat.le_of_ble_eq_true rfl), (Nat.le_of_ble_eq_true rfl)⟩) hS hP hD hA (fun v H locs hv hP hD hS => ?_)
  subst hv
  refine lv_aload_n hx hb dL_law_302 rfl (lv_at hl 2 rfl) ?_
  refine lv_aload_n hx hb dL_law_303 rfl (lv_at hl 0 rfl) ?_
  refine lv_iload_n hx hb dL_law_304 rfl (lv_at hl 3 rfl) ?_
  refine lv_iconst (v := nI 1) hx hb dL_law_305 (by decide) ?_
  refine hs_addN hx hb dL_law_306 ?_
  refine hs_sld hx hb hX hbl hbA hS (k := i + 1) (by omega) (by omega) dL_law_307 ?_
  refine hs_mv (va_runV (As := [.int (xs (i + 1))]) (rest := []) ⟨hx, hb, hml, hown, hts⟩ (kX1_crashAfter l dC dI m0 md mp cA d N w nw sz u F G2 kr dn lf dw ok _ (xs (i + 1))) (cwV 1 hts gL_law_X1_crashAfter rfl rfl rfl (by decide +kernel) ⟨(Nat.le_of_ble_eq_true rfl), (Nat.le_of_ble_eq_true rfl)⟩) (hs_preM (q := (RX1, TX1, 11)) (ci := 1) hK (hP.sub [3, 4, 5] rfl) (hD.sub [3, 4, 5] (by decide) rfl) rfl rfl) rfl rfl hl.1 rfl (lv_room (Nat.le_of_ble_eq_true rfl)) dL_law_308 ⟨(Nat.le_of_ble_eq_true rfl), (Nat.le_of_ble_eq_true rfl)⟩) hS hP hD hA (fun z H locs hz hP hD hS => ?_)
  subst hz
  refine lv_goto (tgt := 412) hx hb dL_law_311 (by decide) ?_
  exact k412 (hs_cr (xs (i + 1)) (F, u, kr, dn, lf, dw)) _ _ H locs ls (hs_in_cr hin) hP hD hS hl
set_option maxHeartbeats 4000000 in
set_option maxRecDepth 100000 in
theorem law_recover {p : Program} {l : Launch} {e : Env} {s : State} {m : MethodId} {below : List Frame} {meth : Method} {c : Code} {dC : Nat → ClassId} {dI : Nat → Nat → Nat} {b L : Nat} {xs : Nat → Int32} (hL : L ≤ 2050) (C0 : lw_At p s m meth c b L xs) {cA : ClassId} {d N w nw sz x0 xd xp m0 md mp : Nat} (ok : hs_ok d N w nw sz) (hK : va_K (dC, dI) vwCl [(cA, .int)] s) {i : Nat} (hi : i + 4 ≤ L) (k412 : lw_K p l e s m below meth c dC dI b cA d N w nw sz x0 xd xp m0 md mp i 412) : lw_K p l e s m below meth c dC dI b cA d N w nw sz x0 xd xp m0 md mp i 314 := by
  obtain ⟨hx, hb, hr, hml, hown, hts, hX, hbl, hlocks, hgv⟩ := C0
  have hts := fun w h => hts w (wsL_law_in w h)
  have hA : ∀ q : Nat, s.heap.size ≤ q → (fun q : Nat => s.heap.size ≤ q) q := fun _ h => h
  have hbA : ¬ (fun q : Nat => s.heap.size ≤ q) b := Nat.not_le.mpr hbl
  intro y G G2 H locs ls hin hP hD hS hl
  obtain ⟨F, u, kr, dn, lf, dw⟩ := y
  obtain ⟨hu, hlo⟩ := id hin
  have hu : u < 2 := hu
  have hlo : hs_lo lf := hlo
  refine lv_aload_n hx hb dL_law_314 rfl (lv_at hl 1 rfl) ?_
  refine lv_aload_n hx hb dL_law_315 rfl (lv_at hl 0 rfl) ?_
  refine lv_iload_n hx hb dL_law_316 rfl (lv_at hl 3 rfl) ?_
  refine lv_iconst (v := nI 1) hx hb dL_law_317 (by decide) ?_
  refine hs_addN hx hb dL_law_318 ?_
  refine hs_sld hx hb hX hbl hbA hS (k := i + 1) (by omega) (by omega) dL_law_319 ?_
  refine hs_xi (va_runV (As := [.int (xs (i + 1))]) (rest := []) ⟨hx, hb, hml, hown, hts⟩ (kX0_recover l dC dI x0 xd xp cA d N w nw sz u F G kr dn lf dw ok _ (xs (i + 1))) (cwV 1 hts gL_law_X0_recover rfl rfl rfl (by decide +kernel) ⟨(Nat.le_of_ble_eq_true rfl), (Nat.le_of_ble_eq_true rfl)⟩) (hs_preM (q := (RX0, TX0, 12)) (ci := 0) hK (hP.sub [0, 1, 2] rfl) (hD.sub [0, 1, 2] (by decide) rfl) rfl rfl) rfl rfl hl.1 rfl (lv_room (Nat.le_of_ble_eq_true rfl)) dL_law_320 ⟨(Nat.le_of_ble_eq_true rfl), (Nat.le_of_ble_eq_true rfl)⟩) hS hP hD hA (fun rv v H locs hv hP hD hS => ?_)
  obtain ⟨v1, g1⟩ := v
  have q1 : rv = (hs_rc nw sz (xs (i + 1)) (F, u, kr, dn, lf, dw)).1 := congrArg Prod.fst hv
  have q2 : v1 = (hs_rc nw sz (xs (i + 1)) (F, u, kr, dn, lf, dw)).2 := congrArg Prod.snd hv
  subst q1
  subst q2
  refine lv_aload_n hx hb dL_law_323 rfl (lv_at hl 2 rfl) ?_
  refine lv_aload_n hx hb dL_law_324 rfl (lv_at hl 0 rfl) ?_
  refine lv_iload_n hx hb dL_law_325 rfl (lv_at hl 3 rfl) ?_
  refine lv_iconst (v := nI 1) hx hb dL_law_326 (by decide) ?_
  refine hs_addN hx hb dL_law_327 ?_
  refine hs_sld hx hb hX hbl hbA hS (k := i + 1) (by omega) (by omega) dL_law_328 ?_
  refine hs_mi (va_runV (As := [.int (xs (i + 1))]) (rest := [.int ((hs_rc nw sz (xs (i + 1)) (F, u, kr, dn, lf, dw)).1)]) ⟨hx, hb, hml, hown, hts⟩ (kX1_recover l dC dI m0 md mp cA d N w nw sz u F G2 kr dn lf dw ok _ (xs (i + 1))) (cwV 1 hts gL_law_X1_recover rfl rfl rfl (by decide +kernel) ⟨(Nat.le_of_ble_eq_true rfl), (Nat.le_of_ble_eq_true rfl)⟩) (hs_preM (q := (RX1, TX1, 11)) (ci := 1) hK (hP.sub [3, 4, 5] rfl) (hD.sub [3, 4, 5] (by decide) rfl) rfl rfl) rfl rfl hl.1 rfl (lv_room (Nat.le_of_ble_eq_true rfl)) dL_law_329 ⟨(Nat.le_of_ble_eq_true rfl), (Nat.le_of_ble_eq_true rfl)⟩) hS hP hD hA (fun rz z H locs hz hP hD hS => ?_)
  obtain ⟨v2, g2⟩ := z
  have q3 : rz = (hs_rc nw sz (xs (i + 1)) (F, u, kr, dn, lf, dw)).1 := congrArg Prod.fst hz
  have q4 : v2 = (hs_rc nw sz (xs (i + 1)) (F, u, kr, dn, lf, dw)).2 := congrArg Prod.snd hz
  subst q3
  subst q4
  refine lv_icmp_eq (tgt := 412) hx hb dL_law_332 (by decide) (fun c9 => ?_) (fun c9 => ?_)
  · exact k412 (hs_rc nw sz (xs (i + 1)) (F, u, kr, dn, lf, dw)).2 _ _ H locs ls (hs_in_rc hin) hP hD hS hl
  · exact absurd rfl c9
set_option maxHeartbeats 4000000 in
set_option maxRecDepth 100000 in
theorem law_cells {p : Program} {l : Launch} {e : Env} {s : State} {m : MethodId} {below : List Frame} {meth : Method} {c : Code} {dC : Nat → ClassId} {dI : Nat → Nat → Nat} {b L : Nat} {xs : Nat → Int32} (hL : L ≤ 2050) (C0 : lw_At p s m meth c b L xs) {cA : ClassId} {d N w nw sz x0 xd xp m0 md mp : Nat} (ok : hs_ok d N w nw sz) (hK : va_K (dC, dI) vwCl [(cA, .int)] s) {i : Nat} (hi : i + 4 ≤ L) (k412 : lw_K p l e s m below meth c dC dI b cA d N w nw sz x0 xd xp m0 md mp i 412) : lw_K p l e s m below meth c dC dI b cA d N w nw sz x0 xd xp m0 md mp i 337 := by
  obtain ⟨hx, hb, hr, hml, hown, hts, hX, hbl, hlocks, hgv⟩ := C0
  have hts := fun w h => hts w (wsL_law_in w h)
  have hA : ∀ q : Nat, s.heap.size ≤ q → (fun q : Nat => s.heap.size ≤ q) q := fun _ h => h
  have hbA : ¬ (fun q : Nat => s.heap.size ≤ q) b := Nat.not_le.mpr hbl
  intro y G G2 H locs ls hin hP hD hS hl
  obtain ⟨F, u, kr, dn, lf, dw⟩ := y
  obtain ⟨hu, hlo⟩ := id hin
  have hu : u < 2 := hu
  have hlo : hs_lo lf := hlo
  refine lv_aload_n hx hb dL_law_337 rfl (lv_at hl 1 rfl) ?_
  refine hs_pe (v := nI (2 * sz)) (va_runV (As := []) (rest := []) ⟨hx, hb, hml, hown, hts⟩ (kX0_cells l dC dI x0 xd xp cA d N w nw sz u F G kr dn lf dw ok ) (cwV 0 hts gL_law_X0_cells rfl rfl rfl (by decide +kernel) ⟨(Nat.le_of_ble_eq_true rfl), (Nat.le_of_ble_eq_true rfl)⟩) (hs_preV (q := (RX0, TX0, 12)) (ci := 0) hK (hP.sub [0, 1] rfl) rfl rfl) rfl rfl hl.1 rfl (lv_room (Nat.le_of_ble_eq_true rfl)) dL_law_338 ⟨(Nat.le_of_ble_eq_true rfl), (Nat.le_of_ble_eq_true rfl)⟩) hS hP (fun H locs hP hS => ?_)
  refine lv_aload_n hx hb dL_law_341 rfl (lv_at hl 2 rfl) ?_
  refine hs_pe (v := nI (2 * sz)) (va_runV (As := []) (rest := [.int (nI (2 * sz))]) ⟨hx, hb, hml, hown, hts⟩ (kX1_cells l dC dI m0 md mp cA d N w nw sz u F G2 kr dn lf dw ok ) (cwV 0 hts gL_law_X1_cells rfl rfl rfl (by decide +kernel) ⟨(Nat.le_of_ble_eq_true rfl), (Nat.le_of_ble_eq_true rfl)⟩) (hs_preV (q := (RX1, TX1, 11)) (ci := 1) hK (hP.sub [3] rfl) rfl rfl) rfl rfl hl.1 rfl (lv_room (Nat.le_of_ble_eq_true rfl)) dL_law_342 ⟨(Nat.le_of_ble_eq_true rfl), (Nat.le_of_ble_eq_true rfl)⟩) hS hP (fun H locs hP hS => ?_)
  refine lv_icmp_eq (tgt := 412) hx hb dL_law_345 (by decide) (fun c9 => ?_) (fun c9 => ?_)
  · exact k412 (F, u, kr, dn, lf, dw) _ _ H locs ls hin hP hD hS hl
  · exact absurd rfl c9
set_option maxHeartbeats 4000000 in
set_option maxRecDepth 100000 in
theorem law_peek {p : Program} {l : Launch} {e : Env} {s : State} {m : MethodId} {below : List Frame} {meth : Method} {c : Code} {dC : Nat → ClassId} {dI : Nat → Nat → Nat} {b L : Nat} {xs : Nat → Int32} (hL : L ≤ 2050) (C0 : lw_At p s m meth c b L xs) {cA : ClassId} {d N w nw sz x0 xd xp m0 md mp : Nat} (ok : hs_ok d N w nw sz) (hK : va_K (dC, dI) vwCl [(cA, .int)] s) {i : Nat} (hi : i + 4 ≤ L) (k412 : lw_K p l e s m below meth c dC dI b cA d N w nw sz x0 xd xp m0 md mp i 412) : lw_K p l e s m below meth c dC dI b cA d N w nw sz x0 xd xp m0 md mp i 350 := by
  obtain ⟨hx, hb, hr, hml, hown, hts, hX, hbl, hlocks, hgv⟩ := C0
  have hts := fun w h => hts w (wsL_law_in w h)
  have hA : ∀ q : Nat, s.heap.size ≤ q → (fun q : Nat => s.heap.size ≤ q) q := fun _ h => h
  have hbA : ¬ (fun q : Nat => s.heap.size ≤ q) b := Nat.not_le.mpr hbl
  intro y G G2 H locs ls hin hP hD hS hl
  obtain ⟨F, u, kr, dn, lf, dw⟩ := y
  obtain ⟨hu, hlo⟩ := id hin
  have hu : u < 2 := hu
  have hlo : hs_lo lf := hlo
  refine lv_aload_n hx hb dL_law_350 rfl (lv_at hl 1 rfl) ?_
  refine lv_aload_n hx hb dL_law_351 rfl (lv_at hl 0 rfl) ?_
  refine lv_iload_n hx hb dL_law_352 rfl (lv_at hl 3 rfl) ?_
  refine lv_iconst (v := nI 1) hx hb dL_law_353 (by decide) ?_
  refine hs_addN hx hb dL_law_354 ?_
  refine hs_sld hx hb hX hbl hbA hS (k := i + 1) (by omega) (by omega) dL_law_355 ?_
  refine hs_pe (v := hs_pk sz F (xs (i + 1))) (va_runV (As := [.int (xs (i + 1))]) (rest := []) ⟨hx, hb, hml, hown, hts⟩ (kX0_peek l dC dI x0 xd xp cA d N w nw sz u F G kr dn lf dw ok (xs (i + 1))) (cwV 1 hts gL_law_X0_peek rfl rfl rfl (by decide +kernel) ⟨(Nat.le_of_ble_eq_true rfl), (Nat.le_of_ble_eq_true rfl)⟩) (hs_preV (q := (RX0, TX0, 12)) (ci := 0) hK (hP.sub [0, 1] rfl) rfl rfl) rfl rfl hl.1 rfl (lv_room (Nat.le_of_ble_eq_true rfl)) dL_law_356 ⟨(Nat.le_of_ble_eq_true rfl), (Nat.le_of_ble_eq_true rfl)⟩) hS hP (fun H locs hP hS => ?_)
  refine lv_aload_n hx hb dL_law_359 rfl (lv_at hl 2 rfl) ?_
  refine lv_aload_n hx hb dL_law_360 rfl (lv_at hl 0 rfl) ?_
  refine lv_iload_n hx hb dL_law_361 rfl (lv_at hl 3 rfl) ?_
  refine lv_iconst (v := nI 1) hx hb dL_law_362 (by decide) ?_
  refine hs_addN hx hb dL_law_363 ?_
  refine hs_sld hx hb hX hbl hbA hS (k := i + 1) (by omega) (by omega) dL_law_364 ?_
  refine hs_pe (v := hs_pk sz F (xs (i + 1))) (va_runV (As := [.int (xs (i + 1))]) (rest := [.int (hs_pk sz F (xs (i + 1)))]) ⟨hx, hb, hml, hown, hts⟩ (kX1_peek l dC dI m0 md mp cA d N w nw sz u F G2 kr dn lf dw ok (xs (i + 1))) (cwV 1 hts gL_law_X1_peek rfl rfl rfl (by decide +kernel) ⟨(Nat.le_of_ble_eq_true rfl), (Nat.le_of_ble_eq_true rfl)⟩) (hs_preV (q := (RX1, TX1, 11)) (ci := 1) hK (hP.sub [3, 4] rfl) rfl rfl) rfl rfl hl.1 rfl (lv_room (Nat.le_of_ble_eq_true rfl)) dL_law_365 ⟨(Nat.le_of_ble_eq_true rfl), (Nat.le_of_ble_eq_true rfl)⟩) hS hP (fun H locs hP hS => ?_)
  refine lv_icmp_eq (tgt := 412) hx hb dL_law_368 (by decide) (fun c9 => ?_) (fun c9 => ?_)
  · exact k412 (F, u, kr, dn, lf, dw) _ _ H locs ls hin hP hD hS hl
  · exact absurd rfl c9
set_option maxHeartbeats 4000000 in
set_option maxRecDepth 100000 in
theorem law_writes {p : Program} {l : Launch} {e : Env} {s : State} {m : MethodId} {below : List Frame} {meth : Method} {c : Code} {dC : Nat → ClassId} {dI : Nat → Nat → Nat} {b L : Nat} {xs : Nat → Int32} (hL : L ≤ 2050) (C0 : lw_At p s m meth c b L xs) {cA : ClassId} {d N w nw sz x0 xd xp m0 md mp : Nat} (ok : hs_ok d N w nw sz) (hK : va_K (dC, dI) vwCl [(cA, .int)] s) {i : Nat} (hi : i + 4 ≤ L) (k412 : lw_K p l e s m below meth c dC dI b cA d N w nw sz x0 xd xp m0 md mp i 412) : lw_K p l e s m below meth c dC dI b cA d N w nw sz x0 xd xp m0 md mp i 373 := by
  obtain ⟨hx, hb, hr, hml, hown, hts, hX, hbl, hlocks, hgv⟩ := C0
  have hts := fun w h => hts w (wsL_law_in w h)
  have hA : ∀ q : Nat, s.heap.size ≤ q → (fun q : Nat => s.heap.size ≤ q) q := fun _ h => h
  have hbA : ¬ (fun q : Nat => s.heap.size ≤ q) b := Nat.not_le.mpr hbl
  intro y G G2 H locs ls hin hP hD hS hl
  obtain ⟨F, u, kr, dn, lf, dw⟩ := y
  obtain ⟨hu, hlo⟩ := id hin
  have hu : u < 2 := hu
  have hlo : hs_lo lf := hlo
  refine lv_aload_n hx hb dL_law_373 rfl (lv_at hl 1 rfl) ?_
  refine hs_pe (v := dn) (va_runV (As := []) (rest := []) ⟨hx, hb, hml, hown, hts⟩ (kX0_writes l dC dI x0 xd xp cA d N w nw sz u F G kr dn lf dw ok ) (cwV 0 hts gL_law_X0_writes rfl rfl rfl (by decide +kernel) ⟨(Nat.le_of_ble_eq_true rfl), (Nat.le_of_ble_eq_true rfl)⟩) (hs_preV (q := (RX0, TX0, 12)) (ci := 0) hK (hP.sub [0] rfl) rfl rfl) rfl rfl hl.1 rfl (lv_room (Nat.le_of_ble_eq_true rfl)) dL_law_374 ⟨(Nat.le_of_ble_eq_true rfl), (Nat.le_of_ble_eq_true rfl)⟩) hS hP (fun H locs hP hS => ?_)
  refine lv_aload_n hx hb dL_law_377 rfl (lv_at hl 2 rfl) ?_
  refine hs_pe (v := dn) (va_runV (As := []) (rest := [.int dn]) ⟨hx, hb, hml, hown, hts⟩ (kX1_writes l dC dI m0 md mp cA d N w nw sz u F G2 kr dn lf dw ok ) (cwV 0 hts gL_law_X1_writes rfl rfl rfl (by decide +kernel) ⟨(Nat.le_of_ble_eq_true rfl), (Nat.le_of_ble_eq_true rfl)⟩) (hs_preV (q := (RX1, TX1, 11)) (ci := 1) hK (hP.sub [3] rfl) rfl rfl) rfl rfl hl.1 rfl (lv_room (Nat.le_of_ble_eq_true rfl)) dL_law_378 ⟨(Nat.le_of_ble_eq_true rfl), (Nat.le_of_ble_eq_true rfl)⟩) hS hP (fun H locs hP hS => ?_)
  refine lv_icmp_eq (tgt := 412) hx hb dL_law_381 (by decide) (fun c9 => ?_) (fun c9 => ?_)
  · exact k412 (F, u, kr, dn, lf, dw) _ _ H locs ls hin hP hD hS hl
  · exact absurd rfl c9
set_option maxHeartbeats 4000000 in
set_option maxRecDepth 100000 in
theorem law_slot {p : Program} {l : Launch} {e : Env} {s : State} {m : MethodId} {below : List Frame} {meth : Method} {c : Code} {dC : Nat → ClassId} {dI : Nat → Nat → Nat} {b L : Nat} {xs : Nat → Int32} (hL : L ≤ 2050) (C0 : lw_At p s m meth c b L xs) {cA : ClassId} {d N w nw sz x0 xd xp m0 md mp : Nat} (ok : hs_ok d N w nw sz) (hK : va_K (dC, dI) vwCl [(cA, .int)] s) {i : Nat} (hi : i + 4 ≤ L) (k412 : lw_K p l e s m below meth c dC dI b cA d N w nw sz x0 xd xp m0 md mp i 412) : lw_K p l e s m below meth c dC dI b cA d N w nw sz x0 xd xp m0 md mp i 386 := by
  obtain ⟨hx, hb, hr, hml, hown, hts, hX, hbl, hlocks, hgv⟩ := C0
  have hts := fun w h => hts w (wsL_law_in w h)
  have hA : ∀ q : Nat, s.heap.size ≤ q → (fun q : Nat => s.heap.size ≤ q) q := fun _ h => h
  have hbA : ¬ (fun q : Nat => s.heap.size ≤ q) b := Nat.not_le.mpr hbl
  intro y G G2 H locs ls hin hP hD hS hl
  obtain ⟨F, u, kr, dn, lf, dw⟩ := y
  obtain ⟨hu, hlo⟩ := id hin
  have hu : u < 2 := hu
  have hlo : hs_lo lf := hlo
  refine lv_aload_n hx hb dL_law_386 rfl (lv_at hl 1 rfl) ?_
  refine hs_pe (v := nI u) (va_runV (As := []) (rest := []) ⟨hx, hb, hml, hown, hts⟩ (kX0_slot l dC dI x0 xd xp cA d N w nw sz u F G kr dn lf dw ok ) (cwV 0 hts gL_law_X0_slot rfl rfl rfl (by decide +kernel) ⟨(Nat.le_of_ble_eq_true rfl), (Nat.le_of_ble_eq_true rfl)⟩) (hs_preV (q := (RX0, TX0, 12)) (ci := 0) hK (hP.sub [0] rfl) rfl rfl) rfl rfl hl.1 rfl (lv_room (Nat.le_of_ble_eq_true rfl)) dL_law_387 ⟨(Nat.le_of_ble_eq_true rfl), (Nat.le_of_ble_eq_true rfl)⟩) hS hP (fun H locs hP hS => ?_)
  refine lv_aload_n hx hb dL_law_390 rfl (lv_at hl 2 rfl) ?_
  refine hs_pe (v := nI u) (va_runV (As := []) (rest := [.int (nI u)]) ⟨hx, hb, hml, hown, hts⟩ (kX1_slot l dC dI m0 md mp cA d N w nw sz u F G2 kr dn lf dw ok ) (cwV 0 hts gL_law_X1_slot rfl rfl rfl (by decide +kernel) ⟨(Nat.le_of_ble_eq_true rfl), (Nat.le_of_ble_eq_true rfl)⟩) (hs_preV (q := (RX1, TX1, 11)) (ci := 1) hK (hP.sub [3] rfl) rfl rfl) rfl rfl hl.1 rfl (lv_room (Nat.le_of_ble_eq_true rfl)) dL_law_391 ⟨(Nat.le_of_ble_eq_true rfl), (Nat.le_of_ble_eq_true rfl)⟩) hS hP (fun H locs hP hS => ?_)
  refine lv_icmp_eq (tgt := 412) hx hb dL_law_394 (by decide) (fun c9 => ?_) (fun c9 => ?_)
  · exact k412 (F, u, kr, dn, lf, dw) _ _ H locs ls hin hP hD hS hl
  · exact absurd rfl c9
set_option maxHeartbeats 4000000 in
set_option maxRecDepth 100000 in
theorem law_down {p : Program} {l : Launch} {e : Env} {s : State} {m : MethodId} {below : List Frame} {meth : Method} {c : Code} {dC : Nat → ClassId} {dI : Nat → Nat → Nat} {b L : Nat} {xs : Nat → Int32} (hL : L ≤ 2050) (C0 : lw_At p s m meth c b L xs) {cA : ClassId} {d N w nw sz x0 xd xp m0 md mp : Nat} (ok : hs_ok d N w nw sz) (hK : va_K (dC, dI) vwCl [(cA, .int)] s) {i : Nat} (hi : i + 4 ≤ L) (k412 : lw_K p l e s m below meth c dC dI b cA d N w nw sz x0 xd xp m0 md mp i 412) : lw_K p l e s m below meth c dC dI b cA d N w nw sz x0 xd xp m0 md mp i 399 := by
  obtain ⟨hx, hb, hr, hml, hown, hts, hX, hbl, hlocks, hgv⟩ := C0
  have hts := fun w h => hts w (wsL_law_in w h)
  have hA : ∀ q : Nat, s.heap.size ≤ q → (fun q : Nat => s.heap.size ≤ q) q := fun _ h => h
  have hbA : ¬ (fun q : Nat => s.heap.size ≤ q) b := Nat.not_le.mpr hbl
  intro y G G2 H locs ls hin hP hD hS hl
  obtain ⟨F, u, kr, dn, lf, dw⟩ := y
  obtain ⟨hu, hlo⟩ := id hin
  have hu : u < 2 := hu
  have hlo : hs_lo lf := hlo
  refine lv_aload_n hx hb dL_law_399 rfl (lv_at hl 1 rfl) ?_
  refine hs_pe (v := hs_b dw) (va_runV (As := []) (rest := []) ⟨hx, hb, hml, hown, hts⟩ (kX0_down l dC dI x0 xd xp cA d N w nw sz u F G kr dn lf dw ok ) (cwV 0 hts gL_law_X0_down rfl rfl rfl (by decide +kernel) ⟨(Nat.le_of_ble_eq_true rfl), (Nat.le_of_ble_eq_true rfl)⟩) (hs_preV (q := (RX0, TX0, 12)) (ci := 0) hK (hP.sub [0] rfl) rfl rfl) rfl rfl hl.1 rfl (lv_room (Nat.le_of_ble_eq_true rfl)) dL_law_400 ⟨(Nat.le_of_ble_eq_true rfl), (Nat.le_of_ble_eq_true rfl)⟩) hS hP (fun H locs hP hS => ?_)
  refine lv_aload_n hx hb dL_law_403 rfl (lv_at hl 2 rfl) ?_
  refine hs_pe (v := hs_b dw) (va_runV (As := []) (rest := [.int (hs_b dw)]) ⟨hx, hb, hml, hown, hts⟩ (kX1_down l dC dI m0 md mp cA d N w nw sz u F G2 kr dn lf dw ok ) (cwV 0 hts gL_law_X1_down rfl rfl rfl (by decide +kernel) ⟨(Nat.le_of_ble_eq_true rfl), (Nat.le_of_ble_eq_true rfl)⟩) (hs_preV (q := (RX1, TX1, 11)) (ci := 1) hK (hP.sub [3] rfl) rfl rfl) rfl rfl hl.1 rfl (lv_room (Nat.le_of_ble_eq_true rfl)) dL_law_404 ⟨(Nat.le_of_ble_eq_true rfl), (Nat.le_of_ble_eq_true rfl)⟩) hS hP (fun H locs hP hS => ?_)
  refine lv_icmp_eq (tgt := 412) hx hb dL_law_407 (by decide) (fun c9 => ?_) (fun c9 => ?_)
  · exact k412 (F, u, kr, dn, lf, dw) _ _ H locs ls hin hP hD hS hl
  · exact absurd rfl c9
end
section
theorem hs_law4 {i L : Nat} (hi : i < 2 ^ 30) (hL : L < 2 ^ 30) (c : ¬ nI L - nI 4 < nI i) : i + 4 ≤ L := by
  rw [Int32.lt_iff_toInt_lt, pk_sub_toInt hL (by omega), nI_toInt (by omega)] at c
  omega
def hs_pX (b L : Nat) (xs : Nat → Int32) : State → Prop := fun U => va_X b L xs U U.heap ∧ b < U.heap.size
theorem hs_preC {s : State} {H H0 : Heap} {A : Nat → Prop} {locs : List Loc} {b L : Nat} {xs : Nat → Int32} {As : List Value} (hX : va_X b L xs s H0) (hbl : b < H0.size) (hbA : ¬ A b) (hS : va_S A H0 H locs) : PreS s H (va_Pc As (hs_pX b L xs)) As :=
  ⟨fun a U g mk z => ⟨z.1, va_X.moved (u := U) (U := U.calling g mk a) (Vm.Alike.refl U.vm) z.2.1, z.2.2⟩, fun U hU hW => ⟨rfl, by rw [hU]; exact va_X.moved hW.alike (hX.kept (hS.2.1 b hbl hbA)), by rw [hU]; exact Nat.lt_of_lt_of_le hbl hS.1⟩⟩
set_option maxHeartbeats 4000000 in
set_option maxRecDepth 100000 in
/-- the law's own reader: the k-th int, 0 behind the end -/
theorem kL_cell (l : Launch) (b L : Nat) (xs : Nat → Int32) (k : Nat) (hL : L ≤ 2050) (hk : k < 2) : Met l yL_cell wsL_cell ({ frames := 0, cells := 0, slots := 0, locals := 0 }) (va_Pc [.ref b, .int (nI k)] (hs_pX b L xs)) (hs_Qp (fun r => r = hs_sc xs L k)) 0 0 (fun _ => False) := by
  refine Met.ofW (cc := cL_cell) (maxL := 2) (ret := (some .int)) (by decide) rfl ?_
  intro p e s m args below meth c s₁ B hml hv
  obtain ⟨rfl, hX, hbl⟩ := hv
  have hx := B.exec
  have hb := B.bytes
  have hr := B.returns
  have hts := atoms_spec (ws := wsL_cell) B.pre
  have hlocks := B.notSynchronized
  have hS : va_S (fun _ => False) s.heap s.heap [] := va_S.rf
  have hbA : ¬ (fun _ : Nat => False) b := fun h => h
  have hl := lv_entry ([.ref b, .int (nI k)]) (n := 2) (Nat.le_of_ble_eq_true rfl)
  rw [lg_entry_eq]
  generalize (lg_sl ([.ref b, .int (nI k)]) ++ List.replicate (2 - (lg_sl ([.ref b, .int (nI k)])).length) Slot.unset).toArray = ls at hl ⊢
  have hl : lv_has ls 2 [(0, .ref b), (1, .int (nI k))] := hl
  refine lv_iload_n hx hb dL_cell_0 rfl (lv_at hl 1 rfl) ?_
  refine lv_aload_n hx hb dL_cell_1 rfl (lv_at hl 0 rfl) ?_
  refine hs_slen hx hb hX hbl hbA hS dL_cell_2 ?_
  refine hs_cge (tgt := 12) hx hb (by omega) (by omega) dL_cell_3 (by decide) (fun c1 => ?_) (fun c1 => ?_)
  · refine lv_iconst (v := 0) hx hb dL_cell_12 (by decide) ?_
    exact W.iret (v := 0) hx hb hr (fun t ht hW => ⟨⟨0, (), rfl, (if_neg (by omega)).symm, trivial⟩, hS.F ht⟩) hS.2.2 dL_cell_13
  · refine lv_aload_n hx hb dL_cell_6 rfl (lv_at hl 0 rfl) ?_
    refine lv_iload_n hx hb dL_cell_7 rfl (lv_at hl 1 rfl) ?_
    refine hs_sld hx hb hX hbl hbA hS (k := k) c1 (by omega) dL_cell_8 ?_
    refine lv_goto (tgt := 13) hx hb dL_cell_9 (by decide) ?_
    exact W.iret (v := xs k) hx hb hr (fun t ht hW => ⟨⟨xs k, (), rfl, (if_pos c1).symm, trivial⟩, hS.F ht⟩) hS.2.2 dL_cell_13
end
section
set_option maxHeartbeats 4000000 in
set_option maxRecDepth 100000 in
/-- THE LAW'S LOOP -/
theorem law_loop {p : Program} {l : Launch} {e : Env} {s : State} {m : MethodId} {below : List Frame} {meth : Method} {c : Code} {dC : Nat → ClassId} {dI : Nat → Nat → Nat} {b L : Nat} {xs : Nat → Int32} (hL : L ≤ 2050) (C0 : lw_At p s m meth c b L xs) {cA : ClassId} {d N w nw sz x0 xd xp m0 md mp : Nat} (ok : hs_ok d N w nw sz) (hK : va_K (dC, dI) vwCl [(cA, .int)] s) : ∀ (n i : Nat), i ≤ 3000 → L + 1 ≤ i + n → lw_K p l e s m below meth c dC dI b cA d N w nw sz x0 xd xp m0 md mp i 38 := by
  have C1 := C0
  obtain ⟨hx, hb, hr, hml, hown, hts, hX, hbl, hlocks, hgv⟩ := C0
  have hts := fun w h => hts w (wsL_law_in w h)
  have hA : ∀ q : Nat, s.heap.size ≤ q → (fun q : Nat => s.heap.size ≤ q) q := fun _ h => h
  have hbA : ¬ (fun q : Nat => s.heap.size ≤ q) b := Nat.not_le.mpr hbl
  intro n
  induction n with
  | zero =>
    intro i hi3 hi y G G2 H locs ls hin hP hD hS hl
    refine lv_iload_n hx hb dL_law_38 rfl (lv_at hl 3 rfl) ?_
    refine lv_aload_n hx hb dL_law_39 rfl (lv_at hl 0 rfl) ?_
    refine hs_slen hx hb hX hbl hbA hS dL_law_40 ?_
    refine lv_iconst (v := nI 4) hx hb dL_law_41 (by decide) ?_
    refine lv_isub hx hb dL_law_42 ?_
    refine lv_icmp_gt (tgt := 418) hx hb dL_law_43 (by decide) (fun c1 => ?_) (fun c1 => ?_)
    · refine lv_iconst (v := 1) hx hb dL_law_418 (by decide) ?_
      refine va_forget (fun q hq => hS.2.2 q hq) ?_
      refine W.widen (k := 600000) (n := 7302250) (Nat.le_of_ble_eq_true rfl) (Nat.le_of_ble_eq_true rfl) ?_
      exact lw_ret hx hb hr hlocks dL_law_419
    · exact absurd (hs_law4 (by omega) (by omega) c1) (by omega)
  | succ n ih =>
    intro i hi3 hi y G G2 H locs ls hin hP hD hS hl
    refine lv_iload_n hx hb dL_law_38 rfl (lv_at hl 3 rfl) ?_
    refine lv_aload_n hx hb dL_law_39 rfl (lv_at hl 0 rfl) ?_
    refine hs_slen hx hb hX hbl hbA hS dL_law_40 ?_
    refine lv_iconst (v := nI 4) hx hb dL_law_41 (by decide) ?_
    refine lv_isub hx hb dL_law_42 ?_
    refine lv_icmp_gt (tgt := 418) hx hb dL_law_43 (by decide) (fun c1 => ?_) (fun c1 => ?_)
    · refine lv_iconst (v := 1) hx hb dL_law_418 (by decide) ?_
      refine va_forget (fun q hq => hS.2.2 q hq) ?_
      refine W.widen (k := 600000) (n := 7302250) (Nat.le_of_ble_eq_true rfl) (Nat.le_of_ble_eq_true rfl) ?_
      exact lw_ret hx hb hr hlocks dL_law_419
    · have hi4 : i + 4 ≤ L := hs_law4 (by omega) (by omega) c1
      have k412 : lw_K p l e s m below meth c dC dI b cA d N w nw sz x0 xd xp m0 md mp i 412 := by
        intro y G G2 H locs ls hin hP hD hS hl
        refine lv_iinc (v := nI (i + 4)) (lv' := [(3, .int (nI (i + 4))), (0, .ref b), (1, .ref x0), (2, .ref m0)]) hx hb dL_law_412 hl (k := 3) rfl (nI_add _ 4) (by decide) rfl (fun ls hl => ?_)
        refine lv_goto (tgt := 38) hx hb dL_law_415 (by decide) ?_
        exact ih (i + 4) (by omega) (by omega) y G G2 H locs ls hin hP hD hS (lv_sub hl [1, 2, 3, 0] rfl)
      refine lv_aload_n hx hb dL_law_46 rfl (lv_at hl 0 rfl) ?_
      refine lv_iload_n hx hb dL_law_47 rfl (lv_at hl 3 rfl) ?_
      refine hs_sld hx hb hX hbl hbA hS (k := i) (by omega) (by omega) dL_law_48 ?_
      refine lv_bipush (v := 15) hx hb dL_law_49 (by decide) ?_
      refine lv_iand hx hb dL_law_51 ?_
      obtain ⟨j, hj, ej⟩ := pk_andE (xs i) (m := 15) 4 (by decide)
      rw [ej]
      match j, hj with
      | 0, _ => exact lv_tableIn (tgt := 124) (off := 72) hx hb dL_law_52 (by decide) (by decide) (by decide) (by decide) (law_format hL C1 ok hK hi4 k412 y G G2 H locs ls hin hP hD hS hl)
      | 1, _ => exact lv_tableIn (tgt := 137) (off := 85) hx hb dL_law_52 (by decide) (by decide) (by decide) (by decide) (law_write hL C1 ok hK hi4 k412 y G G2 H locs ls hin hP hD hS hl)
      | 2, _ => exact lv_tableIn (tgt := 180) (off := 128) hx hb dL_law_52 (by decide) (by decide) (by decide) (by decide) (law_read hL C1 ok hK hi4 k412 y G G2 H locs ls hin hP hD hS hl)
      | 3, _ => exact lv_tableIn (tgt := 213) (off := 161) hx hb dL_law_52 (by decide) (by decide) (by decide) (by decide) (law_verify hL C1 ok hK hi4 k412 y G G2 H locs ls hin hP hD hS hl)
      | 4, _ => exact lv_tableIn (tgt := 236) (off := 184) hx hb dL_law_52 (by decide) (by decide) (by decide) (by decide) (law_root hL C1 ok hK hi4 k412 y G G2 H locs ls hin hP hD hS hl)
      | 5, _ => exact lv_tableIn (tgt := 249) (off := 197) hx hb dL_law_52 (by decide) (by decide) (by decide) (by decide) (law_audit hL C1 ok hK hi4 k412 y G G2 H locs ls hin hP hD hS hl)
      | 6, _ => exact lv_tableIn (tgt := 262) (off := 210) hx hb dL_law_52 (by decide) (by decide) (by decide) (by decide) (law_tamper hL C1 ok hK hi4 k412 y G G2 H locs ls hin hP hD hS hl)
      | 7, _ => exact lv_tableIn (tgt := 293) (off := 241) hx hb dL_law_52 (by decide) (by decide) (by decide) (by decide) (law_crashAfter hL C1 ok hK hi4 k412 y G G2 H locs ls hin hP hD hS hl)
      | 8, _ => exact lv_tableIn (tgt := 314) (off := 262) hx hb dL_law_52 (by decide) (by decide) (by decide) (by decide) (law_recover hL C1 ok hK hi4 k412 y G G2 H locs ls hin hP hD hS hl)
      | 9, _ => exact lv_tableIn (tgt := 337) (off := 285) hx hb dL_law_52 (by decide) (by decide) (by decide) (by decide) (law_cells hL C1 ok hK hi4 k412 y G G2 H locs ls hin hP hD hS hl)
      | 10, _ => exact lv_tableIn (tgt := 350) (off := 298) hx hb dL_law_52 (by decide) (by decide) (by decide) (by decide) (law_peek hL C1 ok hK hi4 k412 y G G2 H locs ls hin hP hD hS hl)
      | 11, _ => exact lv_tableIn (tgt := 373) (off := 321) hx hb dL_law_52 (by decide) (by decide) (by decide) (by decide) (law_writes hL C1 ok hK hi4 k412 y G G2 H locs ls hin hP hD hS hl)
      | 12, _ => exact lv_tableIn (tgt := 386) (off := 334) hx hb dL_law_52 (by decide) (by decide) (by decide) (by decide) (law_slot hL C1 ok hK hi4 k412 y G G2 H locs ls hin hP hD hS hl)
      | 13, _ => exact lv_tableIn (tgt := 399) (off := 347) hx hb dL_law_52 (by decide) (by decide) (by decide) (by decide) (law_down hL C1 ok hK hi4 k412 y G G2 H locs ls hin hP hD hS hl)
      | 14, _ => exact lv_tableOut (tgt := 412) hx hb dL_law_52 (Or.inr (by decide)) (by decide) (k412 y G G2 H locs ls hin hP hD hS hl)
      | 15, _ => exact lv_tableOut (tgt := 412) hx hb dL_law_52 (Or.inr (by decide)) (by decide) (k412 y G G2 H locs ls hin hP hD hS hl)
      | n + 16, h => exact absurd h (by omega)
set_option maxHeartbeats 4000000 in
set_option maxRecDepth 100000 in
/-- THE LAW, from its entry -/
theorem whole_start {p : Program} {e : Env} {s : State} {m : MethodId} {below : List Frame} {meth : Method} {c : Code} (l : Launch) {b L : Nat} {xs : Nat → Int32} (hL : L ≤ 2050) (C0 : lw_At p s m meth c b L xs) : W p l e room_1 s m #[Value.ref b] below meth c s.heap [] 0 0 (lw_Z below #[Value.ref b] s) (entryFrame m ([Value.ref b] : List Value).toArray 4) := by
  have C1 := C0
  obtain ⟨hx, hb, hr, hml, hown, hts, hX, hbl, hlocks, hgv⟩ := C0
  have hts := fun w h => hts w (wsL_law_in w h)
  have hA : ∀ q : Nat, s.heap.size ≤ q → (fun q : Nat => s.heap.size ≤ q) q := fun _ h => h
  have hbA : ¬ (fun q : Nat => s.heap.size ≤ q) b := Nat.not_le.mpr hbl
  obtain ⟨c0, iS0, hKn0⟩ := u_known (C := RX0) (T := TX0) (N := 12) (n := 12) hts inlX0 (hts (.instantiable RX0 12) (by decide +kernel))
  obtain ⟨c1, iS1, hKn1⟩ := u_known (C := RX1) (T := TX1) (N := 11) (n := 11) hts inlX1 (hts (.instantiable RX1 11) (by decide +kernel))
  obtain ⟨dC, dI, hKc⟩ : ∃ (dC : Nat → ClassId) (dI : Nat → Nat → Nat), ∀ (k : Nat) (q : vw_C), vwCl[k]? = some q → u_Kn s q.1 q.2.1 q.2.2 (dC k) (dI k) := by
    refine ⟨fun k => if k = 0 then c0 else c1, fun k => if k = 0 then iS0 else iS1, ?_⟩
    intro k q hq
    match k, hq with
    | 0, hq => cases hq; exact hKn0
    | 1, hq => cases hq; exact hKn1
    | k + 2, hq => simp [vwCl] at hq
  have hS : va_S (fun q : Nat => s.heap.size ≤ q) s.heap s.heap [] := va_S.rf
  have hK : va_K (dC, dI) vwCl [] s := ⟨hKc, fun k q h => by simp at h⟩
  have hP : va_P (dC, dI) vwCl [] s.heap := fun k q h => by simp at h
  have hD : va_D (fun q : Nat => s.heap.size ≤ q) [] := ⟨fun i j p q h => by simp at h, fun k q h => by simp at h⟩
  have hl := lv_entry ([.ref b]) (n := 4) (Nat.le_of_ble_eq_true rfl)
  rw [lg_entry_eq]
  generalize (lg_sl ([.ref b]) ++ List.replicate (4 - (lg_sl ([.ref b])).length) Slot.unset).toArray = ls at hl ⊢
  have hl : lv_has ls 4 [(0, .ref b)] := hl
  obtain ⟨p1, ep1⟩ : ∃ x, x = hs_sc xs L 0 := ⟨_, rfl⟩
  obtain ⟨p2, ep2⟩ : ∃ x, x = hs_sc xs L 1 := ⟨_, rfl⟩
  obtain ⟨d, N, w, nw, sz, ok, ed, ew⟩ : ∃ d N w nw sz, hs_ok d N w nw sz ∧ d = hs_cd p1 ∧ w = hs_cw p2 := ⟨_, _, _, _, _, hs_ok_c p1 p2, rfl, rfl⟩
  refine va_new (ci := 0) (fs := [.int 0, .int 0, .int 0, .int 0, .int 0, .null, .null, .int 0, .int 0, .int 0, .int 0, .int 0]) (C := RX0) (T := TX0) (N := 12) hx hb hts inlX0 tyX0 tyX0_ok hown (hts (.classLink RL 7 RX0) (by decide +kernel)) (hts (.instantiable RX0 12) (by decide +kernel)) (hts (.initialized RX0) (by decide +kernel)) hK hP hD hS hA rfl (fun j hj => by rcases (show j = 0 ∨ j = 1 ∨ j = 2 ∨ j = 3 ∨ j = 4 ∨ j = 5 ∨ j = 6 ∨ j = 7 ∨ j = 8 ∨ j = 9 ∨ j = 10 ∨ j = 11 by omega) with rfl | rfl | rfl | rfl | rfl | rfl | rfl | rfl | rfl | rfl | rfl | rfl <;> rfl) (Nat.le_of_ble_eq_true rfl) (Nat.le_of_ble_eq_true rfl) dL_law_0 (fun x0 H hP hD hS => ?_)
  have hP : va_P (dC, dI) vwCl [(x0, .inr (0, [.int 0, .int 0, .int 0, .int 0, .int 0, .null, .null, .int 0, .int 0, .int 0, .int 0, .int 0]))] H := hP
  have hD : va_D (fun q : Nat => s.heap.size ≤ q) [(x0, .inr (0, [.int 0, .int 0, .int 0, .int 0, .int 0, .null, .null, .int 0, .int 0, .int 0, .int 0, .int 0]))] := hD
  refine lv_dup hx hb dL_law_3 rfl ?_
  refine lv_aload_n hx hb dL_law_4 rfl (lv_at hl 0 rfl) ?_
  refine lv_iconst (v := nI 0) hx hb dL_law_5 (by decide) ?_
  refine hs_pe (v := hs_sc xs L 0) (va_runS (As := [.ref b, .int (nI 0)]) (rest := [.ref x0, .ref x0]) ⟨hx, hb, hml, hown, hts⟩ (kL_cell l b L xs 0 hL (by omega)) (va_cwS 2 hts gL_law_L_cell rfl rfl rfl (by decide +kernel) ⟨(Nat.le_of_ble_eq_true rfl), (Nat.le_of_ble_eq_true rfl)⟩) (hs_preC hX hbl hbA hS) rfl rfl hl.1 rfl (lv_room (Nat.le_of_ble_eq_true rfl)) dL_law_6 ⟨(Nat.le_of_ble_eq_true rfl), (Nat.le_of_ble_eq_true rfl)⟩) hS hP (fun H locs hP hS => ?_)
  rw [← ep1]
  refine lv_aload_n hx hb dL_law_9 rfl (lv_at hl 0 rfl) ?_
  refine lv_iconst (v := nI 1) hx hb dL_law_10 (by decide) ?_
  refine hs_pe (v := hs_sc xs L 1) (va_runS (As := [.ref b, .int (nI 1)]) (rest := [.int p1, .ref x0, .ref x0]) ⟨hx, hb, hml, hown, hts⟩ (kL_cell l b L xs 1 hL (by omega)) (va_cwS 2 hts gL_law_L_cell rfl rfl rfl (by decide +kernel) ⟨(Nat.le_of_ble_eq_true rfl), (Nat.le_of_ble_eq_true rfl)⟩) (hs_preC hX hbl hbA hS) rfl rfl hl.1 rfl (lv_room (Nat.le_of_ble_eq_true rfl)) dL_law_11 ⟨(Nat.le_of_ble_eq_true rfl), (Nat.le_of_ble_eq_true rfl)⟩) hS hP (fun H locs hP hS => ?_)
  rw [← ep2]
  have hPc := hP.sub (ws' := [(x0, .inr (0, [.int 0, .int 0, .int 0, .int 0, .int 0, .null, .null, .int 0, .int 0, .int 0, .int 0, .int 0]))]) [0] rfl
  have hDc := hD.sub (ws' := [(x0, .inr (0, [.int 0, .int 0, .int 0, .int 0, .int 0, .null, .null, .int 0, .int 0, .int 0, .int 0, .int 0]))]) [0] (by decide) rfl
  have hFc := va_free (wc := [(x0, .inr (0, [.int 0, .int 0, .int 0, .int 0, .int 0, .null, .null, .int 0, .int 0, .int 0, .int 0, .int 0]))]) hD hS hA [0] rfl
  have hK0 : va_K (dC, dI) vwCl [] s := hK.sub [] rfl
  refine va_callv (va_runI (As := [.int p1, .int p2]) (rest := [.ref x0]) ⟨hx, hb, hml, hown, hts⟩ (kX0_init l dC dI x0 d N w nw sz ok p1 p2 ed ew _) (cwI 2 hts gL_law_X0_init rfl rfl rfl (hts (.initialized RX0) (by decide +kernel)) (hts (.methodLink RL 15 yX0_init) (by decide +kernel)) (hts (.instanceMethod yX0_init) (by decide +kernel)) rfl (by decide +kernel) ⟨(Nat.le_of_ble_eq_true rfl), (Nat.le_of_ble_eq_true rfl)⟩) (hs_preI hK0 hPc hDc) rfl rfl hl.1 rfl (lv_room (Nat.le_of_ble_eq_true rfl)) dL_law_14 ⟨(Nat.le_of_ble_eq_true rfl), (Nat.le_of_ble_eq_true rfl)⟩) hS (fun q _ h => hFc q h) hFc (fun uu t H1 locs ht hvm hw hB hz1 hk1 hS => ?_)
  obtain ⟨xd, xp, cA, F9, g9⟩ := uu
  have hE : hs_E N w nw sz F9 := hw
  obtain ⟨hP1, hK1, hD1⟩ := hB
  rw [ht] at hP1
  have hK : va_K (dC, dI) vwCl [(cA, .int)] s := va_K.moved hvm.symm hK1
  obtain ⟨hP, hD⟩ := va_join (wr := []) (w1 := (wfX x0 xd xp cA d N w nw sz ((F9, 0, F9 (nw + 1 - 1), 0, -1, false), g9))) hP hD [0] [] rfl rfl (by decide) (by decide) hk1 hFc hP1 hD1
  generalize H1 = H at hP hS ⊢
  have hP : va_P (dC, dI) vwCl (wfX x0 xd xp cA d N w nw sz ((F9, 0, F9 (nw + 1 - 1), 0, -1, false), g9)) H := hP
  have hD : va_D (fun q : Nat => s.heap.size ≤ q) (wfX x0 xd xp cA d N w nw sz ((F9, 0, F9 (nw + 1 - 1), 0, -1, false), g9)) := hD
  refine lv_astore_n (lv' := [(1, .ref x0), (0, .ref b)]) hx hb dL_law_17 rfl hl (by decide) rfl (fun ls hl => ?_)
  refine va_new (ci := 1) (fs := [.int 0, .int 0, .int 0, .int 0, .null, .null, .int 0, .int 0, .int 0, .int 0, .int 0]) (C := RX1) (T := TX1) (N := 11) hx hb hts inlX1 tyX1 tyX1_ok hown (hts (.classLink RL 18 RX1) (by decide +kernel)) (hts (.instantiable RX1 11) (by decide +kernel)) (hts (.initialized RX1) (by decide +kernel)) hK hP hD hS hA rfl (fun j hj => by rcases (show j = 0 ∨ j = 1 ∨ j = 2 ∨ j = 3 ∨ j = 4 ∨ j = 5 ∨ j = 6 ∨ j = 7 ∨ j = 8 ∨ j = 9 ∨ j = 10 by omega) with rfl | rfl | rfl | rfl | rfl | rfl | rfl | rfl | rfl | rfl | rfl <;> rfl) (Nat.le_of_ble_eq_true rfl) (Nat.le_of_ble_eq_true rfl) dL_law_18 (fun m0 H hP hD hS => ?_)
  have hP : va_P (dC, dI) vwCl ((wfX x0 xd xp cA d N w nw sz ((F9, 0, F9 (nw + 1 - 1), 0, -1, false), g9)) ++ [(m0, .inr (1, [.int 0, .int 0, .int 0, .int 0, .null, .null, .int 0, .int 0, .int 0, .int 0, .int 0]))]) H := hP
  have hD : va_D (fun q : Nat => s.heap.size ≤ q) ((wfX x0 xd xp cA d N w nw sz ((F9, 0, F9 (nw + 1 - 1), 0, -1, false), g9)) ++ [(m0, .inr (1, [.int 0, .int 0, .int 0, .int 0, .null, .null, .int 0, .int 0, .int 0, .int 0, .int 0]))]) := hD
  refine lv_dup hx hb dL_law_21 rfl ?_
  refine lv_aload_n hx hb dL_law_22 rfl (lv_at hl 1 rfl) ?_
  refine lv_iconst (v := nI 0) hx hb dL_law_23 (by decide) ?_
  refine hs_pe (v := hs_sc xs L 0) (va_runS (As := [.ref b, .int (nI 0)]) (rest := [.ref m0, .ref m0]) ⟨hx, hb, hml, hown, hts⟩ (kL_cell l b L xs 0 hL (by omega)) (va_cwS 2 hts gL_law_L_cell rfl rfl rfl (by decide +kernel) ⟨(Nat.le_of_ble_eq_true rfl), (Nat.le_of_ble_eq_true rfl)⟩) (hs_preC hX hbl hbA hS) rfl rfl hl.1 rfl (lv_room (Nat.le_of_ble_eq_true rfl)) dL_law_24 ⟨(Nat.le_of_ble_eq_true rfl), (Nat.le_of_ble_eq_true rfl)⟩) hS hP (fun H locs hP hS => ?_)
  rw [← ep1]
  refine lv_aload_n hx hb dL_law_27 rfl (lv_at hl 1 rfl) ?_
  refine lv_iconst (v := nI 1) hx hb dL_law_28 (by decide) ?_
  refine hs_pe (v := hs_sc xs L 1) (va_runS (As := [.ref b, .int (nI 1)]) (rest := [.int p1, .ref m0, .ref m0]) ⟨hx, hb, hml, hown, hts⟩ (kL_cell l b L xs 1 hL (by omega)) (va_cwS 2 hts gL_law_L_cell rfl rfl rfl (by decide +kernel) ⟨(Nat.le_of_ble_eq_true rfl), (Nat.le_of_ble_eq_true rfl)⟩) (hs_preC hX hbl hbA hS) rfl rfl hl.1 rfl (lv_room (Nat.le_of_ble_eq_true rfl)) dL_law_29 ⟨(Nat.le_of_ble_eq_true rfl), (Nat.le_of_ble_eq_true rfl)⟩) hS hP (fun H locs hP hS => ?_)
  rw [← ep2]
  have hPc := hP.sub (ws' := [(m0, .inr (1, [.int 0, .int 0, .int 0, .int 0, .null, .null, .int 0, .int 0, .int 0, .int 0, .int 0]))]) [3] rfl
  have hDc := hD.sub (ws' := [(m0, .inr (1, [.int 0, .int 0, .int 0, .int 0, .null, .null, .int 0, .int 0, .int 0, .int 0, .int 0]))]) [3] (by decide) rfl
  have hFc := va_free (wc := [(m0, .inr (1, [.int 0, .int 0, .int 0, .int 0, .null, .null, .int 0, .int 0, .int 0, .int 0, .int 0]))]) hD hS hA [3] rfl
  have hK0 : va_K (dC, dI) vwCl [] s := hK.sub [] rfl
  refine va_callv (va_runI (As := [.int p1, .int p2]) (rest := [.ref m0]) ⟨hx, hb, hml, hown, hts⟩ (kX1_init l dC dI m0 d N w nw sz ok p1 p2 ed ew _) (cwI 2 hts gL_law_X1_init rfl rfl rfl (hts (.initialized RX1) (by decide +kernel)) (hts (.methodLink RL 20 yX1_init) (by decide +kernel)) (hts (.instanceMethod yX1_init) (by decide +kernel)) rfl (by decide +kernel) ⟨(Nat.le_of_ble_eq_true rfl), (Nat.le_of_ble_eq_true rfl)⟩) (hs_preI hK0 hPc hDc) rfl rfl hl.1 rfl (lv_room (Nat.le_of_ble_eq_true rfl)) dL_law_32 ⟨(Nat.le_of_ble_eq_true rfl), (Nat.le_of_ble_eq_true rfl)⟩) hS (fun q _ h => hFc q h) hFc (fun uu t H1 locs ht hvm hw hB hz1 hk1 hS => ?_)
  obtain ⟨md, mp, cB, F8, g8⟩ := uu
  have hE8 : hs_E N w nw sz F8 := hw
  obtain ⟨hP1, hK1, hD1⟩ := hB
  rw [ht] at hP1
  have hK2 : va_K (dC, dI) vwCl [(cB, .int)] s := va_K.moved hvm.symm hK1
  obtain ⟨hP, hD⟩ := va_join (wr := (wfX x0 xd xp cA d N w nw sz ((F9, 0, F9 (nw + 1 - 1), 0, -1, false), g9))) (w1 := (wfM m0 md mp cB d N w nw sz ((F8, 0, F8 (nw + 1 - 1), 0, -1, false), g8))) hP hD [3] [0, 1, 2] rfl rfl (by decide) (by decide) hk1 hFc hP1 hD1
  generalize H1 = H at hP hS ⊢
  have hAB : cA = cB := hs_sameA (hK.app hK2)
  subst hAB
  have hEE := hs_E_u ok hE hE8
  subst hEE
  refine lv_astore_n (lv' := [(2, .ref m0), (1, .ref x0), (0, .ref b)]) hx hb dL_law_35 rfl hl (by decide) rfl (fun ls hl => ?_)
  refine lv_iconst (v := nI 2) hx hb dL_law_36 (by decide) ?_
  refine lv_istore_n (lv' := [(3, .int (nI 2)), (2, .ref m0), (1, .ref x0), (0, .ref b)]) hx hb dL_law_37 rfl hl (by decide) rfl (fun ls hl => ?_)
  refine W.widen (k := 6) (n := 1688) (Nat.le_of_ble_eq_true rfl) (Nat.le_of_ble_eq_true rfl) ?_
  exact law_loop hL C1 ok hK (L + 1) 2 (by omega) (by omega) (F9, 0, F9 (nw + 1 - 1), 0, -1, false) g9 g8 H locs ls ⟨Nat.zero_lt_succ 1, Or.inl rfl⟩ hP hD hS (lv_sub hl [3, 2, 1, 0] rfl)
end
section
-- ===== YOUR PART ENDS =====
set_option maxHeartbeats 4000000 in
theorem lw_walk (l : Launch) (b : Addr) (xs : List Int32) : MetFree l x (headSpec (Jvm.Cond.code x code maxLocals ret :: tables_1) room_1) (lw_P b xs) (fun _ _ _ _ _ => True) lw_Q := by
  refine MetFree.of_bodyS (code := code) (maxLocals := maxLocals) (ret := ret) (by decide) ?_ ?_
  · intro args s m h hn
    obtain ⟨meth, c, h1, h2, h3, h4, h5, h6, -, -⟩ := Cond.code_spec hn (atoms_spec (ws := Jvm.Cond.code x code maxLocals ret :: tables_1) h _ List.mem_cons_self)
    exact ⟨meth, c, h1, h2, h3, h4, h5, h6⟩
  · intro p e s m args below meth c s₁ B hml0 hP _
    obtain ⟨rfl, hx, hbd, hgv⟩ := hP
    obtain ⟨scr, harrAt, hlist, hof, hsmall⟩ := hx
    obtain ⟨hcb, hkn, -, -⟩ := State.arrayAt?_spec harrAt
    have hown : s.vm.findClass R_law = some m.cls := findClass_of_methodNamed B.named
    have hts0 : ∀ c ∈ (Jvm.Cond.code x code maxLocals ret :: tables_1), c.before #[Value.ref b] s = true := atoms_spec (ws := Jvm.Cond.code x code maxLocals ret :: tables_1) B.pre
    have hts : ∀ w ∈ lw_tbl, w.before #[Value.ref b] s = true := k2_hts_sels lw_privs (fun w hw => hts0 w (List.mem_cons_of_mem _ hw)) lw_privs_ok
    have hml : c.maxLocals = 4 := B.maxLocals_eq (hts0 _ List.mem_cons_self)
    have X₀ : Stand p l e room_1 s m #[Value.ref b] below meth c s₁ [] 0 0 := Stand.of_body B
    have hh0 : s₁.heap = s.heap := by rw [B.state]; rfl
    have hsz : scr.slots.size = xs.length := by rw [← Array.length_toList, hlist, List.length_map]
    have hval : ∀ j : Nat, j < xs.length → scr.slots[j]? = some (.int (xs.getD j 0)) := fun j hj => by
      rw [← Array.getElem?_toList, hlist]
      simp [hj]
    have hbl : b < s.heap.size := (Array.getElem?_eq_some_iff.mp hcb).1
    have hX : va_X b xs.length (fun j => xs.getD j 0) s s.heap := ⟨scr, hcb, hof, hkn, hsz, hval⟩
    have K : W p l e room_1 s m #[Value.ref b] below meth c s₁.heap [] 0 0 (lw_Z below #[Value.ref b] s) (entryFrame m ([Value.ref b] : List Value).toArray 4) := by
      rw [hh0]
      exact whole_start l hbd ⟨B.exec, B.bytes, B.returns, hml, hown, hts, hX, hbl, B.notSynchronized, hgv⟩
    obtain ⟨t, a1, o, b1, b2, b3⟩ := K s₁ rfl X₀
    exact ⟨t, o, a1, b1, b2, b3⟩
theorem lw_pre_spec {args : Array Value} {s : State} (h : (Jvm.Cond.and given_1 narrow_1).before args s = true) (hr : rest_1_c.before args s = true) : ∃ (b : Addr) (xs : List Int32), lw_P b xs args s := by
  have hs := flat_of_before _ h
  have hq := flat_of_before _ hr
  have hc : (Cond.count 1).before args s = true := hs _ (by decide +kernel)
  have harr : (Cond.arrayOf (.arg 0) .int).before args s = true := hs _ (by decide +kernel)
  have hle : (Cond.le (.length (.arg 0)) (.int 2050)).before args s = true := hs _ (by decide +kernel)
  have hlen : (Cond.isInt (.length (.arg 0))).before args s = true := hq _ (by decide +kernel)
  have hall : (Cond.all (.arg 0) (.isInt (.elem (.arg 0) (.index 0)))).before args s = true := hq _ (by decide +kernel)
  obtain ⟨b, xs, hb, hx⟩ := State.ints_of_pre rfl harr hlen hall
  have hsm : xs.length < 2 ^ 31 := hx.choose_spec.2.2.2
  have hev : (Term.length (.arg 0)).eval args s none [] s = some (.int xs.length.toInt32) := hx.length_eval hb
  have hv := Cond.le_ints hev (show (Term.int 2050).eval args s none [] s = some (.int 2050) from rfl)
  have hd : xs.length.toInt32 ≤ 2050 := by
    simpa [Cond.before, Cond.holds, hv] using hle
  have hN : xs.length ≤ 2050 := (Int32.ofNat_le_ofNat hsm (by decide)).mp (show Int32.ofNat xs.length ≤ Int32.ofNat 2050 from hd)
  exact ⟨b, xs, Cond.one_arg hc (show args[0]? = some (.ref b) from hb), hx, hN, h⟩
theorem lw_comes (l : Launch) : Comes l x (Jvm.Cond.code x code maxLocals ret :: tables_1) room_1 (fun tb e args s => Calls_1 tb e args s ∧ rest_1 tb e args s ∧ Pre_1 tb e args s)
    (fun _ _ args s o t => lw_Q args s o t) := by
  intro p e ha hc hk s m args below hf hfit hheap happ hpre
  obtain ⟨b, xs, hP⟩ := lw_pre_spec hpre.2.2 hpre.2.1
  obtain ⟨k, o, h1, h2, h3, hQ⟩ := lw_walk l b xs p e ha hc hk s m args below hf ((Spec.applies_iff_loose hf).mp happ).1 hP trivial
  exact ⟨k, o, h1, h2, h3, hQ⟩
theorem lw_frame {s t : State} {o : Outcome} {args : Array Value} (h : Framed s o t [] 600000 7302250) :
    Framed s o t (fieldLocs frame_1_writes args s ++ arrayLocs frame_1_arrays args s ++ staticLocs frame_1_statics s) 600000 7302250 := h
theorem lw_limb (L : Cond) (hL : ∀ (args : Array Value) (s t : State), L.after args s (.returned (some (.int 1))) t = true) :
    ArmFor flags0 classFile x code maxLocals ret World_1 tables_1 room_1 Calls_1 rest_1 Pre_1
      (fun tb e a s o t => postC L tb e a s o t ∧ Framed s o t (fieldLocs frame_1_writes a s ++ arrayLocs frame_1_arrays a s ++ staticLocs frame_1_statics s) 600000 7302250) := by
  intro l _ _ _ p e ha hc hk s m args below hf hfit hheap happ hpre
  obtain ⟨k, o, h1, h2, h3, rfl, hF⟩ := lw_comes l p e ha hc hk s m args below hf hfit hheap happ hpre
  exact ⟨k, _, h1, h2, h3, hL args s _, lw_frame hF⟩
theorem i_vc : Claimed_1_1 ∧ Claimed_1_2 := ⟨lw_limb limb_1_1 (fun args s t => by simp [limb_1_1, Cond.after, Cond.holds, Cond.value]), lw_limb limb_1_2 (fun args s t => Cond.after_iff.mpr (by
  first | (rw [show limb_1_2 = Cond.eq .result (.int 1) from rfl, Cond.eq_ints (x := 1) (y := 1) rfl rfl]; simp; done) | (simp [limb_1_2, Cond.value, Term.eval]; done)))⟩
end
