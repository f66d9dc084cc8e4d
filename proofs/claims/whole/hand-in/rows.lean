section
/-- a private method of a class that the tables say can be made, by its rows of tables_1 -/
def lw_okq (q : MethodName × Nat) : Prop := (q.1.cls ≠ "java/lang/invoke/MethodHandle" ∧ q.1.cls ≠ "java/lang/invoke/VarHandle") ∧ Cond.instantiable q.1.cls q.2 ∈ tables_1 ∧ Cond.privateMethod q.1 ∈ tables_1 ∧ Cond.instanceMethod q.1 ∈ tables_1
theorem lw_p0 : lw_okq (⟨"FlowShape", "isBlock", "(I)Z"⟩, 12) := ⟨⟨by decide +kernel, by decide +kernel⟩, List.mem_of_getElem? (i := 7) (by decide +kernel), List.mem_of_getElem? (i := 80) (by decide +kernel), List.mem_of_getElem? (i := 81) (by decide +kernel)⟩
theorem lw_p1 : lw_okq (⟨"FlowShape", "findReached", "()V"⟩, 12) := ⟨⟨by decide +kernel, by decide +kernel⟩, List.mem_of_getElem? (i := 7) (by decide +kernel), List.mem_of_getElem? (i := 104) (by decide +kernel), List.mem_of_getElem? (i := 105) (by decide +kernel)⟩
theorem lw_p2 : lw_okq (⟨"FlowShape", "takeUnreachedTarget", "(I)I"⟩, 12) := ⟨⟨by decide +kernel, by decide +kernel⟩, List.mem_of_getElem? (i := 7) (by decide +kernel), List.mem_of_getElem? (i := 108) (by decide +kernel), List.mem_of_getElem? (i := 109) (by decide +kernel)⟩
theorem lw_p3 : lw_okq (⟨"FlowShape", "findDominators", "()V"⟩, 12) := ⟨⟨by decide +kernel, by decide +kernel⟩, List.mem_of_getElem? (i := 7) (by decide +kernel), List.mem_of_getElem? (i := 130) (by decide +kernel), List.mem_of_getElem? (i := 131) (by decide +kernel)⟩
theorem lw_p4 : lw_okq (⟨"FlowShape", "startDominators", "()V"⟩, 12) := ⟨⟨by decide +kernel, by decide +kernel⟩, List.mem_of_getElem? (i := 7) (by decide +kernel), List.mem_of_getElem? (i := 134) (by decide +kernel), List.mem_of_getElem? (i := 135) (by decide +kernel)⟩
theorem lw_p5 : lw_okq (⟨"FlowShape", "strikeOutDominators", "()Z"⟩, 12) := ⟨⟨by decide +kernel, by decide +kernel⟩, List.mem_of_getElem? (i := 7) (by decide +kernel), List.mem_of_getElem? (i := 148) (by decide +kernel), List.mem_of_getElem? (i := 149) (by decide +kernel)⟩
theorem lw_p6 : lw_okq (⟨"FlowShape", "isHead", "(I)Z"⟩, 12) := ⟨⟨by decide +kernel, by decide +kernel⟩, List.mem_of_getElem? (i := 7) (by decide +kernel), List.mem_of_getElem? (i := 168) (by decide +kernel), List.mem_of_getElem? (i := 169) (by decide +kernel)⟩
theorem lw_p7 : lw_okq (⟨"FlowShape", "findDepths", "()V"⟩, 12) := ⟨⟨by decide +kernel, by decide +kernel⟩, List.mem_of_getElem? (i := 7) (by decide +kernel), List.mem_of_getElem? (i := 176) (by decide +kernel), List.mem_of_getElem? (i := 177) (by decide +kernel)⟩
theorem lw_p8 : lw_okq (⟨"FlowShape", "countLoop", "(I)V"⟩, 12) := ⟨⟨by decide +kernel, by decide +kernel⟩, List.mem_of_getElem? (i := 7) (by decide +kernel), List.mem_of_getElem? (i := 183) (by decide +kernel), List.mem_of_getElem? (i := 184) (by decide +kernel)⟩
theorem lw_p9 : lw_okq (⟨"FlowShape", "joinLoop", "(III)I"⟩, 12) := ⟨⟨by decide +kernel, by decide +kernel⟩, List.mem_of_getElem? (i := 7) (by decide +kernel), List.mem_of_getElem? (i := 187) (by decide +kernel), List.mem_of_getElem? (i := 188) (by decide +kernel)⟩
theorem lw_p10 : lw_okq (⟨"FlowShapeModel", "isBlock", "(I)Z"⟩, 13) := ⟨⟨by decide +kernel, by decide +kernel⟩, List.mem_of_getElem? (i := 191) (by decide +kernel), List.mem_of_getElem? (i := 245) (by decide +kernel), List.mem_of_getElem? (i := 246) (by decide +kernel)⟩
theorem lw_p11 : lw_okq (⟨"FlowShapeModel", "know", "()V"⟩, 13) := ⟨⟨by decide +kernel, by decide +kernel⟩, List.mem_of_getElem? (i := 191) (by decide +kernel), List.mem_of_getElem? (i := 264) (by decide +kernel), List.mem_of_getElem? (i := 265) (by decide +kernel)⟩
theorem lw_p12 : lw_okq (⟨"FlowShapeModel", "clear", "()V"⟩, 13) := ⟨⟨by decide +kernel, by decide +kernel⟩, List.mem_of_getElem? (i := 191) (by decide +kernel), List.mem_of_getElem? (i := 268) (by decide +kernel), List.mem_of_getElem? (i := 269) (by decide +kernel)⟩
theorem lw_p13 : lw_okq (⟨"FlowShapeModel", "start", "(I)V"⟩, 13) := ⟨⟨by decide +kernel, by decide +kernel⟩, List.mem_of_getElem? (i := 191) (by decide +kernel), List.mem_of_getElem? (i := 272) (by decide +kernel), List.mem_of_getElem? (i := 273) (by decide +kernel)⟩
theorem lw_p14 : lw_okq (⟨"FlowShapeModel", "spread", "([II)V"⟩, 13) := ⟨⟨by decide +kernel, by decide +kernel⟩, List.mem_of_getElem? (i := 191) (by decide +kernel), List.mem_of_getElem? (i := 276) (by decide +kernel), List.mem_of_getElem? (i := 277) (by decide +kernel)⟩
theorem lw_p15 : lw_okq (⟨"FlowShapeModel", "rank", "()V"⟩, 13) := ⟨⟨by decide +kernel, by decide +kernel⟩, List.mem_of_getElem? (i := 191) (by decide +kernel), List.mem_of_getElem? (i := 280) (by decide +kernel), List.mem_of_getElem? (i := 281) (by decide +kernel)⟩
def lw_privs_1 : List (MethodName × Nat) := [(⟨"FlowShape", "isBlock", "(I)Z"⟩, 12), (⟨"FlowShape", "findReached", "()V"⟩, 12), (⟨"FlowShape", "takeUnreachedTarget", "(I)I"⟩, 12), (⟨"FlowShape", "findDominators", "()V"⟩, 12), (⟨"FlowShape", "startDominators", "()V"⟩, 12), (⟨"FlowShape", "strikeOutDominators", "()Z"⟩, 12), (⟨"FlowShape", "isHead", "(I)Z"⟩, 12), (⟨"FlowShape", "findDepths", "()V"⟩, 12), (⟨"FlowShape", "countLoop", "(I)V"⟩, 12), (⟨"FlowShape", "joinLoop", "(III)I"⟩, 12), (⟨"FlowShapeModel", "isBlock", "(I)Z"⟩, 13), (⟨"FlowShapeModel", "know", "()V"⟩, 13), (⟨"FlowShapeModel", "clear", "()V"⟩, 13), (⟨"FlowShapeModel", "start", "(I)V"⟩, 13), (⟨"FlowShapeModel", "spread", "([II)V"⟩, 13), (⟨"FlowShapeModel", "rank", "()V"⟩, 13)]
theorem lw_r1 : ∀ q ∈ lw_privs_1, lw_okq q := List.forall_mem_cons.mpr ⟨lw_p0, List.forall_mem_cons.mpr ⟨lw_p1, List.forall_mem_cons.mpr ⟨lw_p2, List.forall_mem_cons.mpr ⟨lw_p3, List.forall_mem_cons.mpr ⟨lw_p4, List.forall_mem_cons.mpr ⟨lw_p5, List.forall_mem_cons.mpr ⟨lw_p6, List.forall_mem_cons.mpr ⟨lw_p7, List.forall_mem_cons.mpr ⟨lw_p8, List.forall_mem_cons.mpr ⟨lw_p9, List.forall_mem_cons.mpr ⟨lw_p10, List.forall_mem_cons.mpr ⟨lw_p11, List.forall_mem_cons.mpr ⟨lw_p12, List.forall_mem_cons.mpr ⟨lw_p13, List.forall_mem_cons.mpr ⟨lw_p14, List.forall_mem_cons.mpr ⟨lw_p15, fun _ h => absurd h List.not_mem_nil⟩⟩⟩⟩⟩⟩⟩⟩⟩⟩⟩⟩⟩⟩⟩⟩
theorem lw_p16 : lw_okq (⟨"FlowShapeModel", "loops", "()V"⟩, 13) := ⟨⟨by decide +kernel, by decide +kernel⟩, List.mem_of_getElem? (i := 191) (by decide +kernel), List.mem_of_getElem? (i := 284) (by decide +kernel), List.mem_of_getElem? (i := 285) (by decide +kernel)⟩
def lw_privs_2 : List (MethodName × Nat) := [(⟨"FlowShapeModel", "loops", "()V"⟩, 13)]
theorem lw_r2 : ∀ q ∈ lw_privs_2, lw_okq q := List.forall_mem_cons.mpr ⟨lw_p16, fun _ h => absurd h List.not_mem_nil⟩
def lw_privs : List (MethodName × Nat) := lw_privs_1 ++ (lw_privs_2)
def lw_tbl : List Cond := k2_sels lw_privs ++ tables_1
theorem lw_privs_ok : ∀ q ∈ lw_privs, lw_okq q := by
  show ∀ q ∈ lw_privs_1 ++ (lw_privs_2), lw_okq q
  exact List.forall_mem_append.mpr ⟨lw_r1, lw_r2⟩
end
section
/-! ===== BEGIN words of one list among another's, by their places ===== -/
theorem goodIn_r {big : List Cond} (ws : List Cond) (ps : List Nat) (hp : ws = ps.filterMap (fun i => big[i]?)) (h : ws.all goodWord = true) : GoodIn big ws := by
  intro w hw
  have h1 := List.all_eq_true.mp h w hw
  rw [hp] at hw
  obtain ⟨i, -, hi⟩ := List.mem_filterMap.mp hw
  have hm : w ∈ big := by first | exact List.mem_of_getElem? hi | exact List.getElem?_mem hi
  exact ⟨hm, good_of_word h1⟩
theorem goodIn_app {big a b : List Cond} (ha : GoodIn big a) (hb : GoodIn big b) : GoodIn big (a ++ b) := fun w h => (List.mem_append.mp h).elim (ha w) (hb w)
theorem goodIn_ca {big a b : List Cond} {c : Cond} (ha : GoodIn big (c :: a)) (hb : GoodIn big b) : GoodIn big (c :: (a ++ b)) := fun w h => (List.mem_cons.mp h).elim (fun e => ha w (List.mem_cons.mpr (Or.inl e))) (fun h => (List.mem_append.mp h).elim (fun h => ha w (List.mem_cons.mpr (Or.inr h))) (hb w))
theorem goodIn_sub {big ws : List Cond} (hm : ∀ w ∈ ws, w ∈ big) (h : ws.all goodWord = true) : GoodIn big ws := fun w hw => ⟨hm w hw, good_of_word (List.all_eq_true.mp h w hw)⟩
/-! ===== END ===== -/

/-! ===== BEGIN printed: names, fields, word lists, decode rows ===== -/
def RX0 : String := "FlowShape$BlockSets"
def TX0 : u_T := fun k => match k with
  | _ => ("FlowShape$BlockSets", "words", "[J", true)
def tyX0 : Nat → FieldType := fun k => match k with
  | _ => .array .long
abbrev wsX00 : List Cond := u_ws RX0 TX0 1
theorem nmX0 : ∀ a, a < 1 → ∀ b, b < 1 → a ≠ b → (TX0 a).2.1 ≠ (TX0 b).2.1 := by decide +kernel
theorem tyX0_ok : ∀ k, k < 1 → parseFieldDescriptor (TX0 k).2.2.1 = some (tyX0 k) := by decide +kernel
abbrev cX0_init : ByteArray := prog_2_method_1_code
def yX0_init : MethodName := ⟨RX0, "<init>", "()V"⟩
abbrev cX0_clear : ByteArray := prog_2_method_2_code
def yX0_clear : MethodName := ⟨RX0, "clear", "()V"⟩
abbrev cX0_fill : ByteArray := prog_2_method_3_code
def yX0_fill : MethodName := ⟨RX0, "fill", "(I)V"⟩
abbrev cX0_holds : ByteArray := prog_2_method_4_code
def yX0_holds : MethodName := ⟨RX0, "holds", "(II)Z"⟩
abbrev cX0_put : ByteArray := prog_2_method_5_code
def yX0_put : MethodName := ⟨RX0, "put", "(IIZ)V"⟩
abbrev cX0_count : ByteArray := prog_2_method_6_code
def yX0_count : MethodName := ⟨RX0, "count", "(I)I"⟩
abbrev cX0_next : ByteArray := prog_2_method_7_code
def yX0_next : MethodName := ⟨RX0, "next", "(II)I"⟩
abbrev cX0_keepOthersOf : ByteArray := prog_2_method_8_code
def yX0_keepOthersOf : MethodName := ⟨RX0, "keepOthersOf", "(II)Z"⟩
abbrev cX0_bit : ByteArray := prog_2_method_9_code
def yX0_bit : MethodName := ⟨RX0, "bit", "(I)J"⟩
def RX1 : String := "FlowShape"
def TX1 : u_T := fun k => match k with
  | 0 => ("FlowShape", "targets", "LFlowShape$BlockSets;", true)
  | 1 => ("FlowShape", "sources", "LFlowShape$BlockSets;", true)
  | 2 => ("FlowShape", "dominators", "LFlowShape$BlockSets;", true)
  | 3 => ("FlowShape", "isReached", "[Z", true)
  | 4 => ("FlowShape", "order", "[I", true)
  | 5 => ("FlowShape", "nextTarget", "[I", true)
  | 6 => ("FlowShape", "waiting", "[I", true)
  | 7 => ("FlowShape", "lastLoop", "[I", true)
  | 8 => ("FlowShape", "depths", "[I", true)
  | 9 => ("FlowShape", "blocks", "I", false)
  | 10 => ("FlowShape", "orderStart", "I", false)
  | _ => ("FlowShape", "known", "I", false)
def tyX1 : Nat → FieldType := fun k => match k with
  | 0 => .object "FlowShape$BlockSets"
  | 1 => .object "FlowShape$BlockSets"
  | 2 => .object "FlowShape$BlockSets"
  | 3 => .array .boolean
  | 4 => .array .int
  | 5 => .array .int
  | 6 => .array .int
  | 7 => .array .int
  | 8 => .array .int
  | 9 => .int
  | 10 => .int
  | _ => .int
abbrev wsX10 : List Cond := u_ws RX1 TX1 12
theorem nmX1 : ∀ a, a < 12 → ∀ b, b < 12 → a ≠ b → (TX1 a).2.1 ≠ (TX1 b).2.1 := by decide +kernel
theorem tyX1_ok : ∀ k, k < 12 → parseFieldDescriptor (TX1 k).2.2.1 = some (tyX1 k) := by decide +kernel
abbrev cX1_init : ByteArray := prog_1_method_1_code
def yX1_init : MethodName := ⟨RX1, "<init>", "()V"⟩
abbrev cX1_size : ByteArray := prog_1_method_2_code
def yX1_size : MethodName := ⟨RX1, "size", "(I)Z"⟩
abbrev cX1_edge : ByteArray := prog_1_method_3_code
def yX1_edge : MethodName := ⟨RX1, "edge", "(IIZ)Z"⟩
abbrev cX1_has : ByteArray := prog_1_method_4_code
def yX1_has : MethodName := ⟨RX1, "has", "(II)Z"⟩
abbrev cX1_reached : ByteArray := prog_1_method_5_code
def yX1_reached : MethodName := ⟨RX1, "reached", "(I)Z"⟩
abbrev cX1_reachedOnes : ByteArray := prog_1_method_6_code
def yX1_reachedOnes : MethodName := ⟨RX1, "reachedOnes", "()I"⟩
abbrev cX1_dominator : ByteArray := prog_1_method_7_code
def yX1_dominator : MethodName := ⟨RX1, "dominator", "(I)I"⟩
abbrev cX1_dominates : ByteArray := prog_1_method_8_code
def yX1_dominates : MethodName := ⟨RX1, "dominates", "(II)Z"⟩
abbrev cX1_head : ByteArray := prog_1_method_9_code
def yX1_head : MethodName := ⟨RX1, "head", "(I)Z"⟩
abbrev cX1_depth : ByteArray := prog_1_method_10_code
def yX1_depth : MethodName := ⟨RX1, "depth", "(I)I"⟩
abbrev cX1_isBlock : ByteArray := prog_1_method_11_code
def yX1_isBlock : MethodName := ⟨RX1, "isBlock", "(I)Z"⟩
abbrev cX1_findReached : ByteArray := prog_1_method_12_code
def yX1_findReached : MethodName := ⟨RX1, "findReached", "()V"⟩
abbrev cX1_takeUnreachedTarget : ByteArray := prog_1_method_13_code
def yX1_takeUnreachedTarget : MethodName := ⟨RX1, "takeUnreachedTarget", "(I)I"⟩
abbrev cX1_findDominators : ByteArray := prog_1_method_14_code
def yX1_findDominators : MethodName := ⟨RX1, "findDominators", "()V"⟩
abbrev cX1_startDominators : ByteArray := prog_1_method_15_code
def yX1_startDominators : MethodName := ⟨RX1, "startDominators", "()V"⟩
abbrev cX1_strikeOutDominators : ByteArray := prog_1_method_16_code
def yX1_strikeOutDominators : MethodName := ⟨RX1, "strikeOutDominators", "()Z"⟩
abbrev cX1_isHead : ByteArray := prog_1_method_17_code
def yX1_isHead : MethodName := ⟨RX1, "isHead", "(I)Z"⟩
abbrev cX1_findDepths : ByteArray := prog_1_method_18_code
def yX1_findDepths : MethodName := ⟨RX1, "findDepths", "()V"⟩
abbrev cX1_countLoop : ByteArray := prog_1_method_19_code
def yX1_countLoop : MethodName := ⟨RX1, "countLoop", "(I)V"⟩
abbrev cX1_joinLoop : ByteArray := prog_1_method_20_code
def yX1_joinLoop : MethodName := ⟨RX1, "joinLoop", "(III)I"⟩
def RX2 : String := "FlowShapeModel"
def TX2 : u_T := fun k => match k with
  | 0 => ("FlowShapeModel", "n", "I", false)
  | 1 => ("FlowShapeModel", "onward", "[I", true)
  | 2 => ("FlowShapeModel", "backward", "[I", true)
  | 3 => ("FlowShapeModel", "isKnown", "Z", false)
  | 4 => ("FlowShapeModel", "met", "[I", true)
  | 5 => ("FlowShapeModel", "under", "[I", true)
  | 6 => ("FlowShapeModel", "ranks", "[I", true)
  | 7 => ("FlowShapeModel", "nearest", "[I", true)
  | 8 => ("FlowShapeModel", "heads", "[Z", true)
  | 9 => ("FlowShapeModel", "depths", "[I", true)
  | 10 => ("FlowShapeModel", "wave", "[I", true)
  | 11 => ("FlowShapeModel", "left", "[I", true)
  | _ => ("FlowShapeModel", "waiting", "I", false)
def tyX2 : Nat → FieldType := fun k => match k with
  | 0 => .int
  | 1 => .array .int
  | 2 => .array .int
  | 3 => .boolean
  | 4 => .array .int
  | 5 => .array .int
  | 6 => .array .int
  | 7 => .array .int
  | 8 => .array .boolean
  | 9 => .array .int
  | 10 => .array .int
  | 11 => .array .int
  | _ => .int
abbrev wsX20 : List Cond := u_ws RX2 TX2 13
theorem nmX2 : ∀ a, a < 13 → ∀ b, b < 13 → a ≠ b → (TX2 a).2.1 ≠ (TX2 b).2.1 := by decide +kernel
theorem tyX2_ok : ∀ k, k < 13 → parseFieldDescriptor (TX2 k).2.2.1 = some (tyX2 k) := by decide +kernel
abbrev cX2_init : ByteArray := prog_4_method_1_code
def yX2_init : MethodName := ⟨RX2, "<init>", "()V"⟩
abbrev cX2_size : ByteArray := prog_4_method_3_code
def yX2_size : MethodName := ⟨RX2, "size", "(I)Z"⟩
abbrev cX2_isBlock : ByteArray := prog_4_method_4_code
def yX2_isBlock : MethodName := ⟨RX2, "isBlock", "(I)Z"⟩
abbrev cX2_isSet : ByteArray := prog_4_method_5_code
def yX2_isSet : MethodName := ⟨RX2, "isSet", "([III)Z"⟩
abbrev cX2_turn : ByteArray := prog_4_method_6_code
def yX2_turn : MethodName := ⟨RX2, "turn", "([III)V"⟩
abbrev cX2_edge : ByteArray := prog_4_method_7_code
def yX2_edge : MethodName := ⟨RX2, "edge", "(IIZ)Z"⟩
abbrev cX2_has : ByteArray := prog_4_method_8_code
def yX2_has : MethodName := ⟨RX2, "has", "(II)Z"⟩
abbrev cX2_spread : ByteArray := prog_4_method_9_code
def yX2_spread : MethodName := ⟨RX2, "spread", "([II)V"⟩
abbrev cX2_start : ByteArray := prog_4_method_10_code
def yX2_start : MethodName := ⟨RX2, "start", "(I)V"⟩
abbrev cX2_clear : ByteArray := prog_4_method_11_code
def yX2_clear : MethodName := ⟨RX2, "clear", "()V"⟩
abbrev cX2_know : ByteArray := prog_4_method_12_code
def yX2_know : MethodName := ⟨RX2, "know", "()V"⟩
abbrev cX2_rank : ByteArray := prog_4_method_13_code
def yX2_rank : MethodName := ⟨RX2, "rank", "()V"⟩
abbrev cX2_loops : ByteArray := prog_4_method_14_code
def yX2_loops : MethodName := ⟨RX2, "loops", "()V"⟩
abbrev cX2_reached : ByteArray := prog_4_method_15_code
def yX2_reached : MethodName := ⟨RX2, "reached", "(I)Z"⟩
abbrev cX2_reachedOnes : ByteArray := prog_4_method_16_code
def yX2_reachedOnes : MethodName := ⟨RX2, "reachedOnes", "()I"⟩
abbrev cX2_dominator : ByteArray := prog_4_method_17_code
def yX2_dominator : MethodName := ⟨RX2, "dominator", "(I)I"⟩
abbrev cX2_dominates : ByteArray := prog_4_method_18_code
def yX2_dominates : MethodName := ⟨RX2, "dominates", "(II)Z"⟩
abbrev cX2_head : ByteArray := prog_4_method_19_code
def yX2_head : MethodName := ⟨RX2, "head", "(I)Z"⟩
abbrev cX2_depth : ByteArray := prog_4_method_20_code
def yX2_depth : MethodName := ⟨RX2, "depth", "(I)I"⟩
def RJ13 : String := "java/lang/Long"
def TJ13 : u_T := fun k => match k with
  | _ => ("", "", "", false)
def tyJ13 : Nat → FieldType := fun k => match k with
  | _ => .int
abbrev wsJ130 : List Cond := u_ws RJ13 TJ13 0
theorem nmJ13 : ∀ a, a < 0 → ∀ b, b < 0 → a ≠ b → (TJ13 a).2.1 ≠ (TJ13 b).2.1 := by decide +kernel
theorem tyJ13_ok : ∀ k, k < 0 → parseFieldDescriptor (TJ13 k).2.2.1 = some (tyJ13 k) := by decide +kernel
abbrev cJ13_bitCount_95d88 : ByteArray := prog_5_method_50_code
def yJ13_bitCount_95d88 : MethodName := ⟨RJ13, "bitCount", "(J)I"⟩
def RJ7 : String := "java/util/Arrays"
def TJ7 : u_T := fun k => match k with
  | _ => ("", "", "", false)
def tyJ7 : Nat → FieldType := fun k => match k with
  | _ => .int
abbrev wsJ70 : List Cond := u_ws RJ7 TJ7 0
theorem nmJ7 : ∀ a, a < 0 → ∀ b, b < 0 → a ≠ b → (TJ7 a).2.1 ≠ (TJ7 b).2.1 := by decide +kernel
theorem tyJ7_ok : ∀ k, k < 0 → parseFieldDescriptor (TJ7 k).2.2.1 = some (tyJ7 k) := by decide +kernel
abbrev cJ7_rangeCheck_23922 : ByteArray := prog_6_method_30_code
def yJ7_rangeCheck_23922 : MethodName := ⟨RJ7, "rangeCheck", "(III)V"⟩
abbrev cJ7_fill_d0a16 : ByteArray := prog_6_method_101_code
def yJ7_fill_d0a16 : MethodName := ⟨RJ7, "fill", "([JJ)V"⟩
abbrev cJ7_fill_bad5a : ByteArray := prog_6_method_102_code
def yJ7_fill_bad5a : MethodName := ⟨RJ7, "fill", "([JIIJ)V"⟩
abbrev cJ7_fill_53178 : ByteArray := prog_6_method_103_code
def yJ7_fill_53178 : MethodName := ⟨RJ7, "fill", "([II)V"⟩
def RL : String := "FlowShapeLaw"
abbrev cL_law : ByteArray := code
def yL_law : MethodName := ⟨RL, "law", "([I)Z"⟩
def wsX0_init : List Cond := .code yX0_init cX0_init 1 none :: ([.methodLink RX0 3 objectInit, .instanceMethod objectInit, .code objectInit ⟨#[0xb1]⟩ 1 none, .arrayClass .long, .fieldLink RX0 11 "FlowShape$BlockSets" "words" "[J"] ++ wsX00)
def wsJ7_fill_d0a16 : List Cond := .code yJ7_fill_d0a16 cJ7_fill_d0a16 5 none :: ([])
def wsX0_clear : List Cond := .code yX0_clear cX0_clear 1 none :: ([.fieldLink RX0 11 "FlowShape$BlockSets" "words" "[J", .methodLink RX0 15 yJ7_fill_d0a16, .static yJ7_fill_d0a16, .initialized RJ7, .code yJ7_fill_d0a16 cJ7_fill_d0a16 5 none] ++ wsX00)
def wsJ7_rangeCheck_23922 : List Cond := .code yJ7_rangeCheck_23922 cJ7_rangeCheck_23922 3 none :: ([])
def wsJ7_fill_bad5a : List Cond := .code yJ7_fill_bad5a cJ7_fill_bad5a 6 none :: ([.methodLink RJ7 13 yJ7_rangeCheck_23922, .static yJ7_rangeCheck_23922, .initialized RJ7, .code yJ7_rangeCheck_23922 cJ7_rangeCheck_23922 3 none])
def wsX0_fill : List Cond := .code yX0_fill cX0_fill 2 none :: ([.fieldLink RX0 11 "FlowShape$BlockSets" "words" "[J", .constantLong RX0 21 (-1), .methodLink RX0 23 yJ7_fill_bad5a, .static yJ7_fill_bad5a, .initialized RJ7, .code yJ7_fill_bad5a cJ7_fill_bad5a 6 none, .methodLink RJ7 13 yJ7_rangeCheck_23922, .static yJ7_rangeCheck_23922, .code yJ7_rangeCheck_23922 cJ7_rangeCheck_23922 3 none] ++ wsX00)
def wsX0_bit : List Cond := .code yX0_bit cX0_bit 1 (some .long) :: ([])
def wsX0_holds : List Cond := .code yX0_holds cX0_holds 3 (some .boolean) :: ([.fieldLink RX0 11 "FlowShape$BlockSets" "words" "[J", .methodLink RX0 26 yX0_bit, .static yX0_bit, .initialized RX0, .code yX0_bit cX0_bit 1 (some .long)] ++ wsX00)
def wsX0_put : List Cond := .code yX0_put cX0_put 5 none :: ([.fieldLink RX0 11 "FlowShape$BlockSets" "words" "[J", .constantLong RX0 21 (-1), .methodLink RX0 26 yX0_bit, .static yX0_bit, .initialized RX0, .code yX0_bit cX0_bit 1 (some .long)] ++ wsX00)
def wsJ13_bitCount_95d88 : List Cond := .code yJ13_bitCount_95d88 cJ13_bitCount_95d88 2 (some .int) :: ([.constantLong RJ13 314 (6148914691236517205), .constantLong RJ13 316 (3689348814741910323), .constantLong RJ13 318 (1085102592571150095)])
def wsX0_count : List Cond := .code yX0_count cX0_count 4 (some .int) :: ([.fieldLink RX0 11 "FlowShape$BlockSets" "words" "[J", .methodLink RX0 30 yJ13_bitCount_95d88, .static yJ13_bitCount_95d88, .initialized RJ13, .code yJ13_bitCount_95d88 cJ13_bitCount_95d88 2 (some .int), .constantLong RJ13 314 (6148914691236517205), .constantLong RJ13 316 (3689348814741910323), .constantLong RJ13 318 (1085102592571150095)] ++ wsX00)
def wsX0_next : List Cond := .code yX0_next cX0_next 10 (some .int) :: ([.constantLong RX0 21 (-1), .fieldLink RX0 11 "FlowShape$BlockSets" "words" "[J", .methodLink RX0 30 yJ13_bitCount_95d88, .static yJ13_bitCount_95d88, .initialized RJ13, .code yJ13_bitCount_95d88 cJ13_bitCount_95d88 2 (some .int), .constantLong RJ13 314 (6148914691236517205), .constantLong RJ13 316 (3689348814741910323), .constantLong RJ13 318 (1085102592571150095)] ++ wsX00)
def wsX0_keepOthersOf : List Cond := .code yX0_keepOthersOf cX0_keepOthersOf 11 (some .boolean) :: ([.fieldLink RX0 11 "FlowShape$BlockSets" "words" "[J", .methodLink RX0 26 yX0_bit, .static yX0_bit, .initialized RX0, .code yX0_bit cX0_bit 1 (some .long)] ++ wsX00)
def wsX1_init_r1 : List Cond := [Cond.methodLink RX1 1 objectInit, Cond.instanceMethod objectInit, Cond.code objectInit ⟨#[0xb1]⟩ 1 none, Cond.classLink RX1 7 RX0, Cond.instantiable RX0 1, Cond.initialized RX0, Cond.fieldLink RX1 10 "FlowShape" "targets" "LFlowShape$BlockSets;", Cond.fieldLink RX1 16 "FlowShape" "sources" "LFlowShape$BlockSets;", Cond.fieldLink RX1 19 "FlowShape" "dominators" "LFlowShape$BlockSets;", Cond.arrayClass .boolean, Cond.fieldLink RX1 22 "FlowShape" "isReached" "[Z", Cond.arrayClass .int, Cond.fieldLink RX1 26 "FlowShape" "order" "[I", Cond.fieldLink RX1 30 "FlowShape" "nextTarget" "[I", Cond.fieldLink RX1 33 "FlowShape" "waiting" "[I", Cond.fieldLink RX1 36 "FlowShape" "lastLoop" "[I", Cond.fieldLink RX1 39 "FlowShape" "depths" "[I", Cond.fieldLink RX1 42 "FlowShape" "blocks" "I", Cond.fieldLink RX1 46 "FlowShape" "orderStart" "I", Cond.fieldLink RX1 49 "FlowShape" "known" "I", Cond.instanceMethod yX0_init, Cond.code yX0_init cX0_init 1 none, Cond.methodLink RX0 3 objectInit, Cond.arrayClass .long]
def wsX1_init_r2 : List Cond := [Cond.fieldLink RX0 11 "FlowShape$BlockSets" "words" "[J"]
def wsX1_init : List Cond := .code yX1_init cX1_init 1 none :: ((wsX1_init_r1 ++ wsX1_init_r2) ++ wsX00 ++ wsX10)
def wsX1_size : List Cond := .code yX1_size cX1_size 2 (some .boolean) :: ([.fieldLink RX1 42 "FlowShape" "blocks" "I", .fieldLink RX1 10 "FlowShape" "targets" "LFlowShape$BlockSets;", .fieldLink RX1 16 "FlowShape" "sources" "LFlowShape$BlockSets;", .fieldLink RX1 49 "FlowShape" "known" "I", .methodLink RX1 52 yX0_clear, .instanceMethod yX0_clear, .selects RX0 yX0_clear yX0_clear, .initialized RX0, .code yX0_clear cX0_clear 1 none, .fieldLink RX0 11 "FlowShape$BlockSets" "words" "[J", .methodLink RX0 15 yJ7_fill_d0a16, .static yJ7_fill_d0a16, .initialized RJ7, .code yJ7_fill_d0a16 cJ7_fill_d0a16 5 none] ++ wsX10 ++ wsX00)
def wsX1_isBlock : List Cond := .code yX1_isBlock cX1_isBlock 2 (some .boolean) :: ([.fieldLink RX1 42 "FlowShape" "blocks" "I"] ++ wsX10)
def wsX1_edge : List Cond := .code yX1_edge cX1_edge 4 (some .boolean) :: ([.fieldLink RX1 10 "FlowShape" "targets" "LFlowShape$BlockSets;", .fieldLink RX1 16 "FlowShape" "sources" "LFlowShape$BlockSets;", .fieldLink RX1 49 "FlowShape" "known" "I", .methodLink RX1 55 yX1_isBlock, .instanceMethod yX1_isBlock, .selects RX1 yX1_isBlock yX1_isBlock, .initialized RX1, .code yX1_isBlock cX1_isBlock 2 (some .boolean), .fieldLink RX1 42 "FlowShape" "blocks" "I", .methodLink RX1 59 yX0_holds, .instanceMethod yX0_holds, .selects RX0 yX0_holds yX0_holds, .initialized RX0, .code yX0_holds cX0_holds 3 (some .boolean), .fieldLink RX0 11 "FlowShape$BlockSets" "words" "[J", .methodLink RX0 26 yX0_bit, .static yX0_bit, .code yX0_bit cX0_bit 1 (some .long), .methodLink RX1 63 yX0_put, .instanceMethod yX0_put, .selects RX0 yX0_put yX0_put, .code yX0_put cX0_put 5 none, .constantLong RX0 21 (-1)] ++ wsX10 ++ wsX00)
def wsX1_has : List Cond := .code yX1_has cX1_has 3 (some .boolean) :: ([.fieldLink RX1 10 "FlowShape" "targets" "LFlowShape$BlockSets;", .methodLink RX1 55 yX1_isBlock, .instanceMethod yX1_isBlock, .selects RX1 yX1_isBlock yX1_isBlock, .initialized RX1, .code yX1_isBlock cX1_isBlock 2 (some .boolean), .fieldLink RX1 42 "FlowShape" "blocks" "I", .methodLink RX1 59 yX0_holds, .instanceMethod yX0_holds, .selects RX0 yX0_holds yX0_holds, .initialized RX0, .code yX0_holds cX0_holds 3 (some .boolean), .fieldLink RX0 11 "FlowShape$BlockSets" "words" "[J", .methodLink RX0 26 yX0_bit, .static yX0_bit, .code yX0_bit cX0_bit 1 (some .long)] ++ wsX10 ++ wsX00)
def wsX1_takeUnreachedTarget : List Cond := .code yX1_takeUnreachedTarget cX1_takeUnreachedTarget 3 (some .int) :: ([.fieldLink RX1 10 "FlowShape" "targets" "LFlowShape$BlockSets;", .fieldLink RX1 30 "FlowShape" "nextTarget" "[I", .fieldLink RX1 42 "FlowShape" "blocks" "I", .fieldLink RX1 22 "FlowShape" "isReached" "[Z", .methodLink RX1 77 yX0_next, .instanceMethod yX0_next, .selects RX0 yX0_next yX0_next, .initialized RX0, .code yX0_next cX0_next 10 (some .int), .constantLong RX0 21 (-1), .fieldLink RX0 11 "FlowShape$BlockSets" "words" "[J", .methodLink RX0 30 yJ13_bitCount_95d88, .static yJ13_bitCount_95d88, .initialized RJ13, .code yJ13_bitCount_95d88 cJ13_bitCount_95d88 2 (some .int), .constantLong RJ13 314 (6148914691236517205), .constantLong RJ13 316 (3689348814741910323), .constantLong RJ13 318 (1085102592571150095)] ++ wsX10 ++ wsX00)
def wsX1_findReached_r1 : List Cond := [Cond.fieldLink RX1 49 "FlowShape" "known" "I", Cond.fieldLink RX1 42 "FlowShape" "blocks" "I", Cond.fieldLink RX1 22 "FlowShape" "isReached" "[Z", Cond.fieldLink RX1 30 "FlowShape" "nextTarget" "[I", Cond.fieldLink RX1 33 "FlowShape" "waiting" "[I", Cond.fieldLink RX1 46 "FlowShape" "orderStart" "I", Cond.fieldLink RX1 26 "FlowShape" "order" "[I", Cond.methodLink RX1 87 yX1_takeUnreachedTarget, Cond.instanceMethod yX1_takeUnreachedTarget, Cond.selects RX1 yX1_takeUnreachedTarget yX1_takeUnreachedTarget, Cond.initialized RX1, Cond.code yX1_takeUnreachedTarget cX1_takeUnreachedTarget 3 (some .int), Cond.fieldLink RX1 10 "FlowShape" "targets" "LFlowShape$BlockSets;", Cond.methodLink RX1 77 yX0_next, Cond.instanceMethod yX0_next, Cond.selects RX0 yX0_next yX0_next, Cond.initialized RX0, Cond.code yX0_next cX0_next 10 (some .int), Cond.constantLong RX0 21 (-1), Cond.fieldLink RX0 11 "FlowShape$BlockSets" "words" "[J", Cond.methodLink RX0 30 yJ13_bitCount_95d88, Cond.static yJ13_bitCount_95d88, Cond.initialized RJ13, Cond.code yJ13_bitCount_95d88 cJ13_bitCount_95d88 2 (some .int)]
def wsX1_findReached_r2 : List Cond := [Cond.constantLong RJ13 314 (6148914691236517205), Cond.constantLong RJ13 316 (3689348814741910323), Cond.constantLong RJ13 318 (1085102592571150095)]
def wsX1_findReached : List Cond := .code yX1_findReached cX1_findReached 5 none :: ((wsX1_findReached_r1 ++ wsX1_findReached_r2) ++ wsX10 ++ wsX00)
def wsX1_reached_r1 : List Cond := [Cond.fieldLink RX1 22 "FlowShape" "isReached" "[Z", Cond.methodLink RX1 55 yX1_isBlock, Cond.instanceMethod yX1_isBlock, Cond.selects RX1 yX1_isBlock yX1_isBlock, Cond.initialized RX1, Cond.code yX1_isBlock cX1_isBlock 2 (some .boolean), Cond.fieldLink RX1 42 "FlowShape" "blocks" "I", Cond.methodLink RX1 67 yX1_findReached, Cond.instanceMethod yX1_findReached, Cond.selects RX1 yX1_findReached yX1_findReached, Cond.code yX1_findReached cX1_findReached 5 none, Cond.fieldLink RX1 49 "FlowShape" "known" "I", Cond.fieldLink RX1 30 "FlowShape" "nextTarget" "[I", Cond.fieldLink RX1 33 "FlowShape" "waiting" "[I", Cond.fieldLink RX1 46 "FlowShape" "orderStart" "I", Cond.fieldLink RX1 26 "FlowShape" "order" "[I", Cond.methodLink RX1 87 yX1_takeUnreachedTarget, Cond.instanceMethod yX1_takeUnreachedTarget, Cond.selects RX1 yX1_takeUnreachedTarget yX1_takeUnreachedTarget, Cond.code yX1_takeUnreachedTarget cX1_takeUnreachedTarget 3 (some .int), Cond.fieldLink RX1 10 "FlowShape" "targets" "LFlowShape$BlockSets;", Cond.methodLink RX1 77 yX0_next, Cond.instanceMethod yX0_next, Cond.selects RX0 yX0_next yX0_next]
def wsX1_reached_r2 : List Cond := [Cond.initialized RX0, Cond.code yX0_next cX0_next 10 (some .int), Cond.constantLong RX0 21 (-1), Cond.fieldLink RX0 11 "FlowShape$BlockSets" "words" "[J", Cond.methodLink RX0 30 yJ13_bitCount_95d88, Cond.static yJ13_bitCount_95d88, Cond.initialized RJ13, Cond.code yJ13_bitCount_95d88 cJ13_bitCount_95d88 2 (some .int), Cond.constantLong RJ13 314 (6148914691236517205), Cond.constantLong RJ13 316 (3689348814741910323), Cond.constantLong RJ13 318 (1085102592571150095)]
def wsX1_reached : List Cond := .code yX1_reached cX1_reached 2 (some .boolean) :: ((wsX1_reached_r1 ++ wsX1_reached_r2) ++ wsX10 ++ wsX00)
def wsX1_reachedOnes_r1 : List Cond := [Cond.fieldLink RX1 42 "FlowShape" "blocks" "I", Cond.fieldLink RX1 46 "FlowShape" "orderStart" "I", Cond.methodLink RX1 67 yX1_findReached, Cond.instanceMethod yX1_findReached, Cond.selects RX1 yX1_findReached yX1_findReached, Cond.initialized RX1, Cond.code yX1_findReached cX1_findReached 5 none, Cond.fieldLink RX1 49 "FlowShape" "known" "I", Cond.fieldLink RX1 22 "FlowShape" "isReached" "[Z", Cond.fieldLink RX1 30 "FlowShape" "nextTarget" "[I", Cond.fieldLink RX1 33 "FlowShape" "waiting" "[I", Cond.fieldLink RX1 26 "FlowShape" "order" "[I", Cond.methodLink RX1 87 yX1_takeUnreachedTarget, Cond.instanceMethod yX1_takeUnreachedTarget, Cond.selects RX1 yX1_takeUnreachedTarget yX1_takeUnreachedTarget, Cond.code yX1_takeUnreachedTarget cX1_takeUnreachedTarget 3 (some .int), Cond.fieldLink RX1 10 "FlowShape" "targets" "LFlowShape$BlockSets;", Cond.methodLink RX1 77 yX0_next, Cond.instanceMethod yX0_next, Cond.selects RX0 yX0_next yX0_next, Cond.initialized RX0, Cond.code yX0_next cX0_next 10 (some .int), Cond.constantLong RX0 21 (-1), Cond.fieldLink RX0 11 "FlowShape$BlockSets" "words" "[J"]
def wsX1_reachedOnes_r2 : List Cond := [Cond.methodLink RX0 30 yJ13_bitCount_95d88, Cond.static yJ13_bitCount_95d88, Cond.initialized RJ13, Cond.code yJ13_bitCount_95d88 cJ13_bitCount_95d88 2 (some .int), Cond.constantLong RJ13 314 (6148914691236517205), Cond.constantLong RJ13 316 (3689348814741910323), Cond.constantLong RJ13 318 (1085102592571150095)]
def wsX1_reachedOnes : List Cond := .code yX1_reachedOnes cX1_reachedOnes 1 (some .int) :: ((wsX1_reachedOnes_r1 ++ wsX1_reachedOnes_r2) ++ wsX10 ++ wsX00)
def wsX1_startDominators_r1 : List Cond := [Cond.fieldLink RX1 19 "FlowShape" "dominators" "LFlowShape$BlockSets;", Cond.fieldLink RX1 46 "FlowShape" "orderStart" "I", Cond.fieldLink RX1 42 "FlowShape" "blocks" "I", Cond.fieldLink RX1 26 "FlowShape" "order" "[I", Cond.methodLink RX1 52 yX0_clear, Cond.instanceMethod yX0_clear, Cond.selects RX0 yX0_clear yX0_clear, Cond.initialized RX0, Cond.code yX0_clear cX0_clear 1 none, Cond.fieldLink RX0 11 "FlowShape$BlockSets" "words" "[J", Cond.methodLink RX0 15 yJ7_fill_d0a16, Cond.static yJ7_fill_d0a16, Cond.initialized RJ7, Cond.code yJ7_fill_d0a16 cJ7_fill_d0a16 5 none, Cond.methodLink RX1 63 yX0_put, Cond.instanceMethod yX0_put, Cond.selects RX0 yX0_put yX0_put, Cond.code yX0_put cX0_put 5 none, Cond.constantLong RX0 21 (-1), Cond.methodLink RX0 26 yX0_bit, Cond.static yX0_bit, Cond.code yX0_bit cX0_bit 1 (some .long), Cond.methodLink RX1 97 yX0_fill, Cond.instanceMethod yX0_fill]
def wsX1_startDominators_r2 : List Cond := [Cond.selects RX0 yX0_fill yX0_fill, Cond.code yX0_fill cX0_fill 2 none, Cond.methodLink RX0 23 yJ7_fill_bad5a, Cond.static yJ7_fill_bad5a, Cond.code yJ7_fill_bad5a cJ7_fill_bad5a 6 none, Cond.methodLink RJ7 13 yJ7_rangeCheck_23922, Cond.static yJ7_rangeCheck_23922, Cond.code yJ7_rangeCheck_23922 cJ7_rangeCheck_23922 3 none]
def wsX1_startDominators : List Cond := .code yX1_startDominators cX1_startDominators 2 none :: ((wsX1_startDominators_r1 ++ wsX1_startDominators_r2) ++ wsX10 ++ wsX00)
def wsX1_strikeOutDominators_r1 : List Cond := [Cond.fieldLink RX1 46 "FlowShape" "orderStart" "I", Cond.fieldLink RX1 42 "FlowShape" "blocks" "I", Cond.fieldLink RX1 26 "FlowShape" "order" "[I", Cond.fieldLink RX1 16 "FlowShape" "sources" "LFlowShape$BlockSets;", Cond.fieldLink RX1 22 "FlowShape" "isReached" "[Z", Cond.fieldLink RX1 19 "FlowShape" "dominators" "LFlowShape$BlockSets;", Cond.methodLink RX1 77 yX0_next, Cond.instanceMethod yX0_next, Cond.selects RX0 yX0_next yX0_next, Cond.initialized RX0, Cond.code yX0_next cX0_next 10 (some .int), Cond.constantLong RX0 21 (-1), Cond.fieldLink RX0 11 "FlowShape$BlockSets" "words" "[J", Cond.methodLink RX0 30 yJ13_bitCount_95d88, Cond.static yJ13_bitCount_95d88, Cond.initialized RJ13, Cond.code yJ13_bitCount_95d88 cJ13_bitCount_95d88 2 (some .int), Cond.constantLong RJ13 314 (6148914691236517205), Cond.constantLong RJ13 316 (3689348814741910323), Cond.constantLong RJ13 318 (1085102592571150095), Cond.methodLink RX1 101 yX0_keepOthersOf, Cond.instanceMethod yX0_keepOthersOf, Cond.selects RX0 yX0_keepOthersOf yX0_keepOthersOf, Cond.code yX0_keepOthersOf cX0_keepOthersOf 11 (some .boolean)]
def wsX1_strikeOutDominators_r2 : List Cond := [Cond.methodLink RX0 26 yX0_bit, Cond.static yX0_bit, Cond.code yX0_bit cX0_bit 1 (some .long)]
def wsX1_strikeOutDominators : List Cond := .code yX1_strikeOutDominators cX1_strikeOutDominators 5 (some .boolean) :: ((wsX1_strikeOutDominators_r1 ++ wsX1_strikeOutDominators_r2) ++ wsX10 ++ wsX00)
def wsX1_findDominators_r1 : List Cond := [Cond.fieldLink RX1 49 "FlowShape" "known" "I", Cond.fieldLink RX1 42 "FlowShape" "blocks" "I", Cond.methodLink RX1 67 yX1_findReached, Cond.instanceMethod yX1_findReached, Cond.selects RX1 yX1_findReached yX1_findReached, Cond.initialized RX1, Cond.code yX1_findReached cX1_findReached 5 none, Cond.fieldLink RX1 22 "FlowShape" "isReached" "[Z", Cond.fieldLink RX1 30 "FlowShape" "nextTarget" "[I", Cond.fieldLink RX1 33 "FlowShape" "waiting" "[I", Cond.fieldLink RX1 46 "FlowShape" "orderStart" "I", Cond.fieldLink RX1 26 "FlowShape" "order" "[I", Cond.methodLink RX1 87 yX1_takeUnreachedTarget, Cond.instanceMethod yX1_takeUnreachedTarget, Cond.selects RX1 yX1_takeUnreachedTarget yX1_takeUnreachedTarget, Cond.code yX1_takeUnreachedTarget cX1_takeUnreachedTarget 3 (some .int), Cond.fieldLink RX1 10 "FlowShape" "targets" "LFlowShape$BlockSets;", Cond.methodLink RX1 77 yX0_next, Cond.instanceMethod yX0_next, Cond.selects RX0 yX0_next yX0_next, Cond.initialized RX0, Cond.code yX0_next cX0_next 10 (some .int), Cond.constantLong RX0 21 (-1), Cond.fieldLink RX0 11 "FlowShape$BlockSets" "words" "[J"]
def wsX1_findDominators_r2 : List Cond := [Cond.methodLink RX0 30 yJ13_bitCount_95d88, Cond.static yJ13_bitCount_95d88, Cond.initialized RJ13, Cond.code yJ13_bitCount_95d88 cJ13_bitCount_95d88 2 (some .int), Cond.constantLong RJ13 314 (6148914691236517205), Cond.constantLong RJ13 316 (3689348814741910323), Cond.constantLong RJ13 318 (1085102592571150095), Cond.methodLink RX1 90 yX1_startDominators, Cond.instanceMethod yX1_startDominators, Cond.selects RX1 yX1_startDominators yX1_startDominators, Cond.code yX1_startDominators cX1_startDominators 2 none, Cond.fieldLink RX1 19 "FlowShape" "dominators" "LFlowShape$BlockSets;", Cond.methodLink RX1 52 yX0_clear, Cond.instanceMethod yX0_clear, Cond.selects RX0 yX0_clear yX0_clear, Cond.code yX0_clear cX0_clear 1 none, Cond.methodLink RX0 15 yJ7_fill_d0a16, Cond.static yJ7_fill_d0a16, Cond.initialized RJ7, Cond.code yJ7_fill_d0a16 cJ7_fill_d0a16 5 none, Cond.methodLink RX1 63 yX0_put, Cond.instanceMethod yX0_put, Cond.selects RX0 yX0_put yX0_put, Cond.code yX0_put cX0_put 5 none]
def wsX1_findDominators_r3 : List Cond := [Cond.methodLink RX0 26 yX0_bit, Cond.static yX0_bit, Cond.code yX0_bit cX0_bit 1 (some .long), Cond.methodLink RX1 97 yX0_fill, Cond.instanceMethod yX0_fill, Cond.selects RX0 yX0_fill yX0_fill, Cond.code yX0_fill cX0_fill 2 none, Cond.methodLink RX0 23 yJ7_fill_bad5a, Cond.static yJ7_fill_bad5a, Cond.code yJ7_fill_bad5a cJ7_fill_bad5a 6 none, Cond.methodLink RJ7 13 yJ7_rangeCheck_23922, Cond.static yJ7_rangeCheck_23922, Cond.code yJ7_rangeCheck_23922 cJ7_rangeCheck_23922 3 none, Cond.methodLink RX1 93 yX1_strikeOutDominators, Cond.instanceMethod yX1_strikeOutDominators, Cond.selects RX1 yX1_strikeOutDominators yX1_strikeOutDominators, Cond.code yX1_strikeOutDominators cX1_strikeOutDominators 5 (some .boolean), Cond.fieldLink RX1 16 "FlowShape" "sources" "LFlowShape$BlockSets;", Cond.methodLink RX1 101 yX0_keepOthersOf, Cond.instanceMethod yX0_keepOthersOf, Cond.selects RX0 yX0_keepOthersOf yX0_keepOthersOf, Cond.code yX0_keepOthersOf cX0_keepOthersOf 11 (some .boolean)]
def wsX1_findDominators : List Cond := .code yX1_findDominators cX1_findDominators 3 none :: ((wsX1_findDominators_r1 ++ (wsX1_findDominators_r2 ++ wsX1_findDominators_r3)) ++ wsX10 ++ wsX00)
def wsX1_dominator_r1 : List Cond := [Cond.fieldLink RX1 19 "FlowShape" "dominators" "LFlowShape$BlockSets;", Cond.fieldLink RX1 42 "FlowShape" "blocks" "I", Cond.methodLink RX1 55 yX1_isBlock, Cond.instanceMethod yX1_isBlock, Cond.selects RX1 yX1_isBlock yX1_isBlock, Cond.initialized RX1, Cond.code yX1_isBlock cX1_isBlock 2 (some .boolean), Cond.methodLink RX1 70 yX1_findDominators, Cond.instanceMethod yX1_findDominators, Cond.selects RX1 yX1_findDominators yX1_findDominators, Cond.code yX1_findDominators cX1_findDominators 3 none, Cond.fieldLink RX1 49 "FlowShape" "known" "I", Cond.methodLink RX1 67 yX1_findReached, Cond.instanceMethod yX1_findReached, Cond.selects RX1 yX1_findReached yX1_findReached, Cond.code yX1_findReached cX1_findReached 5 none, Cond.fieldLink RX1 22 "FlowShape" "isReached" "[Z", Cond.fieldLink RX1 30 "FlowShape" "nextTarget" "[I", Cond.fieldLink RX1 33 "FlowShape" "waiting" "[I", Cond.fieldLink RX1 46 "FlowShape" "orderStart" "I", Cond.fieldLink RX1 26 "FlowShape" "order" "[I", Cond.methodLink RX1 87 yX1_takeUnreachedTarget, Cond.instanceMethod yX1_takeUnreachedTarget, Cond.selects RX1 yX1_takeUnreachedTarget yX1_takeUnreachedTarget]
def wsX1_dominator_r2 : List Cond := [Cond.code yX1_takeUnreachedTarget cX1_takeUnreachedTarget 3 (some .int), Cond.fieldLink RX1 10 "FlowShape" "targets" "LFlowShape$BlockSets;", Cond.methodLink RX1 77 yX0_next, Cond.instanceMethod yX0_next, Cond.selects RX0 yX0_next yX0_next, Cond.initialized RX0, Cond.code yX0_next cX0_next 10 (some .int), Cond.constantLong RX0 21 (-1), Cond.fieldLink RX0 11 "FlowShape$BlockSets" "words" "[J", Cond.methodLink RX0 30 yJ13_bitCount_95d88, Cond.static yJ13_bitCount_95d88, Cond.initialized RJ13, Cond.code yJ13_bitCount_95d88 cJ13_bitCount_95d88 2 (some .int), Cond.constantLong RJ13 314 (6148914691236517205), Cond.constantLong RJ13 316 (3689348814741910323), Cond.constantLong RJ13 318 (1085102592571150095), Cond.methodLink RX1 90 yX1_startDominators, Cond.instanceMethod yX1_startDominators, Cond.selects RX1 yX1_startDominators yX1_startDominators, Cond.code yX1_startDominators cX1_startDominators 2 none, Cond.methodLink RX1 52 yX0_clear, Cond.instanceMethod yX0_clear, Cond.selects RX0 yX0_clear yX0_clear, Cond.code yX0_clear cX0_clear 1 none]
def wsX1_dominator_r3 : List Cond := [Cond.methodLink RX0 15 yJ7_fill_d0a16, Cond.static yJ7_fill_d0a16, Cond.initialized RJ7, Cond.code yJ7_fill_d0a16 cJ7_fill_d0a16 5 none, Cond.methodLink RX1 63 yX0_put, Cond.instanceMethod yX0_put, Cond.selects RX0 yX0_put yX0_put, Cond.code yX0_put cX0_put 5 none, Cond.methodLink RX0 26 yX0_bit, Cond.static yX0_bit, Cond.code yX0_bit cX0_bit 1 (some .long), Cond.methodLink RX1 97 yX0_fill, Cond.instanceMethod yX0_fill, Cond.selects RX0 yX0_fill yX0_fill, Cond.code yX0_fill cX0_fill 2 none, Cond.methodLink RX0 23 yJ7_fill_bad5a, Cond.static yJ7_fill_bad5a, Cond.code yJ7_fill_bad5a cJ7_fill_bad5a 6 none, Cond.methodLink RJ7 13 yJ7_rangeCheck_23922, Cond.static yJ7_rangeCheck_23922, Cond.code yJ7_rangeCheck_23922 cJ7_rangeCheck_23922 3 none, Cond.methodLink RX1 93 yX1_strikeOutDominators, Cond.instanceMethod yX1_strikeOutDominators, Cond.selects RX1 yX1_strikeOutDominators yX1_strikeOutDominators]
def wsX1_dominator_r4 : List Cond := [Cond.code yX1_strikeOutDominators cX1_strikeOutDominators 5 (some .boolean), Cond.fieldLink RX1 16 "FlowShape" "sources" "LFlowShape$BlockSets;", Cond.methodLink RX1 101 yX0_keepOthersOf, Cond.instanceMethod yX0_keepOthersOf, Cond.selects RX0 yX0_keepOthersOf yX0_keepOthersOf, Cond.code yX0_keepOthersOf cX0_keepOthersOf 11 (some .boolean), Cond.methodLink RX1 73 yX0_count, Cond.instanceMethod yX0_count, Cond.selects RX0 yX0_count yX0_count, Cond.code yX0_count cX0_count 4 (some .int)]
def wsX1_dominator : List Cond := .code yX1_dominator cX1_dominator 4 (some .int) :: ((wsX1_dominator_r1 ++ (wsX1_dominator_r2 ++ (wsX1_dominator_r3 ++ wsX1_dominator_r4))) ++ wsX10 ++ wsX00)
def wsX1_dominates_r1 : List Cond := [Cond.fieldLink RX1 19 "FlowShape" "dominators" "LFlowShape$BlockSets;", Cond.methodLink RX1 55 yX1_isBlock, Cond.instanceMethod yX1_isBlock, Cond.selects RX1 yX1_isBlock yX1_isBlock, Cond.initialized RX1, Cond.code yX1_isBlock cX1_isBlock 2 (some .boolean), Cond.fieldLink RX1 42 "FlowShape" "blocks" "I", Cond.methodLink RX1 70 yX1_findDominators, Cond.instanceMethod yX1_findDominators, Cond.selects RX1 yX1_findDominators yX1_findDominators, Cond.code yX1_findDominators cX1_findDominators 3 none, Cond.fieldLink RX1 49 "FlowShape" "known" "I", Cond.methodLink RX1 67 yX1_findReached, Cond.instanceMethod yX1_findReached, Cond.selects RX1 yX1_findReached yX1_findReached, Cond.code yX1_findReached cX1_findReached 5 none, Cond.fieldLink RX1 22 "FlowShape" "isReached" "[Z", Cond.fieldLink RX1 30 "FlowShape" "nextTarget" "[I", Cond.fieldLink RX1 33 "FlowShape" "waiting" "[I", Cond.fieldLink RX1 46 "FlowShape" "orderStart" "I", Cond.fieldLink RX1 26 "FlowShape" "order" "[I", Cond.methodLink RX1 87 yX1_takeUnreachedTarget, Cond.instanceMethod yX1_takeUnreachedTarget, Cond.selects RX1 yX1_takeUnreachedTarget yX1_takeUnreachedTarget]
def wsX1_dominates_r2 : List Cond := [Cond.code yX1_takeUnreachedTarget cX1_takeUnreachedTarget 3 (some .int), Cond.fieldLink RX1 10 "FlowShape" "targets" "LFlowShape$BlockSets;", Cond.methodLink RX1 77 yX0_next, Cond.instanceMethod yX0_next, Cond.selects RX0 yX0_next yX0_next, Cond.initialized RX0, Cond.code yX0_next cX0_next 10 (some .int), Cond.constantLong RX0 21 (-1), Cond.fieldLink RX0 11 "FlowShape$BlockSets" "words" "[J", Cond.methodLink RX0 30 yJ13_bitCount_95d88, Cond.static yJ13_bitCount_95d88, Cond.initialized RJ13, Cond.code yJ13_bitCount_95d88 cJ13_bitCount_95d88 2 (some .int), Cond.constantLong RJ13 314 (6148914691236517205), Cond.constantLong RJ13 316 (3689348814741910323), Cond.constantLong RJ13 318 (1085102592571150095), Cond.methodLink RX1 90 yX1_startDominators, Cond.instanceMethod yX1_startDominators, Cond.selects RX1 yX1_startDominators yX1_startDominators, Cond.code yX1_startDominators cX1_startDominators 2 none, Cond.methodLink RX1 52 yX0_clear, Cond.instanceMethod yX0_clear, Cond.selects RX0 yX0_clear yX0_clear, Cond.code yX0_clear cX0_clear 1 none]
def wsX1_dominates_r3 : List Cond := [Cond.methodLink RX0 15 yJ7_fill_d0a16, Cond.static yJ7_fill_d0a16, Cond.initialized RJ7, Cond.code yJ7_fill_d0a16 cJ7_fill_d0a16 5 none, Cond.methodLink RX1 63 yX0_put, Cond.instanceMethod yX0_put, Cond.selects RX0 yX0_put yX0_put, Cond.code yX0_put cX0_put 5 none, Cond.methodLink RX0 26 yX0_bit, Cond.static yX0_bit, Cond.code yX0_bit cX0_bit 1 (some .long), Cond.methodLink RX1 97 yX0_fill, Cond.instanceMethod yX0_fill, Cond.selects RX0 yX0_fill yX0_fill, Cond.code yX0_fill cX0_fill 2 none, Cond.methodLink RX0 23 yJ7_fill_bad5a, Cond.static yJ7_fill_bad5a, Cond.code yJ7_fill_bad5a cJ7_fill_bad5a 6 none, Cond.methodLink RJ7 13 yJ7_rangeCheck_23922, Cond.static yJ7_rangeCheck_23922, Cond.code yJ7_rangeCheck_23922 cJ7_rangeCheck_23922 3 none, Cond.methodLink RX1 93 yX1_strikeOutDominators, Cond.instanceMethod yX1_strikeOutDominators, Cond.selects RX1 yX1_strikeOutDominators yX1_strikeOutDominators]
def wsX1_dominates_r4 : List Cond := [Cond.code yX1_strikeOutDominators cX1_strikeOutDominators 5 (some .boolean), Cond.fieldLink RX1 16 "FlowShape" "sources" "LFlowShape$BlockSets;", Cond.methodLink RX1 101 yX0_keepOthersOf, Cond.instanceMethod yX0_keepOthersOf, Cond.selects RX0 yX0_keepOthersOf yX0_keepOthersOf, Cond.code yX0_keepOthersOf cX0_keepOthersOf 11 (some .boolean), Cond.methodLink RX1 59 yX0_holds, Cond.instanceMethod yX0_holds, Cond.selects RX0 yX0_holds yX0_holds, Cond.code yX0_holds cX0_holds 3 (some .boolean)]
def wsX1_dominates : List Cond := .code yX1_dominates cX1_dominates 3 (some .boolean) :: ((wsX1_dominates_r1 ++ (wsX1_dominates_r2 ++ (wsX1_dominates_r3 ++ wsX1_dominates_r4))) ++ wsX10 ++ wsX00)
def wsX1_isHead : List Cond := .code yX1_isHead cX1_isHead 3 (some .boolean) :: ([.fieldLink RX1 16 "FlowShape" "sources" "LFlowShape$BlockSets;", .fieldLink RX1 42 "FlowShape" "blocks" "I", .fieldLink RX1 19 "FlowShape" "dominators" "LFlowShape$BlockSets;", .methodLink RX1 77 yX0_next, .instanceMethod yX0_next, .selects RX0 yX0_next yX0_next, .initialized RX0, .code yX0_next cX0_next 10 (some .int), .constantLong RX0 21 (-1), .fieldLink RX0 11 "FlowShape$BlockSets" "words" "[J", .methodLink RX0 30 yJ13_bitCount_95d88, .static yJ13_bitCount_95d88, .initialized RJ13, .code yJ13_bitCount_95d88 cJ13_bitCount_95d88 2 (some .int), .constantLong RJ13 314 (6148914691236517205), .constantLong RJ13 316 (3689348814741910323), .constantLong RJ13 318 (1085102592571150095), .methodLink RX1 59 yX0_holds, .instanceMethod yX0_holds, .selects RX0 yX0_holds yX0_holds, .code yX0_holds cX0_holds 3 (some .boolean), .methodLink RX0 26 yX0_bit, .static yX0_bit, .code yX0_bit cX0_bit 1 (some .long)] ++ wsX10 ++ wsX00)
def wsX1_head_r1 : List Cond := [Cond.methodLink RX1 55 yX1_isBlock, Cond.instanceMethod yX1_isBlock, Cond.selects RX1 yX1_isBlock yX1_isBlock, Cond.initialized RX1, Cond.code yX1_isBlock cX1_isBlock 2 (some .boolean), Cond.fieldLink RX1 42 "FlowShape" "blocks" "I", Cond.methodLink RX1 70 yX1_findDominators, Cond.instanceMethod yX1_findDominators, Cond.selects RX1 yX1_findDominators yX1_findDominators, Cond.code yX1_findDominators cX1_findDominators 3 none, Cond.fieldLink RX1 49 "FlowShape" "known" "I", Cond.methodLink RX1 67 yX1_findReached, Cond.instanceMethod yX1_findReached, Cond.selects RX1 yX1_findReached yX1_findReached, Cond.code yX1_findReached cX1_findReached 5 none, Cond.fieldLink RX1 22 "FlowShape" "isReached" "[Z", Cond.fieldLink RX1 30 "FlowShape" "nextTarget" "[I", Cond.fieldLink RX1 33 "FlowShape" "waiting" "[I", Cond.fieldLink RX1 46 "FlowShape" "orderStart" "I", Cond.fieldLink RX1 26 "FlowShape" "order" "[I", Cond.methodLink RX1 87 yX1_takeUnreachedTarget, Cond.instanceMethod yX1_takeUnreachedTarget, Cond.selects RX1 yX1_takeUnreachedTarget yX1_takeUnreachedTarget, Cond.code yX1_takeUnreachedTarget cX1_takeUnreachedTarget 3 (some .int)]
def wsX1_head_r2 : List Cond := [Cond.fieldLink RX1 10 "FlowShape" "targets" "LFlowShape$BlockSets;", Cond.methodLink RX1 77 yX0_next, Cond.instanceMethod yX0_next, Cond.selects RX0 yX0_next yX0_next, Cond.initialized RX0, Cond.code yX0_next cX0_next 10 (some .int), Cond.constantLong RX0 21 (-1), Cond.fieldLink RX0 11 "FlowShape$BlockSets" "words" "[J", Cond.methodLink RX0 30 yJ13_bitCount_95d88, Cond.static yJ13_bitCount_95d88, Cond.initialized RJ13, Cond.code yJ13_bitCount_95d88 cJ13_bitCount_95d88 2 (some .int), Cond.constantLong RJ13 314 (6148914691236517205), Cond.constantLong RJ13 316 (3689348814741910323), Cond.constantLong RJ13 318 (1085102592571150095), Cond.methodLink RX1 90 yX1_startDominators, Cond.instanceMethod yX1_startDominators, Cond.selects RX1 yX1_startDominators yX1_startDominators, Cond.code yX1_startDominators cX1_startDominators 2 none, Cond.fieldLink RX1 19 "FlowShape" "dominators" "LFlowShape$BlockSets;", Cond.methodLink RX1 52 yX0_clear, Cond.instanceMethod yX0_clear, Cond.selects RX0 yX0_clear yX0_clear, Cond.code yX0_clear cX0_clear 1 none]
def wsX1_head_r3 : List Cond := [Cond.methodLink RX0 15 yJ7_fill_d0a16, Cond.static yJ7_fill_d0a16, Cond.initialized RJ7, Cond.code yJ7_fill_d0a16 cJ7_fill_d0a16 5 none, Cond.methodLink RX1 63 yX0_put, Cond.instanceMethod yX0_put, Cond.selects RX0 yX0_put yX0_put, Cond.code yX0_put cX0_put 5 none, Cond.methodLink RX0 26 yX0_bit, Cond.static yX0_bit, Cond.code yX0_bit cX0_bit 1 (some .long), Cond.methodLink RX1 97 yX0_fill, Cond.instanceMethod yX0_fill, Cond.selects RX0 yX0_fill yX0_fill, Cond.code yX0_fill cX0_fill 2 none, Cond.methodLink RX0 23 yJ7_fill_bad5a, Cond.static yJ7_fill_bad5a, Cond.code yJ7_fill_bad5a cJ7_fill_bad5a 6 none, Cond.methodLink RJ7 13 yJ7_rangeCheck_23922, Cond.static yJ7_rangeCheck_23922, Cond.code yJ7_rangeCheck_23922 cJ7_rangeCheck_23922 3 none, Cond.methodLink RX1 93 yX1_strikeOutDominators, Cond.instanceMethod yX1_strikeOutDominators, Cond.selects RX1 yX1_strikeOutDominators yX1_strikeOutDominators]
def wsX1_head_r4 : List Cond := [Cond.code yX1_strikeOutDominators cX1_strikeOutDominators 5 (some .boolean), Cond.fieldLink RX1 16 "FlowShape" "sources" "LFlowShape$BlockSets;", Cond.methodLink RX1 101 yX0_keepOthersOf, Cond.instanceMethod yX0_keepOthersOf, Cond.selects RX0 yX0_keepOthersOf yX0_keepOthersOf, Cond.code yX0_keepOthersOf cX0_keepOthersOf 11 (some .boolean), Cond.methodLink RX1 81 yX1_isHead, Cond.instanceMethod yX1_isHead, Cond.selects RX1 yX1_isHead yX1_isHead, Cond.code yX1_isHead cX1_isHead 3 (some .boolean), Cond.methodLink RX1 59 yX0_holds, Cond.instanceMethod yX0_holds, Cond.selects RX0 yX0_holds yX0_holds, Cond.code yX0_holds cX0_holds 3 (some .boolean)]
def wsX1_head : List Cond := .code yX1_head cX1_head 2 (some .boolean) :: ((wsX1_head_r1 ++ (wsX1_head_r2 ++ (wsX1_head_r3 ++ wsX1_head_r4))) ++ wsX10 ++ wsX00)
def wsJ7_fill_53178 : List Cond := .code yJ7_fill_53178 cJ7_fill_53178 4 none :: ([])
def wsX1_joinLoop : List Cond := .code yX1_joinLoop cX1_joinLoop 4 (some .int) :: ([.fieldLink RX1 36 "FlowShape" "lastLoop" "[I", .fieldLink RX1 42 "FlowShape" "blocks" "I", .fieldLink RX1 39 "FlowShape" "depths" "[I", .fieldLink RX1 33 "FlowShape" "waiting" "[I"] ++ wsX10)
def wsX1_countLoop_r1 : List Cond := [Cond.fieldLink RX1 36 "FlowShape" "lastLoop" "[I", Cond.fieldLink RX1 39 "FlowShape" "depths" "[I", Cond.fieldLink RX1 16 "FlowShape" "sources" "LFlowShape$BlockSets;", Cond.fieldLink RX1 42 "FlowShape" "blocks" "I", Cond.fieldLink RX1 19 "FlowShape" "dominators" "LFlowShape$BlockSets;", Cond.fieldLink RX1 33 "FlowShape" "waiting" "[I", Cond.fieldLink RX1 22 "FlowShape" "isReached" "[Z", Cond.methodLink RX1 77 yX0_next, Cond.instanceMethod yX0_next, Cond.selects RX0 yX0_next yX0_next, Cond.initialized RX0, Cond.code yX0_next cX0_next 10 (some .int), Cond.constantLong RX0 21 (-1), Cond.fieldLink RX0 11 "FlowShape$BlockSets" "words" "[J", Cond.methodLink RX0 30 yJ13_bitCount_95d88, Cond.static yJ13_bitCount_95d88, Cond.initialized RJ13, Cond.code yJ13_bitCount_95d88 cJ13_bitCount_95d88 2 (some .int), Cond.constantLong RJ13 314 (6148914691236517205), Cond.constantLong RJ13 316 (3689348814741910323), Cond.constantLong RJ13 318 (1085102592571150095), Cond.methodLink RX1 59 yX0_holds, Cond.instanceMethod yX0_holds, Cond.selects RX0 yX0_holds yX0_holds]
def wsX1_countLoop_r2 : List Cond := [Cond.code yX0_holds cX0_holds 3 (some .boolean), Cond.methodLink RX0 26 yX0_bit, Cond.static yX0_bit, Cond.code yX0_bit cX0_bit 1 (some .long), Cond.methodLink RX1 112 yX1_joinLoop, Cond.instanceMethod yX1_joinLoop, Cond.selects RX1 yX1_joinLoop yX1_joinLoop, Cond.initialized RX1, Cond.code yX1_joinLoop cX1_joinLoop 4 (some .int)]
def wsX1_countLoop : List Cond := .code yX1_countLoop cX1_countLoop 6 none :: ((wsX1_countLoop_r1 ++ wsX1_countLoop_r2) ++ wsX10 ++ wsX00)
def wsX1_findDepths_r1 : List Cond := [Cond.fieldLink RX1 49 "FlowShape" "known" "I", Cond.fieldLink RX1 39 "FlowShape" "depths" "[I", Cond.fieldLink RX1 36 "FlowShape" "lastLoop" "[I", Cond.fieldLink RX1 46 "FlowShape" "orderStart" "I", Cond.fieldLink RX1 42 "FlowShape" "blocks" "I", Cond.fieldLink RX1 26 "FlowShape" "order" "[I", Cond.methodLink RX1 70 yX1_findDominators, Cond.instanceMethod yX1_findDominators, Cond.selects RX1 yX1_findDominators yX1_findDominators, Cond.initialized RX1, Cond.code yX1_findDominators cX1_findDominators 3 none, Cond.methodLink RX1 67 yX1_findReached, Cond.instanceMethod yX1_findReached, Cond.selects RX1 yX1_findReached yX1_findReached, Cond.code yX1_findReached cX1_findReached 5 none, Cond.fieldLink RX1 22 "FlowShape" "isReached" "[Z", Cond.fieldLink RX1 30 "FlowShape" "nextTarget" "[I", Cond.fieldLink RX1 33 "FlowShape" "waiting" "[I", Cond.methodLink RX1 87 yX1_takeUnreachedTarget, Cond.instanceMethod yX1_takeUnreachedTarget, Cond.selects RX1 yX1_takeUnreachedTarget yX1_takeUnreachedTarget, Cond.code yX1_takeUnreachedTarget cX1_takeUnreachedTarget 3 (some .int), Cond.fieldLink RX1 10 "FlowShape" "targets" "LFlowShape$BlockSets;", Cond.methodLink RX1 77 yX0_next]
def wsX1_findDepths_r2 : List Cond := [Cond.instanceMethod yX0_next, Cond.selects RX0 yX0_next yX0_next, Cond.initialized RX0, Cond.code yX0_next cX0_next 10 (some .int), Cond.constantLong RX0 21 (-1), Cond.fieldLink RX0 11 "FlowShape$BlockSets" "words" "[J", Cond.methodLink RX0 30 yJ13_bitCount_95d88, Cond.static yJ13_bitCount_95d88, Cond.initialized RJ13, Cond.code yJ13_bitCount_95d88 cJ13_bitCount_95d88 2 (some .int), Cond.constantLong RJ13 314 (6148914691236517205), Cond.constantLong RJ13 316 (3689348814741910323), Cond.constantLong RJ13 318 (1085102592571150095), Cond.methodLink RX1 90 yX1_startDominators, Cond.instanceMethod yX1_startDominators, Cond.selects RX1 yX1_startDominators yX1_startDominators, Cond.code yX1_startDominators cX1_startDominators 2 none, Cond.fieldLink RX1 19 "FlowShape" "dominators" "LFlowShape$BlockSets;", Cond.methodLink RX1 52 yX0_clear, Cond.instanceMethod yX0_clear, Cond.selects RX0 yX0_clear yX0_clear, Cond.code yX0_clear cX0_clear 1 none, Cond.methodLink RX0 15 yJ7_fill_d0a16, Cond.static yJ7_fill_d0a16]
def wsX1_findDepths_r3 : List Cond := [Cond.initialized RJ7, Cond.code yJ7_fill_d0a16 cJ7_fill_d0a16 5 none, Cond.methodLink RX1 63 yX0_put, Cond.instanceMethod yX0_put, Cond.selects RX0 yX0_put yX0_put, Cond.code yX0_put cX0_put 5 none, Cond.methodLink RX0 26 yX0_bit, Cond.static yX0_bit, Cond.code yX0_bit cX0_bit 1 (some .long), Cond.methodLink RX1 97 yX0_fill, Cond.instanceMethod yX0_fill, Cond.selects RX0 yX0_fill yX0_fill, Cond.code yX0_fill cX0_fill 2 none, Cond.methodLink RX0 23 yJ7_fill_bad5a, Cond.static yJ7_fill_bad5a, Cond.code yJ7_fill_bad5a cJ7_fill_bad5a 6 none, Cond.methodLink RJ7 13 yJ7_rangeCheck_23922, Cond.static yJ7_rangeCheck_23922, Cond.code yJ7_rangeCheck_23922 cJ7_rangeCheck_23922 3 none, Cond.methodLink RX1 93 yX1_strikeOutDominators, Cond.instanceMethod yX1_strikeOutDominators, Cond.selects RX1 yX1_strikeOutDominators yX1_strikeOutDominators, Cond.code yX1_strikeOutDominators cX1_strikeOutDominators 5 (some .boolean), Cond.fieldLink RX1 16 "FlowShape" "sources" "LFlowShape$BlockSets;"]
def wsX1_findDepths_r4 : List Cond := [Cond.methodLink RX1 101 yX0_keepOthersOf, Cond.instanceMethod yX0_keepOthersOf, Cond.selects RX0 yX0_keepOthersOf yX0_keepOthersOf, Cond.code yX0_keepOthersOf cX0_keepOthersOf 11 (some .boolean), Cond.methodLink RX1 104 yJ7_fill_53178, Cond.static yJ7_fill_53178, Cond.code yJ7_fill_53178 cJ7_fill_53178 4 none, Cond.methodLink RX1 81 yX1_isHead, Cond.instanceMethod yX1_isHead, Cond.selects RX1 yX1_isHead yX1_isHead, Cond.code yX1_isHead cX1_isHead 3 (some .boolean), Cond.methodLink RX1 59 yX0_holds, Cond.instanceMethod yX0_holds, Cond.selects RX0 yX0_holds yX0_holds, Cond.code yX0_holds cX0_holds 3 (some .boolean), Cond.methodLink RX1 109 yX1_countLoop, Cond.instanceMethod yX1_countLoop, Cond.selects RX1 yX1_countLoop yX1_countLoop, Cond.code yX1_countLoop cX1_countLoop 6 none, Cond.methodLink RX1 112 yX1_joinLoop, Cond.instanceMethod yX1_joinLoop, Cond.selects RX1 yX1_joinLoop yX1_joinLoop, Cond.code yX1_joinLoop cX1_joinLoop 4 (some .int)]
def wsX1_findDepths : List Cond := .code yX1_findDepths cX1_findDepths 2 none :: ((wsX1_findDepths_r1 ++ (wsX1_findDepths_r2 ++ (wsX1_findDepths_r3 ++ wsX1_findDepths_r4))) ++ wsX10 ++ wsX00)
def wsX1_depth_r1 : List Cond := [Cond.fieldLink RX1 39 "FlowShape" "depths" "[I", Cond.methodLink RX1 55 yX1_isBlock, Cond.instanceMethod yX1_isBlock, Cond.selects RX1 yX1_isBlock yX1_isBlock, Cond.initialized RX1, Cond.code yX1_isBlock cX1_isBlock 2 (some .boolean), Cond.fieldLink RX1 42 "FlowShape" "blocks" "I", Cond.methodLink RX1 84 yX1_findDepths, Cond.instanceMethod yX1_findDepths, Cond.selects RX1 yX1_findDepths yX1_findDepths, Cond.code yX1_findDepths cX1_findDepths 2 none, Cond.fieldLink RX1 49 "FlowShape" "known" "I", Cond.fieldLink RX1 36 "FlowShape" "lastLoop" "[I", Cond.fieldLink RX1 46 "FlowShape" "orderStart" "I", Cond.fieldLink RX1 26 "FlowShape" "order" "[I", Cond.methodLink RX1 70 yX1_findDominators, Cond.instanceMethod yX1_findDominators, Cond.selects RX1 yX1_findDominators yX1_findDominators, Cond.code yX1_findDominators cX1_findDominators 3 none, Cond.methodLink RX1 67 yX1_findReached, Cond.instanceMethod yX1_findReached, Cond.selects RX1 yX1_findReached yX1_findReached, Cond.code yX1_findReached cX1_findReached 5 none, Cond.fieldLink RX1 22 "FlowShape" "isReached" "[Z"]
def wsX1_depth_r2 : List Cond := [Cond.fieldLink RX1 30 "FlowShape" "nextTarget" "[I", Cond.fieldLink RX1 33 "FlowShape" "waiting" "[I", Cond.methodLink RX1 87 yX1_takeUnreachedTarget, Cond.instanceMethod yX1_takeUnreachedTarget, Cond.selects RX1 yX1_takeUnreachedTarget yX1_takeUnreachedTarget, Cond.code yX1_takeUnreachedTarget cX1_takeUnreachedTarget 3 (some .int), Cond.fieldLink RX1 10 "FlowShape" "targets" "LFlowShape$BlockSets;", Cond.methodLink RX1 77 yX0_next, Cond.instanceMethod yX0_next, Cond.selects RX0 yX0_next yX0_next, Cond.initialized RX0, Cond.code yX0_next cX0_next 10 (some .int), Cond.constantLong RX0 21 (-1), Cond.fieldLink RX0 11 "FlowShape$BlockSets" "words" "[J", Cond.methodLink RX0 30 yJ13_bitCount_95d88, Cond.static yJ13_bitCount_95d88, Cond.initialized RJ13, Cond.code yJ13_bitCount_95d88 cJ13_bitCount_95d88 2 (some .int), Cond.constantLong RJ13 314 (6148914691236517205), Cond.constantLong RJ13 316 (3689348814741910323), Cond.constantLong RJ13 318 (1085102592571150095), Cond.methodLink RX1 90 yX1_startDominators, Cond.instanceMethod yX1_startDominators, Cond.selects RX1 yX1_startDominators yX1_startDominators]
def wsX1_depth_r3 : List Cond := [Cond.code yX1_startDominators cX1_startDominators 2 none, Cond.fieldLink RX1 19 "FlowShape" "dominators" "LFlowShape$BlockSets;", Cond.methodLink RX1 52 yX0_clear, Cond.instanceMethod yX0_clear, Cond.selects RX0 yX0_clear yX0_clear, Cond.code yX0_clear cX0_clear 1 none, Cond.methodLink RX0 15 yJ7_fill_d0a16, Cond.static yJ7_fill_d0a16, Cond.initialized RJ7, Cond.code yJ7_fill_d0a16 cJ7_fill_d0a16 5 none, Cond.methodLink RX1 63 yX0_put, Cond.instanceMethod yX0_put, Cond.selects RX0 yX0_put yX0_put, Cond.code yX0_put cX0_put 5 none, Cond.methodLink RX0 26 yX0_bit, Cond.static yX0_bit, Cond.code yX0_bit cX0_bit 1 (some .long), Cond.methodLink RX1 97 yX0_fill, Cond.instanceMethod yX0_fill, Cond.selects RX0 yX0_fill yX0_fill, Cond.code yX0_fill cX0_fill 2 none, Cond.methodLink RX0 23 yJ7_fill_bad5a, Cond.static yJ7_fill_bad5a, Cond.code yJ7_fill_bad5a cJ7_fill_bad5a 6 none]
def wsX1_depth_r4 : List Cond := [Cond.methodLink RJ7 13 yJ7_rangeCheck_23922, Cond.static yJ7_rangeCheck_23922, Cond.code yJ7_rangeCheck_23922 cJ7_rangeCheck_23922 3 none, Cond.methodLink RX1 93 yX1_strikeOutDominators, Cond.instanceMethod yX1_strikeOutDominators, Cond.selects RX1 yX1_strikeOutDominators yX1_strikeOutDominators, Cond.code yX1_strikeOutDominators cX1_strikeOutDominators 5 (some .boolean), Cond.fieldLink RX1 16 "FlowShape" "sources" "LFlowShape$BlockSets;", Cond.methodLink RX1 101 yX0_keepOthersOf, Cond.instanceMethod yX0_keepOthersOf, Cond.selects RX0 yX0_keepOthersOf yX0_keepOthersOf, Cond.code yX0_keepOthersOf cX0_keepOthersOf 11 (some .boolean), Cond.methodLink RX1 104 yJ7_fill_53178, Cond.static yJ7_fill_53178, Cond.code yJ7_fill_53178 cJ7_fill_53178 4 none, Cond.methodLink RX1 81 yX1_isHead, Cond.instanceMethod yX1_isHead, Cond.selects RX1 yX1_isHead yX1_isHead, Cond.code yX1_isHead cX1_isHead 3 (some .boolean), Cond.methodLink RX1 59 yX0_holds, Cond.instanceMethod yX0_holds, Cond.selects RX0 yX0_holds yX0_holds, Cond.code yX0_holds cX0_holds 3 (some .boolean), Cond.methodLink RX1 109 yX1_countLoop]
def wsX1_depth_r5 : List Cond := [Cond.instanceMethod yX1_countLoop, Cond.selects RX1 yX1_countLoop yX1_countLoop, Cond.code yX1_countLoop cX1_countLoop 6 none, Cond.methodLink RX1 112 yX1_joinLoop, Cond.instanceMethod yX1_joinLoop, Cond.selects RX1 yX1_joinLoop yX1_joinLoop, Cond.code yX1_joinLoop cX1_joinLoop 4 (some .int)]
def wsX1_depth : List Cond := .code yX1_depth cX1_depth 2 (some .int) :: ((wsX1_depth_r1 ++ (wsX1_depth_r2 ++ (wsX1_depth_r3 ++ (wsX1_depth_r4 ++ wsX1_depth_r5)))) ++ wsX10 ++ wsX00)
def wsX2_init : List Cond := .code yX2_init cX2_init 1 none :: ([.methodLink RX2 1 objectInit, .instanceMethod objectInit, .code objectInit ⟨#[0xb1]⟩ 1 none, .fieldLink RX2 7 "FlowShapeModel" "n" "I", .arrayClass .int, .fieldLink RX2 13 "FlowShapeModel" "onward" "[I", .fieldLink RX2 17 "FlowShapeModel" "backward" "[I", .fieldLink RX2 20 "FlowShapeModel" "met" "[I", .fieldLink RX2 23 "FlowShapeModel" "under" "[I", .fieldLink RX2 26 "FlowShapeModel" "ranks" "[I", .fieldLink RX2 29 "FlowShapeModel" "nearest" "[I", .arrayClass .boolean, .fieldLink RX2 32 "FlowShapeModel" "heads" "[Z", .fieldLink RX2 36 "FlowShapeModel" "depths" "[I", .fieldLink RX2 39 "FlowShapeModel" "wave" "[I", .fieldLink RX2 42 "FlowShapeModel" "left" "[I"] ++ wsX20)
def wsX2_size : List Cond := .code yX2_size cX2_size 3 (some .boolean) :: ([.fieldLink RX2 7 "FlowShapeModel" "n" "I", .fieldLink RX2 13 "FlowShapeModel" "onward" "[I", .fieldLink RX2 17 "FlowShapeModel" "backward" "[I", .fieldLink RX2 45 "FlowShapeModel" "isKnown" "Z"] ++ wsX20)
def wsX2_isBlock : List Cond := .code yX2_isBlock cX2_isBlock 2 (some .boolean) :: ([.fieldLink RX2 7 "FlowShapeModel" "n" "I"] ++ wsX20)
def wsX2_isSet : List Cond := .code yX2_isSet cX2_isSet 3 (some .boolean) :: ([])
def wsX2_turn : List Cond := .code yX2_turn cX2_turn 3 none :: ([])
def wsX2_has : List Cond := .code yX2_has cX2_has 3 (some .boolean) :: ([.fieldLink RX2 13 "FlowShapeModel" "onward" "[I", .methodLink RX2 49 yX2_isBlock, .instanceMethod yX2_isBlock, .selects RX2 yX2_isBlock yX2_isBlock, .initialized RX2, .code yX2_isBlock cX2_isBlock 2 (some .boolean), .fieldLink RX2 7 "FlowShapeModel" "n" "I", .methodLink RX2 61 yX2_isSet, .static yX2_isSet, .code yX2_isSet cX2_isSet 3 (some .boolean)] ++ wsX20)
def wsX2_edge : List Cond := .code yX2_edge cX2_edge 4 (some .boolean) :: ([.fieldLink RX2 13 "FlowShapeModel" "onward" "[I", .fieldLink RX2 17 "FlowShapeModel" "backward" "[I", .fieldLink RX2 45 "FlowShapeModel" "isKnown" "Z", .methodLink RX2 49 yX2_isBlock, .instanceMethod yX2_isBlock, .selects RX2 yX2_isBlock yX2_isBlock, .initialized RX2, .code yX2_isBlock cX2_isBlock 2 (some .boolean), .fieldLink RX2 7 "FlowShapeModel" "n" "I", .methodLink RX2 53 yX2_has, .instanceMethod yX2_has, .selects RX2 yX2_has yX2_has, .code yX2_has cX2_has 3 (some .boolean), .methodLink RX2 61 yX2_isSet, .static yX2_isSet, .code yX2_isSet cX2_isSet 3 (some .boolean), .methodLink RX2 57 yX2_turn, .static yX2_turn, .code yX2_turn cX2_turn 3 none] ++ wsX20)
def wsX2_start : List Cond := .code yX2_start cX2_start 2 none :: ([.fieldLink RX2 39 "FlowShapeModel" "wave" "[I", .fieldLink RX2 42 "FlowShapeModel" "left" "[I", .fieldLink RX2 65 "FlowShapeModel" "waiting" "I"] ++ wsX20)
def wsX2_spread : List Cond := .code yX2_spread cX2_spread 7 none :: ([.fieldLink RX2 65 "FlowShapeModel" "waiting" "I", .fieldLink RX2 42 "FlowShapeModel" "left" "[I", .fieldLink RX2 39 "FlowShapeModel" "wave" "[I", .methodLink RX2 68 yX2_start, .instanceMethod yX2_start, .selects RX2 yX2_start yX2_start, .initialized RX2, .code yX2_start cX2_start 2 none] ++ wsX20)
def wsX2_clear : List Cond := .code yX2_clear cX2_clear 2 none :: ([.fieldLink RX2 65 "FlowShapeModel" "waiting" "I", .fieldLink RX2 39 "FlowShapeModel" "wave" "[I"] ++ wsX20)
def wsX2_rank : List Cond := .code yX2_rank cX2_rank 3 none :: ([.fieldLink RX2 7 "FlowShapeModel" "n" "I", .fieldLink RX2 26 "FlowShapeModel" "ranks" "[I", .fieldLink RX2 23 "FlowShapeModel" "under" "[I", .fieldLink RX2 29 "FlowShapeModel" "nearest" "[I", .methodLink RX2 61 yX2_isSet, .static yX2_isSet, .initialized RX2, .code yX2_isSet cX2_isSet 3 (some .boolean)] ++ wsX20)
def wsX2_loops_r1 : List Cond := [Cond.fieldLink RX2 7 "FlowShapeModel" "n" "I", Cond.fieldLink RX2 36 "FlowShapeModel" "depths" "[I", Cond.fieldLink RX2 32 "FlowShapeModel" "heads" "[Z", Cond.fieldLink RX2 23 "FlowShapeModel" "under" "[I", Cond.fieldLink RX2 13 "FlowShapeModel" "onward" "[I", Cond.fieldLink RX2 17 "FlowShapeModel" "backward" "[I", Cond.fieldLink RX2 39 "FlowShapeModel" "wave" "[I", Cond.fieldLink RX2 20 "FlowShapeModel" "met" "[I", Cond.methodLink RX2 72 yX2_clear, Cond.instanceMethod yX2_clear, Cond.selects RX2 yX2_clear yX2_clear, Cond.initialized RX2, Cond.code yX2_clear cX2_clear 2 none, Cond.fieldLink RX2 65 "FlowShapeModel" "waiting" "I", Cond.methodLink RX2 61 yX2_isSet, Cond.static yX2_isSet, Cond.code yX2_isSet cX2_isSet 3 (some .boolean), Cond.methodLink RX2 68 yX2_start, Cond.instanceMethod yX2_start, Cond.selects RX2 yX2_start yX2_start, Cond.code yX2_start cX2_start 2 none, Cond.fieldLink RX2 42 "FlowShapeModel" "left" "[I", Cond.methodLink RX2 75 yX2_spread, Cond.instanceMethod yX2_spread]
def wsX2_loops_r2 : List Cond := [Cond.selects RX2 yX2_spread yX2_spread, Cond.code yX2_spread cX2_spread 7 none]
def wsX2_loops : List Cond := .code yX2_loops cX2_loops 3 none :: ((wsX2_loops_r1 ++ wsX2_loops_r2) ++ wsX20)
def wsX2_know_r1 : List Cond := [Cond.fieldLink RX2 45 "FlowShapeModel" "isKnown" "Z", Cond.fieldLink RX2 13 "FlowShapeModel" "onward" "[I", Cond.fieldLink RX2 20 "FlowShapeModel" "met" "[I", Cond.fieldLink RX2 39 "FlowShapeModel" "wave" "[I", Cond.fieldLink RX2 7 "FlowShapeModel" "n" "I", Cond.fieldLink RX2 23 "FlowShapeModel" "under" "[I", Cond.methodLink RX2 72 yX2_clear, Cond.instanceMethod yX2_clear, Cond.selects RX2 yX2_clear yX2_clear, Cond.initialized RX2, Cond.code yX2_clear cX2_clear 2 none, Cond.fieldLink RX2 65 "FlowShapeModel" "waiting" "I", Cond.methodLink RX2 68 yX2_start, Cond.instanceMethod yX2_start, Cond.selects RX2 yX2_start yX2_start, Cond.code yX2_start cX2_start 2 none, Cond.fieldLink RX2 42 "FlowShapeModel" "left" "[I", Cond.methodLink RX2 75 yX2_spread, Cond.instanceMethod yX2_spread, Cond.selects RX2 yX2_spread yX2_spread, Cond.code yX2_spread cX2_spread 7 none, Cond.methodLink RX2 61 yX2_isSet, Cond.static yX2_isSet, Cond.code yX2_isSet cX2_isSet 3 (some .boolean)]
def wsX2_know_r2 : List Cond := [Cond.methodLink RX2 79 yX2_rank, Cond.instanceMethod yX2_rank, Cond.selects RX2 yX2_rank yX2_rank, Cond.code yX2_rank cX2_rank 3 none, Cond.fieldLink RX2 26 "FlowShapeModel" "ranks" "[I", Cond.fieldLink RX2 29 "FlowShapeModel" "nearest" "[I", Cond.methodLink RX2 82 yX2_loops, Cond.instanceMethod yX2_loops, Cond.selects RX2 yX2_loops yX2_loops, Cond.code yX2_loops cX2_loops 3 none, Cond.fieldLink RX2 36 "FlowShapeModel" "depths" "[I", Cond.fieldLink RX2 32 "FlowShapeModel" "heads" "[Z", Cond.fieldLink RX2 17 "FlowShapeModel" "backward" "[I"]
def wsX2_know : List Cond := .code yX2_know cX2_know 3 none :: ((wsX2_know_r1 ++ wsX2_know_r2) ++ wsX20)
def wsX2_reached_r1 : List Cond := [Cond.fieldLink RX2 20 "FlowShapeModel" "met" "[I", Cond.methodLink RX2 85 yX2_know, Cond.instanceMethod yX2_know, Cond.selects RX2 yX2_know yX2_know, Cond.initialized RX2, Cond.code yX2_know cX2_know 3 none, Cond.fieldLink RX2 45 "FlowShapeModel" "isKnown" "Z", Cond.fieldLink RX2 13 "FlowShapeModel" "onward" "[I", Cond.fieldLink RX2 39 "FlowShapeModel" "wave" "[I", Cond.fieldLink RX2 7 "FlowShapeModel" "n" "I", Cond.fieldLink RX2 23 "FlowShapeModel" "under" "[I", Cond.methodLink RX2 72 yX2_clear, Cond.instanceMethod yX2_clear, Cond.selects RX2 yX2_clear yX2_clear, Cond.code yX2_clear cX2_clear 2 none, Cond.fieldLink RX2 65 "FlowShapeModel" "waiting" "I", Cond.methodLink RX2 68 yX2_start, Cond.instanceMethod yX2_start, Cond.selects RX2 yX2_start yX2_start, Cond.code yX2_start cX2_start 2 none, Cond.fieldLink RX2 42 "FlowShapeModel" "left" "[I", Cond.methodLink RX2 75 yX2_spread, Cond.instanceMethod yX2_spread, Cond.selects RX2 yX2_spread yX2_spread]
def wsX2_reached_r2 : List Cond := [Cond.code yX2_spread cX2_spread 7 none, Cond.methodLink RX2 61 yX2_isSet, Cond.static yX2_isSet, Cond.code yX2_isSet cX2_isSet 3 (some .boolean), Cond.methodLink RX2 79 yX2_rank, Cond.instanceMethod yX2_rank, Cond.selects RX2 yX2_rank yX2_rank, Cond.code yX2_rank cX2_rank 3 none, Cond.fieldLink RX2 26 "FlowShapeModel" "ranks" "[I", Cond.fieldLink RX2 29 "FlowShapeModel" "nearest" "[I", Cond.methodLink RX2 82 yX2_loops, Cond.instanceMethod yX2_loops, Cond.selects RX2 yX2_loops yX2_loops, Cond.code yX2_loops cX2_loops 3 none, Cond.fieldLink RX2 36 "FlowShapeModel" "depths" "[I", Cond.fieldLink RX2 32 "FlowShapeModel" "heads" "[Z", Cond.fieldLink RX2 17 "FlowShapeModel" "backward" "[I", Cond.methodLink RX2 49 yX2_isBlock, Cond.instanceMethod yX2_isBlock, Cond.selects RX2 yX2_isBlock yX2_isBlock, Cond.code yX2_isBlock cX2_isBlock 2 (some .boolean)]
def wsX2_reached : List Cond := .code yX2_reached cX2_reached 2 (some .boolean) :: ((wsX2_reached_r1 ++ wsX2_reached_r2) ++ wsX20)
def wsX2_reachedOnes_r1 : List Cond := [Cond.fieldLink RX2 7 "FlowShapeModel" "n" "I", Cond.methodLink RX2 88 yX2_reached, Cond.instanceMethod yX2_reached, Cond.selects RX2 yX2_reached yX2_reached, Cond.initialized RX2, Cond.code yX2_reached cX2_reached 2 (some .boolean), Cond.fieldLink RX2 20 "FlowShapeModel" "met" "[I", Cond.methodLink RX2 85 yX2_know, Cond.instanceMethod yX2_know, Cond.selects RX2 yX2_know yX2_know, Cond.code yX2_know cX2_know 3 none, Cond.fieldLink RX2 45 "FlowShapeModel" "isKnown" "Z", Cond.fieldLink RX2 13 "FlowShapeModel" "onward" "[I", Cond.fieldLink RX2 39 "FlowShapeModel" "wave" "[I", Cond.fieldLink RX2 23 "FlowShapeModel" "under" "[I", Cond.methodLink RX2 72 yX2_clear, Cond.instanceMethod yX2_clear, Cond.selects RX2 yX2_clear yX2_clear, Cond.code yX2_clear cX2_clear 2 none, Cond.fieldLink RX2 65 "FlowShapeModel" "waiting" "I", Cond.methodLink RX2 68 yX2_start, Cond.instanceMethod yX2_start, Cond.selects RX2 yX2_start yX2_start, Cond.code yX2_start cX2_start 2 none]
def wsX2_reachedOnes_r2 : List Cond := [Cond.fieldLink RX2 42 "FlowShapeModel" "left" "[I", Cond.methodLink RX2 75 yX2_spread, Cond.instanceMethod yX2_spread, Cond.selects RX2 yX2_spread yX2_spread, Cond.code yX2_spread cX2_spread 7 none, Cond.methodLink RX2 61 yX2_isSet, Cond.static yX2_isSet, Cond.code yX2_isSet cX2_isSet 3 (some .boolean), Cond.methodLink RX2 79 yX2_rank, Cond.instanceMethod yX2_rank, Cond.selects RX2 yX2_rank yX2_rank, Cond.code yX2_rank cX2_rank 3 none, Cond.fieldLink RX2 26 "FlowShapeModel" "ranks" "[I", Cond.fieldLink RX2 29 "FlowShapeModel" "nearest" "[I", Cond.methodLink RX2 82 yX2_loops, Cond.instanceMethod yX2_loops, Cond.selects RX2 yX2_loops yX2_loops, Cond.code yX2_loops cX2_loops 3 none, Cond.fieldLink RX2 36 "FlowShapeModel" "depths" "[I", Cond.fieldLink RX2 32 "FlowShapeModel" "heads" "[Z", Cond.fieldLink RX2 17 "FlowShapeModel" "backward" "[I", Cond.methodLink RX2 49 yX2_isBlock, Cond.instanceMethod yX2_isBlock, Cond.selects RX2 yX2_isBlock yX2_isBlock]
def wsX2_reachedOnes_r3 : List Cond := [Cond.code yX2_isBlock cX2_isBlock 2 (some .boolean)]
def wsX2_reachedOnes : List Cond := .code yX2_reachedOnes cX2_reachedOnes 3 (some .int) :: ((wsX2_reachedOnes_r1 ++ (wsX2_reachedOnes_r2 ++ wsX2_reachedOnes_r3)) ++ wsX20)
def wsX2_dominator_r1 : List Cond := [Cond.fieldLink RX2 29 "FlowShapeModel" "nearest" "[I", Cond.methodLink RX2 85 yX2_know, Cond.instanceMethod yX2_know, Cond.selects RX2 yX2_know yX2_know, Cond.initialized RX2, Cond.code yX2_know cX2_know 3 none, Cond.fieldLink RX2 45 "FlowShapeModel" "isKnown" "Z", Cond.fieldLink RX2 13 "FlowShapeModel" "onward" "[I", Cond.fieldLink RX2 20 "FlowShapeModel" "met" "[I", Cond.fieldLink RX2 39 "FlowShapeModel" "wave" "[I", Cond.fieldLink RX2 7 "FlowShapeModel" "n" "I", Cond.fieldLink RX2 23 "FlowShapeModel" "under" "[I", Cond.methodLink RX2 72 yX2_clear, Cond.instanceMethod yX2_clear, Cond.selects RX2 yX2_clear yX2_clear, Cond.code yX2_clear cX2_clear 2 none, Cond.fieldLink RX2 65 "FlowShapeModel" "waiting" "I", Cond.methodLink RX2 68 yX2_start, Cond.instanceMethod yX2_start, Cond.selects RX2 yX2_start yX2_start, Cond.code yX2_start cX2_start 2 none, Cond.fieldLink RX2 42 "FlowShapeModel" "left" "[I", Cond.methodLink RX2 75 yX2_spread, Cond.instanceMethod yX2_spread]
def wsX2_dominator_r2 : List Cond := [Cond.selects RX2 yX2_spread yX2_spread, Cond.code yX2_spread cX2_spread 7 none, Cond.methodLink RX2 61 yX2_isSet, Cond.static yX2_isSet, Cond.code yX2_isSet cX2_isSet 3 (some .boolean), Cond.methodLink RX2 79 yX2_rank, Cond.instanceMethod yX2_rank, Cond.selects RX2 yX2_rank yX2_rank, Cond.code yX2_rank cX2_rank 3 none, Cond.fieldLink RX2 26 "FlowShapeModel" "ranks" "[I", Cond.methodLink RX2 82 yX2_loops, Cond.instanceMethod yX2_loops, Cond.selects RX2 yX2_loops yX2_loops, Cond.code yX2_loops cX2_loops 3 none, Cond.fieldLink RX2 36 "FlowShapeModel" "depths" "[I", Cond.fieldLink RX2 32 "FlowShapeModel" "heads" "[Z", Cond.fieldLink RX2 17 "FlowShapeModel" "backward" "[I", Cond.methodLink RX2 49 yX2_isBlock, Cond.instanceMethod yX2_isBlock, Cond.selects RX2 yX2_isBlock yX2_isBlock, Cond.code yX2_isBlock cX2_isBlock 2 (some .boolean)]
def wsX2_dominator : List Cond := .code yX2_dominator cX2_dominator 2 (some .int) :: ((wsX2_dominator_r1 ++ wsX2_dominator_r2) ++ wsX20)
def wsX2_dominates_r1 : List Cond := [Cond.fieldLink RX2 23 "FlowShapeModel" "under" "[I", Cond.methodLink RX2 85 yX2_know, Cond.instanceMethod yX2_know, Cond.selects RX2 yX2_know yX2_know, Cond.initialized RX2, Cond.code yX2_know cX2_know 3 none, Cond.fieldLink RX2 45 "FlowShapeModel" "isKnown" "Z", Cond.fieldLink RX2 13 "FlowShapeModel" "onward" "[I", Cond.fieldLink RX2 20 "FlowShapeModel" "met" "[I", Cond.fieldLink RX2 39 "FlowShapeModel" "wave" "[I", Cond.fieldLink RX2 7 "FlowShapeModel" "n" "I", Cond.methodLink RX2 72 yX2_clear, Cond.instanceMethod yX2_clear, Cond.selects RX2 yX2_clear yX2_clear, Cond.code yX2_clear cX2_clear 2 none, Cond.fieldLink RX2 65 "FlowShapeModel" "waiting" "I", Cond.methodLink RX2 68 yX2_start, Cond.instanceMethod yX2_start, Cond.selects RX2 yX2_start yX2_start, Cond.code yX2_start cX2_start 2 none, Cond.fieldLink RX2 42 "FlowShapeModel" "left" "[I", Cond.methodLink RX2 75 yX2_spread, Cond.instanceMethod yX2_spread, Cond.selects RX2 yX2_spread yX2_spread]
def wsX2_dominates_r2 : List Cond := [Cond.code yX2_spread cX2_spread 7 none, Cond.methodLink RX2 61 yX2_isSet, Cond.static yX2_isSet, Cond.code yX2_isSet cX2_isSet 3 (some .boolean), Cond.methodLink RX2 79 yX2_rank, Cond.instanceMethod yX2_rank, Cond.selects RX2 yX2_rank yX2_rank, Cond.code yX2_rank cX2_rank 3 none, Cond.fieldLink RX2 26 "FlowShapeModel" "ranks" "[I", Cond.fieldLink RX2 29 "FlowShapeModel" "nearest" "[I", Cond.methodLink RX2 82 yX2_loops, Cond.instanceMethod yX2_loops, Cond.selects RX2 yX2_loops yX2_loops, Cond.code yX2_loops cX2_loops 3 none, Cond.fieldLink RX2 36 "FlowShapeModel" "depths" "[I", Cond.fieldLink RX2 32 "FlowShapeModel" "heads" "[Z", Cond.fieldLink RX2 17 "FlowShapeModel" "backward" "[I", Cond.methodLink RX2 49 yX2_isBlock, Cond.instanceMethod yX2_isBlock, Cond.selects RX2 yX2_isBlock yX2_isBlock, Cond.code yX2_isBlock cX2_isBlock 2 (some .boolean)]
def wsX2_dominates : List Cond := .code yX2_dominates cX2_dominates 3 (some .boolean) :: ((wsX2_dominates_r1 ++ wsX2_dominates_r2) ++ wsX20)
def wsX2_head_r1 : List Cond := [Cond.fieldLink RX2 32 "FlowShapeModel" "heads" "[Z", Cond.methodLink RX2 85 yX2_know, Cond.instanceMethod yX2_know, Cond.selects RX2 yX2_know yX2_know, Cond.initialized RX2, Cond.code yX2_know cX2_know 3 none, Cond.fieldLink RX2 45 "FlowShapeModel" "isKnown" "Z", Cond.fieldLink RX2 13 "FlowShapeModel" "onward" "[I", Cond.fieldLink RX2 20 "FlowShapeModel" "met" "[I", Cond.fieldLink RX2 39 "FlowShapeModel" "wave" "[I", Cond.fieldLink RX2 7 "FlowShapeModel" "n" "I", Cond.fieldLink RX2 23 "FlowShapeModel" "under" "[I", Cond.methodLink RX2 72 yX2_clear, Cond.instanceMethod yX2_clear, Cond.selects RX2 yX2_clear yX2_clear, Cond.code yX2_clear cX2_clear 2 none, Cond.fieldLink RX2 65 "FlowShapeModel" "waiting" "I", Cond.methodLink RX2 68 yX2_start, Cond.instanceMethod yX2_start, Cond.selects RX2 yX2_start yX2_start, Cond.code yX2_start cX2_start 2 none, Cond.fieldLink RX2 42 "FlowShapeModel" "left" "[I", Cond.methodLink RX2 75 yX2_spread, Cond.instanceMethod yX2_spread]
def wsX2_head_r2 : List Cond := [Cond.selects RX2 yX2_spread yX2_spread, Cond.code yX2_spread cX2_spread 7 none, Cond.methodLink RX2 61 yX2_isSet, Cond.static yX2_isSet, Cond.code yX2_isSet cX2_isSet 3 (some .boolean), Cond.methodLink RX2 79 yX2_rank, Cond.instanceMethod yX2_rank, Cond.selects RX2 yX2_rank yX2_rank, Cond.code yX2_rank cX2_rank 3 none, Cond.fieldLink RX2 26 "FlowShapeModel" "ranks" "[I", Cond.fieldLink RX2 29 "FlowShapeModel" "nearest" "[I", Cond.methodLink RX2 82 yX2_loops, Cond.instanceMethod yX2_loops, Cond.selects RX2 yX2_loops yX2_loops, Cond.code yX2_loops cX2_loops 3 none, Cond.fieldLink RX2 36 "FlowShapeModel" "depths" "[I", Cond.fieldLink RX2 17 "FlowShapeModel" "backward" "[I", Cond.methodLink RX2 49 yX2_isBlock, Cond.instanceMethod yX2_isBlock, Cond.selects RX2 yX2_isBlock yX2_isBlock, Cond.code yX2_isBlock cX2_isBlock 2 (some .boolean)]
def wsX2_head : List Cond := .code yX2_head cX2_head 2 (some .boolean) :: ((wsX2_head_r1 ++ wsX2_head_r2) ++ wsX20)
def wsX2_depth_r1 : List Cond := [Cond.fieldLink RX2 36 "FlowShapeModel" "depths" "[I", Cond.methodLink RX2 85 yX2_know, Cond.instanceMethod yX2_know, Cond.selects RX2 yX2_know yX2_know, Cond.initialized RX2, Cond.code yX2_know cX2_know 3 none, Cond.fieldLink RX2 45 "FlowShapeModel" "isKnown" "Z", Cond.fieldLink RX2 13 "FlowShapeModel" "onward" "[I", Cond.fieldLink RX2 20 "FlowShapeModel" "met" "[I", Cond.fieldLink RX2 39 "FlowShapeModel" "wave" "[I", Cond.fieldLink RX2 7 "FlowShapeModel" "n" "I", Cond.fieldLink RX2 23 "FlowShapeModel" "under" "[I", Cond.methodLink RX2 72 yX2_clear, Cond.instanceMethod yX2_clear, Cond.selects RX2 yX2_clear yX2_clear, Cond.code yX2_clear cX2_clear 2 none, Cond.fieldLink RX2 65 "FlowShapeModel" "waiting" "I", Cond.methodLink RX2 68 yX2_start, Cond.instanceMethod yX2_start, Cond.selects RX2 yX2_start yX2_start, Cond.code yX2_start cX2_start 2 none, Cond.fieldLink RX2 42 "FlowShapeModel" "left" "[I", Cond.methodLink RX2 75 yX2_spread, Cond.instanceMethod yX2_spread]
def wsX2_depth_r2 : List Cond := [Cond.selects RX2 yX2_spread yX2_spread, Cond.code yX2_spread cX2_spread 7 none, Cond.methodLink RX2 61 yX2_isSet, Cond.static yX2_isSet, Cond.code yX2_isSet cX2_isSet 3 (some .boolean), Cond.methodLink RX2 79 yX2_rank, Cond.instanceMethod yX2_rank, Cond.selects RX2 yX2_rank yX2_rank, Cond.code yX2_rank cX2_rank 3 none, Cond.fieldLink RX2 26 "FlowShapeModel" "ranks" "[I", Cond.fieldLink RX2 29 "FlowShapeModel" "nearest" "[I", Cond.methodLink RX2 82 yX2_loops, Cond.instanceMethod yX2_loops, Cond.selects RX2 yX2_loops yX2_loops, Cond.code yX2_loops cX2_loops 3 none, Cond.fieldLink RX2 32 "FlowShapeModel" "heads" "[Z", Cond.fieldLink RX2 17 "FlowShapeModel" "backward" "[I", Cond.methodLink RX2 49 yX2_isBlock, Cond.instanceMethod yX2_isBlock, Cond.selects RX2 yX2_isBlock yX2_isBlock, Cond.code yX2_isBlock cX2_isBlock 2 (some .boolean)]
def wsX2_depth : List Cond := .code yX2_depth cX2_depth 2 (some .int) :: ((wsX2_depth_r1 ++ wsX2_depth_r2) ++ wsX20)
def wsL_law_r1 : List Cond := [Cond.classLink RL 7 RX1, Cond.instantiable RX1 12, Cond.initialized RX1, Cond.classLink RL 10 RX2, Cond.instantiable RX2 13, Cond.initialized RX2, Cond.methodLink RL 9 yX1_init, Cond.instanceMethod yX1_init, Cond.code yX1_init cX1_init 1 none, Cond.methodLink RX1 1 objectInit, Cond.instanceMethod objectInit, Cond.code objectInit ⟨#[0xb1]⟩ 1 none, Cond.classLink RX1 7 RX0, Cond.instantiable RX0 1, Cond.initialized RX0, Cond.fieldLink RX1 10 "FlowShape" "targets" "LFlowShape$BlockSets;", Cond.fieldLink RX1 16 "FlowShape" "sources" "LFlowShape$BlockSets;", Cond.fieldLink RX1 19 "FlowShape" "dominators" "LFlowShape$BlockSets;", Cond.arrayClass .boolean, Cond.fieldLink RX1 22 "FlowShape" "isReached" "[Z", Cond.arrayClass .int, Cond.fieldLink RX1 26 "FlowShape" "order" "[I", Cond.fieldLink RX1 30 "FlowShape" "nextTarget" "[I", Cond.fieldLink RX1 33 "FlowShape" "waiting" "[I"]
def wsL_law_r2 : List Cond := [Cond.fieldLink RX1 36 "FlowShape" "lastLoop" "[I", Cond.fieldLink RX1 39 "FlowShape" "depths" "[I", Cond.fieldLink RX1 42 "FlowShape" "blocks" "I", Cond.fieldLink RX1 46 "FlowShape" "orderStart" "I", Cond.fieldLink RX1 49 "FlowShape" "known" "I", Cond.instanceMethod yX0_init, Cond.code yX0_init cX0_init 1 none, Cond.methodLink RX0 3 objectInit, Cond.arrayClass .long, Cond.fieldLink RX0 11 "FlowShape$BlockSets" "words" "[J", Cond.methodLink RL 12 yX2_init, Cond.instanceMethod yX2_init, Cond.code yX2_init cX2_init 1 none, Cond.methodLink RX2 1 objectInit, Cond.fieldLink RX2 7 "FlowShapeModel" "n" "I", Cond.fieldLink RX2 13 "FlowShapeModel" "onward" "[I", Cond.fieldLink RX2 17 "FlowShapeModel" "backward" "[I", Cond.fieldLink RX2 20 "FlowShapeModel" "met" "[I", Cond.fieldLink RX2 23 "FlowShapeModel" "under" "[I", Cond.fieldLink RX2 26 "FlowShapeModel" "ranks" "[I", Cond.fieldLink RX2 29 "FlowShapeModel" "nearest" "[I", Cond.fieldLink RX2 32 "FlowShapeModel" "heads" "[Z", Cond.fieldLink RX2 36 "FlowShapeModel" "depths" "[I", Cond.fieldLink RX2 39 "FlowShapeModel" "wave" "[I"]
def wsL_law_r3 : List Cond := [Cond.fieldLink RX2 42 "FlowShapeModel" "left" "[I", Cond.methodLink RL 13 yX1_size, Cond.instanceMethod yX1_size, Cond.selects RX1 yX1_size yX1_size, Cond.code yX1_size cX1_size 2 (some .boolean), Cond.methodLink RX1 52 yX0_clear, Cond.instanceMethod yX0_clear, Cond.selects RX0 yX0_clear yX0_clear, Cond.code yX0_clear cX0_clear 1 none, Cond.methodLink RX0 15 yJ7_fill_d0a16, Cond.static yJ7_fill_d0a16, Cond.initialized RJ7, Cond.code yJ7_fill_d0a16 cJ7_fill_d0a16 5 none, Cond.methodLink RL 17 yX2_size, Cond.instanceMethod yX2_size, Cond.selects RX2 yX2_size yX2_size, Cond.code yX2_size cX2_size 3 (some .boolean), Cond.fieldLink RX2 45 "FlowShapeModel" "isKnown" "Z", Cond.methodLink RL 18 yX1_edge, Cond.instanceMethod yX1_edge, Cond.selects RX1 yX1_edge yX1_edge, Cond.code yX1_edge cX1_edge 4 (some .boolean), Cond.methodLink RX1 55 yX1_isBlock, Cond.instanceMethod yX1_isBlock]
def wsL_law_r4 : List Cond := [Cond.selects RX1 yX1_isBlock yX1_isBlock, Cond.code yX1_isBlock cX1_isBlock 2 (some .boolean), Cond.methodLink RX1 59 yX0_holds, Cond.instanceMethod yX0_holds, Cond.selects RX0 yX0_holds yX0_holds, Cond.code yX0_holds cX0_holds 3 (some .boolean), Cond.methodLink RX0 26 yX0_bit, Cond.static yX0_bit, Cond.code yX0_bit cX0_bit 1 (some .long), Cond.methodLink RX1 63 yX0_put, Cond.instanceMethod yX0_put, Cond.selects RX0 yX0_put yX0_put, Cond.code yX0_put cX0_put 5 none, Cond.constantLong RX0 21 (-1), Cond.methodLink RL 22 yX2_edge, Cond.instanceMethod yX2_edge, Cond.selects RX2 yX2_edge yX2_edge, Cond.code yX2_edge cX2_edge 4 (some .boolean), Cond.methodLink RX2 49 yX2_isBlock, Cond.instanceMethod yX2_isBlock, Cond.selects RX2 yX2_isBlock yX2_isBlock, Cond.code yX2_isBlock cX2_isBlock 2 (some .boolean), Cond.methodLink RX2 53 yX2_has, Cond.instanceMethod yX2_has]
def wsL_law_r5 : List Cond := [Cond.selects RX2 yX2_has yX2_has, Cond.code yX2_has cX2_has 3 (some .boolean), Cond.methodLink RX2 61 yX2_isSet, Cond.static yX2_isSet, Cond.code yX2_isSet cX2_isSet 3 (some .boolean), Cond.methodLink RX2 57 yX2_turn, Cond.static yX2_turn, Cond.code yX2_turn cX2_turn 3 none, Cond.methodLink RL 23 yX1_has, Cond.instanceMethod yX1_has, Cond.selects RX1 yX1_has yX1_has, Cond.code yX1_has cX1_has 3 (some .boolean), Cond.methodLink RL 27 yX2_has, Cond.methodLink RL 28 yX1_reached, Cond.instanceMethod yX1_reached, Cond.selects RX1 yX1_reached yX1_reached, Cond.code yX1_reached cX1_reached 2 (some .boolean), Cond.methodLink RX1 67 yX1_findReached, Cond.instanceMethod yX1_findReached, Cond.selects RX1 yX1_findReached yX1_findReached, Cond.code yX1_findReached cX1_findReached 5 none, Cond.methodLink RX1 87 yX1_takeUnreachedTarget, Cond.instanceMethod yX1_takeUnreachedTarget, Cond.selects RX1 yX1_takeUnreachedTarget yX1_takeUnreachedTarget]
def wsL_law_r6 : List Cond := [Cond.code yX1_takeUnreachedTarget cX1_takeUnreachedTarget 3 (some .int), Cond.methodLink RX1 77 yX0_next, Cond.instanceMethod yX0_next, Cond.selects RX0 yX0_next yX0_next, Cond.code yX0_next cX0_next 10 (some .int), Cond.methodLink RX0 30 yJ13_bitCount_95d88, Cond.static yJ13_bitCount_95d88, Cond.initialized RJ13, Cond.code yJ13_bitCount_95d88 cJ13_bitCount_95d88 2 (some .int), Cond.constantLong RJ13 314 (6148914691236517205), Cond.constantLong RJ13 316 (3689348814741910323), Cond.constantLong RJ13 318 (1085102592571150095), Cond.methodLink RL 31 yX2_reached, Cond.instanceMethod yX2_reached, Cond.selects RX2 yX2_reached yX2_reached, Cond.code yX2_reached cX2_reached 2 (some .boolean), Cond.methodLink RX2 85 yX2_know, Cond.instanceMethod yX2_know, Cond.selects RX2 yX2_know yX2_know, Cond.code yX2_know cX2_know 3 none, Cond.methodLink RX2 72 yX2_clear, Cond.instanceMethod yX2_clear, Cond.selects RX2 yX2_clear yX2_clear, Cond.code yX2_clear cX2_clear 2 none]
def wsL_law_r7 : List Cond := [Cond.fieldLink RX2 65 "FlowShapeModel" "waiting" "I", Cond.methodLink RX2 68 yX2_start, Cond.instanceMethod yX2_start, Cond.selects RX2 yX2_start yX2_start, Cond.code yX2_start cX2_start 2 none, Cond.methodLink RX2 75 yX2_spread, Cond.instanceMethod yX2_spread, Cond.selects RX2 yX2_spread yX2_spread, Cond.code yX2_spread cX2_spread 7 none, Cond.methodLink RX2 79 yX2_rank, Cond.instanceMethod yX2_rank, Cond.selects RX2 yX2_rank yX2_rank, Cond.code yX2_rank cX2_rank 3 none, Cond.methodLink RX2 82 yX2_loops, Cond.instanceMethod yX2_loops, Cond.selects RX2 yX2_loops yX2_loops, Cond.code yX2_loops cX2_loops 3 none, Cond.methodLink RL 32 yX1_reachedOnes, Cond.instanceMethod yX1_reachedOnes, Cond.selects RX1 yX1_reachedOnes yX1_reachedOnes, Cond.code yX1_reachedOnes cX1_reachedOnes 1 (some .int), Cond.methodLink RL 36 yX2_reachedOnes, Cond.instanceMethod yX2_reachedOnes, Cond.selects RX2 yX2_reachedOnes yX2_reachedOnes]
def wsL_law_r8 : List Cond := [Cond.code yX2_reachedOnes cX2_reachedOnes 3 (some .int), Cond.methodLink RX2 88 yX2_reached, Cond.methodLink RL 37 yX1_dominator, Cond.instanceMethod yX1_dominator, Cond.selects RX1 yX1_dominator yX1_dominator, Cond.code yX1_dominator cX1_dominator 4 (some .int), Cond.methodLink RX1 70 yX1_findDominators, Cond.instanceMethod yX1_findDominators, Cond.selects RX1 yX1_findDominators yX1_findDominators, Cond.code yX1_findDominators cX1_findDominators 3 none, Cond.methodLink RX1 90 yX1_startDominators, Cond.instanceMethod yX1_startDominators, Cond.selects RX1 yX1_startDominators yX1_startDominators, Cond.code yX1_startDominators cX1_startDominators 2 none, Cond.methodLink RX1 97 yX0_fill, Cond.instanceMethod yX0_fill, Cond.selects RX0 yX0_fill yX0_fill, Cond.code yX0_fill cX0_fill 2 none, Cond.methodLink RX0 23 yJ7_fill_bad5a, Cond.static yJ7_fill_bad5a, Cond.code yJ7_fill_bad5a cJ7_fill_bad5a 6 none, Cond.methodLink RJ7 13 yJ7_rangeCheck_23922, Cond.static yJ7_rangeCheck_23922, Cond.code yJ7_rangeCheck_23922 cJ7_rangeCheck_23922 3 none]
def wsL_law_r9 : List Cond := [Cond.methodLink RX1 93 yX1_strikeOutDominators, Cond.instanceMethod yX1_strikeOutDominators, Cond.selects RX1 yX1_strikeOutDominators yX1_strikeOutDominators, Cond.code yX1_strikeOutDominators cX1_strikeOutDominators 5 (some .boolean), Cond.methodLink RX1 101 yX0_keepOthersOf, Cond.instanceMethod yX0_keepOthersOf, Cond.selects RX0 yX0_keepOthersOf yX0_keepOthersOf, Cond.code yX0_keepOthersOf cX0_keepOthersOf 11 (some .boolean), Cond.methodLink RX1 73 yX0_count, Cond.instanceMethod yX0_count, Cond.selects RX0 yX0_count yX0_count, Cond.code yX0_count cX0_count 4 (some .int), Cond.methodLink RL 41 yX2_dominator, Cond.instanceMethod yX2_dominator, Cond.selects RX2 yX2_dominator yX2_dominator, Cond.code yX2_dominator cX2_dominator 2 (some .int), Cond.methodLink RL 42 yX1_dominates, Cond.instanceMethod yX1_dominates, Cond.selects RX1 yX1_dominates yX1_dominates, Cond.code yX1_dominates cX1_dominates 3 (some .boolean), Cond.methodLink RL 45 yX2_dominates, Cond.instanceMethod yX2_dominates, Cond.selects RX2 yX2_dominates yX2_dominates, Cond.code yX2_dominates cX2_dominates 3 (some .boolean)]
def wsL_law_r10 : List Cond := [Cond.methodLink RL 46 yX1_head, Cond.instanceMethod yX1_head, Cond.selects RX1 yX1_head yX1_head, Cond.code yX1_head cX1_head 2 (some .boolean), Cond.methodLink RX1 81 yX1_isHead, Cond.instanceMethod yX1_isHead, Cond.selects RX1 yX1_isHead yX1_isHead, Cond.code yX1_isHead cX1_isHead 3 (some .boolean), Cond.methodLink RL 49 yX2_head, Cond.instanceMethod yX2_head, Cond.selects RX2 yX2_head yX2_head, Cond.code yX2_head cX2_head 2 (some .boolean), Cond.methodLink RL 50 yX1_depth, Cond.instanceMethod yX1_depth, Cond.selects RX1 yX1_depth yX1_depth, Cond.code yX1_depth cX1_depth 2 (some .int), Cond.methodLink RX1 84 yX1_findDepths, Cond.instanceMethod yX1_findDepths, Cond.selects RX1 yX1_findDepths yX1_findDepths, Cond.code yX1_findDepths cX1_findDepths 2 none, Cond.methodLink RX1 104 yJ7_fill_53178, Cond.static yJ7_fill_53178, Cond.code yJ7_fill_53178 cJ7_fill_53178 4 none, Cond.methodLink RX1 109 yX1_countLoop]
def wsL_law_r11 : List Cond := [Cond.instanceMethod yX1_countLoop, Cond.selects RX1 yX1_countLoop yX1_countLoop, Cond.code yX1_countLoop cX1_countLoop 6 none, Cond.methodLink RX1 112 yX1_joinLoop, Cond.instanceMethod yX1_joinLoop, Cond.selects RX1 yX1_joinLoop yX1_joinLoop, Cond.code yX1_joinLoop cX1_joinLoop 4 (some .int), Cond.methodLink RL 53 yX2_depth, Cond.instanceMethod yX2_depth, Cond.selects RX2 yX2_depth yX2_depth, Cond.code yX2_depth cX2_depth 2 (some .int)]
def wsL_law : List Cond := (wsL_law_r1 ++ (wsL_law_r2 ++ (wsL_law_r3 ++ (wsL_law_r4 ++ (wsL_law_r5 ++ (wsL_law_r6 ++ (wsL_law_r7 ++ (wsL_law_r8 ++ (wsL_law_r9 ++ (wsL_law_r10 ++ wsL_law_r11)))))))))) ++ wsX10 ++ wsX20 ++ wsX00 ++ ([] : List Cond)
set_option maxRecDepth 20000 in
theorem wsL_law_in : ∀ w ∈ wsL_law, w ∈ lw_tbl := fun w h => (goodIn_p wsL_law [27, 30, 35, 211, 84, 88, 91, 256, 95, 99, 103, 106, 110, 260, 264, 268, 271, 274, 115, 119, 123, 127, 131, 134, 279, 283, 287, 291, 295, 299, 303, 141, 307, 145, 149, 153, 157, 160, 163, 167, 171, 175, 312, 179, 316, 183, 187, 320, 191, 195, 198, 202, 206, 324] (by decide +kernel) (by decide +kernel) w h).1
theorem inlX0 : ∀ w ∈ wsX00, w ∈ wsL_law := fun _ h => List.mem_append_left _ (List.mem_append_right _ h)
theorem inX0 : ∀ w ∈ wsX00, w ∈ lw_tbl := fun w h => wsL_law_in w (inlX0 w h)
theorem inlX1 : ∀ w ∈ wsX10, w ∈ wsL_law := fun _ h => List.mem_append_left _ (List.mem_append_left _ (List.mem_append_left _ (List.mem_append_right _ h)))
theorem inX1 : ∀ w ∈ wsX10, w ∈ lw_tbl := fun w h => wsL_law_in w (inlX1 w h)
theorem inlX2 : ∀ w ∈ wsX20, w ∈ wsL_law := fun _ h => List.mem_append_left _ (List.mem_append_left _ (List.mem_append_right _ h))
theorem inX2 : ∀ w ∈ wsX20, w ∈ lw_tbl := fun w h => wsL_law_in w (inlX2 w h)
theorem inJ13 : ∀ w ∈ wsJ130, w ∈ lw_tbl := by decide +kernel
theorem inJ7 : ∀ w ∈ wsJ70, w ∈ lw_tbl := by decide +kernel
theorem dX0_init_0 : decode cX0_init 0 = .ok (.aload_n 0, 1) := by decide +kernel
theorem dX0_init_1 : decode cX0_init 1 = .ok (.invokespecial 3, 3) := by decide +kernel
theorem dX0_init_4 : decode cX0_init 4 = .ok (.aload_n 0, 1) := by decide +kernel
theorem dX0_init_5 : decode cX0_init 5 = .ok (.sipush 800, 3) := by decide +kernel
theorem dX0_init_8 : decode cX0_init 8 = .ok (.newarray .long, 2) := by decide +kernel
theorem dX0_init_10 : decode cX0_init 10 = .ok (.putfield 11, 3) := by decide +kernel
theorem dX0_init_13 : decode cX0_init 13 = .ok (.return_, 1) := by decide +kernel
set_option maxRecDepth 20000 in
theorem ggX0_clear_J7_fill_d0a16 : GoodIn wsX0_clear wsJ7_fill_d0a16 := goodIn_r _ [5] (by decide +kernel) (by decide +kernel)
set_option maxRecDepth 20000 in
theorem gX0_clear_J7_fill_d0a16 : GoodIn wsX0_clear (va_wsS RX0 15 yJ7_fill_d0a16 wsJ7_fill_d0a16) := goodIn_app (goodIn_of _ (by decide +kernel)) ggX0_clear_J7_fill_d0a16
theorem dX0_clear_0 : decode cX0_clear 0 = .ok (.aload_n 0, 1) := by decide +kernel
theorem dX0_clear_1 : decode cX0_clear 1 = .ok (.getfield 11, 3) := by decide +kernel
theorem dX0_clear_4 : decode cX0_clear 4 = .ok (.lconst 0, 1) := by decide +kernel
theorem dX0_clear_5 : decode cX0_clear 5 = .ok (.invokestatic 15, 3) := by decide +kernel
theorem dX0_clear_8 : decode cX0_clear 8 = .ok (.return_, 1) := by decide +kernel
set_option maxRecDepth 20000 in
theorem ggX0_fill_J7_fill_bad5a : GoodIn wsX0_fill wsJ7_fill_bad5a := goodIn_r _ [6, 7, 8, 5, 9] (by decide +kernel) (by decide +kernel)
set_option maxRecDepth 20000 in
theorem gX0_fill_J7_fill_bad5a : GoodIn wsX0_fill (va_wsS RX0 23 yJ7_fill_bad5a wsJ7_fill_bad5a) := goodIn_app (goodIn_of _ (by decide +kernel)) ggX0_fill_J7_fill_bad5a
theorem dX0_fill_0 : decode cX0_fill 0 = .ok (.aload_n 0, 1) := by decide +kernel
theorem dX0_fill_1 : decode cX0_fill 1 = .ok (.getfield 11, 3) := by decide +kernel
theorem dX0_fill_4 : decode cX0_fill 4 = .ok (.iload_n 1, 1) := by decide +kernel
theorem dX0_fill_5 : decode cX0_fill 5 = .ok (.iconst 4, 1) := by decide +kernel
theorem dX0_fill_6 : decode cX0_fill 6 = .ok (.imul, 1) := by decide +kernel
theorem dX0_fill_7 : decode cX0_fill 7 = .ok (.iload_n 1, 1) := by decide +kernel
theorem dX0_fill_8 : decode cX0_fill 8 = .ok (.iconst 4, 1) := by decide +kernel
theorem dX0_fill_9 : decode cX0_fill 9 = .ok (.imul, 1) := by decide +kernel
theorem dX0_fill_10 : decode cX0_fill 10 = .ok (.iconst 4, 1) := by decide +kernel
theorem dX0_fill_11 : decode cX0_fill 11 = .ok (.iadd, 1) := by decide +kernel
theorem dX0_fill_12 : decode cX0_fill 12 = .ok (.ldc2_w 21, 3) := by decide +kernel
theorem dX0_fill_15 : decode cX0_fill 15 = .ok (.invokestatic 23, 3) := by decide +kernel
theorem dX0_fill_18 : decode cX0_fill 18 = .ok (.return_, 1) := by decide +kernel
set_option maxRecDepth 20000 in
theorem ggX0_holds_X0_bit : GoodIn wsX0_holds wsX0_bit := goodIn_r _ [5] (by decide +kernel) (by decide +kernel)
set_option maxRecDepth 20000 in
theorem gX0_holds_X0_bit : GoodIn wsX0_holds (va_wsS RX0 26 yX0_bit wsX0_bit) := goodIn_app (goodIn_of _ (by decide +kernel)) ggX0_holds_X0_bit
theorem dX0_holds_0 : decode cX0_holds 0 = .ok (.aload_n 0, 1) := by decide +kernel
theorem dX0_holds_1 : decode cX0_holds 1 = .ok (.getfield 11, 3) := by decide +kernel
theorem dX0_holds_4 : decode cX0_holds 4 = .ok (.iload_n 1, 1) := by decide +kernel
theorem dX0_holds_5 : decode cX0_holds 5 = .ok (.iconst 4, 1) := by decide +kernel
theorem dX0_holds_6 : decode cX0_holds 6 = .ok (.imul, 1) := by decide +kernel
theorem dX0_holds_7 : decode cX0_holds 7 = .ok (.iload_n 2, 1) := by decide +kernel
theorem dX0_holds_8 : decode cX0_holds 8 = .ok (.bipush 6, 2) := by decide +kernel
theorem dX0_holds_10 : decode cX0_holds 10 = .ok (.ishr, 1) := by decide +kernel
theorem dX0_holds_11 : decode cX0_holds 11 = .ok (.iadd, 1) := by decide +kernel
theorem dX0_holds_12 : decode cX0_holds 12 = .ok (.laload, 1) := by decide +kernel
theorem dX0_holds_13 : decode cX0_holds 13 = .ok (.iload_n 2, 1) := by decide +kernel
theorem dX0_holds_14 : decode cX0_holds 14 = .ok (.invokestatic 26, 3) := by decide +kernel
theorem dX0_holds_17 : decode cX0_holds 17 = .ok (.land, 1) := by decide +kernel
theorem dX0_holds_18 : decode cX0_holds 18 = .ok (.lconst 0, 1) := by decide +kernel
theorem dX0_holds_19 : decode cX0_holds 19 = .ok (.lcmp, 1) := by decide +kernel
theorem dX0_holds_20 : decode cX0_holds 20 = .ok (.ifCond .eq 7, 3) := by decide +kernel
theorem dX0_holds_23 : decode cX0_holds 23 = .ok (.iconst 1, 1) := by decide +kernel
theorem dX0_holds_24 : decode cX0_holds 24 = .ok (.goto 4, 3) := by decide +kernel
theorem dX0_holds_27 : decode cX0_holds 27 = .ok (.iconst 0, 1) := by decide +kernel
theorem dX0_holds_28 : decode cX0_holds 28 = .ok (.ireturn, 1) := by decide +kernel
set_option maxRecDepth 20000 in
theorem ggX0_put_X0_bit : GoodIn wsX0_put wsX0_bit := goodIn_r _ [6] (by decide +kernel) (by decide +kernel)
set_option maxRecDepth 20000 in
theorem gX0_put_X0_bit : GoodIn wsX0_put (va_wsS RX0 26 yX0_bit wsX0_bit) := goodIn_app (goodIn_of _ (by decide +kernel)) ggX0_put_X0_bit
theorem dX0_put_0 : decode cX0_put 0 = .ok (.iload_n 1, 1) := by decide +kernel
theorem dX0_put_1 : decode cX0_put 1 = .ok (.iconst 4, 1) := by decide +kernel
theorem dX0_put_2 : decode cX0_put 2 = .ok (.imul, 1) := by decide +kernel
theorem dX0_put_3 : decode cX0_put 3 = .ok (.iload_n 2, 1) := by decide +kernel
theorem dX0_put_4 : decode cX0_put 4 = .ok (.bipush 6, 2) := by decide +kernel
theorem dX0_put_6 : decode cX0_put 6 = .ok (.ishr, 1) := by decide +kernel
theorem dX0_put_7 : decode cX0_put 7 = .ok (.iadd, 1) := by decide +kernel
theorem dX0_put_8 : decode cX0_put 8 = .ok (.istore 4, 2) := by decide +kernel
theorem dX0_put_10 : decode cX0_put 10 = .ok (.aload_n 0, 1) := by decide +kernel
theorem dX0_put_11 : decode cX0_put 11 = .ok (.getfield 11, 3) := by decide +kernel
theorem dX0_put_14 : decode cX0_put 14 = .ok (.iload 4, 2) := by decide +kernel
theorem dX0_put_16 : decode cX0_put 16 = .ok (.iload_n 3, 1) := by decide +kernel
theorem dX0_put_17 : decode cX0_put 17 = .ok (.ifCond .eq 18, 3) := by decide +kernel
theorem dX0_put_20 : decode cX0_put 20 = .ok (.aload_n 0, 1) := by decide +kernel
theorem dX0_put_21 : decode cX0_put 21 = .ok (.getfield 11, 3) := by decide +kernel
theorem dX0_put_24 : decode cX0_put 24 = .ok (.iload 4, 2) := by decide +kernel
theorem dX0_put_26 : decode cX0_put 26 = .ok (.laload, 1) := by decide +kernel
theorem dX0_put_27 : decode cX0_put 27 = .ok (.iload_n 2, 1) := by decide +kernel
theorem dX0_put_28 : decode cX0_put 28 = .ok (.invokestatic 26, 3) := by decide +kernel
theorem dX0_put_31 : decode cX0_put 31 = .ok (.lor, 1) := by decide +kernel
theorem dX0_put_32 : decode cX0_put 32 = .ok (.goto 19, 3) := by decide +kernel
theorem dX0_put_35 : decode cX0_put 35 = .ok (.aload_n 0, 1) := by decide +kernel
theorem dX0_put_36 : decode cX0_put 36 = .ok (.getfield 11, 3) := by decide +kernel
theorem dX0_put_39 : decode cX0_put 39 = .ok (.iload 4, 2) := by decide +kernel
theorem dX0_put_41 : decode cX0_put 41 = .ok (.laload, 1) := by decide +kernel
theorem dX0_put_42 : decode cX0_put 42 = .ok (.iload_n 2, 1) := by decide +kernel
theorem dX0_put_43 : decode cX0_put 43 = .ok (.invokestatic 26, 3) := by decide +kernel
theorem dX0_put_46 : decode cX0_put 46 = .ok (.ldc2_w 21, 3) := by decide +kernel
theorem dX0_put_49 : decode cX0_put 49 = .ok (.lxor, 1) := by decide +kernel
theorem dX0_put_50 : decode cX0_put 50 = .ok (.land, 1) := by decide +kernel
theorem dX0_put_51 : decode cX0_put 51 = .ok (.lastore, 1) := by decide +kernel
theorem dX0_put_52 : decode cX0_put 52 = .ok (.return_, 1) := by decide +kernel
set_option maxRecDepth 20000 in
theorem ggX0_count_J13_bitCount_95d88 : GoodIn wsX0_count wsJ13_bitCount_95d88 := goodIn_r _ [5, 6, 7, 8] (by decide +kernel) (by decide +kernel)
set_option maxRecDepth 20000 in
theorem gX0_count_J13_bitCount_95d88 : GoodIn wsX0_count (va_wsS RX0 30 yJ13_bitCount_95d88 wsJ13_bitCount_95d88) := goodIn_app (goodIn_of _ (by decide +kernel)) ggX0_count_J13_bitCount_95d88
theorem dX0_count_0 : decode cX0_count 0 = .ok (.iconst 0, 1) := by decide +kernel
theorem dX0_count_1 : decode cX0_count 1 = .ok (.istore_n 2, 1) := by decide +kernel
theorem dX0_count_2 : decode cX0_count 2 = .ok (.iconst 0, 1) := by decide +kernel
theorem dX0_count_3 : decode cX0_count 3 = .ok (.istore_n 3, 1) := by decide +kernel
theorem dX0_count_4 : decode cX0_count 4 = .ok (.iload_n 3, 1) := by decide +kernel
theorem dX0_count_5 : decode cX0_count 5 = .ok (.iconst 4, 1) := by decide +kernel
theorem dX0_count_6 : decode cX0_count 6 = .ok (.if_icmp .ge 25, 3) := by decide +kernel
theorem dX0_count_9 : decode cX0_count 9 = .ok (.iload_n 2, 1) := by decide +kernel
theorem dX0_count_10 : decode cX0_count 10 = .ok (.aload_n 0, 1) := by decide +kernel
theorem dX0_count_11 : decode cX0_count 11 = .ok (.getfield 11, 3) := by decide +kernel
theorem dX0_count_14 : decode cX0_count 14 = .ok (.iload_n 1, 1) := by decide +kernel
theorem dX0_count_15 : decode cX0_count 15 = .ok (.iconst 4, 1) := by decide +kernel
theorem dX0_count_16 : decode cX0_count 16 = .ok (.imul, 1) := by decide +kernel
theorem dX0_count_17 : decode cX0_count 17 = .ok (.iload_n 3, 1) := by decide +kernel
theorem dX0_count_18 : decode cX0_count 18 = .ok (.iadd, 1) := by decide +kernel
theorem dX0_count_19 : decode cX0_count 19 = .ok (.laload, 1) := by decide +kernel
theorem dX0_count_20 : decode cX0_count 20 = .ok (.invokestatic 30, 3) := by decide +kernel
theorem dX0_count_23 : decode cX0_count 23 = .ok (.iadd, 1) := by decide +kernel
theorem dX0_count_24 : decode cX0_count 24 = .ok (.istore_n 2, 1) := by decide +kernel
theorem dX0_count_25 : decode cX0_count 25 = .ok (.iinc 3 1, 3) := by decide +kernel
theorem dX0_count_28 : decode cX0_count 28 = .ok (.goto (-24), 3) := by decide +kernel
theorem dX0_count_31 : decode cX0_count 31 = .ok (.iload_n 2, 1) := by decide +kernel
theorem dX0_count_32 : decode cX0_count 32 = .ok (.ireturn, 1) := by decide +kernel
set_option maxRecDepth 20000 in
theorem ggX0_next_J13_bitCount_95d88 : GoodIn wsX0_next wsJ13_bitCount_95d88 := goodIn_r _ [6, 7, 8, 9] (by decide +kernel) (by decide +kernel)
set_option maxRecDepth 20000 in
theorem gX0_next_J13_bitCount_95d88 : GoodIn wsX0_next (va_wsS RX0 30 yJ13_bitCount_95d88 wsJ13_bitCount_95d88) := goodIn_app (goodIn_of _ (by decide +kernel)) ggX0_next_J13_bitCount_95d88
theorem dX0_next_0 : decode cX0_next 0 = .ok (.ldc2_w 21, 3) := by decide +kernel
theorem dX0_next_3 : decode cX0_next 3 = .ok (.iload_n 2, 1) := by decide +kernel
theorem dX0_next_4 : decode cX0_next 4 = .ok (.lshl, 1) := by decide +kernel
theorem dX0_next_5 : decode cX0_next 5 = .ok (.lstore_n 3, 1) := by decide +kernel
theorem dX0_next_6 : decode cX0_next 6 = .ok (.iload_n 2, 1) := by decide +kernel
theorem dX0_next_7 : decode cX0_next 7 = .ok (.bipush 6, 2) := by decide +kernel
theorem dX0_next_9 : decode cX0_next 9 = .ok (.ishr, 1) := by decide +kernel
theorem dX0_next_10 : decode cX0_next 10 = .ok (.istore 5, 2) := by decide +kernel
theorem dX0_next_12 : decode cX0_next 12 = .ok (.iload 5, 2) := by decide +kernel
theorem dX0_next_14 : decode cX0_next 14 = .ok (.iconst 4, 1) := by decide +kernel
theorem dX0_next_15 : decode cX0_next 15 = .ok (.if_icmp .ge 57, 3) := by decide +kernel
theorem dX0_next_18 : decode cX0_next 18 = .ok (.aload_n 0, 1) := by decide +kernel
theorem dX0_next_19 : decode cX0_next 19 = .ok (.getfield 11, 3) := by decide +kernel
theorem dX0_next_22 : decode cX0_next 22 = .ok (.iload_n 1, 1) := by decide +kernel
theorem dX0_next_23 : decode cX0_next 23 = .ok (.iconst 4, 1) := by decide +kernel
theorem dX0_next_24 : decode cX0_next 24 = .ok (.imul, 1) := by decide +kernel
theorem dX0_next_25 : decode cX0_next 25 = .ok (.iload 5, 2) := by decide +kernel
theorem dX0_next_27 : decode cX0_next 27 = .ok (.iadd, 1) := by decide +kernel
theorem dX0_next_28 : decode cX0_next 28 = .ok (.laload, 1) := by decide +kernel
theorem dX0_next_29 : decode cX0_next 29 = .ok (.lload_n 3, 1) := by decide +kernel
theorem dX0_next_30 : decode cX0_next 30 = .ok (.land, 1) := by decide +kernel
theorem dX0_next_31 : decode cX0_next 31 = .ok (.lstore 6, 2) := by decide +kernel
theorem dX0_next_33 : decode cX0_next 33 = .ok (.lload 6, 2) := by decide +kernel
theorem dX0_next_35 : decode cX0_next 35 = .ok (.lconst 0, 1) := by decide +kernel
theorem dX0_next_36 : decode cX0_next 36 = .ok (.lcmp, 1) := by decide +kernel
theorem dX0_next_37 : decode cX0_next 37 = .ok (.ifCond .eq 25, 3) := by decide +kernel
theorem dX0_next_40 : decode cX0_next 40 = .ok (.lload 6, 2) := by decide +kernel
theorem dX0_next_42 : decode cX0_next 42 = .ok (.lload 6, 2) := by decide +kernel
theorem dX0_next_44 : decode cX0_next 44 = .ok (.lneg, 1) := by decide +kernel
theorem dX0_next_45 : decode cX0_next 45 = .ok (.land, 1) := by decide +kernel
theorem dX0_next_46 : decode cX0_next 46 = .ok (.lconst 1, 1) := by decide +kernel
theorem dX0_next_47 : decode cX0_next 47 = .ok (.lsub, 1) := by decide +kernel
theorem dX0_next_48 : decode cX0_next 48 = .ok (.lstore 8, 2) := by decide +kernel
theorem dX0_next_50 : decode cX0_next 50 = .ok (.iload 5, 2) := by decide +kernel
theorem dX0_next_52 : decode cX0_next 52 = .ok (.bipush 6, 2) := by decide +kernel
theorem dX0_next_54 : decode cX0_next 54 = .ok (.ishl, 1) := by decide +kernel
theorem dX0_next_55 : decode cX0_next 55 = .ok (.lload 8, 2) := by decide +kernel
theorem dX0_next_57 : decode cX0_next 57 = .ok (.invokestatic 30, 3) := by decide +kernel
theorem dX0_next_60 : decode cX0_next 60 = .ok (.iadd, 1) := by decide +kernel
theorem dX0_next_61 : decode cX0_next 61 = .ok (.ireturn, 1) := by decide +kernel
theorem dX0_next_62 : decode cX0_next 62 = .ok (.ldc2_w 21, 3) := by decide +kernel
theorem dX0_next_65 : decode cX0_next 65 = .ok (.lstore_n 3, 1) := by decide +kernel
theorem dX0_next_66 : decode cX0_next 66 = .ok (.iinc 5 1, 3) := by decide +kernel
theorem dX0_next_69 : decode cX0_next 69 = .ok (.goto (-57), 3) := by decide +kernel
theorem dX0_next_72 : decode cX0_next 72 = .ok (.sipush 200, 3) := by decide +kernel
theorem dX0_next_75 : decode cX0_next 75 = .ok (.ireturn, 1) := by decide +kernel
set_option maxRecDepth 20000 in
theorem ggX0_keepOthersOf_X0_bit : GoodIn wsX0_keepOthersOf wsX0_bit := goodIn_r _ [5] (by decide +kernel) (by decide +kernel)
set_option maxRecDepth 20000 in
theorem gX0_keepOthersOf_X0_bit : GoodIn wsX0_keepOthersOf (va_wsS RX0 26 yX0_bit wsX0_bit) := goodIn_app (goodIn_of _ (by decide +kernel)) ggX0_keepOthersOf_X0_bit
theorem dX0_keepOthersOf_0 : decode cX0_keepOthersOf 0 = .ok (.iconst 0, 1) := by decide +kernel
theorem dX0_keepOthersOf_1 : decode cX0_keepOthersOf 1 = .ok (.istore_n 3, 1) := by decide +kernel
theorem dX0_keepOthersOf_2 : decode cX0_keepOthersOf 2 = .ok (.iconst 0, 1) := by decide +kernel
theorem dX0_keepOthersOf_3 : decode cX0_keepOthersOf 3 = .ok (.istore 4, 2) := by decide +kernel
theorem dX0_keepOthersOf_5 : decode cX0_keepOthersOf 5 = .ok (.iload 4, 2) := by decide +kernel
theorem dX0_keepOthersOf_7 : decode cX0_keepOthersOf 7 = .ok (.iconst 4, 1) := by decide +kernel
theorem dX0_keepOthersOf_8 : decode cX0_keepOthersOf 8 = .ok (.if_icmp .ge 91, 3) := by decide +kernel
theorem dX0_keepOthersOf_11 : decode cX0_keepOthersOf 11 = .ok (.iload_n 1, 1) := by decide +kernel
theorem dX0_keepOthersOf_12 : decode cX0_keepOthersOf 12 = .ok (.bipush 6, 2) := by decide +kernel
theorem dX0_keepOthersOf_14 : decode cX0_keepOthersOf 14 = .ok (.ishr, 1) := by decide +kernel
theorem dX0_keepOthersOf_15 : decode cX0_keepOthersOf 15 = .ok (.iload 4, 2) := by decide +kernel
theorem dX0_keepOthersOf_17 : decode cX0_keepOthersOf 17 = .ok (.if_icmp .ne 10, 3) := by decide +kernel
theorem dX0_keepOthersOf_20 : decode cX0_keepOthersOf 20 = .ok (.iload_n 1, 1) := by decide +kernel
theorem dX0_keepOthersOf_21 : decode cX0_keepOthersOf 21 = .ok (.invokestatic 26, 3) := by decide +kernel
theorem dX0_keepOthersOf_24 : decode cX0_keepOthersOf 24 = .ok (.goto 4, 3) := by decide +kernel
theorem dX0_keepOthersOf_27 : decode cX0_keepOthersOf 27 = .ok (.lconst 0, 1) := by decide +kernel
theorem dX0_keepOthersOf_28 : decode cX0_keepOthersOf 28 = .ok (.lstore 5, 2) := by decide +kernel
theorem dX0_keepOthersOf_30 : decode cX0_keepOthersOf 30 = .ok (.aload_n 0, 1) := by decide +kernel
theorem dX0_keepOthersOf_31 : decode cX0_keepOthersOf 31 = .ok (.getfield 11, 3) := by decide +kernel
theorem dX0_keepOthersOf_34 : decode cX0_keepOthersOf 34 = .ok (.iload_n 1, 1) := by decide +kernel
theorem dX0_keepOthersOf_35 : decode cX0_keepOthersOf 35 = .ok (.iconst 4, 1) := by decide +kernel
theorem dX0_keepOthersOf_36 : decode cX0_keepOthersOf 36 = .ok (.imul, 1) := by decide +kernel
theorem dX0_keepOthersOf_37 : decode cX0_keepOthersOf 37 = .ok (.iload 4, 2) := by decide +kernel
theorem dX0_keepOthersOf_39 : decode cX0_keepOthersOf 39 = .ok (.iadd, 1) := by decide +kernel
theorem dX0_keepOthersOf_40 : decode cX0_keepOthersOf 40 = .ok (.laload, 1) := by decide +kernel
theorem dX0_keepOthersOf_41 : decode cX0_keepOthersOf 41 = .ok (.lstore 7, 2) := by decide +kernel
theorem dX0_keepOthersOf_43 : decode cX0_keepOthersOf 43 = .ok (.lload 7, 2) := by decide +kernel
theorem dX0_keepOthersOf_45 : decode cX0_keepOthersOf 45 = .ok (.aload_n 0, 1) := by decide +kernel
theorem dX0_keepOthersOf_46 : decode cX0_keepOthersOf 46 = .ok (.getfield 11, 3) := by decide +kernel
theorem dX0_keepOthersOf_49 : decode cX0_keepOthersOf 49 = .ok (.iload_n 2, 1) := by decide +kernel
theorem dX0_keepOthersOf_50 : decode cX0_keepOthersOf 50 = .ok (.iconst 4, 1) := by decide +kernel
theorem dX0_keepOthersOf_51 : decode cX0_keepOthersOf 51 = .ok (.imul, 1) := by decide +kernel
theorem dX0_keepOthersOf_52 : decode cX0_keepOthersOf 52 = .ok (.iload 4, 2) := by decide +kernel
theorem dX0_keepOthersOf_54 : decode cX0_keepOthersOf 54 = .ok (.iadd, 1) := by decide +kernel
theorem dX0_keepOthersOf_55 : decode cX0_keepOthersOf 55 = .ok (.laload, 1) := by decide +kernel
theorem dX0_keepOthersOf_56 : decode cX0_keepOthersOf 56 = .ok (.lload 5, 2) := by decide +kernel
theorem dX0_keepOthersOf_58 : decode cX0_keepOthersOf 58 = .ok (.lor, 1) := by decide +kernel
theorem dX0_keepOthersOf_59 : decode cX0_keepOthersOf 59 = .ok (.land, 1) := by decide +kernel
theorem dX0_keepOthersOf_60 : decode cX0_keepOthersOf 60 = .ok (.lstore 9, 2) := by decide +kernel
theorem dX0_keepOthersOf_62 : decode cX0_keepOthersOf 62 = .ok (.aload_n 0, 1) := by decide +kernel
theorem dX0_keepOthersOf_63 : decode cX0_keepOthersOf 63 = .ok (.getfield 11, 3) := by decide +kernel
theorem dX0_keepOthersOf_66 : decode cX0_keepOthersOf 66 = .ok (.iload_n 1, 1) := by decide +kernel
theorem dX0_keepOthersOf_67 : decode cX0_keepOthersOf 67 = .ok (.iconst 4, 1) := by decide +kernel
theorem dX0_keepOthersOf_68 : decode cX0_keepOthersOf 68 = .ok (.imul, 1) := by decide +kernel
theorem dX0_keepOthersOf_69 : decode cX0_keepOthersOf 69 = .ok (.iload 4, 2) := by decide +kernel
theorem dX0_keepOthersOf_71 : decode cX0_keepOthersOf 71 = .ok (.iadd, 1) := by decide +kernel
theorem dX0_keepOthersOf_72 : decode cX0_keepOthersOf 72 = .ok (.lload 9, 2) := by decide +kernel
theorem dX0_keepOthersOf_74 : decode cX0_keepOthersOf 74 = .ok (.lastore, 1) := by decide +kernel
theorem dX0_keepOthersOf_75 : decode cX0_keepOthersOf 75 = .ok (.iload_n 3, 1) := by decide +kernel
theorem dX0_keepOthersOf_76 : decode cX0_keepOthersOf 76 = .ok (.ifCond .ne 11, 3) := by decide +kernel
theorem dX0_keepOthersOf_79 : decode cX0_keepOthersOf 79 = .ok (.lload 9, 2) := by decide +kernel
theorem dX0_keepOthersOf_81 : decode cX0_keepOthersOf 81 = .ok (.lload 7, 2) := by decide +kernel
theorem dX0_keepOthersOf_83 : decode cX0_keepOthersOf 83 = .ok (.lcmp, 1) := by decide +kernel
theorem dX0_keepOthersOf_84 : decode cX0_keepOthersOf 84 = .ok (.ifCond .eq 7, 3) := by decide +kernel
theorem dX0_keepOthersOf_87 : decode cX0_keepOthersOf 87 = .ok (.iconst 1, 1) := by decide +kernel
theorem dX0_keepOthersOf_88 : decode cX0_keepOthersOf 88 = .ok (.goto 4, 3) := by decide +kernel
theorem dX0_keepOthersOf_91 : decode cX0_keepOthersOf 91 = .ok (.iconst 0, 1) := by decide +kernel
theorem dX0_keepOthersOf_92 : decode cX0_keepOthersOf 92 = .ok (.istore_n 3, 1) := by decide +kernel
theorem dX0_keepOthersOf_93 : decode cX0_keepOthersOf 93 = .ok (.iinc 4 1, 3) := by decide +kernel
theorem dX0_keepOthersOf_96 : decode cX0_keepOthersOf 96 = .ok (.goto (-91), 3) := by decide +kernel
theorem dX0_keepOthersOf_99 : decode cX0_keepOthersOf 99 = .ok (.iload_n 3, 1) := by decide +kernel
theorem dX0_keepOthersOf_100 : decode cX0_keepOthersOf 100 = .ok (.ireturn, 1) := by decide +kernel
theorem dX0_bit_0 : decode cX0_bit 0 = .ok (.lconst 1, 1) := by decide +kernel
theorem dX0_bit_1 : decode cX0_bit 1 = .ok (.iload_n 0, 1) := by decide +kernel
theorem dX0_bit_2 : decode cX0_bit 2 = .ok (.lshl, 1) := by decide +kernel
theorem dX0_bit_3 : decode cX0_bit 3 = .ok (.lreturn, 1) := by decide +kernel
set_option maxRecDepth 20000 in
theorem ggX1_init_X0_init : GoodIn wsX1_init wsX0_init := goodIn_r _ [22, 23, 2, 3, 24, 25, 26] (by decide +kernel) (by decide +kernel)
set_option maxRecDepth 20000 in
theorem gX1_init_X0_init_n9 : GoodIn wsX1_init (wsX0_init) := ggX1_init_X0_init
theorem dX1_init_0 : decode cX1_init 0 = .ok (.aload_n 0, 1) := by decide +kernel
theorem dX1_init_1 : decode cX1_init 1 = .ok (.invokespecial 1, 3) := by decide +kernel
theorem dX1_init_4 : decode cX1_init 4 = .ok (.aload_n 0, 1) := by decide +kernel
theorem dX1_init_5 : decode cX1_init 5 = .ok (.new 7, 3) := by decide +kernel
theorem dX1_init_8 : decode cX1_init 8 = .ok (.dup, 1) := by decide +kernel
theorem dX1_init_9 : decode cX1_init 9 = .ok (.invokespecial 9, 3) := by decide +kernel
theorem dX1_init_12 : decode cX1_init 12 = .ok (.putfield 10, 3) := by decide +kernel
theorem dX1_init_15 : decode cX1_init 15 = .ok (.aload_n 0, 1) := by decide +kernel
theorem dX1_init_16 : decode cX1_init 16 = .ok (.new 7, 3) := by decide +kernel
theorem dX1_init_19 : decode cX1_init 19 = .ok (.dup, 1) := by decide +kernel
theorem dX1_init_20 : decode cX1_init 20 = .ok (.invokespecial 9, 3) := by decide +kernel
theorem dX1_init_23 : decode cX1_init 23 = .ok (.putfield 16, 3) := by decide +kernel
theorem dX1_init_26 : decode cX1_init 26 = .ok (.aload_n 0, 1) := by decide +kernel
theorem dX1_init_27 : decode cX1_init 27 = .ok (.new 7, 3) := by decide +kernel
theorem dX1_init_30 : decode cX1_init 30 = .ok (.dup, 1) := by decide +kernel
theorem dX1_init_31 : decode cX1_init 31 = .ok (.invokespecial 9, 3) := by decide +kernel
theorem dX1_init_34 : decode cX1_init 34 = .ok (.putfield 19, 3) := by decide +kernel
theorem dX1_init_37 : decode cX1_init 37 = .ok (.aload_n 0, 1) := by decide +kernel
theorem dX1_init_38 : decode cX1_init 38 = .ok (.sipush 200, 3) := by decide +kernel
theorem dX1_init_41 : decode cX1_init 41 = .ok (.newarray .boolean, 2) := by decide +kernel
theorem dX1_init_43 : decode cX1_init 43 = .ok (.putfield 22, 3) := by decide +kernel
theorem dX1_init_46 : decode cX1_init 46 = .ok (.aload_n 0, 1) := by decide +kernel
theorem dX1_init_47 : decode cX1_init 47 = .ok (.sipush 200, 3) := by decide +kernel
theorem dX1_init_50 : decode cX1_init 50 = .ok (.newarray .int, 2) := by decide +kernel
theorem dX1_init_52 : decode cX1_init 52 = .ok (.putfield 26, 3) := by decide +kernel
theorem dX1_init_55 : decode cX1_init 55 = .ok (.aload_n 0, 1) := by decide +kernel
theorem dX1_init_56 : decode cX1_init 56 = .ok (.sipush 200, 3) := by decide +kernel
theorem dX1_init_59 : decode cX1_init 59 = .ok (.newarray .int, 2) := by decide +kernel
theorem dX1_init_61 : decode cX1_init 61 = .ok (.putfield 30, 3) := by decide +kernel
theorem dX1_init_64 : decode cX1_init 64 = .ok (.aload_n 0, 1) := by decide +kernel
theorem dX1_init_65 : decode cX1_init 65 = .ok (.sipush 200, 3) := by decide +kernel
theorem dX1_init_68 : decode cX1_init 68 = .ok (.newarray .int, 2) := by decide +kernel
theorem dX1_init_70 : decode cX1_init 70 = .ok (.putfield 33, 3) := by decide +kernel
theorem dX1_init_73 : decode cX1_init 73 = .ok (.aload_n 0, 1) := by decide +kernel
theorem dX1_init_74 : decode cX1_init 74 = .ok (.sipush 200, 3) := by decide +kernel
theorem dX1_init_77 : decode cX1_init 77 = .ok (.newarray .int, 2) := by decide +kernel
theorem dX1_init_79 : decode cX1_init 79 = .ok (.putfield 36, 3) := by decide +kernel
theorem dX1_init_82 : decode cX1_init 82 = .ok (.aload_n 0, 1) := by decide +kernel
theorem dX1_init_83 : decode cX1_init 83 = .ok (.sipush 200, 3) := by decide +kernel
theorem dX1_init_86 : decode cX1_init 86 = .ok (.newarray .int, 2) := by decide +kernel
theorem dX1_init_88 : decode cX1_init 88 = .ok (.putfield 39, 3) := by decide +kernel
theorem dX1_init_91 : decode cX1_init 91 = .ok (.aload_n 0, 1) := by decide +kernel
theorem dX1_init_92 : decode cX1_init 92 = .ok (.iconst 1, 1) := by decide +kernel
theorem dX1_init_93 : decode cX1_init 93 = .ok (.putfield 42, 3) := by decide +kernel
theorem dX1_init_96 : decode cX1_init 96 = .ok (.aload_n 0, 1) := by decide +kernel
theorem dX1_init_97 : decode cX1_init 97 = .ok (.iconst 0, 1) := by decide +kernel
theorem dX1_init_98 : decode cX1_init 98 = .ok (.putfield 46, 3) := by decide +kernel
theorem dX1_init_101 : decode cX1_init 101 = .ok (.aload_n 0, 1) := by decide +kernel
theorem dX1_init_102 : decode cX1_init 102 = .ok (.iconst 0, 1) := by decide +kernel
theorem dX1_init_103 : decode cX1_init 103 = .ok (.putfield 49, 3) := by decide +kernel
theorem dX1_init_106 : decode cX1_init 106 = .ok (.return_, 1) := by decide +kernel
set_option maxRecDepth 20000 in
theorem ggX1_size_X0_clear : GoodIn wsX1_size wsX0_clear := goodIn_r _ [9, 10, 11, 12, 13, 14, 27] (by decide +kernel) (by decide +kernel)
set_option maxRecDepth 20000 in
theorem gX1_size_X0_clear : GoodIn wsX1_size (wsV RX1 52 RX0 yX0_clear wsX0_clear) := goodIn_app (goodIn_of _ (by decide +kernel)) ggX1_size_X0_clear
theorem dX1_size_0 : decode cX1_size 0 = .ok (.iload_n 1, 1) := by decide +kernel
theorem dX1_size_1 : decode cX1_size 1 = .ok (.iconst 1, 1) := by decide +kernel
theorem dX1_size_2 : decode cX1_size 2 = .ok (.if_icmp .lt 10, 3) := by decide +kernel
theorem dX1_size_5 : decode cX1_size 5 = .ok (.iload_n 1, 1) := by decide +kernel
theorem dX1_size_6 : decode cX1_size 6 = .ok (.sipush 200, 3) := by decide +kernel
theorem dX1_size_9 : decode cX1_size 9 = .ok (.if_icmp .le 5, 3) := by decide +kernel
theorem dX1_size_12 : decode cX1_size 12 = .ok (.iconst 0, 1) := by decide +kernel
theorem dX1_size_13 : decode cX1_size 13 = .ok (.ireturn, 1) := by decide +kernel
theorem dX1_size_14 : decode cX1_size 14 = .ok (.aload_n 0, 1) := by decide +kernel
theorem dX1_size_15 : decode cX1_size 15 = .ok (.iload_n 1, 1) := by decide +kernel
theorem dX1_size_16 : decode cX1_size 16 = .ok (.putfield 42, 3) := by decide +kernel
theorem dX1_size_19 : decode cX1_size 19 = .ok (.aload_n 0, 1) := by decide +kernel
theorem dX1_size_20 : decode cX1_size 20 = .ok (.getfield 10, 3) := by decide +kernel
theorem dX1_size_23 : decode cX1_size 23 = .ok (.invokevirtual 52, 3) := by decide +kernel
theorem dX1_size_26 : decode cX1_size 26 = .ok (.aload_n 0, 1) := by decide +kernel
theorem dX1_size_27 : decode cX1_size 27 = .ok (.getfield 16, 3) := by decide +kernel
theorem dX1_size_30 : decode cX1_size 30 = .ok (.invokevirtual 52, 3) := by decide +kernel
theorem dX1_size_33 : decode cX1_size 33 = .ok (.aload_n 0, 1) := by decide +kernel
theorem dX1_size_34 : decode cX1_size 34 = .ok (.iconst 0, 1) := by decide +kernel
theorem dX1_size_35 : decode cX1_size 35 = .ok (.putfield 49, 3) := by decide +kernel
theorem dX1_size_38 : decode cX1_size 38 = .ok (.iconst 1, 1) := by decide +kernel
theorem dX1_size_39 : decode cX1_size 39 = .ok (.ireturn, 1) := by decide +kernel
set_option maxRecDepth 20000 in
theorem ggX1_edge_X1_isBlock : GoodIn wsX1_edge wsX1_isBlock := goodIn_r _ [8, 9, 24, 25, 26, 27, 28, 29, 30, 31, 32, 33, 34, 35] (by decide +kernel) (by decide +kernel)
set_option maxRecDepth 20000 in
theorem gX1_edge_X1_isBlock : GoodIn wsX1_edge (wsV RX1 55 RX1 yX1_isBlock wsX1_isBlock) := goodIn_app (goodIn_of _ (by decide +kernel)) ggX1_edge_X1_isBlock
set_option maxRecDepth 20000 in
theorem ggX1_edge_X0_holds : GoodIn wsX1_edge wsX0_holds := goodIn_r _ [14, 15, 16, 17, 13, 18, 36] (by decide +kernel) (by decide +kernel)
set_option maxRecDepth 20000 in
theorem gX1_edge_X0_holds : GoodIn wsX1_edge (wsV RX1 59 RX0 yX0_holds wsX0_holds) := goodIn_app (goodIn_of _ (by decide +kernel)) ggX1_edge_X0_holds
set_option maxRecDepth 20000 in
theorem ggX1_edge_X0_put : GoodIn wsX1_edge wsX0_put := goodIn_r _ [22, 15, 23, 16, 17, 13, 18, 36] (by decide +kernel) (by decide +kernel)
set_option maxRecDepth 20000 in
theorem gX1_edge_X0_put : GoodIn wsX1_edge (wsV RX1 63 RX0 yX0_put wsX0_put) := goodIn_app (goodIn_of _ (by decide +kernel)) ggX1_edge_X0_put
theorem dX1_edge_0 : decode cX1_edge 0 = .ok (.aload_n 0, 1) := by decide +kernel
theorem dX1_edge_1 : decode cX1_edge 1 = .ok (.iload_n 1, 1) := by decide +kernel
theorem dX1_edge_2 : decode cX1_edge 2 = .ok (.invokevirtual 55, 3) := by decide +kernel
theorem dX1_edge_5 : decode cX1_edge 5 = .ok (.ifCond .eq 24, 3) := by decide +kernel
theorem dX1_edge_8 : decode cX1_edge 8 = .ok (.aload_n 0, 1) := by decide +kernel
theorem dX1_edge_9 : decode cX1_edge 9 = .ok (.iload_n 2, 1) := by decide +kernel
theorem dX1_edge_10 : decode cX1_edge 10 = .ok (.invokevirtual 55, 3) := by decide +kernel
theorem dX1_edge_13 : decode cX1_edge 13 = .ok (.ifCond .eq 16, 3) := by decide +kernel
theorem dX1_edge_16 : decode cX1_edge 16 = .ok (.aload_n 0, 1) := by decide +kernel
theorem dX1_edge_17 : decode cX1_edge 17 = .ok (.getfield 10, 3) := by decide +kernel
theorem dX1_edge_20 : decode cX1_edge 20 = .ok (.iload_n 1, 1) := by decide +kernel
theorem dX1_edge_21 : decode cX1_edge 21 = .ok (.iload_n 2, 1) := by decide +kernel
theorem dX1_edge_22 : decode cX1_edge 22 = .ok (.invokevirtual 59, 3) := by decide +kernel
theorem dX1_edge_25 : decode cX1_edge 25 = .ok (.iload_n 3, 1) := by decide +kernel
theorem dX1_edge_26 : decode cX1_edge 26 = .ok (.if_icmp .ne 5, 3) := by decide +kernel
theorem dX1_edge_29 : decode cX1_edge 29 = .ok (.iconst 0, 1) := by decide +kernel
theorem dX1_edge_30 : decode cX1_edge 30 = .ok (.ireturn, 1) := by decide +kernel
theorem dX1_edge_31 : decode cX1_edge 31 = .ok (.aload_n 0, 1) := by decide +kernel
theorem dX1_edge_32 : decode cX1_edge 32 = .ok (.getfield 10, 3) := by decide +kernel
theorem dX1_edge_35 : decode cX1_edge 35 = .ok (.iload_n 1, 1) := by decide +kernel
theorem dX1_edge_36 : decode cX1_edge 36 = .ok (.iload_n 2, 1) := by decide +kernel
theorem dX1_edge_37 : decode cX1_edge 37 = .ok (.iload_n 3, 1) := by decide +kernel
theorem dX1_edge_38 : decode cX1_edge 38 = .ok (.invokevirtual 63, 3) := by decide +kernel
theorem dX1_edge_41 : decode cX1_edge 41 = .ok (.aload_n 0, 1) := by decide +kernel
theorem dX1_edge_42 : decode cX1_edge 42 = .ok (.getfield 16, 3) := by decide +kernel
theorem dX1_edge_45 : decode cX1_edge 45 = .ok (.iload_n 2, 1) := by decide +kernel
theorem dX1_edge_46 : decode cX1_edge 46 = .ok (.iload_n 1, 1) := by decide +kernel
theorem dX1_edge_47 : decode cX1_edge 47 = .ok (.iload_n 3, 1) := by decide +kernel
theorem dX1_edge_48 : decode cX1_edge 48 = .ok (.invokevirtual 63, 3) := by decide +kernel
theorem dX1_edge_51 : decode cX1_edge 51 = .ok (.aload_n 0, 1) := by decide +kernel
theorem dX1_edge_52 : decode cX1_edge 52 = .ok (.iconst 0, 1) := by decide +kernel
theorem dX1_edge_53 : decode cX1_edge 53 = .ok (.putfield 49, 3) := by decide +kernel
theorem dX1_edge_56 : decode cX1_edge 56 = .ok (.iconst 1, 1) := by decide +kernel
theorem dX1_edge_57 : decode cX1_edge 57 = .ok (.ireturn, 1) := by decide +kernel
set_option maxRecDepth 20000 in
theorem ggX1_has_X1_isBlock : GoodIn wsX1_has wsX1_isBlock := goodIn_r _ [6, 7, 17, 18, 19, 20, 21, 22, 23, 24, 25, 26, 27, 28] (by decide +kernel) (by decide +kernel)
set_option maxRecDepth 20000 in
theorem gX1_has_X1_isBlock : GoodIn wsX1_has (wsV RX1 55 RX1 yX1_isBlock wsX1_isBlock) := goodIn_app (goodIn_of _ (by decide +kernel)) ggX1_has_X1_isBlock
set_option maxRecDepth 20000 in
theorem ggX1_has_X0_holds : GoodIn wsX1_has wsX0_holds := goodIn_r _ [12, 13, 14, 15, 11, 16, 29] (by decide +kernel) (by decide +kernel)
set_option maxRecDepth 20000 in
theorem gX1_has_X0_holds : GoodIn wsX1_has (wsV RX1 59 RX0 yX0_holds wsX0_holds) := goodIn_app (goodIn_of _ (by decide +kernel)) ggX1_has_X0_holds
theorem dX1_has_0 : decode cX1_has 0 = .ok (.aload_n 0, 1) := by decide +kernel
theorem dX1_has_1 : decode cX1_has 1 = .ok (.iload_n 1, 1) := by decide +kernel
theorem dX1_has_2 : decode cX1_has 2 = .ok (.invokevirtual 55, 3) := by decide +kernel
theorem dX1_has_5 : decode cX1_has 5 = .ok (.ifCond .eq 27, 3) := by decide +kernel
theorem dX1_has_8 : decode cX1_has 8 = .ok (.aload_n 0, 1) := by decide +kernel
theorem dX1_has_9 : decode cX1_has 9 = .ok (.iload_n 2, 1) := by decide +kernel
theorem dX1_has_10 : decode cX1_has 10 = .ok (.invokevirtual 55, 3) := by decide +kernel
theorem dX1_has_13 : decode cX1_has 13 = .ok (.ifCond .eq 19, 3) := by decide +kernel
theorem dX1_has_16 : decode cX1_has 16 = .ok (.aload_n 0, 1) := by decide +kernel
theorem dX1_has_17 : decode cX1_has 17 = .ok (.getfield 10, 3) := by decide +kernel
theorem dX1_has_20 : decode cX1_has 20 = .ok (.iload_n 1, 1) := by decide +kernel
theorem dX1_has_21 : decode cX1_has 21 = .ok (.iload_n 2, 1) := by decide +kernel
theorem dX1_has_22 : decode cX1_has 22 = .ok (.invokevirtual 59, 3) := by decide +kernel
theorem dX1_has_25 : decode cX1_has 25 = .ok (.ifCond .eq 7, 3) := by decide +kernel
theorem dX1_has_28 : decode cX1_has 28 = .ok (.iconst 1, 1) := by decide +kernel
theorem dX1_has_29 : decode cX1_has 29 = .ok (.goto 4, 3) := by decide +kernel
theorem dX1_has_32 : decode cX1_has 32 = .ok (.iconst 0, 1) := by decide +kernel
theorem dX1_has_33 : decode cX1_has 33 = .ok (.ireturn, 1) := by decide +kernel
set_option maxRecDepth 20000 in
theorem ggX1_reached_X1_isBlock : GoodIn wsX1_reached wsX1_isBlock := goodIn_r _ [6, 7, 36, 37, 38, 39, 40, 41, 42, 43, 44, 45, 46, 47] (by decide +kernel) (by decide +kernel)
set_option maxRecDepth 20000 in
theorem gX1_reached_X1_isBlock : GoodIn wsX1_reached (wsV RX1 55 RX1 yX1_isBlock wsX1_isBlock) := goodIn_app (goodIn_of _ (by decide +kernel)) ggX1_reached_X1_isBlock
set_option maxRecDepth 20000 in
theorem ggX1_reached_X1_findReached : GoodIn wsX1_reached wsX1_findReached := goodIn_r _ [11, 12, 7, 1, 13, 14, 15, 16, 17, 18, 19, 5, 20, 21, 22, 23, 24, 25, 26, 27, 28, 29, 30, 31, 32, 33, 34, 35, 36, 37, 38, 39, 40, 41, 42, 43, 44, 45, 46, 47, 48] (by decide +kernel) (by decide +kernel)
set_option maxRecDepth 20000 in
theorem gX1_reached_X1_findReached : GoodIn wsX1_reached (wsV RX1 67 RX1 yX1_findReached wsX1_findReached) := goodIn_app (goodIn_of _ (by decide +kernel)) ggX1_reached_X1_findReached
theorem dX1_reached_0 : decode cX1_reached 0 = .ok (.aload_n 0, 1) := by decide +kernel
theorem dX1_reached_1 : decode cX1_reached 1 = .ok (.iload_n 1, 1) := by decide +kernel
theorem dX1_reached_2 : decode cX1_reached 2 = .ok (.invokevirtual 55, 3) := by decide +kernel
theorem dX1_reached_5 : decode cX1_reached 5 = .ok (.ifCond .ne 5, 3) := by decide +kernel
theorem dX1_reached_8 : decode cX1_reached 8 = .ok (.iconst 0, 1) := by decide +kernel
theorem dX1_reached_9 : decode cX1_reached 9 = .ok (.ireturn, 1) := by decide +kernel
theorem dX1_reached_10 : decode cX1_reached 10 = .ok (.aload_n 0, 1) := by decide +kernel
theorem dX1_reached_11 : decode cX1_reached 11 = .ok (.invokevirtual 67, 3) := by decide +kernel
theorem dX1_reached_14 : decode cX1_reached 14 = .ok (.aload_n 0, 1) := by decide +kernel
theorem dX1_reached_15 : decode cX1_reached 15 = .ok (.getfield 22, 3) := by decide +kernel
theorem dX1_reached_18 : decode cX1_reached 18 = .ok (.iload_n 1, 1) := by decide +kernel
theorem dX1_reached_19 : decode cX1_reached 19 = .ok (.baload, 1) := by decide +kernel
theorem dX1_reached_20 : decode cX1_reached 20 = .ok (.ireturn, 1) := by decide +kernel
set_option maxRecDepth 20000 in
theorem ggX1_reachedOnes_X1_findReached : GoodIn wsX1_reachedOnes wsX1_findReached := goodIn_r _ [7, 8, 1, 9, 10, 11, 2, 12, 13, 14, 15, 6, 16, 17, 18, 19, 20, 21, 22, 23, 24, 25, 26, 27, 28, 29, 30, 31, 32, 33, 34, 35, 36, 37, 38, 39, 40, 41, 42, 43, 44] (by decide +kernel) (by decide +kernel)
set_option maxRecDepth 20000 in
theorem gX1_reachedOnes_X1_findReached : GoodIn wsX1_reachedOnes (wsV RX1 67 RX1 yX1_findReached wsX1_findReached) := goodIn_app (goodIn_of _ (by decide +kernel)) ggX1_reachedOnes_X1_findReached
theorem dX1_reachedOnes_0 : decode cX1_reachedOnes 0 = .ok (.aload_n 0, 1) := by decide +kernel
theorem dX1_reachedOnes_1 : decode cX1_reachedOnes 1 = .ok (.invokevirtual 67, 3) := by decide +kernel
theorem dX1_reachedOnes_4 : decode cX1_reachedOnes 4 = .ok (.aload_n 0, 1) := by decide +kernel
theorem dX1_reachedOnes_5 : decode cX1_reachedOnes 5 = .ok (.getfield 42, 3) := by decide +kernel
theorem dX1_reachedOnes_8 : decode cX1_reachedOnes 8 = .ok (.aload_n 0, 1) := by decide +kernel
theorem dX1_reachedOnes_9 : decode cX1_reachedOnes 9 = .ok (.getfield 46, 3) := by decide +kernel
theorem dX1_reachedOnes_12 : decode cX1_reachedOnes 12 = .ok (.isub, 1) := by decide +kernel
theorem dX1_reachedOnes_13 : decode cX1_reachedOnes 13 = .ok (.ireturn, 1) := by decide +kernel
set_option maxRecDepth 20000 in
theorem ggX1_dominator_X1_isBlock : GoodIn wsX1_dominator wsX1_isBlock := goodIn_r _ [7, 2, 83, 84, 85, 86, 87, 88, 89, 90, 91, 92, 93, 94] (by decide +kernel) (by decide +kernel)
set_option maxRecDepth 20000 in
theorem gX1_dominator_X1_isBlock : GoodIn wsX1_dominator (wsV RX1 55 RX1 yX1_isBlock wsX1_isBlock) := goodIn_app (goodIn_of _ (by decide +kernel)) ggX1_dominator_X1_isBlock
set_option maxRecDepth 20000 in
theorem ggX1_dominator_X1_findDominators : GoodIn wsX1_dominator wsX1_findDominators := goodIn_r _ [11, 12, 2, 13, 14, 15, 6, 16, 17, 18, 19, 20, 21, 22, 23, 24, 25, 26, 27, 28, 29, 30, 31, 32, 33, 34, 35, 36, 37, 38, 39, 40, 41, 42, 43, 44, 1, 45, 46, 47, 48, 49, 50, 51, 52, 53, 54, 55, 56, 57, 58, 59, 60, 61, 62, 63, 64, 65, 66, 67, 68, 69, 70, 71, 72, 73, 74, 75, 76, 77, 78, 83, 84, 85, 86, 87, 88, 89, 90, 91, 92, 93, 94, 95] (by decide +kernel) (by decide +kernel)
set_option maxRecDepth 20000 in
theorem gX1_dominator_X1_findDominators : GoodIn wsX1_dominator (wsV RX1 70 RX1 yX1_findDominators wsX1_findDominators) := goodIn_app (goodIn_of _ (by decide +kernel)) ggX1_dominator_X1_findDominators
set_option maxRecDepth 20000 in
theorem ggX1_dominator_X0_count : GoodIn wsX1_dominator wsX0_count := goodIn_r _ [82, 33, 34, 35, 36, 37, 38, 39, 40, 95] (by decide +kernel) (by decide +kernel)
set_option maxRecDepth 20000 in
theorem gX1_dominator_X0_count : GoodIn wsX1_dominator (wsV RX1 73 RX0 yX0_count wsX0_count) := goodIn_app (goodIn_of _ (by decide +kernel)) ggX1_dominator_X0_count
set_option maxRecDepth 20000 in
theorem ggX1_dominator_X0_next : GoodIn wsX1_dominator wsX0_next := goodIn_r _ [31, 32, 33, 34, 35, 36, 37, 38, 39, 40, 95] (by decide +kernel) (by decide +kernel)
set_option maxRecDepth 20000 in
theorem gX1_dominator_X0_next : GoodIn wsX1_dominator (wsV RX1 77 RX0 yX0_next wsX0_next) := goodIn_app (goodIn_of _ (by decide +kernel)) ggX1_dominator_X0_next
theorem dX1_dominator_0 : decode cX1_dominator 0 = .ok (.aload_n 0, 1) := by decide +kernel
theorem dX1_dominator_1 : decode cX1_dominator 1 = .ok (.iload_n 1, 1) := by decide +kernel
theorem dX1_dominator_2 : decode cX1_dominator 2 = .ok (.invokevirtual 55, 3) := by decide +kernel
theorem dX1_dominator_5 : decode cX1_dominator 5 = .ok (.ifCond .ne 5, 3) := by decide +kernel
theorem dX1_dominator_8 : decode cX1_dominator 8 = .ok (.iconst (-1), 1) := by decide +kernel
theorem dX1_dominator_9 : decode cX1_dominator 9 = .ok (.ireturn, 1) := by decide +kernel
theorem dX1_dominator_10 : decode cX1_dominator 10 = .ok (.aload_n 0, 1) := by decide +kernel
theorem dX1_dominator_11 : decode cX1_dominator 11 = .ok (.invokevirtual 70, 3) := by decide +kernel
theorem dX1_dominator_14 : decode cX1_dominator 14 = .ok (.aload_n 0, 1) := by decide +kernel
theorem dX1_dominator_15 : decode cX1_dominator 15 = .ok (.getfield 19, 3) := by decide +kernel
theorem dX1_dominator_18 : decode cX1_dominator 18 = .ok (.iload_n 1, 1) := by decide +kernel
theorem dX1_dominator_19 : decode cX1_dominator 19 = .ok (.invokevirtual 73, 3) := by decide +kernel
theorem dX1_dominator_22 : decode cX1_dominator 22 = .ok (.iconst 1, 1) := by decide +kernel
theorem dX1_dominator_23 : decode cX1_dominator 23 = .ok (.isub, 1) := by decide +kernel
theorem dX1_dominator_24 : decode cX1_dominator 24 = .ok (.istore_n 2, 1) := by decide +kernel
theorem dX1_dominator_25 : decode cX1_dominator 25 = .ok (.aload_n 0, 1) := by decide +kernel
theorem dX1_dominator_26 : decode cX1_dominator 26 = .ok (.getfield 19, 3) := by decide +kernel
theorem dX1_dominator_29 : decode cX1_dominator 29 = .ok (.iload_n 1, 1) := by decide +kernel
theorem dX1_dominator_30 : decode cX1_dominator 30 = .ok (.iconst 0, 1) := by decide +kernel
theorem dX1_dominator_31 : decode cX1_dominator 31 = .ok (.invokevirtual 77, 3) := by decide +kernel
theorem dX1_dominator_34 : decode cX1_dominator 34 = .ok (.istore_n 3, 1) := by decide +kernel
theorem dX1_dominator_35 : decode cX1_dominator 35 = .ok (.iload_n 3, 1) := by decide +kernel
theorem dX1_dominator_36 : decode cX1_dominator 36 = .ok (.aload_n 0, 1) := by decide +kernel
theorem dX1_dominator_37 : decode cX1_dominator 37 = .ok (.getfield 42, 3) := by decide +kernel
theorem dX1_dominator_40 : decode cX1_dominator 40 = .ok (.if_icmp .ge 32, 3) := by decide +kernel
theorem dX1_dominator_43 : decode cX1_dominator 43 = .ok (.aload_n 0, 1) := by decide +kernel
theorem dX1_dominator_44 : decode cX1_dominator 44 = .ok (.getfield 19, 3) := by decide +kernel
theorem dX1_dominator_47 : decode cX1_dominator 47 = .ok (.iload_n 3, 1) := by decide +kernel
theorem dX1_dominator_48 : decode cX1_dominator 48 = .ok (.invokevirtual 73, 3) := by decide +kernel
theorem dX1_dominator_51 : decode cX1_dominator 51 = .ok (.iload_n 2, 1) := by decide +kernel
theorem dX1_dominator_52 : decode cX1_dominator 52 = .ok (.if_icmp .ne 5, 3) := by decide +kernel
theorem dX1_dominator_55 : decode cX1_dominator 55 = .ok (.iload_n 3, 1) := by decide +kernel
theorem dX1_dominator_56 : decode cX1_dominator 56 = .ok (.ireturn, 1) := by decide +kernel
theorem dX1_dominator_57 : decode cX1_dominator 57 = .ok (.aload_n 0, 1) := by decide +kernel
theorem dX1_dominator_58 : decode cX1_dominator 58 = .ok (.getfield 19, 3) := by decide +kernel
theorem dX1_dominator_61 : decode cX1_dominator 61 = .ok (.iload_n 1, 1) := by decide +kernel
theorem dX1_dominator_62 : decode cX1_dominator 62 = .ok (.iload_n 3, 1) := by decide +kernel
theorem dX1_dominator_63 : decode cX1_dominator 63 = .ok (.iconst 1, 1) := by decide +kernel
theorem dX1_dominator_64 : decode cX1_dominator 64 = .ok (.iadd, 1) := by decide +kernel
theorem dX1_dominator_65 : decode cX1_dominator 65 = .ok (.invokevirtual 77, 3) := by decide +kernel
theorem dX1_dominator_68 : decode cX1_dominator 68 = .ok (.istore_n 3, 1) := by decide +kernel
theorem dX1_dominator_69 : decode cX1_dominator 69 = .ok (.goto (-34), 3) := by decide +kernel
theorem dX1_dominator_72 : decode cX1_dominator 72 = .ok (.iconst (-1), 1) := by decide +kernel
theorem dX1_dominator_73 : decode cX1_dominator 73 = .ok (.ireturn, 1) := by decide +kernel
set_option maxRecDepth 20000 in
theorem ggX1_dominates_X1_isBlock : GoodIn wsX1_dominates wsX1_isBlock := goodIn_r _ [6, 7, 83, 84, 85, 86, 87, 88, 89, 90, 91, 92, 93, 94] (by decide +kernel) (by decide +kernel)
set_option maxRecDepth 20000 in
theorem gX1_dominates_X1_isBlock : GoodIn wsX1_dominates (wsV RX1 55 RX1 yX1_isBlock wsX1_isBlock) := goodIn_app (goodIn_of _ (by decide +kernel)) ggX1_dominates_X1_isBlock
set_option maxRecDepth 20000 in
theorem ggX1_dominates_X1_findDominators : GoodIn wsX1_dominates wsX1_findDominators := goodIn_r _ [11, 12, 7, 13, 14, 15, 5, 16, 17, 18, 19, 20, 21, 22, 23, 24, 25, 26, 27, 28, 29, 30, 31, 32, 33, 34, 35, 36, 37, 38, 39, 40, 41, 42, 43, 44, 1, 45, 46, 47, 48, 49, 50, 51, 52, 53, 54, 55, 56, 57, 58, 59, 60, 61, 62, 63, 64, 65, 66, 67, 68, 69, 70, 71, 72, 73, 74, 75, 76, 77, 78, 83, 84, 85, 86, 87, 88, 89, 90, 91, 92, 93, 94, 95] (by decide +kernel) (by decide +kernel)
set_option maxRecDepth 20000 in
theorem gX1_dominates_X1_findDominators : GoodIn wsX1_dominates (wsV RX1 70 RX1 yX1_findDominators wsX1_findDominators) := goodIn_app (goodIn_of _ (by decide +kernel)) ggX1_dominates_X1_findDominators
set_option maxRecDepth 20000 in
theorem ggX1_dominates_X0_holds : GoodIn wsX1_dominates wsX0_holds := goodIn_r _ [82, 33, 57, 58, 30, 59, 95] (by decide +kernel) (by decide +kernel)
set_option maxRecDepth 20000 in
theorem gX1_dominates_X0_holds : GoodIn wsX1_dominates (wsV RX1 59 RX0 yX0_holds wsX0_holds) := goodIn_app (goodIn_of _ (by decide +kernel)) ggX1_dominates_X0_holds
theorem dX1_dominates_0 : decode cX1_dominates 0 = .ok (.aload_n 0, 1) := by decide +kernel
theorem dX1_dominates_1 : decode cX1_dominates 1 = .ok (.iload_n 1, 1) := by decide +kernel
theorem dX1_dominates_2 : decode cX1_dominates 2 = .ok (.invokevirtual 55, 3) := by decide +kernel
theorem dX1_dominates_5 : decode cX1_dominates 5 = .ok (.ifCond .eq 11, 3) := by decide +kernel
theorem dX1_dominates_8 : decode cX1_dominates 8 = .ok (.aload_n 0, 1) := by decide +kernel
theorem dX1_dominates_9 : decode cX1_dominates 9 = .ok (.iload_n 2, 1) := by decide +kernel
theorem dX1_dominates_10 : decode cX1_dominates 10 = .ok (.invokevirtual 55, 3) := by decide +kernel
theorem dX1_dominates_13 : decode cX1_dominates 13 = .ok (.ifCond .ne 5, 3) := by decide +kernel
theorem dX1_dominates_16 : decode cX1_dominates 16 = .ok (.iconst 0, 1) := by decide +kernel
theorem dX1_dominates_17 : decode cX1_dominates 17 = .ok (.ireturn, 1) := by decide +kernel
theorem dX1_dominates_18 : decode cX1_dominates 18 = .ok (.aload_n 0, 1) := by decide +kernel
theorem dX1_dominates_19 : decode cX1_dominates 19 = .ok (.invokevirtual 70, 3) := by decide +kernel
theorem dX1_dominates_22 : decode cX1_dominates 22 = .ok (.aload_n 0, 1) := by decide +kernel
theorem dX1_dominates_23 : decode cX1_dominates 23 = .ok (.getfield 19, 3) := by decide +kernel
theorem dX1_dominates_26 : decode cX1_dominates 26 = .ok (.iload_n 2, 1) := by decide +kernel
theorem dX1_dominates_27 : decode cX1_dominates 27 = .ok (.iload_n 1, 1) := by decide +kernel
theorem dX1_dominates_28 : decode cX1_dominates 28 = .ok (.invokevirtual 59, 3) := by decide +kernel
theorem dX1_dominates_31 : decode cX1_dominates 31 = .ok (.ireturn, 1) := by decide +kernel
set_option maxRecDepth 20000 in
theorem ggX1_head_X1_isBlock : GoodIn wsX1_head wsX1_isBlock := goodIn_r _ [5, 6, 87, 88, 89, 90, 91, 92, 93, 94, 95, 96, 97, 98] (by decide +kernel) (by decide +kernel)
set_option maxRecDepth 20000 in
theorem gX1_head_X1_isBlock : GoodIn wsX1_head (wsV RX1 55 RX1 yX1_isBlock wsX1_isBlock) := goodIn_app (goodIn_of _ (by decide +kernel)) ggX1_head_X1_isBlock
set_option maxRecDepth 20000 in
theorem ggX1_head_X1_findDominators : GoodIn wsX1_head wsX1_findDominators := goodIn_r _ [10, 11, 6, 12, 13, 14, 4, 15, 16, 17, 18, 19, 20, 21, 22, 23, 24, 25, 26, 27, 28, 29, 30, 31, 32, 33, 34, 35, 36, 37, 38, 39, 40, 41, 42, 43, 44, 45, 46, 47, 48, 49, 50, 51, 52, 53, 54, 55, 56, 57, 58, 59, 60, 61, 62, 63, 64, 65, 66, 67, 68, 69, 70, 71, 72, 73, 74, 75, 76, 77, 78, 87, 88, 89, 90, 91, 92, 93, 94, 95, 96, 97, 98, 99] (by decide +kernel) (by decide +kernel)
set_option maxRecDepth 20000 in
theorem gX1_head_X1_findDominators : GoodIn wsX1_head (wsV RX1 70 RX1 yX1_findDominators wsX1_findDominators) := goodIn_app (goodIn_of _ (by decide +kernel)) ggX1_head_X1_findDominators
set_option maxRecDepth 20000 in
theorem ggX1_head_X1_isHead : GoodIn wsX1_head wsX1_isHead := goodIn_r _ [82, 74, 6, 44, 26, 27, 28, 29, 30, 31, 32, 33, 34, 35, 36, 37, 38, 39, 83, 84, 85, 86, 57, 58, 59, 87, 88, 89, 90, 91, 92, 93, 94, 95, 96, 97, 98, 99] (by decide +kernel) (by decide +kernel)
set_option maxRecDepth 20000 in
theorem gX1_head_X1_isHead : GoodIn wsX1_head (wsV RX1 81 RX1 yX1_isHead wsX1_isHead) := goodIn_app (goodIn_of _ (by decide +kernel)) ggX1_head_X1_isHead
theorem dX1_head_0 : decode cX1_head 0 = .ok (.aload_n 0, 1) := by decide +kernel
theorem dX1_head_1 : decode cX1_head 1 = .ok (.iload_n 1, 1) := by decide +kernel
theorem dX1_head_2 : decode cX1_head 2 = .ok (.invokevirtual 55, 3) := by decide +kernel
theorem dX1_head_5 : decode cX1_head 5 = .ok (.ifCond .ne 5, 3) := by decide +kernel
theorem dX1_head_8 : decode cX1_head 8 = .ok (.iconst 0, 1) := by decide +kernel
theorem dX1_head_9 : decode cX1_head 9 = .ok (.ireturn, 1) := by decide +kernel
theorem dX1_head_10 : decode cX1_head 10 = .ok (.aload_n 0, 1) := by decide +kernel
theorem dX1_head_11 : decode cX1_head 11 = .ok (.invokevirtual 70, 3) := by decide +kernel
theorem dX1_head_14 : decode cX1_head 14 = .ok (.aload_n 0, 1) := by decide +kernel
theorem dX1_head_15 : decode cX1_head 15 = .ok (.iload_n 1, 1) := by decide +kernel
theorem dX1_head_16 : decode cX1_head 16 = .ok (.invokevirtual 81, 3) := by decide +kernel
theorem dX1_head_19 : decode cX1_head 19 = .ok (.ireturn, 1) := by decide +kernel
set_option maxRecDepth 20000 in
theorem ggX1_depth_X1_isBlock : GoodIn wsX1_depth wsX1_isBlock := goodIn_r _ [6, 7, 104, 105, 106, 107, 108, 109, 110, 111, 112, 113, 114, 115] (by decide +kernel) (by decide +kernel)
set_option maxRecDepth 20000 in
theorem gX1_depth_X1_isBlock : GoodIn wsX1_depth (wsV RX1 55 RX1 yX1_isBlock wsX1_isBlock) := goodIn_app (goodIn_of _ (by decide +kernel)) ggX1_depth_X1_isBlock
set_option maxRecDepth 20000 in
theorem ggX1_depth_X1_findDepths : GoodIn wsX1_depth wsX1_findDepths := goodIn_r _ [11, 12, 1, 13, 14, 7, 15, 16, 17, 18, 5, 19, 20, 21, 22, 23, 24, 25, 26, 27, 28, 29, 30, 31, 32, 33, 34, 35, 36, 37, 38, 39, 40, 41, 42, 43, 44, 45, 46, 47, 48, 49, 50, 51, 52, 53, 54, 55, 56, 57, 58, 59, 60, 61, 62, 63, 64, 65, 66, 67, 68, 69, 70, 71, 72, 73, 74, 75, 76, 77, 78, 79, 80, 81, 82, 83, 84, 85, 86, 87, 88, 89, 90, 91, 92, 93, 94, 95, 96, 97, 98, 99, 100, 101, 102, 103, 104, 105, 106, 107, 108, 109, 110, 111, 112, 113, 114, 115, 116] (by decide +kernel) (by decide +kernel)
set_option maxRecDepth 20000 in
theorem gX1_depth_X1_findDepths : GoodIn wsX1_depth (wsV RX1 84 RX1 yX1_findDepths wsX1_findDepths) := goodIn_app (goodIn_of _ (by decide +kernel)) ggX1_depth_X1_findDepths
theorem dX1_depth_0 : decode cX1_depth 0 = .ok (.aload_n 0, 1) := by decide +kernel
theorem dX1_depth_1 : decode cX1_depth 1 = .ok (.iload_n 1, 1) := by decide +kernel
theorem dX1_depth_2 : decode cX1_depth 2 = .ok (.invokevirtual 55, 3) := by decide +kernel
theorem dX1_depth_5 : decode cX1_depth 5 = .ok (.ifCond .ne 5, 3) := by decide +kernel
theorem dX1_depth_8 : decode cX1_depth 8 = .ok (.iconst (-1), 1) := by decide +kernel
theorem dX1_depth_9 : decode cX1_depth 9 = .ok (.ireturn, 1) := by decide +kernel
theorem dX1_depth_10 : decode cX1_depth 10 = .ok (.aload_n 0, 1) := by decide +kernel
theorem dX1_depth_11 : decode cX1_depth 11 = .ok (.invokevirtual 84, 3) := by decide +kernel
theorem dX1_depth_14 : decode cX1_depth 14 = .ok (.aload_n 0, 1) := by decide +kernel
theorem dX1_depth_15 : decode cX1_depth 15 = .ok (.getfield 39, 3) := by decide +kernel
theorem dX1_depth_18 : decode cX1_depth 18 = .ok (.iload_n 1, 1) := by decide +kernel
theorem dX1_depth_19 : decode cX1_depth 19 = .ok (.iaload, 1) := by decide +kernel
theorem dX1_depth_20 : decode cX1_depth 20 = .ok (.ireturn, 1) := by decide +kernel
theorem dX1_isBlock_0 : decode cX1_isBlock 0 = .ok (.iload_n 1, 1) := by decide +kernel
theorem dX1_isBlock_1 : decode cX1_isBlock 1 = .ok (.ifCond .lt 15, 3) := by decide +kernel
theorem dX1_isBlock_4 : decode cX1_isBlock 4 = .ok (.iload_n 1, 1) := by decide +kernel
theorem dX1_isBlock_5 : decode cX1_isBlock 5 = .ok (.aload_n 0, 1) := by decide +kernel
theorem dX1_isBlock_6 : decode cX1_isBlock 6 = .ok (.getfield 42, 3) := by decide +kernel
theorem dX1_isBlock_9 : decode cX1_isBlock 9 = .ok (.if_icmp .ge 7, 3) := by decide +kernel
theorem dX1_isBlock_12 : decode cX1_isBlock 12 = .ok (.iconst 1, 1) := by decide +kernel
theorem dX1_isBlock_13 : decode cX1_isBlock 13 = .ok (.goto 4, 3) := by decide +kernel
theorem dX1_isBlock_16 : decode cX1_isBlock 16 = .ok (.iconst 0, 1) := by decide +kernel
theorem dX1_isBlock_17 : decode cX1_isBlock 17 = .ok (.ireturn, 1) := by decide +kernel
set_option maxRecDepth 20000 in
theorem ggX1_findReached_X1_takeUnreachedTarget : GoodIn wsX1_findReached wsX1_takeUnreachedTarget := goodIn_r _ [12, 13, 4, 2, 3, 14, 15, 16, 17, 18, 19, 20, 21, 22, 23, 24, 25, 26, 27, 28, 29, 30, 31, 32, 33, 34, 35, 36, 37, 38, 39, 40] (by decide +kernel) (by decide +kernel)
set_option maxRecDepth 20000 in
theorem gX1_findReached_X1_takeUnreachedTarget : GoodIn wsX1_findReached (wsV RX1 87 RX1 yX1_takeUnreachedTarget wsX1_takeUnreachedTarget) := goodIn_app (goodIn_of _ (by decide +kernel)) ggX1_findReached_X1_takeUnreachedTarget
theorem dX1_findReached_0 : decode cX1_findReached 0 = .ok (.aload_n 0, 1) := by decide +kernel
theorem dX1_findReached_1 : decode cX1_findReached 1 = .ok (.getfield 49, 3) := by decide +kernel
theorem dX1_findReached_4 : decode cX1_findReached 4 = .ok (.iconst 1, 1) := by decide +kernel
theorem dX1_findReached_5 : decode cX1_findReached 5 = .ok (.if_icmp .lt 4, 3) := by decide +kernel
theorem dX1_findReached_8 : decode cX1_findReached 8 = .ok (.return_, 1) := by decide +kernel
theorem dX1_findReached_9 : decode cX1_findReached 9 = .ok (.iconst 0, 1) := by decide +kernel
theorem dX1_findReached_10 : decode cX1_findReached 10 = .ok (.istore_n 1, 1) := by decide +kernel
theorem dX1_findReached_11 : decode cX1_findReached 11 = .ok (.iload_n 1, 1) := by decide +kernel
theorem dX1_findReached_12 : decode cX1_findReached 12 = .ok (.aload_n 0, 1) := by decide +kernel
theorem dX1_findReached_13 : decode cX1_findReached 13 = .ok (.getfield 42, 3) := by decide +kernel
theorem dX1_findReached_16 : decode cX1_findReached 16 = .ok (.if_icmp .ge 23, 3) := by decide +kernel
theorem dX1_findReached_19 : decode cX1_findReached 19 = .ok (.aload_n 0, 1) := by decide +kernel
theorem dX1_findReached_20 : decode cX1_findReached 20 = .ok (.getfield 22, 3) := by decide +kernel
theorem dX1_findReached_23 : decode cX1_findReached 23 = .ok (.iload_n 1, 1) := by decide +kernel
theorem dX1_findReached_24 : decode cX1_findReached 24 = .ok (.iconst 0, 1) := by decide +kernel
theorem dX1_findReached_25 : decode cX1_findReached 25 = .ok (.bastore, 1) := by decide +kernel
theorem dX1_findReached_26 : decode cX1_findReached 26 = .ok (.aload_n 0, 1) := by decide +kernel
theorem dX1_findReached_27 : decode cX1_findReached 27 = .ok (.getfield 30, 3) := by decide +kernel
theorem dX1_findReached_30 : decode cX1_findReached 30 = .ok (.iload_n 1, 1) := by decide +kernel
theorem dX1_findReached_31 : decode cX1_findReached 31 = .ok (.iconst 0, 1) := by decide +kernel
theorem dX1_findReached_32 : decode cX1_findReached 32 = .ok (.iastore, 1) := by decide +kernel
theorem dX1_findReached_33 : decode cX1_findReached 33 = .ok (.iinc 1 1, 3) := by decide +kernel
theorem dX1_findReached_36 : decode cX1_findReached 36 = .ok (.goto (-25), 3) := by decide +kernel
theorem dX1_findReached_39 : decode cX1_findReached 39 = .ok (.aload_n 0, 1) := by decide +kernel
theorem dX1_findReached_40 : decode cX1_findReached 40 = .ok (.getfield 22, 3) := by decide +kernel
theorem dX1_findReached_43 : decode cX1_findReached 43 = .ok (.iconst 0, 1) := by decide +kernel
theorem dX1_findReached_44 : decode cX1_findReached 44 = .ok (.iconst 1, 1) := by decide +kernel
theorem dX1_findReached_45 : decode cX1_findReached 45 = .ok (.bastore, 1) := by decide +kernel
theorem dX1_findReached_46 : decode cX1_findReached 46 = .ok (.aload_n 0, 1) := by decide +kernel
theorem dX1_findReached_47 : decode cX1_findReached 47 = .ok (.getfield 33, 3) := by decide +kernel
theorem dX1_findReached_50 : decode cX1_findReached 50 = .ok (.iconst 0, 1) := by decide +kernel
theorem dX1_findReached_51 : decode cX1_findReached 51 = .ok (.iconst 0, 1) := by decide +kernel
theorem dX1_findReached_52 : decode cX1_findReached 52 = .ok (.iastore, 1) := by decide +kernel
theorem dX1_findReached_53 : decode cX1_findReached 53 = .ok (.iconst 1, 1) := by decide +kernel
theorem dX1_findReached_54 : decode cX1_findReached 54 = .ok (.istore_n 1, 1) := by decide +kernel
theorem dX1_findReached_55 : decode cX1_findReached 55 = .ok (.aload_n 0, 1) := by decide +kernel
theorem dX1_findReached_56 : decode cX1_findReached 56 = .ok (.aload_n 0, 1) := by decide +kernel
theorem dX1_findReached_57 : decode cX1_findReached 57 = .ok (.getfield 42, 3) := by decide +kernel
theorem dX1_findReached_60 : decode cX1_findReached 60 = .ok (.putfield 46, 3) := by decide +kernel
theorem dX1_findReached_63 : decode cX1_findReached 63 = .ok (.iconst 0, 1) := by decide +kernel
theorem dX1_findReached_64 : decode cX1_findReached 64 = .ok (.istore_n 2, 1) := by decide +kernel
theorem dX1_findReached_65 : decode cX1_findReached 65 = .ok (.iload_n 2, 1) := by decide +kernel
theorem dX1_findReached_66 : decode cX1_findReached 66 = .ok (.iconst 2, 1) := by decide +kernel
theorem dX1_findReached_67 : decode cX1_findReached 67 = .ok (.aload_n 0, 1) := by decide +kernel
theorem dX1_findReached_68 : decode cX1_findReached 68 = .ok (.getfield 42, 3) := by decide +kernel
theorem dX1_findReached_71 : decode cX1_findReached 71 = .ok (.imul, 1) := by decide +kernel
theorem dX1_findReached_72 : decode cX1_findReached 72 = .ok (.if_icmp .ge 98, 3) := by decide +kernel
theorem dX1_findReached_75 : decode cX1_findReached 75 = .ok (.iload_n 1, 1) := by decide +kernel
theorem dX1_findReached_76 : decode cX1_findReached 76 = .ok (.ifCond .le 94, 3) := by decide +kernel
theorem dX1_findReached_79 : decode cX1_findReached 79 = .ok (.aload_n 0, 1) := by decide +kernel
theorem dX1_findReached_80 : decode cX1_findReached 80 = .ok (.getfield 46, 3) := by decide +kernel
theorem dX1_findReached_83 : decode cX1_findReached 83 = .ok (.ifCond .le 87, 3) := by decide +kernel
theorem dX1_findReached_86 : decode cX1_findReached 86 = .ok (.aload_n 0, 1) := by decide +kernel
theorem dX1_findReached_87 : decode cX1_findReached 87 = .ok (.getfield 33, 3) := by decide +kernel
theorem dX1_findReached_90 : decode cX1_findReached 90 = .ok (.iload_n 1, 1) := by decide +kernel
theorem dX1_findReached_91 : decode cX1_findReached 91 = .ok (.iconst 1, 1) := by decide +kernel
theorem dX1_findReached_92 : decode cX1_findReached 92 = .ok (.isub, 1) := by decide +kernel
theorem dX1_findReached_93 : decode cX1_findReached 93 = .ok (.iaload, 1) := by decide +kernel
theorem dX1_findReached_94 : decode cX1_findReached 94 = .ok (.istore_n 3, 1) := by decide +kernel
theorem dX1_findReached_95 : decode cX1_findReached 95 = .ok (.aload_n 0, 1) := by decide +kernel
theorem dX1_findReached_96 : decode cX1_findReached 96 = .ok (.iload_n 3, 1) := by decide +kernel
theorem dX1_findReached_97 : decode cX1_findReached 97 = .ok (.invokevirtual 87, 3) := by decide +kernel
theorem dX1_findReached_100 : decode cX1_findReached 100 = .ok (.istore 4, 2) := by decide +kernel
theorem dX1_findReached_102 : decode cX1_findReached 102 = .ok (.iload 4, 2) := by decide +kernel
theorem dX1_findReached_104 : decode cX1_findReached 104 = .ok (.aload_n 0, 1) := by decide +kernel
theorem dX1_findReached_105 : decode cX1_findReached 105 = .ok (.getfield 42, 3) := by decide +kernel
theorem dX1_findReached_108 : decode cX1_findReached 108 = .ok (.if_icmp .ge 33, 3) := by decide +kernel
theorem dX1_findReached_111 : decode cX1_findReached 111 = .ok (.iload_n 1, 1) := by decide +kernel
theorem dX1_findReached_112 : decode cX1_findReached 112 = .ok (.aload_n 0, 1) := by decide +kernel
theorem dX1_findReached_113 : decode cX1_findReached 113 = .ok (.getfield 42, 3) := by decide +kernel
theorem dX1_findReached_116 : decode cX1_findReached 116 = .ok (.if_icmp .ge 25, 3) := by decide +kernel
theorem dX1_findReached_119 : decode cX1_findReached 119 = .ok (.aload_n 0, 1) := by decide +kernel
theorem dX1_findReached_120 : decode cX1_findReached 120 = .ok (.getfield 22, 3) := by decide +kernel
theorem dX1_findReached_123 : decode cX1_findReached 123 = .ok (.iload 4, 2) := by decide +kernel
theorem dX1_findReached_125 : decode cX1_findReached 125 = .ok (.iconst 1, 1) := by decide +kernel
theorem dX1_findReached_126 : decode cX1_findReached 126 = .ok (.bastore, 1) := by decide +kernel
theorem dX1_findReached_127 : decode cX1_findReached 127 = .ok (.aload_n 0, 1) := by decide +kernel
theorem dX1_findReached_128 : decode cX1_findReached 128 = .ok (.getfield 33, 3) := by decide +kernel
theorem dX1_findReached_131 : decode cX1_findReached 131 = .ok (.iload_n 1, 1) := by decide +kernel
theorem dX1_findReached_132 : decode cX1_findReached 132 = .ok (.iload 4, 2) := by decide +kernel
theorem dX1_findReached_134 : decode cX1_findReached 134 = .ok (.iastore, 1) := by decide +kernel
theorem dX1_findReached_135 : decode cX1_findReached 135 = .ok (.iinc 1 1, 3) := by decide +kernel
theorem dX1_findReached_138 : decode cX1_findReached 138 = .ok (.goto 26, 3) := by decide +kernel
theorem dX1_findReached_141 : decode cX1_findReached 141 = .ok (.iinc 1 (-1), 3) := by decide +kernel
theorem dX1_findReached_144 : decode cX1_findReached 144 = .ok (.aload_n 0, 1) := by decide +kernel
theorem dX1_findReached_145 : decode cX1_findReached 145 = .ok (.dup, 1) := by decide +kernel
theorem dX1_findReached_146 : decode cX1_findReached 146 = .ok (.getfield 46, 3) := by decide +kernel
theorem dX1_findReached_149 : decode cX1_findReached 149 = .ok (.iconst 1, 1) := by decide +kernel
theorem dX1_findReached_150 : decode cX1_findReached 150 = .ok (.isub, 1) := by decide +kernel
theorem dX1_findReached_151 : decode cX1_findReached 151 = .ok (.putfield 46, 3) := by decide +kernel
theorem dX1_findReached_154 : decode cX1_findReached 154 = .ok (.aload_n 0, 1) := by decide +kernel
theorem dX1_findReached_155 : decode cX1_findReached 155 = .ok (.getfield 26, 3) := by decide +kernel
theorem dX1_findReached_158 : decode cX1_findReached 158 = .ok (.aload_n 0, 1) := by decide +kernel
theorem dX1_findReached_159 : decode cX1_findReached 159 = .ok (.getfield 46, 3) := by decide +kernel
theorem dX1_findReached_162 : decode cX1_findReached 162 = .ok (.iload_n 3, 1) := by decide +kernel
theorem dX1_findReached_163 : decode cX1_findReached 163 = .ok (.iastore, 1) := by decide +kernel
theorem dX1_findReached_164 : decode cX1_findReached 164 = .ok (.iinc 2 1, 3) := by decide +kernel
theorem dX1_findReached_167 : decode cX1_findReached 167 = .ok (.goto (-102), 3) := by decide +kernel
theorem dX1_findReached_170 : decode cX1_findReached 170 = .ok (.aload_n 0, 1) := by decide +kernel
theorem dX1_findReached_171 : decode cX1_findReached 171 = .ok (.iconst 1, 1) := by decide +kernel
theorem dX1_findReached_172 : decode cX1_findReached 172 = .ok (.putfield 49, 3) := by decide +kernel
theorem dX1_findReached_175 : decode cX1_findReached 175 = .ok (.return_, 1) := by decide +kernel
set_option maxRecDepth 20000 in
theorem ggX1_takeUnreachedTarget_X0_next : GoodIn wsX1_takeUnreachedTarget wsX0_next := goodIn_r _ [9, 10, 11, 12, 13, 14, 15, 16, 17, 18, 31] (by decide +kernel) (by decide +kernel)
set_option maxRecDepth 20000 in
theorem gX1_takeUnreachedTarget_X0_next : GoodIn wsX1_takeUnreachedTarget (wsV RX1 77 RX0 yX0_next wsX0_next) := goodIn_app (goodIn_of _ (by decide +kernel)) ggX1_takeUnreachedTarget_X0_next
theorem dX1_takeUnreachedTarget_0 : decode cX1_takeUnreachedTarget 0 = .ok (.aload_n 0, 1) := by decide +kernel
theorem dX1_takeUnreachedTarget_1 : decode cX1_takeUnreachedTarget 1 = .ok (.getfield 10, 3) := by decide +kernel
theorem dX1_takeUnreachedTarget_4 : decode cX1_takeUnreachedTarget 4 = .ok (.iload_n 1, 1) := by decide +kernel
theorem dX1_takeUnreachedTarget_5 : decode cX1_takeUnreachedTarget 5 = .ok (.aload_n 0, 1) := by decide +kernel
theorem dX1_takeUnreachedTarget_6 : decode cX1_takeUnreachedTarget 6 = .ok (.getfield 30, 3) := by decide +kernel
theorem dX1_takeUnreachedTarget_9 : decode cX1_takeUnreachedTarget 9 = .ok (.iload_n 1, 1) := by decide +kernel
theorem dX1_takeUnreachedTarget_10 : decode cX1_takeUnreachedTarget 10 = .ok (.iaload, 1) := by decide +kernel
theorem dX1_takeUnreachedTarget_11 : decode cX1_takeUnreachedTarget 11 = .ok (.invokevirtual 77, 3) := by decide +kernel
theorem dX1_takeUnreachedTarget_14 : decode cX1_takeUnreachedTarget 14 = .ok (.istore_n 2, 1) := by decide +kernel
theorem dX1_takeUnreachedTarget_15 : decode cX1_takeUnreachedTarget 15 = .ok (.iload_n 2, 1) := by decide +kernel
theorem dX1_takeUnreachedTarget_16 : decode cX1_takeUnreachedTarget 16 = .ok (.aload_n 0, 1) := by decide +kernel
theorem dX1_takeUnreachedTarget_17 : decode cX1_takeUnreachedTarget 17 = .ok (.getfield 42, 3) := by decide +kernel
theorem dX1_takeUnreachedTarget_20 : decode cX1_takeUnreachedTarget 20 = .ok (.if_icmp .ge 38, 3) := by decide +kernel
theorem dX1_takeUnreachedTarget_23 : decode cX1_takeUnreachedTarget 23 = .ok (.aload_n 0, 1) := by decide +kernel
theorem dX1_takeUnreachedTarget_24 : decode cX1_takeUnreachedTarget 24 = .ok (.getfield 22, 3) := by decide +kernel
theorem dX1_takeUnreachedTarget_27 : decode cX1_takeUnreachedTarget 27 = .ok (.iload_n 2, 1) := by decide +kernel
theorem dX1_takeUnreachedTarget_28 : decode cX1_takeUnreachedTarget 28 = .ok (.baload, 1) := by decide +kernel
theorem dX1_takeUnreachedTarget_29 : decode cX1_takeUnreachedTarget 29 = .ok (.ifCond .ne 14, 3) := by decide +kernel
theorem dX1_takeUnreachedTarget_32 : decode cX1_takeUnreachedTarget 32 = .ok (.aload_n 0, 1) := by decide +kernel
theorem dX1_takeUnreachedTarget_33 : decode cX1_takeUnreachedTarget 33 = .ok (.getfield 30, 3) := by decide +kernel
theorem dX1_takeUnreachedTarget_36 : decode cX1_takeUnreachedTarget 36 = .ok (.iload_n 1, 1) := by decide +kernel
theorem dX1_takeUnreachedTarget_37 : decode cX1_takeUnreachedTarget 37 = .ok (.iload_n 2, 1) := by decide +kernel
theorem dX1_takeUnreachedTarget_38 : decode cX1_takeUnreachedTarget 38 = .ok (.iconst 1, 1) := by decide +kernel
theorem dX1_takeUnreachedTarget_39 : decode cX1_takeUnreachedTarget 39 = .ok (.iadd, 1) := by decide +kernel
theorem dX1_takeUnreachedTarget_40 : decode cX1_takeUnreachedTarget 40 = .ok (.iastore, 1) := by decide +kernel
theorem dX1_takeUnreachedTarget_41 : decode cX1_takeUnreachedTarget 41 = .ok (.iload_n 2, 1) := by decide +kernel
theorem dX1_takeUnreachedTarget_42 : decode cX1_takeUnreachedTarget 42 = .ok (.ireturn, 1) := by decide +kernel
theorem dX1_takeUnreachedTarget_43 : decode cX1_takeUnreachedTarget 43 = .ok (.aload_n 0, 1) := by decide +kernel
theorem dX1_takeUnreachedTarget_44 : decode cX1_takeUnreachedTarget 44 = .ok (.getfield 10, 3) := by decide +kernel
theorem dX1_takeUnreachedTarget_47 : decode cX1_takeUnreachedTarget 47 = .ok (.iload_n 1, 1) := by decide +kernel
theorem dX1_takeUnreachedTarget_48 : decode cX1_takeUnreachedTarget 48 = .ok (.iload_n 2, 1) := by decide +kernel
theorem dX1_takeUnreachedTarget_49 : decode cX1_takeUnreachedTarget 49 = .ok (.iconst 1, 1) := by decide +kernel
theorem dX1_takeUnreachedTarget_50 : decode cX1_takeUnreachedTarget 50 = .ok (.iadd, 1) := by decide +kernel
theorem dX1_takeUnreachedTarget_51 : decode cX1_takeUnreachedTarget 51 = .ok (.invokevirtual 77, 3) := by decide +kernel
theorem dX1_takeUnreachedTarget_54 : decode cX1_takeUnreachedTarget 54 = .ok (.istore_n 2, 1) := by decide +kernel
theorem dX1_takeUnreachedTarget_55 : decode cX1_takeUnreachedTarget 55 = .ok (.goto (-40), 3) := by decide +kernel
theorem dX1_takeUnreachedTarget_58 : decode cX1_takeUnreachedTarget 58 = .ok (.aload_n 0, 1) := by decide +kernel
theorem dX1_takeUnreachedTarget_59 : decode cX1_takeUnreachedTarget 59 = .ok (.getfield 30, 3) := by decide +kernel
theorem dX1_takeUnreachedTarget_62 : decode cX1_takeUnreachedTarget 62 = .ok (.iload_n 1, 1) := by decide +kernel
theorem dX1_takeUnreachedTarget_63 : decode cX1_takeUnreachedTarget 63 = .ok (.aload_n 0, 1) := by decide +kernel
theorem dX1_takeUnreachedTarget_64 : decode cX1_takeUnreachedTarget 64 = .ok (.getfield 42, 3) := by decide +kernel
theorem dX1_takeUnreachedTarget_67 : decode cX1_takeUnreachedTarget 67 = .ok (.iastore, 1) := by decide +kernel
theorem dX1_takeUnreachedTarget_68 : decode cX1_takeUnreachedTarget 68 = .ok (.sipush 200, 3) := by decide +kernel
theorem dX1_takeUnreachedTarget_71 : decode cX1_takeUnreachedTarget 71 = .ok (.ireturn, 1) := by decide +kernel
set_option maxRecDepth 20000 in
theorem ggX1_findDominators_X1_findReached : GoodIn wsX1_findDominators wsX1_findReached := goodIn_r _ [7, 1, 2, 8, 9, 10, 11, 12, 13, 14, 15, 6, 16, 17, 18, 19, 20, 21, 22, 23, 24, 25, 26, 27, 28, 29, 30, 31, 71, 72, 73, 74, 75, 76, 77, 78, 79, 80, 81, 82, 83] (by decide +kernel) (by decide +kernel)
set_option maxRecDepth 20000 in
theorem gX1_findDominators_X1_findReached : GoodIn wsX1_findDominators (wsV RX1 67 RX1 yX1_findReached wsX1_findReached) := goodIn_app (goodIn_of _ (by decide +kernel)) ggX1_findDominators_X1_findReached
set_option maxRecDepth 20000 in
theorem ggX1_findDominators_X1_startDominators : GoodIn wsX1_findDominators wsX1_startDominators := goodIn_r _ [35, 36, 11, 2, 12, 37, 38, 39, 21, 40, 24, 41, 42, 43, 44, 45, 46, 47, 48, 23, 49, 50, 51, 52, 53, 54, 55, 56, 57, 58, 59, 60, 61, 71, 72, 73, 74, 75, 76, 77, 78, 79, 80, 81, 82, 83] (by decide +kernel) (by decide +kernel)
set_option maxRecDepth 20000 in
theorem gX1_findDominators_X1_startDominators : GoodIn wsX1_findDominators (wsV RX1 90 RX1 yX1_startDominators wsX1_startDominators) := goodIn_app (goodIn_of _ (by decide +kernel)) ggX1_findDominators_X1_startDominators
set_option maxRecDepth 20000 in
theorem ggX1_findDominators_X1_strikeOutDominators : GoodIn wsX1_findDominators wsX1_strikeOutDominators := goodIn_r _ [65, 11, 2, 12, 66, 8, 36, 18, 19, 20, 21, 22, 23, 24, 25, 26, 27, 28, 29, 30, 31, 67, 68, 69, 70, 49, 50, 51, 71, 72, 73, 74, 75, 76, 77, 78, 79, 80, 81, 82, 83] (by decide +kernel) (by decide +kernel)
set_option maxRecDepth 20000 in
theorem gX1_findDominators_X1_strikeOutDominators : GoodIn wsX1_findDominators (wsV RX1 93 RX1 yX1_strikeOutDominators wsX1_strikeOutDominators) := goodIn_app (goodIn_of _ (by decide +kernel)) ggX1_findDominators_X1_strikeOutDominators
theorem dX1_findDominators_0 : decode cX1_findDominators 0 = .ok (.aload_n 0, 1) := by decide +kernel
theorem dX1_findDominators_1 : decode cX1_findDominators 1 = .ok (.getfield 49, 3) := by decide +kernel
theorem dX1_findDominators_4 : decode cX1_findDominators 4 = .ok (.iconst 2, 1) := by decide +kernel
theorem dX1_findDominators_5 : decode cX1_findDominators 5 = .ok (.if_icmp .lt 4, 3) := by decide +kernel
theorem dX1_findDominators_8 : decode cX1_findDominators 8 = .ok (.return_, 1) := by decide +kernel
theorem dX1_findDominators_9 : decode cX1_findDominators 9 = .ok (.aload_n 0, 1) := by decide +kernel
theorem dX1_findDominators_10 : decode cX1_findDominators 10 = .ok (.invokevirtual 67, 3) := by decide +kernel
theorem dX1_findDominators_13 : decode cX1_findDominators 13 = .ok (.aload_n 0, 1) := by decide +kernel
theorem dX1_findDominators_14 : decode cX1_findDominators 14 = .ok (.invokevirtual 90, 3) := by decide +kernel
theorem dX1_findDominators_17 : decode cX1_findDominators 17 = .ok (.iconst 1, 1) := by decide +kernel
theorem dX1_findDominators_18 : decode cX1_findDominators 18 = .ok (.istore_n 1, 1) := by decide +kernel
theorem dX1_findDominators_19 : decode cX1_findDominators 19 = .ok (.iconst 0, 1) := by decide +kernel
theorem dX1_findDominators_20 : decode cX1_findDominators 20 = .ok (.istore_n 2, 1) := by decide +kernel
theorem dX1_findDominators_21 : decode cX1_findDominators 21 = .ok (.iload_n 2, 1) := by decide +kernel
theorem dX1_findDominators_22 : decode cX1_findDominators 22 = .ok (.aload_n 0, 1) := by decide +kernel
theorem dX1_findDominators_23 : decode cX1_findDominators 23 = .ok (.getfield 42, 3) := by decide +kernel
theorem dX1_findDominators_26 : decode cX1_findDominators 26 = .ok (.aload_n 0, 1) := by decide +kernel
theorem dX1_findDominators_27 : decode cX1_findDominators 27 = .ok (.getfield 42, 3) := by decide +kernel
theorem dX1_findDominators_30 : decode cX1_findDominators 30 = .ok (.imul, 1) := by decide +kernel
theorem dX1_findDominators_31 : decode cX1_findDominators 31 = .ok (.if_icmp .gt 18, 3) := by decide +kernel
theorem dX1_findDominators_34 : decode cX1_findDominators 34 = .ok (.iload_n 1, 1) := by decide +kernel
theorem dX1_findDominators_35 : decode cX1_findDominators 35 = .ok (.ifCond .eq 14, 3) := by decide +kernel
theorem dX1_findDominators_38 : decode cX1_findDominators 38 = .ok (.aload_n 0, 1) := by decide +kernel
theorem dX1_findDominators_39 : decode cX1_findDominators 39 = .ok (.invokevirtual 93, 3) := by decide +kernel
theorem dX1_findDominators_42 : decode cX1_findDominators 42 = .ok (.istore_n 1, 1) := by decide +kernel
theorem dX1_findDominators_43 : decode cX1_findDominators 43 = .ok (.iinc 2 1, 3) := by decide +kernel
theorem dX1_findDominators_46 : decode cX1_findDominators 46 = .ok (.goto (-25), 3) := by decide +kernel
theorem dX1_findDominators_49 : decode cX1_findDominators 49 = .ok (.aload_n 0, 1) := by decide +kernel
theorem dX1_findDominators_50 : decode cX1_findDominators 50 = .ok (.iconst 2, 1) := by decide +kernel
theorem dX1_findDominators_51 : decode cX1_findDominators 51 = .ok (.putfield 49, 3) := by decide +kernel
theorem dX1_findDominators_54 : decode cX1_findDominators 54 = .ok (.return_, 1) := by decide +kernel
set_option maxRecDepth 20000 in
theorem ggX1_startDominators_X0_clear : GoodIn wsX1_startDominators wsX0_clear := goodIn_r _ [9, 10, 11, 12, 13, 14, 45] (by decide +kernel) (by decide +kernel)
set_option maxRecDepth 20000 in
theorem gX1_startDominators_X0_clear : GoodIn wsX1_startDominators (wsV RX1 52 RX0 yX0_clear wsX0_clear) := goodIn_app (goodIn_of _ (by decide +kernel)) ggX1_startDominators_X0_clear
set_option maxRecDepth 20000 in
theorem ggX1_startDominators_X0_put : GoodIn wsX1_startDominators wsX0_put := goodIn_r _ [18, 10, 19, 20, 21, 8, 22, 45] (by decide +kernel) (by decide +kernel)
set_option maxRecDepth 20000 in
theorem gX1_startDominators_X0_put : GoodIn wsX1_startDominators (wsV RX1 63 RX0 yX0_put wsX0_put) := goodIn_app (goodIn_of _ (by decide +kernel)) ggX1_startDominators_X0_put
set_option maxRecDepth 20000 in
theorem ggX1_startDominators_X0_fill : GoodIn wsX1_startDominators wsX0_fill := goodIn_r _ [26, 10, 19, 27, 28, 13, 29, 30, 31, 32, 45] (by decide +kernel) (by decide +kernel)
set_option maxRecDepth 20000 in
theorem gX1_startDominators_X0_fill : GoodIn wsX1_startDominators (wsV RX1 97 RX0 yX0_fill wsX0_fill) := goodIn_app (goodIn_of _ (by decide +kernel)) ggX1_startDominators_X0_fill
theorem dX1_startDominators_0 : decode cX1_startDominators 0 = .ok (.aload_n 0, 1) := by decide +kernel
theorem dX1_startDominators_1 : decode cX1_startDominators 1 = .ok (.getfield 19, 3) := by decide +kernel
theorem dX1_startDominators_4 : decode cX1_startDominators 4 = .ok (.invokevirtual 52, 3) := by decide +kernel
theorem dX1_startDominators_7 : decode cX1_startDominators 7 = .ok (.aload_n 0, 1) := by decide +kernel
theorem dX1_startDominators_8 : decode cX1_startDominators 8 = .ok (.getfield 19, 3) := by decide +kernel
theorem dX1_startDominators_11 : decode cX1_startDominators 11 = .ok (.iconst 0, 1) := by decide +kernel
theorem dX1_startDominators_12 : decode cX1_startDominators 12 = .ok (.iconst 0, 1) := by decide +kernel
theorem dX1_startDominators_13 : decode cX1_startDominators 13 = .ok (.iconst 1, 1) := by decide +kernel
theorem dX1_startDominators_14 : decode cX1_startDominators 14 = .ok (.invokevirtual 63, 3) := by decide +kernel
theorem dX1_startDominators_17 : decode cX1_startDominators 17 = .ok (.aload_n 0, 1) := by decide +kernel
theorem dX1_startDominators_18 : decode cX1_startDominators 18 = .ok (.getfield 46, 3) := by decide +kernel
theorem dX1_startDominators_21 : decode cX1_startDominators 21 = .ok (.iconst 1, 1) := by decide +kernel
theorem dX1_startDominators_22 : decode cX1_startDominators 22 = .ok (.iadd, 1) := by decide +kernel
theorem dX1_startDominators_23 : decode cX1_startDominators 23 = .ok (.istore_n 1, 1) := by decide +kernel
theorem dX1_startDominators_24 : decode cX1_startDominators 24 = .ok (.iload_n 1, 1) := by decide +kernel
theorem dX1_startDominators_25 : decode cX1_startDominators 25 = .ok (.aload_n 0, 1) := by decide +kernel
theorem dX1_startDominators_26 : decode cX1_startDominators 26 = .ok (.getfield 42, 3) := by decide +kernel
theorem dX1_startDominators_29 : decode cX1_startDominators 29 = .ok (.if_icmp .ge 22, 3) := by decide +kernel
theorem dX1_startDominators_32 : decode cX1_startDominators 32 = .ok (.aload_n 0, 1) := by decide +kernel
theorem dX1_startDominators_33 : decode cX1_startDominators 33 = .ok (.getfield 19, 3) := by decide +kernel
theorem dX1_startDominators_36 : decode cX1_startDominators 36 = .ok (.aload_n 0, 1) := by decide +kernel
theorem dX1_startDominators_37 : decode cX1_startDominators 37 = .ok (.getfield 26, 3) := by decide +kernel
theorem dX1_startDominators_40 : decode cX1_startDominators 40 = .ok (.iload_n 1, 1) := by decide +kernel
theorem dX1_startDominators_41 : decode cX1_startDominators 41 = .ok (.iaload, 1) := by decide +kernel
theorem dX1_startDominators_42 : decode cX1_startDominators 42 = .ok (.invokevirtual 97, 3) := by decide +kernel
theorem dX1_startDominators_45 : decode cX1_startDominators 45 = .ok (.iinc 1 1, 3) := by decide +kernel
theorem dX1_startDominators_48 : decode cX1_startDominators 48 = .ok (.goto (-24), 3) := by decide +kernel
theorem dX1_startDominators_51 : decode cX1_startDominators 51 = .ok (.return_, 1) := by decide +kernel
set_option maxRecDepth 20000 in
theorem ggX1_strikeOutDominators_X0_next : GoodIn wsX1_strikeOutDominators wsX0_next := goodIn_r _ [11, 12, 13, 14, 15, 16, 17, 18, 19, 20, 40] (by decide +kernel) (by decide +kernel)
set_option maxRecDepth 20000 in
theorem gX1_strikeOutDominators_X0_next : GoodIn wsX1_strikeOutDominators (wsV RX1 77 RX0 yX0_next wsX0_next) := goodIn_app (goodIn_of _ (by decide +kernel)) ggX1_strikeOutDominators_X0_next
set_option maxRecDepth 20000 in
theorem ggX1_strikeOutDominators_X0_keepOthersOf : GoodIn wsX1_strikeOutDominators wsX0_keepOthersOf := goodIn_r _ [24, 13, 25, 26, 10, 27, 40] (by decide +kernel) (by decide +kernel)
set_option maxRecDepth 20000 in
theorem gX1_strikeOutDominators_X0_keepOthersOf : GoodIn wsX1_strikeOutDominators (wsV RX1 101 RX0 yX0_keepOthersOf wsX0_keepOthersOf) := goodIn_app (goodIn_of _ (by decide +kernel)) ggX1_strikeOutDominators_X0_keepOthersOf
theorem dX1_strikeOutDominators_0 : decode cX1_strikeOutDominators 0 = .ok (.iconst 0, 1) := by decide +kernel
theorem dX1_strikeOutDominators_1 : decode cX1_strikeOutDominators 1 = .ok (.istore_n 1, 1) := by decide +kernel
theorem dX1_strikeOutDominators_2 : decode cX1_strikeOutDominators 2 = .ok (.aload_n 0, 1) := by decide +kernel
theorem dX1_strikeOutDominators_3 : decode cX1_strikeOutDominators 3 = .ok (.getfield 46, 3) := by decide +kernel
theorem dX1_strikeOutDominators_6 : decode cX1_strikeOutDominators 6 = .ok (.iconst 1, 1) := by decide +kernel
theorem dX1_strikeOutDominators_7 : decode cX1_strikeOutDominators 7 = .ok (.iadd, 1) := by decide +kernel
theorem dX1_strikeOutDominators_8 : decode cX1_strikeOutDominators 8 = .ok (.istore_n 2, 1) := by decide +kernel
theorem dX1_strikeOutDominators_9 : decode cX1_strikeOutDominators 9 = .ok (.iload_n 2, 1) := by decide +kernel
theorem dX1_strikeOutDominators_10 : decode cX1_strikeOutDominators 10 = .ok (.aload_n 0, 1) := by decide +kernel
theorem dX1_strikeOutDominators_11 : decode cX1_strikeOutDominators 11 = .ok (.getfield 42, 3) := by decide +kernel
theorem dX1_strikeOutDominators_14 : decode cX1_strikeOutDominators 14 = .ok (.if_icmp .ge 78, 3) := by decide +kernel
theorem dX1_strikeOutDominators_17 : decode cX1_strikeOutDominators 17 = .ok (.aload_n 0, 1) := by decide +kernel
theorem dX1_strikeOutDominators_18 : decode cX1_strikeOutDominators 18 = .ok (.getfield 26, 3) := by decide +kernel
theorem dX1_strikeOutDominators_21 : decode cX1_strikeOutDominators 21 = .ok (.iload_n 2, 1) := by decide +kernel
theorem dX1_strikeOutDominators_22 : decode cX1_strikeOutDominators 22 = .ok (.iaload, 1) := by decide +kernel
theorem dX1_strikeOutDominators_23 : decode cX1_strikeOutDominators 23 = .ok (.istore_n 3, 1) := by decide +kernel
theorem dX1_strikeOutDominators_24 : decode cX1_strikeOutDominators 24 = .ok (.aload_n 0, 1) := by decide +kernel
theorem dX1_strikeOutDominators_25 : decode cX1_strikeOutDominators 25 = .ok (.getfield 16, 3) := by decide +kernel
theorem dX1_strikeOutDominators_28 : decode cX1_strikeOutDominators 28 = .ok (.iload_n 3, 1) := by decide +kernel
theorem dX1_strikeOutDominators_29 : decode cX1_strikeOutDominators 29 = .ok (.iconst 0, 1) := by decide +kernel
theorem dX1_strikeOutDominators_30 : decode cX1_strikeOutDominators 30 = .ok (.invokevirtual 77, 3) := by decide +kernel
theorem dX1_strikeOutDominators_33 : decode cX1_strikeOutDominators 33 = .ok (.istore 4, 2) := by decide +kernel
theorem dX1_strikeOutDominators_35 : decode cX1_strikeOutDominators 35 = .ok (.iload 4, 2) := by decide +kernel
theorem dX1_strikeOutDominators_37 : decode cX1_strikeOutDominators 37 = .ok (.aload_n 0, 1) := by decide +kernel
theorem dX1_strikeOutDominators_38 : decode cX1_strikeOutDominators 38 = .ok (.getfield 42, 3) := by decide +kernel
theorem dX1_strikeOutDominators_41 : decode cX1_strikeOutDominators 41 = .ok (.if_icmp .ge 45, 3) := by decide +kernel
theorem dX1_strikeOutDominators_44 : decode cX1_strikeOutDominators 44 = .ok (.aload_n 0, 1) := by decide +kernel
theorem dX1_strikeOutDominators_45 : decode cX1_strikeOutDominators 45 = .ok (.getfield 22, 3) := by decide +kernel
theorem dX1_strikeOutDominators_48 : decode cX1_strikeOutDominators 48 = .ok (.iload 4, 2) := by decide +kernel
theorem dX1_strikeOutDominators_50 : decode cX1_strikeOutDominators 50 = .ok (.baload, 1) := by decide +kernel
theorem dX1_strikeOutDominators_51 : decode cX1_strikeOutDominators 51 = .ok (.ifCond .eq 18, 3) := by decide +kernel
theorem dX1_strikeOutDominators_54 : decode cX1_strikeOutDominators 54 = .ok (.aload_n 0, 1) := by decide +kernel
theorem dX1_strikeOutDominators_55 : decode cX1_strikeOutDominators 55 = .ok (.getfield 19, 3) := by decide +kernel
theorem dX1_strikeOutDominators_58 : decode cX1_strikeOutDominators 58 = .ok (.iload_n 3, 1) := by decide +kernel
theorem dX1_strikeOutDominators_59 : decode cX1_strikeOutDominators 59 = .ok (.iload 4, 2) := by decide +kernel
theorem dX1_strikeOutDominators_61 : decode cX1_strikeOutDominators 61 = .ok (.invokevirtual 101, 3) := by decide +kernel
theorem dX1_strikeOutDominators_64 : decode cX1_strikeOutDominators 64 = .ok (.ifCond .eq 5, 3) := by decide +kernel
theorem dX1_strikeOutDominators_67 : decode cX1_strikeOutDominators 67 = .ok (.iconst 1, 1) := by decide +kernel
theorem dX1_strikeOutDominators_68 : decode cX1_strikeOutDominators 68 = .ok (.istore_n 1, 1) := by decide +kernel
theorem dX1_strikeOutDominators_69 : decode cX1_strikeOutDominators 69 = .ok (.aload_n 0, 1) := by decide +kernel
theorem dX1_strikeOutDominators_70 : decode cX1_strikeOutDominators 70 = .ok (.getfield 16, 3) := by decide +kernel
theorem dX1_strikeOutDominators_73 : decode cX1_strikeOutDominators 73 = .ok (.iload_n 3, 1) := by decide +kernel
theorem dX1_strikeOutDominators_74 : decode cX1_strikeOutDominators 74 = .ok (.iload 4, 2) := by decide +kernel
theorem dX1_strikeOutDominators_76 : decode cX1_strikeOutDominators 76 = .ok (.iconst 1, 1) := by decide +kernel
theorem dX1_strikeOutDominators_77 : decode cX1_strikeOutDominators 77 = .ok (.iadd, 1) := by decide +kernel
theorem dX1_strikeOutDominators_78 : decode cX1_strikeOutDominators 78 = .ok (.invokevirtual 77, 3) := by decide +kernel
theorem dX1_strikeOutDominators_81 : decode cX1_strikeOutDominators 81 = .ok (.istore 4, 2) := by decide +kernel
theorem dX1_strikeOutDominators_83 : decode cX1_strikeOutDominators 83 = .ok (.goto (-48), 3) := by decide +kernel
theorem dX1_strikeOutDominators_86 : decode cX1_strikeOutDominators 86 = .ok (.iinc 2 1, 3) := by decide +kernel
theorem dX1_strikeOutDominators_89 : decode cX1_strikeOutDominators 89 = .ok (.goto (-80), 3) := by decide +kernel
theorem dX1_strikeOutDominators_92 : decode cX1_strikeOutDominators 92 = .ok (.iload_n 1, 1) := by decide +kernel
theorem dX1_strikeOutDominators_93 : decode cX1_strikeOutDominators 93 = .ok (.ireturn, 1) := by decide +kernel
set_option maxRecDepth 20000 in
theorem ggX1_isHead_X0_next : GoodIn wsX1_isHead wsX0_next := goodIn_r _ [8, 9, 10, 11, 12, 13, 14, 15, 16, 17, 37] (by decide +kernel) (by decide +kernel)
set_option maxRecDepth 20000 in
theorem gX1_isHead_X0_next : GoodIn wsX1_isHead (wsV RX1 77 RX0 yX0_next wsX0_next) := goodIn_app (goodIn_of _ (by decide +kernel)) ggX1_isHead_X0_next
set_option maxRecDepth 20000 in
theorem ggX1_isHead_X0_holds : GoodIn wsX1_isHead wsX0_holds := goodIn_r _ [21, 10, 22, 23, 7, 24, 37] (by decide +kernel) (by decide +kernel)
set_option maxRecDepth 20000 in
theorem gX1_isHead_X0_holds : GoodIn wsX1_isHead (wsV RX1 59 RX0 yX0_holds wsX0_holds) := goodIn_app (goodIn_of _ (by decide +kernel)) ggX1_isHead_X0_holds
theorem dX1_isHead_0 : decode cX1_isHead 0 = .ok (.aload_n 0, 1) := by decide +kernel
theorem dX1_isHead_1 : decode cX1_isHead 1 = .ok (.getfield 16, 3) := by decide +kernel
theorem dX1_isHead_4 : decode cX1_isHead 4 = .ok (.iload_n 1, 1) := by decide +kernel
theorem dX1_isHead_5 : decode cX1_isHead 5 = .ok (.iconst 0, 1) := by decide +kernel
theorem dX1_isHead_6 : decode cX1_isHead 6 = .ok (.invokevirtual 77, 3) := by decide +kernel
theorem dX1_isHead_9 : decode cX1_isHead 9 = .ok (.istore_n 2, 1) := by decide +kernel
theorem dX1_isHead_10 : decode cX1_isHead 10 = .ok (.iload_n 2, 1) := by decide +kernel
theorem dX1_isHead_11 : decode cX1_isHead 11 = .ok (.aload_n 0, 1) := by decide +kernel
theorem dX1_isHead_12 : decode cX1_isHead 12 = .ok (.getfield 42, 3) := by decide +kernel
theorem dX1_isHead_15 : decode cX1_isHead 15 = .ok (.if_icmp .ge 32, 3) := by decide +kernel
theorem dX1_isHead_18 : decode cX1_isHead 18 = .ok (.aload_n 0, 1) := by decide +kernel
theorem dX1_isHead_19 : decode cX1_isHead 19 = .ok (.getfield 19, 3) := by decide +kernel
theorem dX1_isHead_22 : decode cX1_isHead 22 = .ok (.iload_n 2, 1) := by decide +kernel
theorem dX1_isHead_23 : decode cX1_isHead 23 = .ok (.iload_n 1, 1) := by decide +kernel
theorem dX1_isHead_24 : decode cX1_isHead 24 = .ok (.invokevirtual 59, 3) := by decide +kernel
theorem dX1_isHead_27 : decode cX1_isHead 27 = .ok (.ifCond .eq 5, 3) := by decide +kernel
theorem dX1_isHead_30 : decode cX1_isHead 30 = .ok (.iconst 1, 1) := by decide +kernel
theorem dX1_isHead_31 : decode cX1_isHead 31 = .ok (.ireturn, 1) := by decide +kernel
theorem dX1_isHead_32 : decode cX1_isHead 32 = .ok (.aload_n 0, 1) := by decide +kernel
theorem dX1_isHead_33 : decode cX1_isHead 33 = .ok (.getfield 16, 3) := by decide +kernel
theorem dX1_isHead_36 : decode cX1_isHead 36 = .ok (.iload_n 1, 1) := by decide +kernel
theorem dX1_isHead_37 : decode cX1_isHead 37 = .ok (.iload_n 2, 1) := by decide +kernel
theorem dX1_isHead_38 : decode cX1_isHead 38 = .ok (.iconst 1, 1) := by decide +kernel
theorem dX1_isHead_39 : decode cX1_isHead 39 = .ok (.iadd, 1) := by decide +kernel
theorem dX1_isHead_40 : decode cX1_isHead 40 = .ok (.invokevirtual 77, 3) := by decide +kernel
theorem dX1_isHead_43 : decode cX1_isHead 43 = .ok (.istore_n 2, 1) := by decide +kernel
theorem dX1_isHead_44 : decode cX1_isHead 44 = .ok (.goto (-34), 3) := by decide +kernel
theorem dX1_isHead_47 : decode cX1_isHead 47 = .ok (.iconst 0, 1) := by decide +kernel
theorem dX1_isHead_48 : decode cX1_isHead 48 = .ok (.ireturn, 1) := by decide +kernel
set_option maxRecDepth 20000 in
theorem ggX1_findDepths_X1_findDominators : GoodIn wsX1_findDepths wsX1_findDominators := goodIn_r _ [11, 1, 5, 12, 13, 14, 10, 15, 16, 17, 18, 4, 6, 19, 20, 21, 22, 23, 24, 25, 26, 27, 28, 29, 30, 31, 32, 33, 34, 35, 36, 37, 38, 39, 40, 41, 42, 43, 44, 45, 46, 47, 48, 49, 50, 51, 52, 53, 54, 55, 56, 57, 58, 59, 60, 61, 62, 63, 64, 65, 66, 67, 68, 69, 70, 71, 72, 73, 74, 75, 76, 96, 97, 98, 99, 100, 101, 102, 103, 104, 105, 106, 107, 108] (by decide +kernel) (by decide +kernel)
set_option maxRecDepth 20000 in
theorem gX1_findDepths_X1_findDominators : GoodIn wsX1_findDepths (wsV RX1 70 RX1 yX1_findDominators wsX1_findDominators) := goodIn_app (goodIn_of _ (by decide +kernel)) ggX1_findDepths_X1_findDominators
set_option maxRecDepth 20000 in
theorem ggX1_findDepths_J7_fill_53178 : GoodIn wsX1_findDepths wsJ7_fill_53178 := goodIn_r _ [79] (by decide +kernel) (by decide +kernel)
set_option maxRecDepth 20000 in
theorem gX1_findDepths_J7_fill_53178 : GoodIn wsX1_findDepths (va_wsS RX1 104 yJ7_fill_53178 wsJ7_fill_53178) := goodIn_app (goodIn_of _ (by decide +kernel)) ggX1_findDepths_J7_fill_53178
set_option maxRecDepth 20000 in
theorem ggX1_findDepths_X1_isHead : GoodIn wsX1_findDepths wsX1_isHead := goodIn_r _ [83, 72, 5, 42, 24, 25, 26, 27, 28, 29, 30, 31, 32, 33, 34, 35, 36, 37, 84, 85, 86, 87, 55, 56, 57, 96, 97, 98, 99, 100, 101, 102, 103, 104, 105, 106, 107, 108] (by decide +kernel) (by decide +kernel)
set_option maxRecDepth 20000 in
theorem gX1_findDepths_X1_isHead : GoodIn wsX1_findDepths (wsV RX1 81 RX1 yX1_isHead wsX1_isHead) := goodIn_app (goodIn_of _ (by decide +kernel)) ggX1_findDepths_X1_isHead
set_option maxRecDepth 20000 in
theorem ggX1_findDepths_X1_countLoop : GoodIn wsX1_findDepths wsX1_countLoop := goodIn_r _ [91, 3, 2, 72, 5, 42, 18, 16, 24, 25, 26, 27, 28, 29, 30, 31, 32, 33, 34, 35, 36, 37, 84, 85, 86, 87, 55, 56, 57, 92, 93, 94, 10, 95, 96, 97, 98, 99, 100, 101, 102, 103, 104, 105, 106, 107, 108] (by decide +kernel) (by decide +kernel)
set_option maxRecDepth 20000 in
theorem gX1_findDepths_X1_countLoop : GoodIn wsX1_findDepths (wsV RX1 109 RX1 yX1_countLoop wsX1_countLoop) := goodIn_app (goodIn_of _ (by decide +kernel)) ggX1_findDepths_X1_countLoop
theorem dX1_findDepths_0 : decode cX1_findDepths 0 = .ok (.aload_n 0, 1) := by decide +kernel
theorem dX1_findDepths_1 : decode cX1_findDepths 1 = .ok (.getfield 49, 3) := by decide +kernel
theorem dX1_findDepths_4 : decode cX1_findDepths 4 = .ok (.iconst 3, 1) := by decide +kernel
theorem dX1_findDepths_5 : decode cX1_findDepths 5 = .ok (.if_icmp .lt 4, 3) := by decide +kernel
theorem dX1_findDepths_8 : decode cX1_findDepths 8 = .ok (.return_, 1) := by decide +kernel
theorem dX1_findDepths_9 : decode cX1_findDepths 9 = .ok (.aload_n 0, 1) := by decide +kernel
theorem dX1_findDepths_10 : decode cX1_findDepths 10 = .ok (.invokevirtual 70, 3) := by decide +kernel
theorem dX1_findDepths_13 : decode cX1_findDepths 13 = .ok (.aload_n 0, 1) := by decide +kernel
theorem dX1_findDepths_14 : decode cX1_findDepths 14 = .ok (.getfield 39, 3) := by decide +kernel
theorem dX1_findDepths_17 : decode cX1_findDepths 17 = .ok (.iconst 0, 1) := by decide +kernel
theorem dX1_findDepths_18 : decode cX1_findDepths 18 = .ok (.invokestatic 104, 3) := by decide +kernel
theorem dX1_findDepths_21 : decode cX1_findDepths 21 = .ok (.aload_n 0, 1) := by decide +kernel
theorem dX1_findDepths_22 : decode cX1_findDepths 22 = .ok (.getfield 36, 3) := by decide +kernel
theorem dX1_findDepths_25 : decode cX1_findDepths 25 = .ok (.iconst (-1), 1) := by decide +kernel
theorem dX1_findDepths_26 : decode cX1_findDepths 26 = .ok (.invokestatic 104, 3) := by decide +kernel
theorem dX1_findDepths_29 : decode cX1_findDepths 29 = .ok (.aload_n 0, 1) := by decide +kernel
theorem dX1_findDepths_30 : decode cX1_findDepths 30 = .ok (.getfield 46, 3) := by decide +kernel
theorem dX1_findDepths_33 : decode cX1_findDepths 33 = .ok (.istore_n 1, 1) := by decide +kernel
theorem dX1_findDepths_34 : decode cX1_findDepths 34 = .ok (.iload_n 1, 1) := by decide +kernel
theorem dX1_findDepths_35 : decode cX1_findDepths 35 = .ok (.aload_n 0, 1) := by decide +kernel
theorem dX1_findDepths_36 : decode cX1_findDepths 36 = .ok (.getfield 42, 3) := by decide +kernel
theorem dX1_findDepths_39 : decode cX1_findDepths 39 = .ok (.if_icmp .ge 32, 3) := by decide +kernel
theorem dX1_findDepths_42 : decode cX1_findDepths 42 = .ok (.aload_n 0, 1) := by decide +kernel
theorem dX1_findDepths_43 : decode cX1_findDepths 43 = .ok (.aload_n 0, 1) := by decide +kernel
theorem dX1_findDepths_44 : decode cX1_findDepths 44 = .ok (.getfield 26, 3) := by decide +kernel
theorem dX1_findDepths_47 : decode cX1_findDepths 47 = .ok (.iload_n 1, 1) := by decide +kernel
theorem dX1_findDepths_48 : decode cX1_findDepths 48 = .ok (.iaload, 1) := by decide +kernel
theorem dX1_findDepths_49 : decode cX1_findDepths 49 = .ok (.invokevirtual 81, 3) := by decide +kernel
theorem dX1_findDepths_52 : decode cX1_findDepths 52 = .ok (.ifCond .eq 13, 3) := by decide +kernel
theorem dX1_findDepths_55 : decode cX1_findDepths 55 = .ok (.aload_n 0, 1) := by decide +kernel
theorem dX1_findDepths_56 : decode cX1_findDepths 56 = .ok (.aload_n 0, 1) := by decide +kernel
theorem dX1_findDepths_57 : decode cX1_findDepths 57 = .ok (.getfield 26, 3) := by decide +kernel
theorem dX1_findDepths_60 : decode cX1_findDepths 60 = .ok (.iload_n 1, 1) := by decide +kernel
theorem dX1_findDepths_61 : decode cX1_findDepths 61 = .ok (.iaload, 1) := by decide +kernel
theorem dX1_findDepths_62 : decode cX1_findDepths 62 = .ok (.invokevirtual 109, 3) := by decide +kernel
theorem dX1_findDepths_65 : decode cX1_findDepths 65 = .ok (.iinc 1 1, 3) := by decide +kernel
theorem dX1_findDepths_68 : decode cX1_findDepths 68 = .ok (.goto (-34), 3) := by decide +kernel
theorem dX1_findDepths_71 : decode cX1_findDepths 71 = .ok (.aload_n 0, 1) := by decide +kernel
theorem dX1_findDepths_72 : decode cX1_findDepths 72 = .ok (.iconst 3, 1) := by decide +kernel
theorem dX1_findDepths_73 : decode cX1_findDepths 73 = .ok (.putfield 49, 3) := by decide +kernel
theorem dX1_findDepths_76 : decode cX1_findDepths 76 = .ok (.return_, 1) := by decide +kernel
set_option maxRecDepth 20000 in
theorem ggX1_countLoop_X0_next : GoodIn wsX1_countLoop wsX0_next := goodIn_r _ [12, 13, 14, 15, 16, 17, 18, 19, 20, 21, 46] (by decide +kernel) (by decide +kernel)
set_option maxRecDepth 20000 in
theorem gX1_countLoop_X0_next : GoodIn wsX1_countLoop (wsV RX1 77 RX0 yX0_next wsX0_next) := goodIn_app (goodIn_of _ (by decide +kernel)) ggX1_countLoop_X0_next
set_option maxRecDepth 20000 in
theorem ggX1_countLoop_X0_holds : GoodIn wsX1_countLoop wsX0_holds := goodIn_r _ [25, 14, 26, 27, 11, 28, 46] (by decide +kernel) (by decide +kernel)
set_option maxRecDepth 20000 in
theorem gX1_countLoop_X0_holds : GoodIn wsX1_countLoop (wsV RX1 59 RX0 yX0_holds wsX0_holds) := goodIn_app (goodIn_of _ (by decide +kernel)) ggX1_countLoop_X0_holds
set_option maxRecDepth 20000 in
theorem ggX1_countLoop_X1_joinLoop : GoodIn wsX1_countLoop wsX1_joinLoop := goodIn_r _ [33, 1, 4, 2, 6, 34, 35, 36, 37, 38, 39, 40, 41, 42, 43, 44, 45] (by decide +kernel) (by decide +kernel)
set_option maxRecDepth 20000 in
theorem gX1_countLoop_X1_joinLoop : GoodIn wsX1_countLoop (wsV RX1 112 RX1 yX1_joinLoop wsX1_joinLoop) := goodIn_app (goodIn_of _ (by decide +kernel)) ggX1_countLoop_X1_joinLoop
theorem dX1_countLoop_0 : decode cX1_countLoop 0 = .ok (.aload_n 0, 1) := by decide +kernel
theorem dX1_countLoop_1 : decode cX1_countLoop 1 = .ok (.getfield 36, 3) := by decide +kernel
theorem dX1_countLoop_4 : decode cX1_countLoop 4 = .ok (.iload_n 1, 1) := by decide +kernel
theorem dX1_countLoop_5 : decode cX1_countLoop 5 = .ok (.iload_n 1, 1) := by decide +kernel
theorem dX1_countLoop_6 : decode cX1_countLoop 6 = .ok (.iastore, 1) := by decide +kernel
theorem dX1_countLoop_7 : decode cX1_countLoop 7 = .ok (.aload_n 0, 1) := by decide +kernel
theorem dX1_countLoop_8 : decode cX1_countLoop 8 = .ok (.getfield 39, 3) := by decide +kernel
theorem dX1_countLoop_11 : decode cX1_countLoop 11 = .ok (.iload_n 1, 1) := by decide +kernel
theorem dX1_countLoop_12 : decode cX1_countLoop 12 = .ok (.dup2, 1) := by decide +kernel
theorem dX1_countLoop_13 : decode cX1_countLoop 13 = .ok (.iaload, 1) := by decide +kernel
theorem dX1_countLoop_14 : decode cX1_countLoop 14 = .ok (.iconst 1, 1) := by decide +kernel
theorem dX1_countLoop_15 : decode cX1_countLoop 15 = .ok (.iadd, 1) := by decide +kernel
theorem dX1_countLoop_16 : decode cX1_countLoop 16 = .ok (.iastore, 1) := by decide +kernel
theorem dX1_countLoop_17 : decode cX1_countLoop 17 = .ok (.iconst 0, 1) := by decide +kernel
theorem dX1_countLoop_18 : decode cX1_countLoop 18 = .ok (.istore_n 2, 1) := by decide +kernel
theorem dX1_countLoop_19 : decode cX1_countLoop 19 = .ok (.aload_n 0, 1) := by decide +kernel
theorem dX1_countLoop_20 : decode cX1_countLoop 20 = .ok (.getfield 16, 3) := by decide +kernel
theorem dX1_countLoop_23 : decode cX1_countLoop 23 = .ok (.iload_n 1, 1) := by decide +kernel
theorem dX1_countLoop_24 : decode cX1_countLoop 24 = .ok (.iconst 0, 1) := by decide +kernel
theorem dX1_countLoop_25 : decode cX1_countLoop 25 = .ok (.invokevirtual 77, 3) := by decide +kernel
theorem dX1_countLoop_28 : decode cX1_countLoop 28 = .ok (.istore_n 3, 1) := by decide +kernel
theorem dX1_countLoop_29 : decode cX1_countLoop 29 = .ok (.iload_n 3, 1) := by decide +kernel
theorem dX1_countLoop_30 : decode cX1_countLoop 30 = .ok (.aload_n 0, 1) := by decide +kernel
theorem dX1_countLoop_31 : decode cX1_countLoop 31 = .ok (.getfield 42, 3) := by decide +kernel
theorem dX1_countLoop_34 : decode cX1_countLoop 34 = .ok (.if_icmp .ge 38, 3) := by decide +kernel
theorem dX1_countLoop_37 : decode cX1_countLoop 37 = .ok (.aload_n 0, 1) := by decide +kernel
theorem dX1_countLoop_38 : decode cX1_countLoop 38 = .ok (.getfield 19, 3) := by decide +kernel
theorem dX1_countLoop_41 : decode cX1_countLoop 41 = .ok (.iload_n 3, 1) := by decide +kernel
theorem dX1_countLoop_42 : decode cX1_countLoop 42 = .ok (.iload_n 1, 1) := by decide +kernel
theorem dX1_countLoop_43 : decode cX1_countLoop 43 = .ok (.invokevirtual 59, 3) := by decide +kernel
theorem dX1_countLoop_46 : decode cX1_countLoop 46 = .ok (.ifCond .eq 11, 3) := by decide +kernel
theorem dX1_countLoop_49 : decode cX1_countLoop 49 = .ok (.aload_n 0, 1) := by decide +kernel
theorem dX1_countLoop_50 : decode cX1_countLoop 50 = .ok (.iload_n 3, 1) := by decide +kernel
theorem dX1_countLoop_51 : decode cX1_countLoop 51 = .ok (.iload_n 1, 1) := by decide +kernel
theorem dX1_countLoop_52 : decode cX1_countLoop 52 = .ok (.iload_n 2, 1) := by decide +kernel
theorem dX1_countLoop_53 : decode cX1_countLoop 53 = .ok (.invokevirtual 112, 3) := by decide +kernel
theorem dX1_countLoop_56 : decode cX1_countLoop 56 = .ok (.istore_n 2, 1) := by decide +kernel
theorem dX1_countLoop_57 : decode cX1_countLoop 57 = .ok (.aload_n 0, 1) := by decide +kernel
theorem dX1_countLoop_58 : decode cX1_countLoop 58 = .ok (.getfield 16, 3) := by decide +kernel
theorem dX1_countLoop_61 : decode cX1_countLoop 61 = .ok (.iload_n 1, 1) := by decide +kernel
theorem dX1_countLoop_62 : decode cX1_countLoop 62 = .ok (.iload_n 3, 1) := by decide +kernel
theorem dX1_countLoop_63 : decode cX1_countLoop 63 = .ok (.iconst 1, 1) := by decide +kernel
theorem dX1_countLoop_64 : decode cX1_countLoop 64 = .ok (.iadd, 1) := by decide +kernel
theorem dX1_countLoop_65 : decode cX1_countLoop 65 = .ok (.invokevirtual 77, 3) := by decide +kernel
theorem dX1_countLoop_68 : decode cX1_countLoop 68 = .ok (.istore_n 3, 1) := by decide +kernel
theorem dX1_countLoop_69 : decode cX1_countLoop 69 = .ok (.goto (-40), 3) := by decide +kernel
theorem dX1_countLoop_72 : decode cX1_countLoop 72 = .ok (.iconst 0, 1) := by decide +kernel
theorem dX1_countLoop_73 : decode cX1_countLoop 73 = .ok (.istore_n 3, 1) := by decide +kernel
theorem dX1_countLoop_74 : decode cX1_countLoop 74 = .ok (.iload_n 3, 1) := by decide +kernel
theorem dX1_countLoop_75 : decode cX1_countLoop 75 = .ok (.iload_n 2, 1) := by decide +kernel
theorem dX1_countLoop_76 : decode cX1_countLoop 76 = .ok (.if_icmp .ge 83, 3) := by decide +kernel
theorem dX1_countLoop_79 : decode cX1_countLoop 79 = .ok (.iload_n 3, 1) := by decide +kernel
theorem dX1_countLoop_80 : decode cX1_countLoop 80 = .ok (.aload_n 0, 1) := by decide +kernel
theorem dX1_countLoop_81 : decode cX1_countLoop 81 = .ok (.getfield 42, 3) := by decide +kernel
theorem dX1_countLoop_84 : decode cX1_countLoop 84 = .ok (.if_icmp .ge 75, 3) := by decide +kernel
theorem dX1_countLoop_87 : decode cX1_countLoop 87 = .ok (.aload_n 0, 1) := by decide +kernel
theorem dX1_countLoop_88 : decode cX1_countLoop 88 = .ok (.getfield 33, 3) := by decide +kernel
theorem dX1_countLoop_91 : decode cX1_countLoop 91 = .ok (.iload_n 3, 1) := by decide +kernel
theorem dX1_countLoop_92 : decode cX1_countLoop 92 = .ok (.iaload, 1) := by decide +kernel
theorem dX1_countLoop_93 : decode cX1_countLoop 93 = .ok (.istore 4, 2) := by decide +kernel
theorem dX1_countLoop_95 : decode cX1_countLoop 95 = .ok (.aload_n 0, 1) := by decide +kernel
theorem dX1_countLoop_96 : decode cX1_countLoop 96 = .ok (.getfield 16, 3) := by decide +kernel
theorem dX1_countLoop_99 : decode cX1_countLoop 99 = .ok (.iload 4, 2) := by decide +kernel
theorem dX1_countLoop_101 : decode cX1_countLoop 101 = .ok (.iconst 0, 1) := by decide +kernel
theorem dX1_countLoop_102 : decode cX1_countLoop 102 = .ok (.invokevirtual 77, 3) := by decide +kernel
theorem dX1_countLoop_105 : decode cX1_countLoop 105 = .ok (.istore 5, 2) := by decide +kernel
theorem dX1_countLoop_107 : decode cX1_countLoop 107 = .ok (.iload 5, 2) := by decide +kernel
theorem dX1_countLoop_109 : decode cX1_countLoop 109 = .ok (.aload_n 0, 1) := by decide +kernel
theorem dX1_countLoop_110 : decode cX1_countLoop 110 = .ok (.getfield 42, 3) := by decide +kernel
theorem dX1_countLoop_113 : decode cX1_countLoop 113 = .ok (.if_icmp .ge 40, 3) := by decide +kernel
theorem dX1_countLoop_116 : decode cX1_countLoop 116 = .ok (.aload_n 0, 1) := by decide +kernel
theorem dX1_countLoop_117 : decode cX1_countLoop 117 = .ok (.getfield 22, 3) := by decide +kernel
theorem dX1_countLoop_120 : decode cX1_countLoop 120 = .ok (.iload 5, 2) := by decide +kernel
theorem dX1_countLoop_122 : decode cX1_countLoop 122 = .ok (.baload, 1) := by decide +kernel
theorem dX1_countLoop_123 : decode cX1_countLoop 123 = .ok (.ifCond .eq 12, 3) := by decide +kernel
theorem dX1_countLoop_126 : decode cX1_countLoop 126 = .ok (.aload_n 0, 1) := by decide +kernel
theorem dX1_countLoop_127 : decode cX1_countLoop 127 = .ok (.iload 5, 2) := by decide +kernel
theorem dX1_countLoop_129 : decode cX1_countLoop 129 = .ok (.iload_n 1, 1) := by decide +kernel
theorem dX1_countLoop_130 : decode cX1_countLoop 130 = .ok (.iload_n 2, 1) := by decide +kernel
theorem dX1_countLoop_131 : decode cX1_countLoop 131 = .ok (.invokevirtual 112, 3) := by decide +kernel
theorem dX1_countLoop_134 : decode cX1_countLoop 134 = .ok (.istore_n 2, 1) := by decide +kernel
theorem dX1_countLoop_135 : decode cX1_countLoop 135 = .ok (.aload_n 0, 1) := by decide +kernel
theorem dX1_countLoop_136 : decode cX1_countLoop 136 = .ok (.getfield 16, 3) := by decide +kernel
theorem dX1_countLoop_139 : decode cX1_countLoop 139 = .ok (.iload 4, 2) := by decide +kernel
theorem dX1_countLoop_141 : decode cX1_countLoop 141 = .ok (.iload 5, 2) := by decide +kernel
theorem dX1_countLoop_143 : decode cX1_countLoop 143 = .ok (.iconst 1, 1) := by decide +kernel
theorem dX1_countLoop_144 : decode cX1_countLoop 144 = .ok (.iadd, 1) := by decide +kernel
theorem dX1_countLoop_145 : decode cX1_countLoop 145 = .ok (.invokevirtual 77, 3) := by decide +kernel
theorem dX1_countLoop_148 : decode cX1_countLoop 148 = .ok (.istore 5, 2) := by decide +kernel
theorem dX1_countLoop_150 : decode cX1_countLoop 150 = .ok (.goto (-43), 3) := by decide +kernel
theorem dX1_countLoop_153 : decode cX1_countLoop 153 = .ok (.iinc 3 1, 3) := by decide +kernel
theorem dX1_countLoop_156 : decode cX1_countLoop 156 = .ok (.goto (-82), 3) := by decide +kernel
theorem dX1_countLoop_159 : decode cX1_countLoop 159 = .ok (.return_, 1) := by decide +kernel
theorem dX1_joinLoop_0 : decode cX1_joinLoop 0 = .ok (.aload_n 0, 1) := by decide +kernel
theorem dX1_joinLoop_1 : decode cX1_joinLoop 1 = .ok (.getfield 36, 3) := by decide +kernel
theorem dX1_joinLoop_4 : decode cX1_joinLoop 4 = .ok (.iload_n 1, 1) := by decide +kernel
theorem dX1_joinLoop_5 : decode cX1_joinLoop 5 = .ok (.iaload, 1) := by decide +kernel
theorem dX1_joinLoop_6 : decode cX1_joinLoop 6 = .ok (.iload_n 2, 1) := by decide +kernel
theorem dX1_joinLoop_7 : decode cX1_joinLoop 7 = .ok (.if_icmp .eq 11, 3) := by decide +kernel
theorem dX1_joinLoop_10 : decode cX1_joinLoop 10 = .ok (.iload_n 3, 1) := by decide +kernel
theorem dX1_joinLoop_11 : decode cX1_joinLoop 11 = .ok (.aload_n 0, 1) := by decide +kernel
theorem dX1_joinLoop_12 : decode cX1_joinLoop 12 = .ok (.getfield 42, 3) := by decide +kernel
theorem dX1_joinLoop_15 : decode cX1_joinLoop 15 = .ok (.if_icmp .lt 5, 3) := by decide +kernel
theorem dX1_joinLoop_18 : decode cX1_joinLoop 18 = .ok (.iload_n 3, 1) := by decide +kernel
theorem dX1_joinLoop_19 : decode cX1_joinLoop 19 = .ok (.ireturn, 1) := by decide +kernel
theorem dX1_joinLoop_20 : decode cX1_joinLoop 20 = .ok (.aload_n 0, 1) := by decide +kernel
theorem dX1_joinLoop_21 : decode cX1_joinLoop 21 = .ok (.getfield 36, 3) := by decide +kernel
theorem dX1_joinLoop_24 : decode cX1_joinLoop 24 = .ok (.iload_n 1, 1) := by decide +kernel
theorem dX1_joinLoop_25 : decode cX1_joinLoop 25 = .ok (.iload_n 2, 1) := by decide +kernel
theorem dX1_joinLoop_26 : decode cX1_joinLoop 26 = .ok (.iastore, 1) := by decide +kernel
theorem dX1_joinLoop_27 : decode cX1_joinLoop 27 = .ok (.aload_n 0, 1) := by decide +kernel
theorem dX1_joinLoop_28 : decode cX1_joinLoop 28 = .ok (.getfield 39, 3) := by decide +kernel
theorem dX1_joinLoop_31 : decode cX1_joinLoop 31 = .ok (.iload_n 1, 1) := by decide +kernel
theorem dX1_joinLoop_32 : decode cX1_joinLoop 32 = .ok (.dup2, 1) := by decide +kernel
theorem dX1_joinLoop_33 : decode cX1_joinLoop 33 = .ok (.iaload, 1) := by decide +kernel
theorem dX1_joinLoop_34 : decode cX1_joinLoop 34 = .ok (.iconst 1, 1) := by decide +kernel
theorem dX1_joinLoop_35 : decode cX1_joinLoop 35 = .ok (.iadd, 1) := by decide +kernel
theorem dX1_joinLoop_36 : decode cX1_joinLoop 36 = .ok (.iastore, 1) := by decide +kernel
theorem dX1_joinLoop_37 : decode cX1_joinLoop 37 = .ok (.aload_n 0, 1) := by decide +kernel
theorem dX1_joinLoop_38 : decode cX1_joinLoop 38 = .ok (.getfield 33, 3) := by decide +kernel
theorem dX1_joinLoop_41 : decode cX1_joinLoop 41 = .ok (.iload_n 3, 1) := by decide +kernel
theorem dX1_joinLoop_42 : decode cX1_joinLoop 42 = .ok (.iload_n 1, 1) := by decide +kernel
theorem dX1_joinLoop_43 : decode cX1_joinLoop 43 = .ok (.iastore, 1) := by decide +kernel
theorem dX1_joinLoop_44 : decode cX1_joinLoop 44 = .ok (.iload_n 3, 1) := by decide +kernel
theorem dX1_joinLoop_45 : decode cX1_joinLoop 45 = .ok (.iconst 1, 1) := by decide +kernel
theorem dX1_joinLoop_46 : decode cX1_joinLoop 46 = .ok (.iadd, 1) := by decide +kernel
theorem dX1_joinLoop_47 : decode cX1_joinLoop 47 = .ok (.ireturn, 1) := by decide +kernel
theorem dX2_init_0 : decode cX2_init 0 = .ok (.aload_n 0, 1) := by decide +kernel
theorem dX2_init_1 : decode cX2_init 1 = .ok (.invokespecial 1, 3) := by decide +kernel
theorem dX2_init_4 : decode cX2_init 4 = .ok (.aload_n 0, 1) := by decide +kernel
theorem dX2_init_5 : decode cX2_init 5 = .ok (.iconst 1, 1) := by decide +kernel
theorem dX2_init_6 : decode cX2_init 6 = .ok (.putfield 7, 3) := by decide +kernel
theorem dX2_init_9 : decode cX2_init 9 = .ok (.aload_n 0, 1) := by decide +kernel
theorem dX2_init_10 : decode cX2_init 10 = .ok (.sipush 1400, 3) := by decide +kernel
theorem dX2_init_13 : decode cX2_init 13 = .ok (.newarray .int, 2) := by decide +kernel
theorem dX2_init_15 : decode cX2_init 15 = .ok (.putfield 13, 3) := by decide +kernel
theorem dX2_init_18 : decode cX2_init 18 = .ok (.aload_n 0, 1) := by decide +kernel
theorem dX2_init_19 : decode cX2_init 19 = .ok (.sipush 1400, 3) := by decide +kernel
theorem dX2_init_22 : decode cX2_init 22 = .ok (.newarray .int, 2) := by decide +kernel
theorem dX2_init_24 : decode cX2_init 24 = .ok (.putfield 17, 3) := by decide +kernel
theorem dX2_init_27 : decode cX2_init 27 = .ok (.aload_n 0, 1) := by decide +kernel
theorem dX2_init_28 : decode cX2_init 28 = .ok (.bipush 7, 2) := by decide +kernel
theorem dX2_init_30 : decode cX2_init 30 = .ok (.newarray .int, 2) := by decide +kernel
theorem dX2_init_32 : decode cX2_init 32 = .ok (.putfield 20, 3) := by decide +kernel
theorem dX2_init_35 : decode cX2_init 35 = .ok (.aload_n 0, 1) := by decide +kernel
theorem dX2_init_36 : decode cX2_init 36 = .ok (.sipush 1400, 3) := by decide +kernel
theorem dX2_init_39 : decode cX2_init 39 = .ok (.newarray .int, 2) := by decide +kernel
theorem dX2_init_41 : decode cX2_init 41 = .ok (.putfield 23, 3) := by decide +kernel
theorem dX2_init_44 : decode cX2_init 44 = .ok (.aload_n 0, 1) := by decide +kernel
theorem dX2_init_45 : decode cX2_init 45 = .ok (.sipush 200, 3) := by decide +kernel
theorem dX2_init_48 : decode cX2_init 48 = .ok (.newarray .int, 2) := by decide +kernel
theorem dX2_init_50 : decode cX2_init 50 = .ok (.putfield 26, 3) := by decide +kernel
theorem dX2_init_53 : decode cX2_init 53 = .ok (.aload_n 0, 1) := by decide +kernel
theorem dX2_init_54 : decode cX2_init 54 = .ok (.sipush 200, 3) := by decide +kernel
theorem dX2_init_57 : decode cX2_init 57 = .ok (.newarray .int, 2) := by decide +kernel
theorem dX2_init_59 : decode cX2_init 59 = .ok (.putfield 29, 3) := by decide +kernel
theorem dX2_init_62 : decode cX2_init 62 = .ok (.aload_n 0, 1) := by decide +kernel
theorem dX2_init_63 : decode cX2_init 63 = .ok (.sipush 200, 3) := by decide +kernel
theorem dX2_init_66 : decode cX2_init 66 = .ok (.newarray .boolean, 2) := by decide +kernel
theorem dX2_init_68 : decode cX2_init 68 = .ok (.putfield 32, 3) := by decide +kernel
theorem dX2_init_71 : decode cX2_init 71 = .ok (.aload_n 0, 1) := by decide +kernel
theorem dX2_init_72 : decode cX2_init 72 = .ok (.sipush 200, 3) := by decide +kernel
theorem dX2_init_75 : decode cX2_init 75 = .ok (.newarray .int, 2) := by decide +kernel
theorem dX2_init_77 : decode cX2_init 77 = .ok (.putfield 36, 3) := by decide +kernel
theorem dX2_init_80 : decode cX2_init 80 = .ok (.aload_n 0, 1) := by decide +kernel
theorem dX2_init_81 : decode cX2_init 81 = .ok (.bipush 7, 2) := by decide +kernel
theorem dX2_init_83 : decode cX2_init 83 = .ok (.newarray .int, 2) := by decide +kernel
theorem dX2_init_85 : decode cX2_init 85 = .ok (.putfield 39, 3) := by decide +kernel
theorem dX2_init_88 : decode cX2_init 88 = .ok (.aload_n 0, 1) := by decide +kernel
theorem dX2_init_89 : decode cX2_init 89 = .ok (.sipush 200, 3) := by decide +kernel
theorem dX2_init_92 : decode cX2_init 92 = .ok (.newarray .int, 2) := by decide +kernel
theorem dX2_init_94 : decode cX2_init 94 = .ok (.putfield 42, 3) := by decide +kernel
theorem dX2_init_97 : decode cX2_init 97 = .ok (.return_, 1) := by decide +kernel
theorem dX2_size_0 : decode cX2_size 0 = .ok (.iload_n 1, 1) := by decide +kernel
theorem dX2_size_1 : decode cX2_size 1 = .ok (.iconst 1, 1) := by decide +kernel
theorem dX2_size_2 : decode cX2_size 2 = .ok (.if_icmp .lt 10, 3) := by decide +kernel
theorem dX2_size_5 : decode cX2_size 5 = .ok (.iload_n 1, 1) := by decide +kernel
theorem dX2_size_6 : decode cX2_size 6 = .ok (.sipush 200, 3) := by decide +kernel
theorem dX2_size_9 : decode cX2_size 9 = .ok (.if_icmp .le 5, 3) := by decide +kernel
theorem dX2_size_12 : decode cX2_size 12 = .ok (.iconst 0, 1) := by decide +kernel
theorem dX2_size_13 : decode cX2_size 13 = .ok (.ireturn, 1) := by decide +kernel
theorem dX2_size_14 : decode cX2_size 14 = .ok (.aload_n 0, 1) := by decide +kernel
theorem dX2_size_15 : decode cX2_size 15 = .ok (.iload_n 1, 1) := by decide +kernel
theorem dX2_size_16 : decode cX2_size 16 = .ok (.putfield 7, 3) := by decide +kernel
theorem dX2_size_19 : decode cX2_size 19 = .ok (.iconst 0, 1) := by decide +kernel
theorem dX2_size_20 : decode cX2_size 20 = .ok (.istore_n 2, 1) := by decide +kernel
theorem dX2_size_21 : decode cX2_size 21 = .ok (.iload_n 2, 1) := by decide +kernel
theorem dX2_size_22 : decode cX2_size 22 = .ok (.sipush 1400, 3) := by decide +kernel
theorem dX2_size_25 : decode cX2_size 25 = .ok (.if_icmp .ge 23, 3) := by decide +kernel
theorem dX2_size_28 : decode cX2_size 28 = .ok (.aload_n 0, 1) := by decide +kernel
theorem dX2_size_29 : decode cX2_size 29 = .ok (.getfield 13, 3) := by decide +kernel
theorem dX2_size_32 : decode cX2_size 32 = .ok (.iload_n 2, 1) := by decide +kernel
theorem dX2_size_33 : decode cX2_size 33 = .ok (.iconst 0, 1) := by decide +kernel
theorem dX2_size_34 : decode cX2_size 34 = .ok (.iastore, 1) := by decide +kernel
theorem dX2_size_35 : decode cX2_size 35 = .ok (.aload_n 0, 1) := by decide +kernel
theorem dX2_size_36 : decode cX2_size 36 = .ok (.getfield 17, 3) := by decide +kernel
theorem dX2_size_39 : decode cX2_size 39 = .ok (.iload_n 2, 1) := by decide +kernel
theorem dX2_size_40 : decode cX2_size 40 = .ok (.iconst 0, 1) := by decide +kernel
theorem dX2_size_41 : decode cX2_size 41 = .ok (.iastore, 1) := by decide +kernel
theorem dX2_size_42 : decode cX2_size 42 = .ok (.iinc 2 1, 3) := by decide +kernel
theorem dX2_size_45 : decode cX2_size 45 = .ok (.goto (-24), 3) := by decide +kernel
theorem dX2_size_48 : decode cX2_size 48 = .ok (.aload_n 0, 1) := by decide +kernel
theorem dX2_size_49 : decode cX2_size 49 = .ok (.iconst 0, 1) := by decide +kernel
theorem dX2_size_50 : decode cX2_size 50 = .ok (.putfield 45, 3) := by decide +kernel
theorem dX2_size_53 : decode cX2_size 53 = .ok (.iconst 1, 1) := by decide +kernel
theorem dX2_size_54 : decode cX2_size 54 = .ok (.ireturn, 1) := by decide +kernel
theorem dX2_isBlock_0 : decode cX2_isBlock 0 = .ok (.iload_n 1, 1) := by decide +kernel
theorem dX2_isBlock_1 : decode cX2_isBlock 1 = .ok (.ifCond .lt 15, 3) := by decide +kernel
theorem dX2_isBlock_4 : decode cX2_isBlock 4 = .ok (.iload_n 1, 1) := by decide +kernel
theorem dX2_isBlock_5 : decode cX2_isBlock 5 = .ok (.aload_n 0, 1) := by decide +kernel
theorem dX2_isBlock_6 : decode cX2_isBlock 6 = .ok (.getfield 7, 3) := by decide +kernel
theorem dX2_isBlock_9 : decode cX2_isBlock 9 = .ok (.if_icmp .ge 7, 3) := by decide +kernel
theorem dX2_isBlock_12 : decode cX2_isBlock 12 = .ok (.iconst 1, 1) := by decide +kernel
theorem dX2_isBlock_13 : decode cX2_isBlock 13 = .ok (.goto 4, 3) := by decide +kernel
theorem dX2_isBlock_16 : decode cX2_isBlock 16 = .ok (.iconst 0, 1) := by decide +kernel
theorem dX2_isBlock_17 : decode cX2_isBlock 17 = .ok (.ireturn, 1) := by decide +kernel
theorem dX2_isSet_0 : decode cX2_isSet 0 = .ok (.aload_n 0, 1) := by decide +kernel
theorem dX2_isSet_1 : decode cX2_isSet 1 = .ok (.iload_n 1, 1) := by decide +kernel
theorem dX2_isSet_2 : decode cX2_isSet 2 = .ok (.iload_n 2, 1) := by decide +kernel
theorem dX2_isSet_3 : decode cX2_isSet 3 = .ok (.bipush 32, 2) := by decide +kernel
theorem dX2_isSet_5 : decode cX2_isSet 5 = .ok (.idiv, 1) := by decide +kernel
theorem dX2_isSet_6 : decode cX2_isSet 6 = .ok (.iadd, 1) := by decide +kernel
theorem dX2_isSet_7 : decode cX2_isSet 7 = .ok (.iaload, 1) := by decide +kernel
theorem dX2_isSet_8 : decode cX2_isSet 8 = .ok (.iload_n 2, 1) := by decide +kernel
theorem dX2_isSet_9 : decode cX2_isSet 9 = .ok (.bipush 32, 2) := by decide +kernel
theorem dX2_isSet_11 : decode cX2_isSet 11 = .ok (.irem, 1) := by decide +kernel
theorem dX2_isSet_12 : decode cX2_isSet 12 = .ok (.ishr, 1) := by decide +kernel
theorem dX2_isSet_13 : decode cX2_isSet 13 = .ok (.iconst 1, 1) := by decide +kernel
theorem dX2_isSet_14 : decode cX2_isSet 14 = .ok (.iand, 1) := by decide +kernel
theorem dX2_isSet_15 : decode cX2_isSet 15 = .ok (.iconst 1, 1) := by decide +kernel
theorem dX2_isSet_16 : decode cX2_isSet 16 = .ok (.if_icmp .ne 7, 3) := by decide +kernel
theorem dX2_isSet_19 : decode cX2_isSet 19 = .ok (.iconst 1, 1) := by decide +kernel
theorem dX2_isSet_20 : decode cX2_isSet 20 = .ok (.goto 4, 3) := by decide +kernel
theorem dX2_isSet_23 : decode cX2_isSet 23 = .ok (.iconst 0, 1) := by decide +kernel
theorem dX2_isSet_24 : decode cX2_isSet 24 = .ok (.ireturn, 1) := by decide +kernel
theorem dX2_turn_0 : decode cX2_turn 0 = .ok (.aload_n 0, 1) := by decide +kernel
theorem dX2_turn_1 : decode cX2_turn 1 = .ok (.iload_n 1, 1) := by decide +kernel
theorem dX2_turn_2 : decode cX2_turn 2 = .ok (.iload_n 2, 1) := by decide +kernel
theorem dX2_turn_3 : decode cX2_turn 3 = .ok (.bipush 32, 2) := by decide +kernel
theorem dX2_turn_5 : decode cX2_turn 5 = .ok (.idiv, 1) := by decide +kernel
theorem dX2_turn_6 : decode cX2_turn 6 = .ok (.iadd, 1) := by decide +kernel
theorem dX2_turn_7 : decode cX2_turn 7 = .ok (.dup2, 1) := by decide +kernel
theorem dX2_turn_8 : decode cX2_turn 8 = .ok (.iaload, 1) := by decide +kernel
theorem dX2_turn_9 : decode cX2_turn 9 = .ok (.iconst 1, 1) := by decide +kernel
theorem dX2_turn_10 : decode cX2_turn 10 = .ok (.iload_n 2, 1) := by decide +kernel
theorem dX2_turn_11 : decode cX2_turn 11 = .ok (.bipush 32, 2) := by decide +kernel
theorem dX2_turn_13 : decode cX2_turn 13 = .ok (.irem, 1) := by decide +kernel
theorem dX2_turn_14 : decode cX2_turn 14 = .ok (.ishl, 1) := by decide +kernel
theorem dX2_turn_15 : decode cX2_turn 15 = .ok (.ixor, 1) := by decide +kernel
theorem dX2_turn_16 : decode cX2_turn 16 = .ok (.iastore, 1) := by decide +kernel
theorem dX2_turn_17 : decode cX2_turn 17 = .ok (.return_, 1) := by decide +kernel
set_option maxRecDepth 20000 in
theorem ggX2_edge_X2_isBlock : GoodIn wsX2_edge wsX2_isBlock := goodIn_r _ [8, 9, 20, 21, 22, 23, 24, 25, 26, 27, 28, 29, 30, 31, 32] (by decide +kernel) (by decide +kernel)
set_option maxRecDepth 20000 in
theorem gX2_edge_X2_isBlock : GoodIn wsX2_edge (wsV RX2 49 RX2 yX2_isBlock wsX2_isBlock) := goodIn_app (goodIn_of _ (by decide +kernel)) ggX2_edge_X2_isBlock
set_option maxRecDepth 20000 in
theorem ggX2_edge_X2_has : GoodIn wsX2_edge wsX2_has := goodIn_r _ [13, 1, 4, 5, 6, 7, 8, 9, 14, 15, 16, 20, 21, 22, 23, 24, 25, 26, 27, 28, 29, 30, 31, 32] (by decide +kernel) (by decide +kernel)
set_option maxRecDepth 20000 in
theorem gX2_edge_X2_has : GoodIn wsX2_edge (wsV RX2 53 RX2 yX2_has wsX2_has) := goodIn_app (goodIn_of _ (by decide +kernel)) ggX2_edge_X2_has
set_option maxRecDepth 20000 in
theorem ggX2_edge_X2_turn : GoodIn wsX2_edge wsX2_turn := goodIn_r _ [19] (by decide +kernel) (by decide +kernel)
set_option maxRecDepth 20000 in
theorem gX2_edge_X2_turn : GoodIn wsX2_edge (va_wsS RX2 57 yX2_turn wsX2_turn) := goodIn_app (goodIn_of _ (by decide +kernel)) ggX2_edge_X2_turn
theorem dX2_edge_0 : decode cX2_edge 0 = .ok (.aload_n 0, 1) := by decide +kernel
theorem dX2_edge_1 : decode cX2_edge 1 = .ok (.iload_n 1, 1) := by decide +kernel
theorem dX2_edge_2 : decode cX2_edge 2 = .ok (.invokevirtual 49, 3) := by decide +kernel
theorem dX2_edge_5 : decode cX2_edge 5 = .ok (.ifCond .eq 21, 3) := by decide +kernel
theorem dX2_edge_8 : decode cX2_edge 8 = .ok (.aload_n 0, 1) := by decide +kernel
theorem dX2_edge_9 : decode cX2_edge 9 = .ok (.iload_n 2, 1) := by decide +kernel
theorem dX2_edge_10 : decode cX2_edge 10 = .ok (.invokevirtual 49, 3) := by decide +kernel
theorem dX2_edge_13 : decode cX2_edge 13 = .ok (.ifCond .eq 13, 3) := by decide +kernel
theorem dX2_edge_16 : decode cX2_edge 16 = .ok (.aload_n 0, 1) := by decide +kernel
theorem dX2_edge_17 : decode cX2_edge 17 = .ok (.iload_n 1, 1) := by decide +kernel
theorem dX2_edge_18 : decode cX2_edge 18 = .ok (.iload_n 2, 1) := by decide +kernel
theorem dX2_edge_19 : decode cX2_edge 19 = .ok (.invokevirtual 53, 3) := by decide +kernel
theorem dX2_edge_22 : decode cX2_edge 22 = .ok (.iload_n 3, 1) := by decide +kernel
theorem dX2_edge_23 : decode cX2_edge 23 = .ok (.if_icmp .ne 5, 3) := by decide +kernel
theorem dX2_edge_26 : decode cX2_edge 26 = .ok (.iconst 0, 1) := by decide +kernel
theorem dX2_edge_27 : decode cX2_edge 27 = .ok (.ireturn, 1) := by decide +kernel
theorem dX2_edge_28 : decode cX2_edge 28 = .ok (.aload_n 0, 1) := by decide +kernel
theorem dX2_edge_29 : decode cX2_edge 29 = .ok (.getfield 13, 3) := by decide +kernel
theorem dX2_edge_32 : decode cX2_edge 32 = .ok (.bipush 7, 2) := by decide +kernel
theorem dX2_edge_34 : decode cX2_edge 34 = .ok (.iload_n 1, 1) := by decide +kernel
theorem dX2_edge_35 : decode cX2_edge 35 = .ok (.imul, 1) := by decide +kernel
theorem dX2_edge_36 : decode cX2_edge 36 = .ok (.iload_n 2, 1) := by decide +kernel
theorem dX2_edge_37 : decode cX2_edge 37 = .ok (.invokestatic 57, 3) := by decide +kernel
theorem dX2_edge_40 : decode cX2_edge 40 = .ok (.aload_n 0, 1) := by decide +kernel
theorem dX2_edge_41 : decode cX2_edge 41 = .ok (.getfield 17, 3) := by decide +kernel
theorem dX2_edge_44 : decode cX2_edge 44 = .ok (.bipush 7, 2) := by decide +kernel
theorem dX2_edge_46 : decode cX2_edge 46 = .ok (.iload_n 2, 1) := by decide +kernel
theorem dX2_edge_47 : decode cX2_edge 47 = .ok (.imul, 1) := by decide +kernel
theorem dX2_edge_48 : decode cX2_edge 48 = .ok (.iload_n 1, 1) := by decide +kernel
theorem dX2_edge_49 : decode cX2_edge 49 = .ok (.invokestatic 57, 3) := by decide +kernel
theorem dX2_edge_52 : decode cX2_edge 52 = .ok (.aload_n 0, 1) := by decide +kernel
theorem dX2_edge_53 : decode cX2_edge 53 = .ok (.iconst 0, 1) := by decide +kernel
theorem dX2_edge_54 : decode cX2_edge 54 = .ok (.putfield 45, 3) := by decide +kernel
theorem dX2_edge_57 : decode cX2_edge 57 = .ok (.iconst 1, 1) := by decide +kernel
theorem dX2_edge_58 : decode cX2_edge 58 = .ok (.ireturn, 1) := by decide +kernel
set_option maxRecDepth 20000 in
theorem ggX2_has_X2_isBlock : GoodIn wsX2_has wsX2_isBlock := goodIn_r _ [6, 7, 11, 12, 13, 14, 15, 16, 17, 18, 19, 20, 21, 22, 23] (by decide +kernel) (by decide +kernel)
set_option maxRecDepth 20000 in
theorem gX2_has_X2_isBlock : GoodIn wsX2_has (wsV RX2 49 RX2 yX2_isBlock wsX2_isBlock) := goodIn_app (goodIn_of _ (by decide +kernel)) ggX2_has_X2_isBlock
set_option maxRecDepth 20000 in
theorem ggX2_has_X2_isSet : GoodIn wsX2_has wsX2_isSet := goodIn_r _ [10] (by decide +kernel) (by decide +kernel)
set_option maxRecDepth 20000 in
theorem gX2_has_X2_isSet : GoodIn wsX2_has (va_wsS RX2 61 yX2_isSet wsX2_isSet) := goodIn_app (goodIn_of _ (by decide +kernel)) ggX2_has_X2_isSet
theorem dX2_has_0 : decode cX2_has 0 = .ok (.aload_n 0, 1) := by decide +kernel
theorem dX2_has_1 : decode cX2_has 1 = .ok (.iload_n 1, 1) := by decide +kernel
theorem dX2_has_2 : decode cX2_has 2 = .ok (.invokevirtual 49, 3) := by decide +kernel
theorem dX2_has_5 : decode cX2_has 5 = .ok (.ifCond .eq 30, 3) := by decide +kernel
theorem dX2_has_8 : decode cX2_has 8 = .ok (.aload_n 0, 1) := by decide +kernel
theorem dX2_has_9 : decode cX2_has 9 = .ok (.iload_n 2, 1) := by decide +kernel
theorem dX2_has_10 : decode cX2_has 10 = .ok (.invokevirtual 49, 3) := by decide +kernel
theorem dX2_has_13 : decode cX2_has 13 = .ok (.ifCond .eq 22, 3) := by decide +kernel
theorem dX2_has_16 : decode cX2_has 16 = .ok (.aload_n 0, 1) := by decide +kernel
theorem dX2_has_17 : decode cX2_has 17 = .ok (.getfield 13, 3) := by decide +kernel
theorem dX2_has_20 : decode cX2_has 20 = .ok (.bipush 7, 2) := by decide +kernel
theorem dX2_has_22 : decode cX2_has 22 = .ok (.iload_n 1, 1) := by decide +kernel
theorem dX2_has_23 : decode cX2_has 23 = .ok (.imul, 1) := by decide +kernel
theorem dX2_has_24 : decode cX2_has 24 = .ok (.iload_n 2, 1) := by decide +kernel
theorem dX2_has_25 : decode cX2_has 25 = .ok (.invokestatic 61, 3) := by decide +kernel
theorem dX2_has_28 : decode cX2_has 28 = .ok (.ifCond .eq 7, 3) := by decide +kernel
theorem dX2_has_31 : decode cX2_has 31 = .ok (.iconst 1, 1) := by decide +kernel
theorem dX2_has_32 : decode cX2_has 32 = .ok (.goto 4, 3) := by decide +kernel
theorem dX2_has_35 : decode cX2_has 35 = .ok (.iconst 0, 1) := by decide +kernel
theorem dX2_has_36 : decode cX2_has 36 = .ok (.ireturn, 1) := by decide +kernel
set_option maxRecDepth 20000 in
theorem ggX2_spread_X2_start : GoodIn wsX2_spread wsX2_start := goodIn_r _ [8, 3, 2, 1, 9, 10, 11, 12, 13, 14, 15, 16, 17, 18, 19, 20, 21] (by decide +kernel) (by decide +kernel)
set_option maxRecDepth 20000 in
theorem gX2_spread_X2_start : GoodIn wsX2_spread (wsV RX2 68 RX2 yX2_start wsX2_start) := goodIn_app (goodIn_of _ (by decide +kernel)) ggX2_spread_X2_start
theorem dX2_spread_0 : decode cX2_spread 0 = .ok (.aload_n 0, 1) := by decide +kernel
theorem dX2_spread_1 : decode cX2_spread 1 = .ok (.getfield 65, 3) := by decide +kernel
theorem dX2_spread_4 : decode cX2_spread 4 = .ok (.ifCond .le 127, 3) := by decide +kernel
theorem dX2_spread_7 : decode cX2_spread 7 = .ok (.aload_n 0, 1) := by decide +kernel
theorem dX2_spread_8 : decode cX2_spread 8 = .ok (.dup, 1) := by decide +kernel
theorem dX2_spread_9 : decode cX2_spread 9 = .ok (.getfield 65, 3) := by decide +kernel
theorem dX2_spread_12 : decode cX2_spread 12 = .ok (.iconst 1, 1) := by decide +kernel
theorem dX2_spread_13 : decode cX2_spread 13 = .ok (.isub, 1) := by decide +kernel
theorem dX2_spread_14 : decode cX2_spread 14 = .ok (.putfield 65, 3) := by decide +kernel
theorem dX2_spread_17 : decode cX2_spread 17 = .ok (.aload_n 0, 1) := by decide +kernel
theorem dX2_spread_18 : decode cX2_spread 18 = .ok (.getfield 42, 3) := by decide +kernel
theorem dX2_spread_21 : decode cX2_spread 21 = .ok (.aload_n 0, 1) := by decide +kernel
theorem dX2_spread_22 : decode cX2_spread 22 = .ok (.getfield 65, 3) := by decide +kernel
theorem dX2_spread_25 : decode cX2_spread 25 = .ok (.iaload, 1) := by decide +kernel
theorem dX2_spread_26 : decode cX2_spread 26 = .ok (.istore_n 3, 1) := by decide +kernel
theorem dX2_spread_27 : decode cX2_spread 27 = .ok (.iconst 0, 1) := by decide +kernel
theorem dX2_spread_28 : decode cX2_spread 28 = .ok (.istore 4, 2) := by decide +kernel
theorem dX2_spread_30 : decode cX2_spread 30 = .ok (.iload 4, 2) := by decide +kernel
theorem dX2_spread_32 : decode cX2_spread 32 = .ok (.bipush 7, 2) := by decide +kernel
theorem dX2_spread_34 : decode cX2_spread 34 = .ok (.if_icmp .ge 94, 3) := by decide +kernel
theorem dX2_spread_37 : decode cX2_spread 37 = .ok (.aload_n 1, 1) := by decide +kernel
theorem dX2_spread_38 : decode cX2_spread 38 = .ok (.bipush 7, 2) := by decide +kernel
theorem dX2_spread_40 : decode cX2_spread 40 = .ok (.iload_n 3, 1) := by decide +kernel
theorem dX2_spread_41 : decode cX2_spread 41 = .ok (.imul, 1) := by decide +kernel
theorem dX2_spread_42 : decode cX2_spread 42 = .ok (.iload 4, 2) := by decide +kernel
theorem dX2_spread_44 : decode cX2_spread 44 = .ok (.iadd, 1) := by decide +kernel
theorem dX2_spread_45 : decode cX2_spread 45 = .ok (.iaload, 1) := by decide +kernel
theorem dX2_spread_46 : decode cX2_spread 46 = .ok (.aload_n 0, 1) := by decide +kernel
theorem dX2_spread_47 : decode cX2_spread 47 = .ok (.getfield 39, 3) := by decide +kernel
theorem dX2_spread_50 : decode cX2_spread 50 = .ok (.iload 4, 2) := by decide +kernel
theorem dX2_spread_52 : decode cX2_spread 52 = .ok (.iaload, 1) := by decide +kernel
theorem dX2_spread_53 : decode cX2_spread 53 = .ok (.iconst (-1), 1) := by decide +kernel
theorem dX2_spread_54 : decode cX2_spread 54 = .ok (.ixor, 1) := by decide +kernel
theorem dX2_spread_55 : decode cX2_spread 55 = .ok (.iand, 1) := by decide +kernel
theorem dX2_spread_56 : decode cX2_spread 56 = .ok (.istore 5, 2) := by decide +kernel
theorem dX2_spread_58 : decode cX2_spread 58 = .ok (.iload_n 2, 1) := by decide +kernel
theorem dX2_spread_59 : decode cX2_spread 59 = .ok (.bipush 32, 2) := by decide +kernel
theorem dX2_spread_61 : decode cX2_spread 61 = .ok (.idiv, 1) := by decide +kernel
theorem dX2_spread_62 : decode cX2_spread 62 = .ok (.iload 4, 2) := by decide +kernel
theorem dX2_spread_64 : decode cX2_spread 64 = .ok (.if_icmp .ne 20, 3) := by decide +kernel
theorem dX2_spread_67 : decode cX2_spread 67 = .ok (.iload_n 2, 1) := by decide +kernel
theorem dX2_spread_68 : decode cX2_spread 68 = .ok (.ifCond .lt 16, 3) := by decide +kernel
theorem dX2_spread_71 : decode cX2_spread 71 = .ok (.iload 5, 2) := by decide +kernel
theorem dX2_spread_73 : decode cX2_spread 73 = .ok (.iconst 1, 1) := by decide +kernel
theorem dX2_spread_74 : decode cX2_spread 74 = .ok (.iload_n 2, 1) := by decide +kernel
theorem dX2_spread_75 : decode cX2_spread 75 = .ok (.bipush 32, 2) := by decide +kernel
theorem dX2_spread_77 : decode cX2_spread 77 = .ok (.irem, 1) := by decide +kernel
theorem dX2_spread_78 : decode cX2_spread 78 = .ok (.ishl, 1) := by decide +kernel
theorem dX2_spread_79 : decode cX2_spread 79 = .ok (.iconst (-1), 1) := by decide +kernel
theorem dX2_spread_80 : decode cX2_spread 80 = .ok (.ixor, 1) := by decide +kernel
theorem dX2_spread_81 : decode cX2_spread 81 = .ok (.iand, 1) := by decide +kernel
theorem dX2_spread_82 : decode cX2_spread 82 = .ok (.istore 5, 2) := by decide +kernel
theorem dX2_spread_84 : decode cX2_spread 84 = .ok (.bipush 32, 2) := by decide +kernel
theorem dX2_spread_86 : decode cX2_spread 86 = .ok (.iload 4, 2) := by decide +kernel
theorem dX2_spread_88 : decode cX2_spread 88 = .ok (.imul, 1) := by decide +kernel
theorem dX2_spread_89 : decode cX2_spread 89 = .ok (.istore 6, 2) := by decide +kernel
theorem dX2_spread_91 : decode cX2_spread 91 = .ok (.iload 5, 2) := by decide +kernel
theorem dX2_spread_93 : decode cX2_spread 93 = .ok (.ifCond .eq 29, 3) := by decide +kernel
theorem dX2_spread_96 : decode cX2_spread 96 = .ok (.iload 5, 2) := by decide +kernel
theorem dX2_spread_98 : decode cX2_spread 98 = .ok (.iconst 1, 1) := by decide +kernel
theorem dX2_spread_99 : decode cX2_spread 99 = .ok (.iand, 1) := by decide +kernel
theorem dX2_spread_100 : decode cX2_spread 100 = .ok (.iconst 1, 1) := by decide +kernel
theorem dX2_spread_101 : decode cX2_spread 101 = .ok (.if_icmp .ne 9, 3) := by decide +kernel
theorem dX2_spread_104 : decode cX2_spread 104 = .ok (.aload_n 0, 1) := by decide +kernel
theorem dX2_spread_105 : decode cX2_spread 105 = .ok (.iload 6, 2) := by decide +kernel
theorem dX2_spread_107 : decode cX2_spread 107 = .ok (.invokevirtual 68, 3) := by decide +kernel
theorem dX2_spread_110 : decode cX2_spread 110 = .ok (.iload 5, 2) := by decide +kernel
theorem dX2_spread_112 : decode cX2_spread 112 = .ok (.iconst 1, 1) := by decide +kernel
theorem dX2_spread_113 : decode cX2_spread 113 = .ok (.iushr, 1) := by decide +kernel
theorem dX2_spread_114 : decode cX2_spread 114 = .ok (.istore 5, 2) := by decide +kernel
theorem dX2_spread_116 : decode cX2_spread 116 = .ok (.iinc 6 1, 3) := by decide +kernel
theorem dX2_spread_119 : decode cX2_spread 119 = .ok (.goto (-28), 3) := by decide +kernel
theorem dX2_spread_122 : decode cX2_spread 122 = .ok (.iinc 4 1, 3) := by decide +kernel
theorem dX2_spread_125 : decode cX2_spread 125 = .ok (.goto (-95), 3) := by decide +kernel
theorem dX2_spread_128 : decode cX2_spread 128 = .ok (.goto (-128), 3) := by decide +kernel
theorem dX2_spread_131 : decode cX2_spread 131 = .ok (.return_, 1) := by decide +kernel
theorem dX2_start_0 : decode cX2_start 0 = .ok (.aload_n 0, 1) := by decide +kernel
theorem dX2_start_1 : decode cX2_start 1 = .ok (.getfield 39, 3) := by decide +kernel
theorem dX2_start_4 : decode cX2_start 4 = .ok (.iload_n 1, 1) := by decide +kernel
theorem dX2_start_5 : decode cX2_start 5 = .ok (.bipush 32, 2) := by decide +kernel
theorem dX2_start_7 : decode cX2_start 7 = .ok (.idiv, 1) := by decide +kernel
theorem dX2_start_8 : decode cX2_start 8 = .ok (.dup2, 1) := by decide +kernel
theorem dX2_start_9 : decode cX2_start 9 = .ok (.iaload, 1) := by decide +kernel
theorem dX2_start_10 : decode cX2_start 10 = .ok (.iconst 1, 1) := by decide +kernel
theorem dX2_start_11 : decode cX2_start 11 = .ok (.iload_n 1, 1) := by decide +kernel
theorem dX2_start_12 : decode cX2_start 12 = .ok (.bipush 32, 2) := by decide +kernel
theorem dX2_start_14 : decode cX2_start 14 = .ok (.irem, 1) := by decide +kernel
theorem dX2_start_15 : decode cX2_start 15 = .ok (.ishl, 1) := by decide +kernel
theorem dX2_start_16 : decode cX2_start 16 = .ok (.ior, 1) := by decide +kernel
theorem dX2_start_17 : decode cX2_start 17 = .ok (.iastore, 1) := by decide +kernel
theorem dX2_start_18 : decode cX2_start 18 = .ok (.aload_n 0, 1) := by decide +kernel
theorem dX2_start_19 : decode cX2_start 19 = .ok (.getfield 42, 3) := by decide +kernel
theorem dX2_start_22 : decode cX2_start 22 = .ok (.aload_n 0, 1) := by decide +kernel
theorem dX2_start_23 : decode cX2_start 23 = .ok (.getfield 65, 3) := by decide +kernel
theorem dX2_start_26 : decode cX2_start 26 = .ok (.iload_n 1, 1) := by decide +kernel
theorem dX2_start_27 : decode cX2_start 27 = .ok (.iastore, 1) := by decide +kernel
theorem dX2_start_28 : decode cX2_start 28 = .ok (.aload_n 0, 1) := by decide +kernel
theorem dX2_start_29 : decode cX2_start 29 = .ok (.dup, 1) := by decide +kernel
theorem dX2_start_30 : decode cX2_start 30 = .ok (.getfield 65, 3) := by decide +kernel
theorem dX2_start_33 : decode cX2_start 33 = .ok (.iconst 1, 1) := by decide +kernel
theorem dX2_start_34 : decode cX2_start 34 = .ok (.iadd, 1) := by decide +kernel
theorem dX2_start_35 : decode cX2_start 35 = .ok (.putfield 65, 3) := by decide +kernel
theorem dX2_start_38 : decode cX2_start 38 = .ok (.return_, 1) := by decide +kernel
theorem dX2_clear_0 : decode cX2_clear 0 = .ok (.aload_n 0, 1) := by decide +kernel
theorem dX2_clear_1 : decode cX2_clear 1 = .ok (.iconst 0, 1) := by decide +kernel
theorem dX2_clear_2 : decode cX2_clear 2 = .ok (.putfield 65, 3) := by decide +kernel
theorem dX2_clear_5 : decode cX2_clear 5 = .ok (.iconst 0, 1) := by decide +kernel
theorem dX2_clear_6 : decode cX2_clear 6 = .ok (.istore_n 1, 1) := by decide +kernel
theorem dX2_clear_7 : decode cX2_clear 7 = .ok (.iload_n 1, 1) := by decide +kernel
theorem dX2_clear_8 : decode cX2_clear 8 = .ok (.bipush 7, 2) := by decide +kernel
theorem dX2_clear_10 : decode cX2_clear 10 = .ok (.if_icmp .ge 16, 3) := by decide +kernel
theorem dX2_clear_13 : decode cX2_clear 13 = .ok (.aload_n 0, 1) := by decide +kernel
theorem dX2_clear_14 : decode cX2_clear 14 = .ok (.getfield 39, 3) := by decide +kernel
theorem dX2_clear_17 : decode cX2_clear 17 = .ok (.iload_n 1, 1) := by decide +kernel
theorem dX2_clear_18 : decode cX2_clear 18 = .ok (.iconst 0, 1) := by decide +kernel
theorem dX2_clear_19 : decode cX2_clear 19 = .ok (.iastore, 1) := by decide +kernel
theorem dX2_clear_20 : decode cX2_clear 20 = .ok (.iinc 1 1, 3) := by decide +kernel
theorem dX2_clear_23 : decode cX2_clear 23 = .ok (.goto (-16), 3) := by decide +kernel
theorem dX2_clear_26 : decode cX2_clear 26 = .ok (.return_, 1) := by decide +kernel
set_option maxRecDepth 20000 in
theorem ggX2_know_X2_clear : GoodIn wsX2_know wsX2_clear := goodIn_r _ [11, 12, 4, 38, 39, 40, 41, 42, 43, 44, 45, 46, 47, 48, 49, 50] (by decide +kernel) (by decide +kernel)
set_option maxRecDepth 20000 in
theorem gX2_know_X2_clear : GoodIn wsX2_know (wsV RX2 72 RX2 yX2_clear wsX2_clear) := goodIn_app (goodIn_of _ (by decide +kernel)) ggX2_know_X2_clear
set_option maxRecDepth 20000 in
theorem ggX2_know_X2_start : GoodIn wsX2_know wsX2_start := goodIn_r _ [16, 4, 17, 12, 38, 39, 40, 41, 42, 43, 44, 45, 46, 47, 48, 49, 50] (by decide +kernel) (by decide +kernel)
set_option maxRecDepth 20000 in
theorem gX2_know_X2_start : GoodIn wsX2_know (wsV RX2 68 RX2 yX2_start wsX2_start) := goodIn_app (goodIn_of _ (by decide +kernel)) ggX2_know_X2_start
set_option maxRecDepth 20000 in
theorem ggX2_know_X2_spread : GoodIn wsX2_know wsX2_spread := goodIn_r _ [21, 12, 17, 4, 13, 14, 15, 10, 16, 38, 39, 40, 41, 42, 43, 44, 45, 46, 47, 48, 49, 50] (by decide +kernel) (by decide +kernel)
set_option maxRecDepth 20000 in
theorem gX2_know_X2_spread : GoodIn wsX2_know (wsV RX2 75 RX2 yX2_spread wsX2_spread) := goodIn_app (goodIn_of _ (by decide +kernel)) ggX2_know_X2_spread
set_option maxRecDepth 20000 in
theorem ggX2_know_X2_isSet : GoodIn wsX2_know wsX2_isSet := goodIn_r _ [24] (by decide +kernel) (by decide +kernel)
set_option maxRecDepth 20000 in
theorem gX2_know_X2_isSet : GoodIn wsX2_know (va_wsS RX2 61 yX2_isSet wsX2_isSet) := goodIn_app (goodIn_of _ (by decide +kernel)) ggX2_know_X2_isSet
set_option maxRecDepth 20000 in
theorem ggX2_know_X2_rank : GoodIn wsX2_know wsX2_rank := goodIn_r _ [28, 5, 29, 6, 30, 22, 23, 10, 24, 38, 39, 40, 41, 42, 43, 44, 45, 46, 47, 48, 49, 50] (by decide +kernel) (by decide +kernel)
set_option maxRecDepth 20000 in
theorem gX2_know_X2_rank : GoodIn wsX2_know (wsV RX2 79 RX2 yX2_rank wsX2_rank) := goodIn_app (goodIn_of _ (by decide +kernel)) ggX2_know_X2_rank
set_option maxRecDepth 20000 in
theorem ggX2_know_X2_loops : GoodIn wsX2_know wsX2_loops := goodIn_r _ [34, 5, 35, 36, 6, 2, 37, 4, 3, 7, 8, 9, 10, 11, 12, 22, 23, 24, 13, 14, 15, 16, 17, 18, 19, 20, 21, 38, 39, 40, 41, 42, 43, 44, 45, 46, 47, 48, 49, 50] (by decide +kernel) (by decide +kernel)
set_option maxRecDepth 20000 in
theorem gX2_know_X2_loops : GoodIn wsX2_know (wsV RX2 82 RX2 yX2_loops wsX2_loops) := goodIn_app (goodIn_of _ (by decide +kernel)) ggX2_know_X2_loops
theorem dX2_know_0 : decode cX2_know 0 = .ok (.aload_n 0, 1) := by decide +kernel
theorem dX2_know_1 : decode cX2_know 1 = .ok (.getfield 45, 3) := by decide +kernel
theorem dX2_know_4 : decode cX2_know 4 = .ok (.ifCond .eq 4, 3) := by decide +kernel
theorem dX2_know_7 : decode cX2_know 7 = .ok (.return_, 1) := by decide +kernel
theorem dX2_know_8 : decode cX2_know 8 = .ok (.aload_n 0, 1) := by decide +kernel
theorem dX2_know_9 : decode cX2_know 9 = .ok (.iconst 1, 1) := by decide +kernel
theorem dX2_know_10 : decode cX2_know 10 = .ok (.putfield 45, 3) := by decide +kernel
theorem dX2_know_13 : decode cX2_know 13 = .ok (.aload_n 0, 1) := by decide +kernel
theorem dX2_know_14 : decode cX2_know 14 = .ok (.invokevirtual 72, 3) := by decide +kernel
theorem dX2_know_17 : decode cX2_know 17 = .ok (.aload_n 0, 1) := by decide +kernel
theorem dX2_know_18 : decode cX2_know 18 = .ok (.iconst 0, 1) := by decide +kernel
theorem dX2_know_19 : decode cX2_know 19 = .ok (.invokevirtual 68, 3) := by decide +kernel
theorem dX2_know_22 : decode cX2_know 22 = .ok (.aload_n 0, 1) := by decide +kernel
theorem dX2_know_23 : decode cX2_know 23 = .ok (.aload_n 0, 1) := by decide +kernel
theorem dX2_know_24 : decode cX2_know 24 = .ok (.getfield 13, 3) := by decide +kernel
theorem dX2_know_27 : decode cX2_know 27 = .ok (.iconst (-1), 1) := by decide +kernel
theorem dX2_know_28 : decode cX2_know 28 = .ok (.invokevirtual 75, 3) := by decide +kernel
theorem dX2_know_31 : decode cX2_know 31 = .ok (.iconst 0, 1) := by decide +kernel
theorem dX2_know_32 : decode cX2_know 32 = .ok (.istore_n 1, 1) := by decide +kernel
theorem dX2_know_33 : decode cX2_know 33 = .ok (.iload_n 1, 1) := by decide +kernel
theorem dX2_know_34 : decode cX2_know 34 = .ok (.bipush 7, 2) := by decide +kernel
theorem dX2_know_36 : decode cX2_know 36 = .ok (.if_icmp .ge 21, 3) := by decide +kernel
theorem dX2_know_39 : decode cX2_know 39 = .ok (.aload_n 0, 1) := by decide +kernel
theorem dX2_know_40 : decode cX2_know 40 = .ok (.getfield 20, 3) := by decide +kernel
theorem dX2_know_43 : decode cX2_know 43 = .ok (.iload_n 1, 1) := by decide +kernel
theorem dX2_know_44 : decode cX2_know 44 = .ok (.aload_n 0, 1) := by decide +kernel
theorem dX2_know_45 : decode cX2_know 45 = .ok (.getfield 39, 3) := by decide +kernel
theorem dX2_know_48 : decode cX2_know 48 = .ok (.iload_n 1, 1) := by decide +kernel
theorem dX2_know_49 : decode cX2_know 49 = .ok (.iaload, 1) := by decide +kernel
theorem dX2_know_50 : decode cX2_know 50 = .ok (.iastore, 1) := by decide +kernel
theorem dX2_know_51 : decode cX2_know 51 = .ok (.iinc 1 1, 3) := by decide +kernel
theorem dX2_know_54 : decode cX2_know 54 = .ok (.goto (-21), 3) := by decide +kernel
theorem dX2_know_57 : decode cX2_know 57 = .ok (.iconst 0, 1) := by decide +kernel
theorem dX2_know_58 : decode cX2_know 58 = .ok (.istore_n 1, 1) := by decide +kernel
theorem dX2_know_59 : decode cX2_know 59 = .ok (.iload_n 1, 1) := by decide +kernel
theorem dX2_know_60 : decode cX2_know 60 = .ok (.aload_n 0, 1) := by decide +kernel
theorem dX2_know_61 : decode cX2_know 61 = .ok (.getfield 7, 3) := by decide +kernel
theorem dX2_know_64 : decode cX2_know 64 = .ok (.if_icmp .ge 87, 3) := by decide +kernel
theorem dX2_know_67 : decode cX2_know 67 = .ok (.aload_n 0, 1) := by decide +kernel
theorem dX2_know_68 : decode cX2_know 68 = .ok (.invokevirtual 72, 3) := by decide +kernel
theorem dX2_know_71 : decode cX2_know 71 = .ok (.iload_n 1, 1) := by decide +kernel
theorem dX2_know_72 : decode cX2_know 72 = .ok (.ifCond .le 8, 3) := by decide +kernel
theorem dX2_know_75 : decode cX2_know 75 = .ok (.aload_n 0, 1) := by decide +kernel
theorem dX2_know_76 : decode cX2_know 76 = .ok (.iconst 0, 1) := by decide +kernel
theorem dX2_know_77 : decode cX2_know 77 = .ok (.invokevirtual 68, 3) := by decide +kernel
theorem dX2_know_80 : decode cX2_know 80 = .ok (.aload_n 0, 1) := by decide +kernel
theorem dX2_know_81 : decode cX2_know 81 = .ok (.aload_n 0, 1) := by decide +kernel
theorem dX2_know_82 : decode cX2_know 82 = .ok (.getfield 13, 3) := by decide +kernel
theorem dX2_know_85 : decode cX2_know 85 = .ok (.iload_n 1, 1) := by decide +kernel
theorem dX2_know_86 : decode cX2_know 86 = .ok (.invokevirtual 75, 3) := by decide +kernel
theorem dX2_know_89 : decode cX2_know 89 = .ok (.iconst 0, 1) := by decide +kernel
theorem dX2_know_90 : decode cX2_know 90 = .ok (.istore_n 2, 1) := by decide +kernel
theorem dX2_know_91 : decode cX2_know 91 = .ok (.iload_n 2, 1) := by decide +kernel
theorem dX2_know_92 : decode cX2_know 92 = .ok (.bipush 7, 2) := by decide +kernel
theorem dX2_know_94 : decode cX2_know 94 = .ok (.if_icmp .ge 51, 3) := by decide +kernel
theorem dX2_know_97 : decode cX2_know 97 = .ok (.aload_n 0, 1) := by decide +kernel
theorem dX2_know_98 : decode cX2_know 98 = .ok (.getfield 23, 3) := by decide +kernel
theorem dX2_know_101 : decode cX2_know 101 = .ok (.bipush 7, 2) := by decide +kernel
theorem dX2_know_103 : decode cX2_know 103 = .ok (.iload_n 1, 1) := by decide +kernel
theorem dX2_know_104 : decode cX2_know 104 = .ok (.imul, 1) := by decide +kernel
theorem dX2_know_105 : decode cX2_know 105 = .ok (.iload_n 2, 1) := by decide +kernel
theorem dX2_know_106 : decode cX2_know 106 = .ok (.iadd, 1) := by decide +kernel
theorem dX2_know_107 : decode cX2_know 107 = .ok (.aload_n 0, 1) := by decide +kernel
theorem dX2_know_108 : decode cX2_know 108 = .ok (.getfield 20, 3) := by decide +kernel
theorem dX2_know_111 : decode cX2_know 111 = .ok (.iconst 0, 1) := by decide +kernel
theorem dX2_know_112 : decode cX2_know 112 = .ok (.iload_n 1, 1) := by decide +kernel
theorem dX2_know_113 : decode cX2_know 113 = .ok (.invokestatic 61, 3) := by decide +kernel
theorem dX2_know_116 : decode cX2_know 116 = .ok (.ifCond .eq 21, 3) := by decide +kernel
theorem dX2_know_119 : decode cX2_know 119 = .ok (.aload_n 0, 1) := by decide +kernel
theorem dX2_know_120 : decode cX2_know 120 = .ok (.getfield 20, 3) := by decide +kernel
theorem dX2_know_123 : decode cX2_know 123 = .ok (.iload_n 2, 1) := by decide +kernel
theorem dX2_know_124 : decode cX2_know 124 = .ok (.iaload, 1) := by decide +kernel
theorem dX2_know_125 : decode cX2_know 125 = .ok (.aload_n 0, 1) := by decide +kernel
theorem dX2_know_126 : decode cX2_know 126 = .ok (.getfield 39, 3) := by decide +kernel
theorem dX2_know_129 : decode cX2_know 129 = .ok (.iload_n 2, 1) := by decide +kernel
theorem dX2_know_130 : decode cX2_know 130 = .ok (.iaload, 1) := by decide +kernel
theorem dX2_know_131 : decode cX2_know 131 = .ok (.iconst (-1), 1) := by decide +kernel
theorem dX2_know_132 : decode cX2_know 132 = .ok (.ixor, 1) := by decide +kernel
theorem dX2_know_133 : decode cX2_know 133 = .ok (.iand, 1) := by decide +kernel
theorem dX2_know_134 : decode cX2_know 134 = .ok (.goto 4, 3) := by decide +kernel
theorem dX2_know_137 : decode cX2_know 137 = .ok (.iconst 0, 1) := by decide +kernel
theorem dX2_know_138 : decode cX2_know 138 = .ok (.iastore, 1) := by decide +kernel
theorem dX2_know_139 : decode cX2_know 139 = .ok (.iinc 2 1, 3) := by decide +kernel
theorem dX2_know_142 : decode cX2_know 142 = .ok (.goto (-51), 3) := by decide +kernel
theorem dX2_know_145 : decode cX2_know 145 = .ok (.iinc 1 1, 3) := by decide +kernel
theorem dX2_know_148 : decode cX2_know 148 = .ok (.goto (-89), 3) := by decide +kernel
theorem dX2_know_151 : decode cX2_know 151 = .ok (.aload_n 0, 1) := by decide +kernel
theorem dX2_know_152 : decode cX2_know 152 = .ok (.invokevirtual 79, 3) := by decide +kernel
theorem dX2_know_155 : decode cX2_know 155 = .ok (.aload_n 0, 1) := by decide +kernel
theorem dX2_know_156 : decode cX2_know 156 = .ok (.invokevirtual 82, 3) := by decide +kernel
theorem dX2_know_159 : decode cX2_know 159 = .ok (.return_, 1) := by decide +kernel
set_option maxRecDepth 20000 in
theorem ggX2_rank_X2_isSet : GoodIn wsX2_rank wsX2_isSet := goodIn_r _ [8] (by decide +kernel) (by decide +kernel)
set_option maxRecDepth 20000 in
theorem gX2_rank_X2_isSet : GoodIn wsX2_rank (va_wsS RX2 61 yX2_isSet wsX2_isSet) := goodIn_app (goodIn_of _ (by decide +kernel)) ggX2_rank_X2_isSet
theorem dX2_rank_0 : decode cX2_rank 0 = .ok (.iconst 0, 1) := by decide +kernel
theorem dX2_rank_1 : decode cX2_rank 1 = .ok (.istore_n 1, 1) := by decide +kernel
theorem dX2_rank_2 : decode cX2_rank 2 = .ok (.iload_n 1, 1) := by decide +kernel
theorem dX2_rank_3 : decode cX2_rank 3 = .ok (.aload_n 0, 1) := by decide +kernel
theorem dX2_rank_4 : decode cX2_rank 4 = .ok (.getfield 7, 3) := by decide +kernel
theorem dX2_rank_7 : decode cX2_rank 7 = .ok (.if_icmp .ge 57, 3) := by decide +kernel
theorem dX2_rank_10 : decode cX2_rank 10 = .ok (.aload_n 0, 1) := by decide +kernel
theorem dX2_rank_11 : decode cX2_rank 11 = .ok (.getfield 26, 3) := by decide +kernel
theorem dX2_rank_14 : decode cX2_rank 14 = .ok (.iload_n 1, 1) := by decide +kernel
theorem dX2_rank_15 : decode cX2_rank 15 = .ok (.iconst 0, 1) := by decide +kernel
theorem dX2_rank_16 : decode cX2_rank 16 = .ok (.iastore, 1) := by decide +kernel
theorem dX2_rank_17 : decode cX2_rank 17 = .ok (.iconst 0, 1) := by decide +kernel
theorem dX2_rank_18 : decode cX2_rank 18 = .ok (.istore_n 2, 1) := by decide +kernel
theorem dX2_rank_19 : decode cX2_rank 19 = .ok (.iload_n 2, 1) := by decide +kernel
theorem dX2_rank_20 : decode cX2_rank 20 = .ok (.aload_n 0, 1) := by decide +kernel
theorem dX2_rank_21 : decode cX2_rank 21 = .ok (.getfield 7, 3) := by decide +kernel
theorem dX2_rank_24 : decode cX2_rank 24 = .ok (.if_icmp .ge 34, 3) := by decide +kernel
theorem dX2_rank_27 : decode cX2_rank 27 = .ok (.aload_n 0, 1) := by decide +kernel
theorem dX2_rank_28 : decode cX2_rank 28 = .ok (.getfield 23, 3) := by decide +kernel
theorem dX2_rank_31 : decode cX2_rank 31 = .ok (.bipush 7, 2) := by decide +kernel
theorem dX2_rank_33 : decode cX2_rank 33 = .ok (.iload_n 2, 1) := by decide +kernel
theorem dX2_rank_34 : decode cX2_rank 34 = .ok (.imul, 1) := by decide +kernel
theorem dX2_rank_35 : decode cX2_rank 35 = .ok (.iload_n 1, 1) := by decide +kernel
theorem dX2_rank_36 : decode cX2_rank 36 = .ok (.invokestatic 61, 3) := by decide +kernel
theorem dX2_rank_39 : decode cX2_rank 39 = .ok (.ifCond .eq 13, 3) := by decide +kernel
theorem dX2_rank_42 : decode cX2_rank 42 = .ok (.aload_n 0, 1) := by decide +kernel
theorem dX2_rank_43 : decode cX2_rank 43 = .ok (.getfield 26, 3) := by decide +kernel
theorem dX2_rank_46 : decode cX2_rank 46 = .ok (.iload_n 1, 1) := by decide +kernel
theorem dX2_rank_47 : decode cX2_rank 47 = .ok (.dup2, 1) := by decide +kernel
theorem dX2_rank_48 : decode cX2_rank 48 = .ok (.iaload, 1) := by decide +kernel
theorem dX2_rank_49 : decode cX2_rank 49 = .ok (.iconst 1, 1) := by decide +kernel
theorem dX2_rank_50 : decode cX2_rank 50 = .ok (.iadd, 1) := by decide +kernel
theorem dX2_rank_51 : decode cX2_rank 51 = .ok (.iastore, 1) := by decide +kernel
theorem dX2_rank_52 : decode cX2_rank 52 = .ok (.iinc 2 1, 3) := by decide +kernel
theorem dX2_rank_55 : decode cX2_rank 55 = .ok (.goto (-36), 3) := by decide +kernel
theorem dX2_rank_58 : decode cX2_rank 58 = .ok (.iinc 1 1, 3) := by decide +kernel
theorem dX2_rank_61 : decode cX2_rank 61 = .ok (.goto (-59), 3) := by decide +kernel
theorem dX2_rank_64 : decode cX2_rank 64 = .ok (.iconst 0, 1) := by decide +kernel
theorem dX2_rank_65 : decode cX2_rank 65 = .ok (.istore_n 1, 1) := by decide +kernel
theorem dX2_rank_66 : decode cX2_rank 66 = .ok (.iload_n 1, 1) := by decide +kernel
theorem dX2_rank_67 : decode cX2_rank 67 = .ok (.aload_n 0, 1) := by decide +kernel
theorem dX2_rank_68 : decode cX2_rank 68 = .ok (.getfield 7, 3) := by decide +kernel
theorem dX2_rank_71 : decode cX2_rank 71 = .ok (.if_icmp .ge 91, 3) := by decide +kernel
theorem dX2_rank_74 : decode cX2_rank 74 = .ok (.aload_n 0, 1) := by decide +kernel
theorem dX2_rank_75 : decode cX2_rank 75 = .ok (.getfield 29, 3) := by decide +kernel
theorem dX2_rank_78 : decode cX2_rank 78 = .ok (.iload_n 1, 1) := by decide +kernel
theorem dX2_rank_79 : decode cX2_rank 79 = .ok (.iconst (-1), 1) := by decide +kernel
theorem dX2_rank_80 : decode cX2_rank 80 = .ok (.iastore, 1) := by decide +kernel
theorem dX2_rank_81 : decode cX2_rank 81 = .ok (.iconst 0, 1) := by decide +kernel
theorem dX2_rank_82 : decode cX2_rank 82 = .ok (.istore_n 2, 1) := by decide +kernel
theorem dX2_rank_83 : decode cX2_rank 83 = .ok (.iload_n 2, 1) := by decide +kernel
theorem dX2_rank_84 : decode cX2_rank 84 = .ok (.aload_n 0, 1) := by decide +kernel
theorem dX2_rank_85 : decode cX2_rank 85 = .ok (.getfield 7, 3) := by decide +kernel
theorem dX2_rank_88 : decode cX2_rank 88 = .ok (.if_icmp .ge 68, 3) := by decide +kernel
theorem dX2_rank_91 : decode cX2_rank 91 = .ok (.iload_n 2, 1) := by decide +kernel
theorem dX2_rank_92 : decode cX2_rank 92 = .ok (.iload_n 1, 1) := by decide +kernel
theorem dX2_rank_93 : decode cX2_rank 93 = .ok (.if_icmp .eq 57, 3) := by decide +kernel
theorem dX2_rank_96 : decode cX2_rank 96 = .ok (.aload_n 0, 1) := by decide +kernel
theorem dX2_rank_97 : decode cX2_rank 97 = .ok (.getfield 23, 3) := by decide +kernel
theorem dX2_rank_100 : decode cX2_rank 100 = .ok (.bipush 7, 2) := by decide +kernel
theorem dX2_rank_102 : decode cX2_rank 102 = .ok (.iload_n 2, 1) := by decide +kernel
theorem dX2_rank_103 : decode cX2_rank 103 = .ok (.imul, 1) := by decide +kernel
theorem dX2_rank_104 : decode cX2_rank 104 = .ok (.iload_n 1, 1) := by decide +kernel
theorem dX2_rank_105 : decode cX2_rank 105 = .ok (.invokestatic 61, 3) := by decide +kernel
theorem dX2_rank_108 : decode cX2_rank 108 = .ok (.ifCond .ne 6, 3) := by decide +kernel
theorem dX2_rank_111 : decode cX2_rank 111 = .ok (.goto 39, 3) := by decide +kernel
theorem dX2_rank_114 : decode cX2_rank 114 = .ok (.aload_n 0, 1) := by decide +kernel
theorem dX2_rank_115 : decode cX2_rank 115 = .ok (.getfield 29, 3) := by decide +kernel
theorem dX2_rank_118 : decode cX2_rank 118 = .ok (.iload_n 1, 1) := by decide +kernel
theorem dX2_rank_119 : decode cX2_rank 119 = .ok (.iaload, 1) := by decide +kernel
theorem dX2_rank_120 : decode cX2_rank 120 = .ok (.ifCond .lt 23, 3) := by decide +kernel
theorem dX2_rank_123 : decode cX2_rank 123 = .ok (.aload_n 0, 1) := by decide +kernel
theorem dX2_rank_124 : decode cX2_rank 124 = .ok (.getfield 26, 3) := by decide +kernel
theorem dX2_rank_127 : decode cX2_rank 127 = .ok (.iload_n 2, 1) := by decide +kernel
theorem dX2_rank_128 : decode cX2_rank 128 = .ok (.iaload, 1) := by decide +kernel
theorem dX2_rank_129 : decode cX2_rank 129 = .ok (.aload_n 0, 1) := by decide +kernel
theorem dX2_rank_130 : decode cX2_rank 130 = .ok (.getfield 26, 3) := by decide +kernel
theorem dX2_rank_133 : decode cX2_rank 133 = .ok (.aload_n 0, 1) := by decide +kernel
theorem dX2_rank_134 : decode cX2_rank 134 = .ok (.getfield 29, 3) := by decide +kernel
theorem dX2_rank_137 : decode cX2_rank 137 = .ok (.iload_n 1, 1) := by decide +kernel
theorem dX2_rank_138 : decode cX2_rank 138 = .ok (.iaload, 1) := by decide +kernel
theorem dX2_rank_139 : decode cX2_rank 139 = .ok (.iaload, 1) := by decide +kernel
theorem dX2_rank_140 : decode cX2_rank 140 = .ok (.if_icmp .le 10, 3) := by decide +kernel
theorem dX2_rank_143 : decode cX2_rank 143 = .ok (.aload_n 0, 1) := by decide +kernel
theorem dX2_rank_144 : decode cX2_rank 144 = .ok (.getfield 29, 3) := by decide +kernel
theorem dX2_rank_147 : decode cX2_rank 147 = .ok (.iload_n 1, 1) := by decide +kernel
theorem dX2_rank_148 : decode cX2_rank 148 = .ok (.iload_n 2, 1) := by decide +kernel
theorem dX2_rank_149 : decode cX2_rank 149 = .ok (.iastore, 1) := by decide +kernel
theorem dX2_rank_150 : decode cX2_rank 150 = .ok (.iinc 2 1, 3) := by decide +kernel
theorem dX2_rank_153 : decode cX2_rank 153 = .ok (.goto (-70), 3) := by decide +kernel
theorem dX2_rank_156 : decode cX2_rank 156 = .ok (.iinc 1 1, 3) := by decide +kernel
theorem dX2_rank_159 : decode cX2_rank 159 = .ok (.goto (-93), 3) := by decide +kernel
theorem dX2_rank_162 : decode cX2_rank 162 = .ok (.return_, 1) := by decide +kernel
set_option maxRecDepth 20000 in
theorem ggX2_loops_X2_clear : GoodIn wsX2_loops wsX2_clear := goodIn_r _ [13, 14, 7, 27, 28, 29, 30, 31, 32, 33, 34, 35, 36, 37, 38, 39] (by decide +kernel) (by decide +kernel)
set_option maxRecDepth 20000 in
theorem gX2_loops_X2_clear : GoodIn wsX2_loops (wsV RX2 72 RX2 yX2_clear wsX2_clear) := goodIn_app (goodIn_of _ (by decide +kernel)) ggX2_loops_X2_clear
set_option maxRecDepth 20000 in
theorem ggX2_loops_X2_isSet : GoodIn wsX2_loops wsX2_isSet := goodIn_r _ [17] (by decide +kernel) (by decide +kernel)
set_option maxRecDepth 20000 in
theorem gX2_loops_X2_isSet : GoodIn wsX2_loops (va_wsS RX2 61 yX2_isSet wsX2_isSet) := goodIn_app (goodIn_of _ (by decide +kernel)) ggX2_loops_X2_isSet
set_option maxRecDepth 20000 in
theorem ggX2_loops_X2_start : GoodIn wsX2_loops wsX2_start := goodIn_r _ [21, 7, 22, 14, 27, 28, 29, 30, 31, 32, 33, 34, 35, 36, 37, 38, 39] (by decide +kernel) (by decide +kernel)
set_option maxRecDepth 20000 in
theorem gX2_loops_X2_start : GoodIn wsX2_loops (wsV RX2 68 RX2 yX2_start wsX2_start) := goodIn_app (goodIn_of _ (by decide +kernel)) ggX2_loops_X2_start
set_option maxRecDepth 20000 in
theorem ggX2_loops_X2_spread : GoodIn wsX2_loops wsX2_spread := goodIn_r _ [26, 14, 22, 7, 18, 19, 20, 12, 21, 27, 28, 29, 30, 31, 32, 33, 34, 35, 36, 37, 38, 39] (by decide +kernel) (by decide +kernel)
set_option maxRecDepth 20000 in
theorem gX2_loops_X2_spread : GoodIn wsX2_loops (wsV RX2 75 RX2 yX2_spread wsX2_spread) := goodIn_app (goodIn_of _ (by decide +kernel)) ggX2_loops_X2_spread
theorem dX2_loops_0 : decode cX2_loops 0 = .ok (.iconst 0, 1) := by decide +kernel
theorem dX2_loops_1 : decode cX2_loops 1 = .ok (.istore_n 1, 1) := by decide +kernel
theorem dX2_loops_2 : decode cX2_loops 2 = .ok (.iload_n 1, 1) := by decide +kernel
theorem dX2_loops_3 : decode cX2_loops 3 = .ok (.aload_n 0, 1) := by decide +kernel
theorem dX2_loops_4 : decode cX2_loops 4 = .ok (.getfield 7, 3) := by decide +kernel
theorem dX2_loops_7 : decode cX2_loops 7 = .ok (.if_icmp .ge 16, 3) := by decide +kernel
theorem dX2_loops_10 : decode cX2_loops 10 = .ok (.aload_n 0, 1) := by decide +kernel
theorem dX2_loops_11 : decode cX2_loops 11 = .ok (.getfield 36, 3) := by decide +kernel
theorem dX2_loops_14 : decode cX2_loops 14 = .ok (.iload_n 1, 1) := by decide +kernel
theorem dX2_loops_15 : decode cX2_loops 15 = .ok (.iconst 0, 1) := by decide +kernel
theorem dX2_loops_16 : decode cX2_loops 16 = .ok (.iastore, 1) := by decide +kernel
theorem dX2_loops_17 : decode cX2_loops 17 = .ok (.iinc 1 1, 3) := by decide +kernel
theorem dX2_loops_20 : decode cX2_loops 20 = .ok (.goto (-18), 3) := by decide +kernel
theorem dX2_loops_23 : decode cX2_loops 23 = .ok (.iconst 0, 1) := by decide +kernel
theorem dX2_loops_24 : decode cX2_loops 24 = .ok (.istore_n 1, 1) := by decide +kernel
theorem dX2_loops_25 : decode cX2_loops 25 = .ok (.iload_n 1, 1) := by decide +kernel
theorem dX2_loops_26 : decode cX2_loops 26 = .ok (.aload_n 0, 1) := by decide +kernel
theorem dX2_loops_27 : decode cX2_loops 27 = .ok (.getfield 7, 3) := by decide +kernel
theorem dX2_loops_30 : decode cX2_loops 30 = .ok (.if_icmp .ge 167, 3) := by decide +kernel
theorem dX2_loops_33 : decode cX2_loops 33 = .ok (.aload_n 0, 1) := by decide +kernel
theorem dX2_loops_34 : decode cX2_loops 34 = .ok (.invokevirtual 72, 3) := by decide +kernel
theorem dX2_loops_37 : decode cX2_loops 37 = .ok (.aload_n 0, 1) := by decide +kernel
theorem dX2_loops_38 : decode cX2_loops 38 = .ok (.getfield 32, 3) := by decide +kernel
theorem dX2_loops_41 : decode cX2_loops 41 = .ok (.iload_n 1, 1) := by decide +kernel
theorem dX2_loops_42 : decode cX2_loops 42 = .ok (.iconst 0, 1) := by decide +kernel
theorem dX2_loops_43 : decode cX2_loops 43 = .ok (.bastore, 1) := by decide +kernel
theorem dX2_loops_44 : decode cX2_loops 44 = .ok (.iconst 0, 1) := by decide +kernel
theorem dX2_loops_45 : decode cX2_loops 45 = .ok (.istore_n 2, 1) := by decide +kernel
theorem dX2_loops_46 : decode cX2_loops 46 = .ok (.iload_n 2, 1) := by decide +kernel
theorem dX2_loops_47 : decode cX2_loops 47 = .ok (.aload_n 0, 1) := by decide +kernel
theorem dX2_loops_48 : decode cX2_loops 48 = .ok (.getfield 7, 3) := by decide +kernel
theorem dX2_loops_51 : decode cX2_loops 51 = .ok (.if_icmp .ge 59, 3) := by decide +kernel
theorem dX2_loops_54 : decode cX2_loops 54 = .ok (.aload_n 0, 1) := by decide +kernel
theorem dX2_loops_55 : decode cX2_loops 55 = .ok (.getfield 23, 3) := by decide +kernel
theorem dX2_loops_58 : decode cX2_loops 58 = .ok (.bipush 7, 2) := by decide +kernel
theorem dX2_loops_60 : decode cX2_loops 60 = .ok (.iload_n 1, 1) := by decide +kernel
theorem dX2_loops_61 : decode cX2_loops 61 = .ok (.imul, 1) := by decide +kernel
theorem dX2_loops_62 : decode cX2_loops 62 = .ok (.iload_n 2, 1) := by decide +kernel
theorem dX2_loops_63 : decode cX2_loops 63 = .ok (.invokestatic 61, 3) := by decide +kernel
theorem dX2_loops_66 : decode cX2_loops 66 = .ok (.ifCond .eq 38, 3) := by decide +kernel
theorem dX2_loops_69 : decode cX2_loops 69 = .ok (.aload_n 0, 1) := by decide +kernel
theorem dX2_loops_70 : decode cX2_loops 70 = .ok (.getfield 13, 3) := by decide +kernel
theorem dX2_loops_73 : decode cX2_loops 73 = .ok (.bipush 7, 2) := by decide +kernel
theorem dX2_loops_75 : decode cX2_loops 75 = .ok (.iload_n 2, 1) := by decide +kernel
theorem dX2_loops_76 : decode cX2_loops 76 = .ok (.imul, 1) := by decide +kernel
theorem dX2_loops_77 : decode cX2_loops 77 = .ok (.iload_n 1, 1) := by decide +kernel
theorem dX2_loops_78 : decode cX2_loops 78 = .ok (.invokestatic 61, 3) := by decide +kernel
theorem dX2_loops_81 : decode cX2_loops 81 = .ok (.ifCond .ne 6, 3) := by decide +kernel
theorem dX2_loops_84 : decode cX2_loops 84 = .ok (.goto 20, 3) := by decide +kernel
theorem dX2_loops_87 : decode cX2_loops 87 = .ok (.aload_n 0, 1) := by decide +kernel
theorem dX2_loops_88 : decode cX2_loops 88 = .ok (.getfield 32, 3) := by decide +kernel
theorem dX2_loops_91 : decode cX2_loops 91 = .ok (.iload_n 1, 1) := by decide +kernel
theorem dX2_loops_92 : decode cX2_loops 92 = .ok (.iconst 1, 1) := by decide +kernel
theorem dX2_loops_93 : decode cX2_loops 93 = .ok (.bastore, 1) := by decide +kernel
theorem dX2_loops_94 : decode cX2_loops 94 = .ok (.iload_n 2, 1) := by decide +kernel
theorem dX2_loops_95 : decode cX2_loops 95 = .ok (.iload_n 1, 1) := by decide +kernel
theorem dX2_loops_96 : decode cX2_loops 96 = .ok (.if_icmp .eq 8, 3) := by decide +kernel
theorem dX2_loops_99 : decode cX2_loops 99 = .ok (.aload_n 0, 1) := by decide +kernel
theorem dX2_loops_100 : decode cX2_loops 100 = .ok (.iload_n 2, 1) := by decide +kernel
theorem dX2_loops_101 : decode cX2_loops 101 = .ok (.invokevirtual 68, 3) := by decide +kernel
theorem dX2_loops_104 : decode cX2_loops 104 = .ok (.iinc 2 1, 3) := by decide +kernel
theorem dX2_loops_107 : decode cX2_loops 107 = .ok (.goto (-61), 3) := by decide +kernel
theorem dX2_loops_110 : decode cX2_loops 110 = .ok (.aload_n 0, 1) := by decide +kernel
theorem dX2_loops_111 : decode cX2_loops 111 = .ok (.getfield 32, 3) := by decide +kernel
theorem dX2_loops_114 : decode cX2_loops 114 = .ok (.iload_n 1, 1) := by decide +kernel
theorem dX2_loops_115 : decode cX2_loops 115 = .ok (.baload, 1) := by decide +kernel
theorem dX2_loops_116 : decode cX2_loops 116 = .ok (.ifCond .ne 6, 3) := by decide +kernel
theorem dX2_loops_119 : decode cX2_loops 119 = .ok (.goto 72, 3) := by decide +kernel
theorem dX2_loops_122 : decode cX2_loops 122 = .ok (.aload_n 0, 1) := by decide +kernel
theorem dX2_loops_123 : decode cX2_loops 123 = .ok (.aload_n 0, 1) := by decide +kernel
theorem dX2_loops_124 : decode cX2_loops 124 = .ok (.getfield 17, 3) := by decide +kernel
theorem dX2_loops_127 : decode cX2_loops 127 = .ok (.iload_n 1, 1) := by decide +kernel
theorem dX2_loops_128 : decode cX2_loops 128 = .ok (.invokevirtual 75, 3) := by decide +kernel
theorem dX2_loops_131 : decode cX2_loops 131 = .ok (.aload_n 0, 1) := by decide +kernel
theorem dX2_loops_132 : decode cX2_loops 132 = .ok (.getfield 36, 3) := by decide +kernel
theorem dX2_loops_135 : decode cX2_loops 135 = .ok (.iload_n 1, 1) := by decide +kernel
theorem dX2_loops_136 : decode cX2_loops 136 = .ok (.dup2, 1) := by decide +kernel
theorem dX2_loops_137 : decode cX2_loops 137 = .ok (.iaload, 1) := by decide +kernel
theorem dX2_loops_138 : decode cX2_loops 138 = .ok (.iconst 1, 1) := by decide +kernel
theorem dX2_loops_139 : decode cX2_loops 139 = .ok (.iadd, 1) := by decide +kernel
theorem dX2_loops_140 : decode cX2_loops 140 = .ok (.iastore, 1) := by decide +kernel
theorem dX2_loops_141 : decode cX2_loops 141 = .ok (.iconst 0, 1) := by decide +kernel
theorem dX2_loops_142 : decode cX2_loops 142 = .ok (.istore_n 2, 1) := by decide +kernel
theorem dX2_loops_143 : decode cX2_loops 143 = .ok (.iload_n 2, 1) := by decide +kernel
theorem dX2_loops_144 : decode cX2_loops 144 = .ok (.aload_n 0, 1) := by decide +kernel
theorem dX2_loops_145 : decode cX2_loops 145 = .ok (.getfield 7, 3) := by decide +kernel
theorem dX2_loops_148 : decode cX2_loops 148 = .ok (.if_icmp .ge 43, 3) := by decide +kernel
theorem dX2_loops_151 : decode cX2_loops 151 = .ok (.aload_n 0, 1) := by decide +kernel
theorem dX2_loops_152 : decode cX2_loops 152 = .ok (.getfield 39, 3) := by decide +kernel
theorem dX2_loops_155 : decode cX2_loops 155 = .ok (.iconst 0, 1) := by decide +kernel
theorem dX2_loops_156 : decode cX2_loops 156 = .ok (.iload_n 2, 1) := by decide +kernel
theorem dX2_loops_157 : decode cX2_loops 157 = .ok (.invokestatic 61, 3) := by decide +kernel
theorem dX2_loops_160 : decode cX2_loops 160 = .ok (.ifCond .eq 25, 3) := by decide +kernel
theorem dX2_loops_163 : decode cX2_loops 163 = .ok (.aload_n 0, 1) := by decide +kernel
theorem dX2_loops_164 : decode cX2_loops 164 = .ok (.getfield 20, 3) := by decide +kernel
theorem dX2_loops_167 : decode cX2_loops 167 = .ok (.iconst 0, 1) := by decide +kernel
theorem dX2_loops_168 : decode cX2_loops 168 = .ok (.iload_n 2, 1) := by decide +kernel
theorem dX2_loops_169 : decode cX2_loops 169 = .ok (.invokestatic 61, 3) := by decide +kernel
theorem dX2_loops_172 : decode cX2_loops 172 = .ok (.ifCond .eq 13, 3) := by decide +kernel
theorem dX2_loops_175 : decode cX2_loops 175 = .ok (.aload_n 0, 1) := by decide +kernel
theorem dX2_loops_176 : decode cX2_loops 176 = .ok (.getfield 36, 3) := by decide +kernel
theorem dX2_loops_179 : decode cX2_loops 179 = .ok (.iload_n 2, 1) := by decide +kernel
theorem dX2_loops_180 : decode cX2_loops 180 = .ok (.dup2, 1) := by decide +kernel
theorem dX2_loops_181 : decode cX2_loops 181 = .ok (.iaload, 1) := by decide +kernel
theorem dX2_loops_182 : decode cX2_loops 182 = .ok (.iconst 1, 1) := by decide +kernel
theorem dX2_loops_183 : decode cX2_loops 183 = .ok (.iadd, 1) := by decide +kernel
theorem dX2_loops_184 : decode cX2_loops 184 = .ok (.iastore, 1) := by decide +kernel
theorem dX2_loops_185 : decode cX2_loops 185 = .ok (.iinc 2 1, 3) := by decide +kernel
theorem dX2_loops_188 : decode cX2_loops 188 = .ok (.goto (-45), 3) := by decide +kernel
theorem dX2_loops_191 : decode cX2_loops 191 = .ok (.iinc 1 1, 3) := by decide +kernel
theorem dX2_loops_194 : decode cX2_loops 194 = .ok (.goto (-169), 3) := by decide +kernel
theorem dX2_loops_197 : decode cX2_loops 197 = .ok (.return_, 1) := by decide +kernel
set_option maxRecDepth 20000 in
theorem ggX2_reached_X2_know : GoodIn wsX2_reached wsX2_know := goodIn_r _ [6, 7, 8, 1, 9, 10, 11, 12, 13, 14, 5, 15, 16, 17, 18, 19, 20, 21, 22, 23, 24, 25, 26, 27, 28, 29, 30, 31, 32, 33, 34, 35, 36, 37, 38, 39, 40, 41, 46, 47, 48, 49, 50, 51, 52, 53, 54, 55, 56, 57, 58] (by decide +kernel) (by decide +kernel)
set_option maxRecDepth 20000 in
theorem gX2_reached_X2_know : GoodIn wsX2_reached (wsV RX2 85 RX2 yX2_know wsX2_know) := goodIn_app (goodIn_of _ (by decide +kernel)) ggX2_reached_X2_know
set_option maxRecDepth 20000 in
theorem ggX2_reached_X2_isBlock : GoodIn wsX2_reached wsX2_isBlock := goodIn_r _ [45, 10, 46, 47, 48, 49, 50, 51, 52, 53, 54, 55, 56, 57, 58] (by decide +kernel) (by decide +kernel)
set_option maxRecDepth 20000 in
theorem gX2_reached_X2_isBlock : GoodIn wsX2_reached (wsV RX2 49 RX2 yX2_isBlock wsX2_isBlock) := goodIn_app (goodIn_of _ (by decide +kernel)) ggX2_reached_X2_isBlock
set_option maxRecDepth 20000 in
theorem ggX2_reached_X2_isSet : GoodIn wsX2_reached wsX2_isSet := goodIn_r _ [28] (by decide +kernel) (by decide +kernel)
set_option maxRecDepth 20000 in
theorem gX2_reached_X2_isSet : GoodIn wsX2_reached (va_wsS RX2 61 yX2_isSet wsX2_isSet) := goodIn_app (goodIn_of _ (by decide +kernel)) ggX2_reached_X2_isSet
theorem dX2_reached_0 : decode cX2_reached 0 = .ok (.aload_n 0, 1) := by decide +kernel
theorem dX2_reached_1 : decode cX2_reached 1 = .ok (.invokevirtual 85, 3) := by decide +kernel
theorem dX2_reached_4 : decode cX2_reached 4 = .ok (.aload_n 0, 1) := by decide +kernel
theorem dX2_reached_5 : decode cX2_reached 5 = .ok (.iload_n 1, 1) := by decide +kernel
theorem dX2_reached_6 : decode cX2_reached 6 = .ok (.invokevirtual 49, 3) := by decide +kernel
theorem dX2_reached_9 : decode cX2_reached 9 = .ok (.ifCond .eq 19, 3) := by decide +kernel
theorem dX2_reached_12 : decode cX2_reached 12 = .ok (.aload_n 0, 1) := by decide +kernel
theorem dX2_reached_13 : decode cX2_reached 13 = .ok (.getfield 20, 3) := by decide +kernel
theorem dX2_reached_16 : decode cX2_reached 16 = .ok (.iconst 0, 1) := by decide +kernel
theorem dX2_reached_17 : decode cX2_reached 17 = .ok (.iload_n 1, 1) := by decide +kernel
theorem dX2_reached_18 : decode cX2_reached 18 = .ok (.invokestatic 61, 3) := by decide +kernel
theorem dX2_reached_21 : decode cX2_reached 21 = .ok (.ifCond .eq 7, 3) := by decide +kernel
theorem dX2_reached_24 : decode cX2_reached 24 = .ok (.iconst 1, 1) := by decide +kernel
theorem dX2_reached_25 : decode cX2_reached 25 = .ok (.goto 4, 3) := by decide +kernel
theorem dX2_reached_28 : decode cX2_reached 28 = .ok (.iconst 0, 1) := by decide +kernel
theorem dX2_reached_29 : decode cX2_reached 29 = .ok (.ireturn, 1) := by decide +kernel
set_option maxRecDepth 20000 in
theorem ggX2_reachedOnes_X2_reached : GoodIn wsX2_reachedOnes wsX2_reached := goodIn_r _ [6, 7, 8, 9, 10, 5, 11, 12, 13, 14, 1, 15, 16, 17, 18, 19, 20, 21, 22, 23, 24, 25, 26, 27, 28, 29, 30, 31, 32, 33, 34, 35, 36, 37, 38, 39, 40, 41, 42, 43, 44, 45, 46, 47, 48, 49, 50, 51, 52, 53, 54, 55, 56, 57, 58, 59, 60, 61, 62] (by decide +kernel) (by decide +kernel)
set_option maxRecDepth 20000 in
theorem gX2_reachedOnes_X2_reached : GoodIn wsX2_reachedOnes (wsV RX2 88 RX2 yX2_reached wsX2_reached) := goodIn_app (goodIn_of _ (by decide +kernel)) ggX2_reachedOnes_X2_reached
theorem dX2_reachedOnes_0 : decode cX2_reachedOnes 0 = .ok (.iconst 0, 1) := by decide +kernel
theorem dX2_reachedOnes_1 : decode cX2_reachedOnes 1 = .ok (.istore_n 1, 1) := by decide +kernel
theorem dX2_reachedOnes_2 : decode cX2_reachedOnes 2 = .ok (.iconst 0, 1) := by decide +kernel
theorem dX2_reachedOnes_3 : decode cX2_reachedOnes 3 = .ok (.istore_n 2, 1) := by decide +kernel
theorem dX2_reachedOnes_4 : decode cX2_reachedOnes 4 = .ok (.iload_n 2, 1) := by decide +kernel
theorem dX2_reachedOnes_5 : decode cX2_reachedOnes 5 = .ok (.aload_n 0, 1) := by decide +kernel
theorem dX2_reachedOnes_6 : decode cX2_reachedOnes 6 = .ok (.getfield 7, 3) := by decide +kernel
theorem dX2_reachedOnes_9 : decode cX2_reachedOnes 9 = .ok (.if_icmp .ge 20, 3) := by decide +kernel
theorem dX2_reachedOnes_12 : decode cX2_reachedOnes 12 = .ok (.aload_n 0, 1) := by decide +kernel
theorem dX2_reachedOnes_13 : decode cX2_reachedOnes 13 = .ok (.iload_n 2, 1) := by decide +kernel
theorem dX2_reachedOnes_14 : decode cX2_reachedOnes 14 = .ok (.invokevirtual 88, 3) := by decide +kernel
theorem dX2_reachedOnes_17 : decode cX2_reachedOnes 17 = .ok (.ifCond .eq 6, 3) := by decide +kernel
theorem dX2_reachedOnes_20 : decode cX2_reachedOnes 20 = .ok (.iinc 1 1, 3) := by decide +kernel
theorem dX2_reachedOnes_23 : decode cX2_reachedOnes 23 = .ok (.iinc 2 1, 3) := by decide +kernel
theorem dX2_reachedOnes_26 : decode cX2_reachedOnes 26 = .ok (.goto (-22), 3) := by decide +kernel
theorem dX2_reachedOnes_29 : decode cX2_reachedOnes 29 = .ok (.iload_n 1, 1) := by decide +kernel
theorem dX2_reachedOnes_30 : decode cX2_reachedOnes 30 = .ok (.ireturn, 1) := by decide +kernel
set_option maxRecDepth 20000 in
theorem ggX2_dominator_X2_know : GoodIn wsX2_dominator wsX2_know := goodIn_r _ [6, 7, 8, 9, 10, 11, 12, 13, 14, 15, 5, 16, 17, 18, 19, 20, 21, 22, 23, 24, 25, 26, 27, 28, 29, 30, 31, 32, 33, 34, 1, 35, 36, 37, 38, 39, 40, 41, 46, 47, 48, 49, 50, 51, 52, 53, 54, 55, 56, 57, 58] (by decide +kernel) (by decide +kernel)
set_option maxRecDepth 20000 in
theorem gX2_dominator_X2_know : GoodIn wsX2_dominator (wsV RX2 85 RX2 yX2_know wsX2_know) := goodIn_app (goodIn_of _ (by decide +kernel)) ggX2_dominator_X2_know
set_option maxRecDepth 20000 in
theorem ggX2_dominator_X2_isBlock : GoodIn wsX2_dominator wsX2_isBlock := goodIn_r _ [45, 11, 46, 47, 48, 49, 50, 51, 52, 53, 54, 55, 56, 57, 58] (by decide +kernel) (by decide +kernel)
set_option maxRecDepth 20000 in
theorem gX2_dominator_X2_isBlock : GoodIn wsX2_dominator (wsV RX2 49 RX2 yX2_isBlock wsX2_isBlock) := goodIn_app (goodIn_of _ (by decide +kernel)) ggX2_dominator_X2_isBlock
theorem dX2_dominator_0 : decode cX2_dominator 0 = .ok (.aload_n 0, 1) := by decide +kernel
theorem dX2_dominator_1 : decode cX2_dominator 1 = .ok (.invokevirtual 85, 3) := by decide +kernel
theorem dX2_dominator_4 : decode cX2_dominator 4 = .ok (.aload_n 0, 1) := by decide +kernel
theorem dX2_dominator_5 : decode cX2_dominator 5 = .ok (.iload_n 1, 1) := by decide +kernel
theorem dX2_dominator_6 : decode cX2_dominator 6 = .ok (.invokevirtual 49, 3) := by decide +kernel
theorem dX2_dominator_9 : decode cX2_dominator 9 = .ok (.ifCond .eq 12, 3) := by decide +kernel
theorem dX2_dominator_12 : decode cX2_dominator 12 = .ok (.aload_n 0, 1) := by decide +kernel
theorem dX2_dominator_13 : decode cX2_dominator 13 = .ok (.getfield 29, 3) := by decide +kernel
theorem dX2_dominator_16 : decode cX2_dominator 16 = .ok (.iload_n 1, 1) := by decide +kernel
theorem dX2_dominator_17 : decode cX2_dominator 17 = .ok (.iaload, 1) := by decide +kernel
theorem dX2_dominator_18 : decode cX2_dominator 18 = .ok (.goto 4, 3) := by decide +kernel
theorem dX2_dominator_21 : decode cX2_dominator 21 = .ok (.iconst (-1), 1) := by decide +kernel
theorem dX2_dominator_22 : decode cX2_dominator 22 = .ok (.ireturn, 1) := by decide +kernel
set_option maxRecDepth 20000 in
theorem ggX2_dominates_X2_know : GoodIn wsX2_dominates wsX2_know := goodIn_r _ [6, 7, 8, 9, 10, 11, 1, 12, 13, 14, 5, 15, 16, 17, 18, 19, 20, 21, 22, 23, 24, 25, 26, 27, 28, 29, 30, 31, 32, 33, 34, 35, 36, 37, 38, 39, 40, 41, 46, 47, 48, 49, 50, 51, 52, 53, 54, 55, 56, 57, 58] (by decide +kernel) (by decide +kernel)
set_option maxRecDepth 20000 in
theorem gX2_dominates_X2_know : GoodIn wsX2_dominates (wsV RX2 85 RX2 yX2_know wsX2_know) := goodIn_app (goodIn_of _ (by decide +kernel)) ggX2_dominates_X2_know
set_option maxRecDepth 20000 in
theorem ggX2_dominates_X2_isBlock : GoodIn wsX2_dominates wsX2_isBlock := goodIn_r _ [45, 11, 46, 47, 48, 49, 50, 51, 52, 53, 54, 55, 56, 57, 58] (by decide +kernel) (by decide +kernel)
set_option maxRecDepth 20000 in
theorem gX2_dominates_X2_isBlock : GoodIn wsX2_dominates (wsV RX2 49 RX2 yX2_isBlock wsX2_isBlock) := goodIn_app (goodIn_of _ (by decide +kernel)) ggX2_dominates_X2_isBlock
set_option maxRecDepth 20000 in
theorem ggX2_dominates_X2_isSet : GoodIn wsX2_dominates wsX2_isSet := goodIn_r _ [28] (by decide +kernel) (by decide +kernel)
set_option maxRecDepth 20000 in
theorem gX2_dominates_X2_isSet : GoodIn wsX2_dominates (va_wsS RX2 61 yX2_isSet wsX2_isSet) := goodIn_app (goodIn_of _ (by decide +kernel)) ggX2_dominates_X2_isSet
theorem dX2_dominates_0 : decode cX2_dominates 0 = .ok (.aload_n 0, 1) := by decide +kernel
theorem dX2_dominates_1 : decode cX2_dominates 1 = .ok (.invokevirtual 85, 3) := by decide +kernel
theorem dX2_dominates_4 : decode cX2_dominates 4 = .ok (.aload_n 0, 1) := by decide +kernel
theorem dX2_dominates_5 : decode cX2_dominates 5 = .ok (.iload_n 1, 1) := by decide +kernel
theorem dX2_dominates_6 : decode cX2_dominates 6 = .ok (.invokevirtual 49, 3) := by decide +kernel
theorem dX2_dominates_9 : decode cX2_dominates 9 = .ok (.ifCond .eq 30, 3) := by decide +kernel
theorem dX2_dominates_12 : decode cX2_dominates 12 = .ok (.aload_n 0, 1) := by decide +kernel
theorem dX2_dominates_13 : decode cX2_dominates 13 = .ok (.iload_n 2, 1) := by decide +kernel
theorem dX2_dominates_14 : decode cX2_dominates 14 = .ok (.invokevirtual 49, 3) := by decide +kernel
theorem dX2_dominates_17 : decode cX2_dominates 17 = .ok (.ifCond .eq 22, 3) := by decide +kernel
theorem dX2_dominates_20 : decode cX2_dominates 20 = .ok (.aload_n 0, 1) := by decide +kernel
theorem dX2_dominates_21 : decode cX2_dominates 21 = .ok (.getfield 23, 3) := by decide +kernel
theorem dX2_dominates_24 : decode cX2_dominates 24 = .ok (.bipush 7, 2) := by decide +kernel
theorem dX2_dominates_26 : decode cX2_dominates 26 = .ok (.iload_n 1, 1) := by decide +kernel
theorem dX2_dominates_27 : decode cX2_dominates 27 = .ok (.imul, 1) := by decide +kernel
theorem dX2_dominates_28 : decode cX2_dominates 28 = .ok (.iload_n 2, 1) := by decide +kernel
theorem dX2_dominates_29 : decode cX2_dominates 29 = .ok (.invokestatic 61, 3) := by decide +kernel
theorem dX2_dominates_32 : decode cX2_dominates 32 = .ok (.ifCond .eq 7, 3) := by decide +kernel
theorem dX2_dominates_35 : decode cX2_dominates 35 = .ok (.iconst 1, 1) := by decide +kernel
theorem dX2_dominates_36 : decode cX2_dominates 36 = .ok (.goto 4, 3) := by decide +kernel
theorem dX2_dominates_39 : decode cX2_dominates 39 = .ok (.iconst 0, 1) := by decide +kernel
theorem dX2_dominates_40 : decode cX2_dominates 40 = .ok (.ireturn, 1) := by decide +kernel
set_option maxRecDepth 20000 in
theorem ggX2_head_X2_know : GoodIn wsX2_head wsX2_know := goodIn_r _ [6, 7, 8, 9, 10, 11, 12, 13, 14, 15, 5, 16, 17, 18, 19, 20, 21, 22, 23, 24, 25, 26, 27, 28, 29, 30, 31, 32, 33, 34, 35, 36, 37, 38, 39, 40, 1, 41, 46, 47, 48, 49, 50, 51, 52, 53, 54, 55, 56, 57, 58] (by decide +kernel) (by decide +kernel)
set_option maxRecDepth 20000 in
theorem gX2_head_X2_know : GoodIn wsX2_head (wsV RX2 85 RX2 yX2_know wsX2_know) := goodIn_app (goodIn_of _ (by decide +kernel)) ggX2_head_X2_know
set_option maxRecDepth 20000 in
theorem ggX2_head_X2_isBlock : GoodIn wsX2_head wsX2_isBlock := goodIn_r _ [45, 11, 46, 47, 48, 49, 50, 51, 52, 53, 54, 55, 56, 57, 58] (by decide +kernel) (by decide +kernel)
set_option maxRecDepth 20000 in
theorem gX2_head_X2_isBlock : GoodIn wsX2_head (wsV RX2 49 RX2 yX2_isBlock wsX2_isBlock) := goodIn_app (goodIn_of _ (by decide +kernel)) ggX2_head_X2_isBlock
theorem dX2_head_0 : decode cX2_head 0 = .ok (.aload_n 0, 1) := by decide +kernel
theorem dX2_head_1 : decode cX2_head 1 = .ok (.invokevirtual 85, 3) := by decide +kernel
theorem dX2_head_4 : decode cX2_head 4 = .ok (.aload_n 0, 1) := by decide +kernel
theorem dX2_head_5 : decode cX2_head 5 = .ok (.iload_n 1, 1) := by decide +kernel
theorem dX2_head_6 : decode cX2_head 6 = .ok (.invokevirtual 49, 3) := by decide +kernel
theorem dX2_head_9 : decode cX2_head 9 = .ok (.ifCond .eq 16, 3) := by decide +kernel
theorem dX2_head_12 : decode cX2_head 12 = .ok (.aload_n 0, 1) := by decide +kernel
theorem dX2_head_13 : decode cX2_head 13 = .ok (.getfield 32, 3) := by decide +kernel
theorem dX2_head_16 : decode cX2_head 16 = .ok (.iload_n 1, 1) := by decide +kernel
theorem dX2_head_17 : decode cX2_head 17 = .ok (.baload, 1) := by decide +kernel
theorem dX2_head_18 : decode cX2_head 18 = .ok (.ifCond .eq 7, 3) := by decide +kernel
theorem dX2_head_21 : decode cX2_head 21 = .ok (.iconst 1, 1) := by decide +kernel
theorem dX2_head_22 : decode cX2_head 22 = .ok (.goto 4, 3) := by decide +kernel
theorem dX2_head_25 : decode cX2_head 25 = .ok (.iconst 0, 1) := by decide +kernel
theorem dX2_head_26 : decode cX2_head 26 = .ok (.ireturn, 1) := by decide +kernel
set_option maxRecDepth 20000 in
theorem ggX2_depth_X2_know : GoodIn wsX2_depth wsX2_know := goodIn_r _ [6, 7, 8, 9, 10, 11, 12, 13, 14, 15, 5, 16, 17, 18, 19, 20, 21, 22, 23, 24, 25, 26, 27, 28, 29, 30, 31, 32, 33, 34, 35, 36, 37, 38, 39, 1, 40, 41, 46, 47, 48, 49, 50, 51, 52, 53, 54, 55, 56, 57, 58] (by decide +kernel) (by decide +kernel)
set_option maxRecDepth 20000 in
theorem gX2_depth_X2_know : GoodIn wsX2_depth (wsV RX2 85 RX2 yX2_know wsX2_know) := goodIn_app (goodIn_of _ (by decide +kernel)) ggX2_depth_X2_know
set_option maxRecDepth 20000 in
theorem ggX2_depth_X2_isBlock : GoodIn wsX2_depth wsX2_isBlock := goodIn_r _ [45, 11, 46, 47, 48, 49, 50, 51, 52, 53, 54, 55, 56, 57, 58] (by decide +kernel) (by decide +kernel)
set_option maxRecDepth 20000 in
theorem gX2_depth_X2_isBlock : GoodIn wsX2_depth (wsV RX2 49 RX2 yX2_isBlock wsX2_isBlock) := goodIn_app (goodIn_of _ (by decide +kernel)) ggX2_depth_X2_isBlock
theorem dX2_depth_0 : decode cX2_depth 0 = .ok (.aload_n 0, 1) := by decide +kernel
theorem dX2_depth_1 : decode cX2_depth 1 = .ok (.invokevirtual 85, 3) := by decide +kernel
theorem dX2_depth_4 : decode cX2_depth 4 = .ok (.aload_n 0, 1) := by decide +kernel
theorem dX2_depth_5 : decode cX2_depth 5 = .ok (.iload_n 1, 1) := by decide +kernel
theorem dX2_depth_6 : decode cX2_depth 6 = .ok (.invokevirtual 49, 3) := by decide +kernel
theorem dX2_depth_9 : decode cX2_depth 9 = .ok (.ifCond .eq 12, 3) := by decide +kernel
theorem dX2_depth_12 : decode cX2_depth 12 = .ok (.aload_n 0, 1) := by decide +kernel
theorem dX2_depth_13 : decode cX2_depth 13 = .ok (.getfield 36, 3) := by decide +kernel
theorem dX2_depth_16 : decode cX2_depth 16 = .ok (.iload_n 1, 1) := by decide +kernel
theorem dX2_depth_17 : decode cX2_depth 17 = .ok (.iaload, 1) := by decide +kernel
theorem dX2_depth_18 : decode cX2_depth 18 = .ok (.goto 4, 3) := by decide +kernel
theorem dX2_depth_21 : decode cX2_depth 21 = .ok (.iconst (-1), 1) := by decide +kernel
theorem dX2_depth_22 : decode cX2_depth 22 = .ok (.ireturn, 1) := by decide +kernel
theorem dJ13_bitCount_95d88_0 : decode cJ13_bitCount_95d88 0 = .ok (.lload_n 0, 1) := by decide +kernel
theorem dJ13_bitCount_95d88_1 : decode cJ13_bitCount_95d88 1 = .ok (.lload_n 0, 1) := by decide +kernel
theorem dJ13_bitCount_95d88_2 : decode cJ13_bitCount_95d88 2 = .ok (.iconst 1, 1) := by decide +kernel
theorem dJ13_bitCount_95d88_3 : decode cJ13_bitCount_95d88 3 = .ok (.lushr, 1) := by decide +kernel
theorem dJ13_bitCount_95d88_4 : decode cJ13_bitCount_95d88 4 = .ok (.ldc2_w 314, 3) := by decide +kernel
theorem dJ13_bitCount_95d88_7 : decode cJ13_bitCount_95d88 7 = .ok (.land, 1) := by decide +kernel
theorem dJ13_bitCount_95d88_8 : decode cJ13_bitCount_95d88 8 = .ok (.lsub, 1) := by decide +kernel
theorem dJ13_bitCount_95d88_9 : decode cJ13_bitCount_95d88 9 = .ok (.lstore_n 0, 1) := by decide +kernel
theorem dJ13_bitCount_95d88_10 : decode cJ13_bitCount_95d88 10 = .ok (.lload_n 0, 1) := by decide +kernel
theorem dJ13_bitCount_95d88_11 : decode cJ13_bitCount_95d88 11 = .ok (.ldc2_w 316, 3) := by decide +kernel
theorem dJ13_bitCount_95d88_14 : decode cJ13_bitCount_95d88 14 = .ok (.land, 1) := by decide +kernel
theorem dJ13_bitCount_95d88_15 : decode cJ13_bitCount_95d88 15 = .ok (.lload_n 0, 1) := by decide +kernel
theorem dJ13_bitCount_95d88_16 : decode cJ13_bitCount_95d88 16 = .ok (.iconst 2, 1) := by decide +kernel
theorem dJ13_bitCount_95d88_17 : decode cJ13_bitCount_95d88 17 = .ok (.lushr, 1) := by decide +kernel
theorem dJ13_bitCount_95d88_18 : decode cJ13_bitCount_95d88 18 = .ok (.ldc2_w 316, 3) := by decide +kernel
theorem dJ13_bitCount_95d88_21 : decode cJ13_bitCount_95d88 21 = .ok (.land, 1) := by decide +kernel
theorem dJ13_bitCount_95d88_22 : decode cJ13_bitCount_95d88 22 = .ok (.ladd, 1) := by decide +kernel
theorem dJ13_bitCount_95d88_23 : decode cJ13_bitCount_95d88 23 = .ok (.lstore_n 0, 1) := by decide +kernel
theorem dJ13_bitCount_95d88_24 : decode cJ13_bitCount_95d88 24 = .ok (.lload_n 0, 1) := by decide +kernel
theorem dJ13_bitCount_95d88_25 : decode cJ13_bitCount_95d88 25 = .ok (.lload_n 0, 1) := by decide +kernel
theorem dJ13_bitCount_95d88_26 : decode cJ13_bitCount_95d88 26 = .ok (.iconst 4, 1) := by decide +kernel
theorem dJ13_bitCount_95d88_27 : decode cJ13_bitCount_95d88 27 = .ok (.lushr, 1) := by decide +kernel
theorem dJ13_bitCount_95d88_28 : decode cJ13_bitCount_95d88 28 = .ok (.ladd, 1) := by decide +kernel
theorem dJ13_bitCount_95d88_29 : decode cJ13_bitCount_95d88 29 = .ok (.ldc2_w 318, 3) := by decide +kernel
theorem dJ13_bitCount_95d88_32 : decode cJ13_bitCount_95d88 32 = .ok (.land, 1) := by decide +kernel
theorem dJ13_bitCount_95d88_33 : decode cJ13_bitCount_95d88 33 = .ok (.lstore_n 0, 1) := by decide +kernel
theorem dJ13_bitCount_95d88_34 : decode cJ13_bitCount_95d88 34 = .ok (.lload_n 0, 1) := by decide +kernel
theorem dJ13_bitCount_95d88_35 : decode cJ13_bitCount_95d88 35 = .ok (.lload_n 0, 1) := by decide +kernel
theorem dJ13_bitCount_95d88_36 : decode cJ13_bitCount_95d88 36 = .ok (.bipush 8, 2) := by decide +kernel
theorem dJ13_bitCount_95d88_38 : decode cJ13_bitCount_95d88 38 = .ok (.lushr, 1) := by decide +kernel
theorem dJ13_bitCount_95d88_39 : decode cJ13_bitCount_95d88 39 = .ok (.ladd, 1) := by decide +kernel
theorem dJ13_bitCount_95d88_40 : decode cJ13_bitCount_95d88 40 = .ok (.lstore_n 0, 1) := by decide +kernel
theorem dJ13_bitCount_95d88_41 : decode cJ13_bitCount_95d88 41 = .ok (.lload_n 0, 1) := by decide +kernel
theorem dJ13_bitCount_95d88_42 : decode cJ13_bitCount_95d88 42 = .ok (.lload_n 0, 1) := by decide +kernel
theorem dJ13_bitCount_95d88_43 : decode cJ13_bitCount_95d88 43 = .ok (.bipush 16, 2) := by decide +kernel
theorem dJ13_bitCount_95d88_45 : decode cJ13_bitCount_95d88 45 = .ok (.lushr, 1) := by decide +kernel
theorem dJ13_bitCount_95d88_46 : decode cJ13_bitCount_95d88 46 = .ok (.ladd, 1) := by decide +kernel
theorem dJ13_bitCount_95d88_47 : decode cJ13_bitCount_95d88 47 = .ok (.lstore_n 0, 1) := by decide +kernel
theorem dJ13_bitCount_95d88_48 : decode cJ13_bitCount_95d88 48 = .ok (.lload_n 0, 1) := by decide +kernel
theorem dJ13_bitCount_95d88_49 : decode cJ13_bitCount_95d88 49 = .ok (.lload_n 0, 1) := by decide +kernel
theorem dJ13_bitCount_95d88_50 : decode cJ13_bitCount_95d88 50 = .ok (.bipush 32, 2) := by decide +kernel
theorem dJ13_bitCount_95d88_52 : decode cJ13_bitCount_95d88 52 = .ok (.lushr, 1) := by decide +kernel
theorem dJ13_bitCount_95d88_53 : decode cJ13_bitCount_95d88 53 = .ok (.ladd, 1) := by decide +kernel
theorem dJ13_bitCount_95d88_54 : decode cJ13_bitCount_95d88 54 = .ok (.lstore_n 0, 1) := by decide +kernel
theorem dJ13_bitCount_95d88_55 : decode cJ13_bitCount_95d88 55 = .ok (.lload_n 0, 1) := by decide +kernel
theorem dJ13_bitCount_95d88_56 : decode cJ13_bitCount_95d88 56 = .ok (.l2i, 1) := by decide +kernel
theorem dJ13_bitCount_95d88_57 : decode cJ13_bitCount_95d88 57 = .ok (.bipush 127, 2) := by decide +kernel
theorem dJ13_bitCount_95d88_59 : decode cJ13_bitCount_95d88 59 = .ok (.iand, 1) := by decide +kernel
theorem dJ13_bitCount_95d88_60 : decode cJ13_bitCount_95d88 60 = .ok (.ireturn, 1) := by decide +kernel
theorem dJ7_rangeCheck_23922_0 : decode cJ7_rangeCheck_23922 0 = .ok (.iload_n 1, 1) := by decide +kernel
theorem dJ7_rangeCheck_23922_1 : decode cJ7_rangeCheck_23922 1 = .ok (.iload_n 2, 1) := by decide +kernel
theorem dJ7_rangeCheck_23922_2 : decode cJ7_rangeCheck_23922 2 = .ok (.if_icmp .le 44, 3) := by decide +kernel
theorem dJ7_rangeCheck_23922_5 : decode cJ7_rangeCheck_23922 5 = .ok (.new 43, 3) := by decide +kernel
theorem dJ7_rangeCheck_23922_8 : decode cJ7_rangeCheck_23922 8 = .ok (.dup, 1) := by decide +kernel
theorem dJ7_rangeCheck_23922_9 : decode cJ7_rangeCheck_23922 9 = .ok (.new 45, 3) := by decide +kernel
theorem dJ7_rangeCheck_23922_12 : decode cJ7_rangeCheck_23922 12 = .ok (.dup, 1) := by decide +kernel
theorem dJ7_rangeCheck_23922_13 : decode cJ7_rangeCheck_23922 13 = .ok (.invokespecial 47, 3) := by decide +kernel
theorem dJ7_rangeCheck_23922_16 : decode cJ7_rangeCheck_23922 16 = .ok (.ldc 48, 2) := by decide +kernel
theorem dJ7_rangeCheck_23922_18 : decode cJ7_rangeCheck_23922 18 = .ok (.invokevirtual 50, 3) := by decide +kernel
theorem dJ7_rangeCheck_23922_21 : decode cJ7_rangeCheck_23922 21 = .ok (.iload_n 1, 1) := by decide +kernel
theorem dJ7_rangeCheck_23922_22 : decode cJ7_rangeCheck_23922 22 = .ok (.invokevirtual 54, 3) := by decide +kernel
theorem dJ7_rangeCheck_23922_25 : decode cJ7_rangeCheck_23922 25 = .ok (.ldc 57, 2) := by decide +kernel
theorem dJ7_rangeCheck_23922_27 : decode cJ7_rangeCheck_23922 27 = .ok (.invokevirtual 50, 3) := by decide +kernel
theorem dJ7_rangeCheck_23922_30 : decode cJ7_rangeCheck_23922 30 = .ok (.iload_n 2, 1) := by decide +kernel
theorem dJ7_rangeCheck_23922_31 : decode cJ7_rangeCheck_23922 31 = .ok (.invokevirtual 54, 3) := by decide +kernel
theorem dJ7_rangeCheck_23922_34 : decode cJ7_rangeCheck_23922 34 = .ok (.ldc 59, 2) := by decide +kernel
theorem dJ7_rangeCheck_23922_36 : decode cJ7_rangeCheck_23922 36 = .ok (.invokevirtual 50, 3) := by decide +kernel
theorem dJ7_rangeCheck_23922_39 : decode cJ7_rangeCheck_23922 39 = .ok (.invokevirtual 61, 3) := by decide +kernel
theorem dJ7_rangeCheck_23922_42 : decode cJ7_rangeCheck_23922 42 = .ok (.invokespecial 65, 3) := by decide +kernel
theorem dJ7_rangeCheck_23922_45 : decode cJ7_rangeCheck_23922 45 = .ok (.athrow, 1) := by decide +kernel
theorem dJ7_rangeCheck_23922_46 : decode cJ7_rangeCheck_23922 46 = .ok (.iload_n 1, 1) := by decide +kernel
theorem dJ7_rangeCheck_23922_47 : decode cJ7_rangeCheck_23922 47 = .ok (.ifCond .ge 12, 3) := by decide +kernel
theorem dJ7_rangeCheck_23922_50 : decode cJ7_rangeCheck_23922 50 = .ok (.new 68, 3) := by decide +kernel
theorem dJ7_rangeCheck_23922_53 : decode cJ7_rangeCheck_23922 53 = .ok (.dup, 1) := by decide +kernel
theorem dJ7_rangeCheck_23922_54 : decode cJ7_rangeCheck_23922 54 = .ok (.iload_n 1, 1) := by decide +kernel
theorem dJ7_rangeCheck_23922_55 : decode cJ7_rangeCheck_23922 55 = .ok (.invokespecial 70, 3) := by decide +kernel
theorem dJ7_rangeCheck_23922_58 : decode cJ7_rangeCheck_23922 58 = .ok (.athrow, 1) := by decide +kernel
theorem dJ7_rangeCheck_23922_59 : decode cJ7_rangeCheck_23922 59 = .ok (.iload_n 2, 1) := by decide +kernel
theorem dJ7_rangeCheck_23922_60 : decode cJ7_rangeCheck_23922 60 = .ok (.iload_n 0, 1) := by decide +kernel
theorem dJ7_rangeCheck_23922_61 : decode cJ7_rangeCheck_23922 61 = .ok (.if_icmp .le 12, 3) := by decide +kernel
theorem dJ7_rangeCheck_23922_64 : decode cJ7_rangeCheck_23922 64 = .ok (.new 68, 3) := by decide +kernel
theorem dJ7_rangeCheck_23922_67 : decode cJ7_rangeCheck_23922 67 = .ok (.dup, 1) := by decide +kernel
theorem dJ7_rangeCheck_23922_68 : decode cJ7_rangeCheck_23922 68 = .ok (.iload_n 2, 1) := by decide +kernel
theorem dJ7_rangeCheck_23922_69 : decode cJ7_rangeCheck_23922 69 = .ok (.invokespecial 70, 3) := by decide +kernel
theorem dJ7_rangeCheck_23922_72 : decode cJ7_rangeCheck_23922 72 = .ok (.athrow, 1) := by decide +kernel
theorem dJ7_rangeCheck_23922_73 : decode cJ7_rangeCheck_23922 73 = .ok (.return_, 1) := by decide +kernel
theorem dJ7_fill_d0a16_0 : decode cJ7_fill_d0a16 0 = .ok (.iconst 0, 1) := by decide +kernel
theorem dJ7_fill_d0a16_1 : decode cJ7_fill_d0a16 1 = .ok (.istore_n 3, 1) := by decide +kernel
theorem dJ7_fill_d0a16_2 : decode cJ7_fill_d0a16 2 = .ok (.aload_n 0, 1) := by decide +kernel
theorem dJ7_fill_d0a16_3 : decode cJ7_fill_d0a16 3 = .ok (.arraylength, 1) := by decide +kernel
theorem dJ7_fill_d0a16_4 : decode cJ7_fill_d0a16 4 = .ok (.istore 4, 2) := by decide +kernel
theorem dJ7_fill_d0a16_6 : decode cJ7_fill_d0a16 6 = .ok (.iload_n 3, 1) := by decide +kernel
theorem dJ7_fill_d0a16_7 : decode cJ7_fill_d0a16 7 = .ok (.iload 4, 2) := by decide +kernel
theorem dJ7_fill_d0a16_9 : decode cJ7_fill_d0a16 9 = .ok (.if_icmp .ge 13, 3) := by decide +kernel
theorem dJ7_fill_d0a16_12 : decode cJ7_fill_d0a16 12 = .ok (.aload_n 0, 1) := by decide +kernel
theorem dJ7_fill_d0a16_13 : decode cJ7_fill_d0a16 13 = .ok (.iload_n 3, 1) := by decide +kernel
theorem dJ7_fill_d0a16_14 : decode cJ7_fill_d0a16 14 = .ok (.lload_n 1, 1) := by decide +kernel
theorem dJ7_fill_d0a16_15 : decode cJ7_fill_d0a16 15 = .ok (.lastore, 1) := by decide +kernel
theorem dJ7_fill_d0a16_16 : decode cJ7_fill_d0a16 16 = .ok (.iinc 3 1, 3) := by decide +kernel
theorem dJ7_fill_d0a16_19 : decode cJ7_fill_d0a16 19 = .ok (.goto (-13), 3) := by decide +kernel
theorem dJ7_fill_d0a16_22 : decode cJ7_fill_d0a16 22 = .ok (.return_, 1) := by decide +kernel
set_option maxRecDepth 20000 in
theorem ggJ7_fill_bad5a_J7_rangeCheck_23922 : GoodIn wsJ7_fill_bad5a wsJ7_rangeCheck_23922 := goodIn_r _ [4] (by decide +kernel) (by decide +kernel)
set_option maxRecDepth 20000 in
theorem gJ7_fill_bad5a_J7_rangeCheck_23922 : GoodIn wsJ7_fill_bad5a (va_wsS RJ7 13 yJ7_rangeCheck_23922 wsJ7_rangeCheck_23922) := goodIn_app (goodIn_of _ (by decide +kernel)) ggJ7_fill_bad5a_J7_rangeCheck_23922
theorem dJ7_fill_bad5a_0 : decode cJ7_fill_bad5a 0 = .ok (.aload_n 0, 1) := by decide +kernel
theorem dJ7_fill_bad5a_1 : decode cJ7_fill_bad5a 1 = .ok (.arraylength, 1) := by decide +kernel
theorem dJ7_fill_bad5a_2 : decode cJ7_fill_bad5a 2 = .ok (.iload_n 1, 1) := by decide +kernel
theorem dJ7_fill_bad5a_3 : decode cJ7_fill_bad5a 3 = .ok (.iload_n 2, 1) := by decide +kernel
theorem dJ7_fill_bad5a_4 : decode cJ7_fill_bad5a 4 = .ok (.invokestatic 13, 3) := by decide +kernel
theorem dJ7_fill_bad5a_7 : decode cJ7_fill_bad5a 7 = .ok (.iload_n 1, 1) := by decide +kernel
theorem dJ7_fill_bad5a_8 : decode cJ7_fill_bad5a 8 = .ok (.istore 5, 2) := by decide +kernel
theorem dJ7_fill_bad5a_10 : decode cJ7_fill_bad5a 10 = .ok (.iload 5, 2) := by decide +kernel
theorem dJ7_fill_bad5a_12 : decode cJ7_fill_bad5a 12 = .ok (.iload_n 2, 1) := by decide +kernel
theorem dJ7_fill_bad5a_13 : decode cJ7_fill_bad5a 13 = .ok (.if_icmp .ge 14, 3) := by decide +kernel
theorem dJ7_fill_bad5a_16 : decode cJ7_fill_bad5a 16 = .ok (.aload_n 0, 1) := by decide +kernel
theorem dJ7_fill_bad5a_17 : decode cJ7_fill_bad5a 17 = .ok (.iload 5, 2) := by decide +kernel
theorem dJ7_fill_bad5a_19 : decode cJ7_fill_bad5a 19 = .ok (.lload_n 3, 1) := by decide +kernel
theorem dJ7_fill_bad5a_20 : decode cJ7_fill_bad5a 20 = .ok (.lastore, 1) := by decide +kernel
theorem dJ7_fill_bad5a_21 : decode cJ7_fill_bad5a 21 = .ok (.iinc 5 1, 3) := by decide +kernel
theorem dJ7_fill_bad5a_24 : decode cJ7_fill_bad5a 24 = .ok (.goto (-14), 3) := by decide +kernel
theorem dJ7_fill_bad5a_27 : decode cJ7_fill_bad5a 27 = .ok (.return_, 1) := by decide +kernel
theorem dJ7_fill_53178_0 : decode cJ7_fill_53178 0 = .ok (.iconst 0, 1) := by decide +kernel
theorem dJ7_fill_53178_1 : decode cJ7_fill_53178 1 = .ok (.istore_n 2, 1) := by decide +kernel
theorem dJ7_fill_53178_2 : decode cJ7_fill_53178 2 = .ok (.aload_n 0, 1) := by decide +kernel
theorem dJ7_fill_53178_3 : decode cJ7_fill_53178 3 = .ok (.arraylength, 1) := by decide +kernel
theorem dJ7_fill_53178_4 : decode cJ7_fill_53178 4 = .ok (.istore_n 3, 1) := by decide +kernel
theorem dJ7_fill_53178_5 : decode cJ7_fill_53178 5 = .ok (.iload_n 2, 1) := by decide +kernel
theorem dJ7_fill_53178_6 : decode cJ7_fill_53178 6 = .ok (.iload_n 3, 1) := by decide +kernel
theorem dJ7_fill_53178_7 : decode cJ7_fill_53178 7 = .ok (.if_icmp .ge 13, 3) := by decide +kernel
theorem dJ7_fill_53178_10 : decode cJ7_fill_53178 10 = .ok (.aload_n 0, 1) := by decide +kernel
theorem dJ7_fill_53178_11 : decode cJ7_fill_53178 11 = .ok (.iload_n 2, 1) := by decide +kernel
theorem dJ7_fill_53178_12 : decode cJ7_fill_53178 12 = .ok (.iload_n 1, 1) := by decide +kernel
theorem dJ7_fill_53178_13 : decode cJ7_fill_53178 13 = .ok (.iastore, 1) := by decide +kernel
theorem dJ7_fill_53178_14 : decode cJ7_fill_53178 14 = .ok (.iinc 2 1, 3) := by decide +kernel
theorem dJ7_fill_53178_17 : decode cJ7_fill_53178 17 = .ok (.goto (-12), 3) := by decide +kernel
theorem dJ7_fill_53178_20 : decode cJ7_fill_53178 20 = .ok (.return_, 1) := by decide +kernel
set_option maxRecDepth 20000 in
theorem ggL_law_X1_init : GoodIn wsL_law wsX1_init := goodIn_r _ [8, 9, 10, 11, 12, 13, 14, 15, 16, 17, 18, 19, 20, 21, 22, 23, 24, 25, 26, 27, 28, 29, 30, 31, 32, 33, 276, 251, 252, 253, 254, 255, 256, 257, 258, 259, 260, 261, 262] (by decide +kernel) (by decide +kernel)
set_option maxRecDepth 20000 in
theorem gL_law_X1_init : GoodIn wsL_law (wsX1_init) := ggL_law_X1_init
set_option maxRecDepth 20000 in
theorem ggL_law_X2_init : GoodIn wsL_law wsX2_init := goodIn_r _ [36, 37, 10, 11, 38, 20, 39, 40, 41, 42, 43, 44, 18, 45, 46, 47, 48, 263, 264, 265, 266, 267, 268, 269, 270, 271, 272, 273, 274, 275] (by decide +kernel) (by decide +kernel)
set_option maxRecDepth 20000 in
theorem gL_law_X2_init : GoodIn wsL_law (wsX2_init) := ggL_law_X2_init
set_option maxRecDepth 20000 in
theorem ggL_law_X1_size : GoodIn wsL_law wsX1_size := goodIn_r _ [52, 26, 15, 16, 28, 53, 54, 55, 14, 56, 33, 57, 58, 59, 60, 251, 252, 253, 254, 255, 256, 257, 258, 259, 260, 261, 262, 276] (by decide +kernel) (by decide +kernel)
set_option maxRecDepth 20000 in
theorem gL_law_X1_size : GoodIn wsL_law (wsV RL 13 RX1 yX1_size wsX1_size) := goodIn_app (goodIn_of _ (by decide +kernel)) ggL_law_X1_size
set_option maxRecDepth 20000 in
theorem ggL_law_X2_size : GoodIn wsL_law wsX2_size := goodIn_r _ [64, 38, 39, 40, 65, 263, 264, 265, 266, 267, 268, 269, 270, 271, 272, 273, 274, 275] (by decide +kernel) (by decide +kernel)
set_option maxRecDepth 20000 in
theorem gL_law_X2_size : GoodIn wsL_law (wsV RL 17 RX2 yX2_size wsX2_size) := goodIn_app (goodIn_of _ (by decide +kernel)) ggL_law_X2_size
set_option maxRecDepth 20000 in
theorem ggL_law_X1_edge : GoodIn wsL_law wsX1_edge := goodIn_r _ [69, 15, 16, 28, 70, 71, 72, 2, 73, 26, 74, 75, 76, 14, 77, 33, 78, 79, 80, 81, 82, 83, 84, 85, 251, 252, 253, 254, 255, 256, 257, 258, 259, 260, 261, 262, 276] (by decide +kernel) (by decide +kernel)
set_option maxRecDepth 20000 in
theorem gL_law_X1_edge : GoodIn wsL_law (wsV RL 18 RX1 yX1_edge wsX1_edge) := goodIn_app (goodIn_of _ (by decide +kernel)) ggL_law_X1_edge
set_option maxRecDepth 20000 in
theorem ggL_law_X2_edge : GoodIn wsL_law wsX2_edge := goodIn_r _ [89, 39, 40, 65, 90, 91, 92, 5, 93, 38, 94, 95, 96, 97, 98, 99, 100, 101, 102, 103, 263, 264, 265, 266, 267, 268, 269, 270, 271, 272, 273, 274, 275] (by decide +kernel) (by decide +kernel)
set_option maxRecDepth 20000 in
theorem gL_law_X2_edge : GoodIn wsL_law (wsV RL 22 RX2 yX2_edge wsX2_edge) := goodIn_app (goodIn_of _ (by decide +kernel)) ggL_law_X2_edge
set_option maxRecDepth 20000 in
theorem ggL_law_X1_has : GoodIn wsL_law wsX1_has := goodIn_r _ [107, 15, 70, 71, 72, 2, 73, 26, 74, 75, 76, 14, 77, 33, 78, 79, 80, 251, 252, 253, 254, 255, 256, 257, 258, 259, 260, 261, 262, 276] (by decide +kernel) (by decide +kernel)
set_option maxRecDepth 20000 in
theorem gL_law_X1_has : GoodIn wsL_law (wsV RL 23 RX1 yX1_has wsX1_has) := goodIn_app (goodIn_of _ (by decide +kernel)) ggL_law_X1_has
set_option maxRecDepth 20000 in
theorem ggL_law_X2_has : GoodIn wsL_law wsX2_has := goodIn_r _ [97, 39, 90, 91, 92, 5, 93, 38, 98, 99, 100, 263, 264, 265, 266, 267, 268, 269, 270, 271, 272, 273, 274, 275] (by decide +kernel) (by decide +kernel)
set_option maxRecDepth 20000 in
theorem gL_law_X2_has : GoodIn wsL_law (wsV RL 27 RX2 yX2_has wsX2_has) := goodIn_app (goodIn_of _ (by decide +kernel)) ggL_law_X2_has
set_option maxRecDepth 20000 in
theorem ggL_law_X1_reached : GoodIn wsL_law wsX1_reached := goodIn_r _ [112, 19, 70, 71, 72, 2, 73, 26, 113, 114, 115, 116, 28, 22, 23, 27, 21, 117, 118, 119, 120, 15, 121, 122, 123, 14, 124, 85, 33, 125, 126, 127, 128, 129, 130, 131, 251, 252, 253, 254, 255, 256, 257, 258, 259, 260, 261, 262, 276] (by decide +kernel) (by decide +kernel)
set_option maxRecDepth 20000 in
theorem gL_law_X1_reached : GoodIn wsL_law (wsV RL 28 RX1 yX1_reached wsX1_reached) := goodIn_app (goodIn_of _ (by decide +kernel)) ggL_law_X1_reached
set_option maxRecDepth 20000 in
theorem ggL_law_X2_reached : GoodIn wsL_law wsX2_reached := goodIn_r _ [135, 41, 136, 137, 138, 5, 139, 65, 39, 47, 38, 42, 140, 141, 142, 143, 144, 145, 146, 147, 148, 48, 149, 150, 151, 152, 98, 99, 100, 153, 154, 155, 156, 43, 44, 157, 158, 159, 160, 46, 45, 40, 90, 91, 92, 93, 263, 264, 265, 266, 267, 268, 269, 270, 271, 272, 273, 274, 275] (by decide +kernel) (by decide +kernel)
set_option maxRecDepth 20000 in
theorem gL_law_X2_reached : GoodIn wsL_law (wsV RL 31 RX2 yX2_reached wsX2_reached) := goodIn_app (goodIn_of _ (by decide +kernel)) ggL_law_X2_reached
set_option maxRecDepth 20000 in
theorem ggL_law_X1_reachedOnes : GoodIn wsL_law wsX1_reachedOnes := goodIn_r _ [164, 26, 27, 113, 114, 115, 2, 116, 28, 19, 22, 23, 21, 117, 118, 119, 120, 15, 121, 122, 123, 14, 124, 85, 33, 125, 126, 127, 128, 129, 130, 131, 251, 252, 253, 254, 255, 256, 257, 258, 259, 260, 261, 262, 276] (by decide +kernel) (by decide +kernel)
set_option maxRecDepth 20000 in
theorem gL_law_X1_reachedOnes : GoodIn wsL_law (wsV RL 32 RX1 yX1_reachedOnes wsX1_reachedOnes) := goodIn_app (goodIn_of _ (by decide +kernel)) ggL_law_X1_reachedOnes
set_option maxRecDepth 20000 in
theorem ggL_law_X2_reachedOnes : GoodIn wsL_law wsX2_reachedOnes := goodIn_r _ [168, 38, 169, 133, 134, 5, 135, 41, 136, 137, 138, 139, 65, 39, 47, 42, 140, 141, 142, 143, 144, 145, 146, 147, 148, 48, 149, 150, 151, 152, 98, 99, 100, 153, 154, 155, 156, 43, 44, 157, 158, 159, 160, 46, 45, 40, 90, 91, 92, 93, 263, 264, 265, 266, 267, 268, 269, 270, 271, 272, 273, 274, 275] (by decide +kernel) (by decide +kernel)
set_option maxRecDepth 20000 in
theorem gL_law_X2_reachedOnes : GoodIn wsL_law (wsV RL 36 RX2 yX2_reachedOnes wsX2_reachedOnes) := goodIn_app (goodIn_of _ (by decide +kernel)) ggL_law_X2_reachedOnes
set_option maxRecDepth 20000 in
theorem ggL_law_X1_dominator : GoodIn wsL_law wsX1_dominator := goodIn_r _ [173, 17, 26, 70, 71, 72, 2, 73, 174, 175, 176, 177, 28, 113, 114, 115, 116, 19, 22, 23, 27, 21, 117, 118, 119, 120, 15, 121, 122, 123, 14, 124, 85, 33, 125, 126, 127, 128, 129, 130, 131, 178, 179, 180, 181, 53, 54, 55, 56, 57, 58, 59, 60, 81, 82, 83, 84, 78, 79, 80, 182, 183, 184, 185, 186, 187, 188, 189, 190, 191, 192, 193, 194, 195, 16, 196, 197, 198, 199, 200, 201, 202, 203, 251, 252, 253, 254, 255, 256, 257, 258, 259, 260, 261, 262, 276] (by decide +kernel) (by decide +kernel)
set_option maxRecDepth 20000 in
theorem gL_law_X1_dominator : GoodIn wsL_law (wsV RL 37 RX1 yX1_dominator wsX1_dominator) := goodIn_app (goodIn_of _ (by decide +kernel)) ggL_law_X1_dominator
set_option maxRecDepth 20000 in
theorem ggL_law_X2_dominator : GoodIn wsL_law wsX2_dominator := goodIn_r _ [207, 44, 136, 137, 138, 5, 139, 65, 39, 41, 47, 38, 42, 140, 141, 142, 143, 144, 145, 146, 147, 148, 48, 149, 150, 151, 152, 98, 99, 100, 153, 154, 155, 156, 43, 157, 158, 159, 160, 46, 45, 40, 90, 91, 92, 93, 263, 264, 265, 266, 267, 268, 269, 270, 271, 272, 273, 274, 275] (by decide +kernel) (by decide +kernel)
set_option maxRecDepth 20000 in
theorem gL_law_X2_dominator : GoodIn wsL_law (wsV RL 41 RX2 yX2_dominator wsX2_dominator) := goodIn_app (goodIn_of _ (by decide +kernel)) ggL_law_X2_dominator
set_option maxRecDepth 20000 in
theorem ggL_law_X1_dominates : GoodIn wsL_law wsX1_dominates := goodIn_r _ [211, 17, 70, 71, 72, 2, 73, 26, 174, 175, 176, 177, 28, 113, 114, 115, 116, 19, 22, 23, 27, 21, 117, 118, 119, 120, 15, 121, 122, 123, 14, 124, 85, 33, 125, 126, 127, 128, 129, 130, 131, 178, 179, 180, 181, 53, 54, 55, 56, 57, 58, 59, 60, 81, 82, 83, 84, 78, 79, 80, 182, 183, 184, 185, 186, 187, 188, 189, 190, 191, 192, 193, 194, 195, 16, 196, 197, 198, 199, 74, 75, 76, 77, 251, 252, 253, 254, 255, 256, 257, 258, 259, 260, 261, 262, 276] (by decide +kernel) (by decide +kernel)
set_option maxRecDepth 20000 in
theorem gL_law_X1_dominates : GoodIn wsL_law (wsV RL 42 RX1 yX1_dominates wsX1_dominates) := goodIn_app (goodIn_of _ (by decide +kernel)) ggL_law_X1_dominates
set_option maxRecDepth 20000 in
theorem ggL_law_X2_dominates : GoodIn wsL_law wsX2_dominates := goodIn_r _ [215, 42, 136, 137, 138, 5, 139, 65, 39, 41, 47, 38, 140, 141, 142, 143, 144, 145, 146, 147, 148, 48, 149, 150, 151, 152, 98, 99, 100, 153, 154, 155, 156, 43, 44, 157, 158, 159, 160, 46, 45, 40, 90, 91, 92, 93, 263, 264, 265, 266, 267, 268, 269, 270, 271, 272, 273, 274, 275] (by decide +kernel) (by decide +kernel)
set_option maxRecDepth 20000 in
theorem gL_law_X2_dominates : GoodIn wsL_law (wsV RL 45 RX2 yX2_dominates wsX2_dominates) := goodIn_app (goodIn_of _ (by decide +kernel)) ggL_law_X2_dominates
set_option maxRecDepth 20000 in
theorem ggL_law_X1_head : GoodIn wsL_law wsX1_head := goodIn_r _ [219, 70, 71, 72, 2, 73, 26, 174, 175, 176, 177, 28, 113, 114, 115, 116, 19, 22, 23, 27, 21, 117, 118, 119, 120, 15, 121, 122, 123, 14, 124, 85, 33, 125, 126, 127, 128, 129, 130, 131, 178, 179, 180, 181, 17, 53, 54, 55, 56, 57, 58, 59, 60, 81, 82, 83, 84, 78, 79, 80, 182, 183, 184, 185, 186, 187, 188, 189, 190, 191, 192, 193, 194, 195, 16, 196, 197, 198, 199, 220, 221, 222, 223, 74, 75, 76, 77, 251, 252, 253, 254, 255, 256, 257, 258, 259, 260, 261, 262, 276] (by decide +kernel) (by decide +kernel)
set_option maxRecDepth 20000 in
theorem gL_law_X1_head : GoodIn wsL_law (wsV RL 46 RX1 yX1_head wsX1_head) := goodIn_app (goodIn_of _ (by decide +kernel)) ggL_law_X1_head
set_option maxRecDepth 20000 in
theorem ggL_law_X2_head : GoodIn wsL_law wsX2_head := goodIn_r _ [227, 45, 136, 137, 138, 5, 139, 65, 39, 41, 47, 38, 42, 140, 141, 142, 143, 144, 145, 146, 147, 148, 48, 149, 150, 151, 152, 98, 99, 100, 153, 154, 155, 156, 43, 44, 157, 158, 159, 160, 46, 40, 90, 91, 92, 93, 263, 264, 265, 266, 267, 268, 269, 270, 271, 272, 273, 274, 275] (by decide +kernel) (by decide +kernel)
set_option maxRecDepth 20000 in
theorem gL_law_X2_head : GoodIn wsL_law (wsV RL 49 RX2 yX2_head wsX2_head) := goodIn_app (goodIn_of _ (by decide +kernel)) ggL_law_X2_head
set_option maxRecDepth 20000 in
theorem ggL_law_X1_depth : GoodIn wsL_law wsX1_depth := goodIn_r _ [231, 25, 70, 71, 72, 2, 73, 26, 232, 233, 234, 235, 28, 24, 27, 21, 174, 175, 176, 177, 113, 114, 115, 116, 19, 22, 23, 117, 118, 119, 120, 15, 121, 122, 123, 14, 124, 85, 33, 125, 126, 127, 128, 129, 130, 131, 178, 179, 180, 181, 17, 53, 54, 55, 56, 57, 58, 59, 60, 81, 82, 83, 84, 78, 79, 80, 182, 183, 184, 185, 186, 187, 188, 189, 190, 191, 192, 193, 194, 195, 16, 196, 197, 198, 199, 236, 237, 238, 220, 221, 222, 223, 74, 75, 76, 77, 239, 240, 241, 242, 243, 244, 245, 246, 251, 252, 253, 254, 255, 256, 257, 258, 259, 260, 261, 262, 276] (by decide +kernel) (by decide +kernel)
set_option maxRecDepth 20000 in
theorem gL_law_X1_depth : GoodIn wsL_law (wsV RL 50 RX1 yX1_depth wsX1_depth) := goodIn_app (goodIn_of _ (by decide +kernel)) ggL_law_X1_depth
set_option maxRecDepth 20000 in
theorem ggL_law_X2_depth : GoodIn wsL_law wsX2_depth := goodIn_r _ [250, 46, 136, 137, 138, 5, 139, 65, 39, 41, 47, 38, 42, 140, 141, 142, 143, 144, 145, 146, 147, 148, 48, 149, 150, 151, 152, 98, 99, 100, 153, 154, 155, 156, 43, 44, 157, 158, 159, 160, 45, 40, 90, 91, 92, 93, 263, 264, 265, 266, 267, 268, 269, 270, 271, 272, 273, 274, 275] (by decide +kernel) (by decide +kernel)
set_option maxRecDepth 20000 in
theorem gL_law_X2_depth : GoodIn wsL_law (wsV RL 53 RX2 yX2_depth wsX2_depth) := goodIn_app (goodIn_of _ (by decide +kernel)) ggL_law_X2_depth
theorem dL_law_0 : decode cL_law 0 = .ok (.new 7, 3) := by decide +kernel
theorem dL_law_3 : decode cL_law 3 = .ok (.dup, 1) := by decide +kernel
theorem dL_law_4 : decode cL_law 4 = .ok (.invokespecial 9, 3) := by decide +kernel
theorem dL_law_7 : decode cL_law 7 = .ok (.astore_n 1, 1) := by decide +kernel
theorem dL_law_8 : decode cL_law 8 = .ok (.new 10, 3) := by decide +kernel
theorem dL_law_11 : decode cL_law 11 = .ok (.dup, 1) := by decide +kernel
theorem dL_law_12 : decode cL_law 12 = .ok (.invokespecial 12, 3) := by decide +kernel
theorem dL_law_15 : decode cL_law 15 = .ok (.astore_n 2, 1) := by decide +kernel
theorem dL_law_16 : decode cL_law 16 = .ok (.iconst 0, 1) := by decide +kernel
theorem dL_law_17 : decode cL_law 17 = .ok (.istore_n 3, 1) := by decide +kernel
theorem dL_law_18 : decode cL_law 18 = .ok (.iload_n 3, 1) := by decide +kernel
theorem dL_law_19 : decode cL_law 19 = .ok (.aload_n 0, 1) := by decide +kernel
theorem dL_law_20 : decode cL_law 20 = .ok (.arraylength, 1) := by decide +kernel
theorem dL_law_21 : decode cL_law 21 = .ok (.iconst 4, 1) := by decide +kernel
theorem dL_law_22 : decode cL_law 22 = .ok (.isub, 1) := by decide +kernel
theorem dL_law_23 : decode cL_law 23 = .ok (.if_icmp .gt 320, 3) := by decide +kernel
theorem dL_law_26 : decode cL_law 26 = .ok (.aload_n 0, 1) := by decide +kernel
theorem dL_law_27 : decode cL_law 27 = .ok (.iload_n 3, 1) := by decide +kernel
theorem dL_law_28 : decode cL_law 28 = .ok (.iaload, 1) := by decide +kernel
theorem dL_law_29 : decode cL_law 29 = .ok (.bipush 15, 2) := by decide +kernel
theorem dL_law_31 : decode cL_law 31 = .ok (.iand, 1) := by decide +kernel
theorem dL_law_32 : decode cL_law 32 = .ok (.tableswitch 305 0 8 #[52, 75, 134, 167, 190, 203, 226, 259, 282], 52) := by decide +kernel
theorem dL_law_84 : decode cL_law 84 = .ok (.aload_n 1, 1) := by decide +kernel
theorem dL_law_85 : decode cL_law 85 = .ok (.aload_n 0, 1) := by decide +kernel
theorem dL_law_86 : decode cL_law 86 = .ok (.iload_n 3, 1) := by decide +kernel
theorem dL_law_87 : decode cL_law 87 = .ok (.iconst 1, 1) := by decide +kernel
theorem dL_law_88 : decode cL_law 88 = .ok (.iadd, 1) := by decide +kernel
theorem dL_law_89 : decode cL_law 89 = .ok (.iaload, 1) := by decide +kernel
theorem dL_law_90 : decode cL_law 90 = .ok (.invokevirtual 13, 3) := by decide +kernel
theorem dL_law_93 : decode cL_law 93 = .ok (.aload_n 2, 1) := by decide +kernel
theorem dL_law_94 : decode cL_law 94 = .ok (.aload_n 0, 1) := by decide +kernel
theorem dL_law_95 : decode cL_law 95 = .ok (.iload_n 3, 1) := by decide +kernel
theorem dL_law_96 : decode cL_law 96 = .ok (.iconst 1, 1) := by decide +kernel
theorem dL_law_97 : decode cL_law 97 = .ok (.iadd, 1) := by decide +kernel
theorem dL_law_98 : decode cL_law 98 = .ok (.iaload, 1) := by decide +kernel
theorem dL_law_99 : decode cL_law 99 = .ok (.invokevirtual 17, 3) := by decide +kernel
theorem dL_law_102 : decode cL_law 102 = .ok (.if_icmp .eq 235, 3) := by decide +kernel
theorem dL_law_105 : decode cL_law 105 = .ok (.iconst 0, 1) := by decide +kernel
theorem dL_law_106 : decode cL_law 106 = .ok (.ireturn, 1) := by decide +kernel
theorem dL_law_107 : decode cL_law 107 = .ok (.aload_n 1, 1) := by decide +kernel
theorem dL_law_108 : decode cL_law 108 = .ok (.aload_n 0, 1) := by decide +kernel
theorem dL_law_109 : decode cL_law 109 = .ok (.iload_n 3, 1) := by decide +kernel
theorem dL_law_110 : decode cL_law 110 = .ok (.iconst 1, 1) := by decide +kernel
theorem dL_law_111 : decode cL_law 111 = .ok (.iadd, 1) := by decide +kernel
theorem dL_law_112 : decode cL_law 112 = .ok (.iaload, 1) := by decide +kernel
theorem dL_law_113 : decode cL_law 113 = .ok (.aload_n 0, 1) := by decide +kernel
theorem dL_law_114 : decode cL_law 114 = .ok (.iload_n 3, 1) := by decide +kernel
theorem dL_law_115 : decode cL_law 115 = .ok (.iconst 2, 1) := by decide +kernel
theorem dL_law_116 : decode cL_law 116 = .ok (.iadd, 1) := by decide +kernel
theorem dL_law_117 : decode cL_law 117 = .ok (.iaload, 1) := by decide +kernel
theorem dL_law_118 : decode cL_law 118 = .ok (.aload_n 0, 1) := by decide +kernel
theorem dL_law_119 : decode cL_law 119 = .ok (.iload_n 3, 1) := by decide +kernel
theorem dL_law_120 : decode cL_law 120 = .ok (.iconst 3, 1) := by decide +kernel
theorem dL_law_121 : decode cL_law 121 = .ok (.iadd, 1) := by decide +kernel
theorem dL_law_122 : decode cL_law 122 = .ok (.iaload, 1) := by decide +kernel
theorem dL_law_123 : decode cL_law 123 = .ok (.ifCond .eq 7, 3) := by decide +kernel
theorem dL_law_126 : decode cL_law 126 = .ok (.iconst 1, 1) := by decide +kernel
theorem dL_law_127 : decode cL_law 127 = .ok (.goto 4, 3) := by decide +kernel
theorem dL_law_130 : decode cL_law 130 = .ok (.iconst 0, 1) := by decide +kernel
theorem dL_law_131 : decode cL_law 131 = .ok (.invokevirtual 18, 3) := by decide +kernel
theorem dL_law_134 : decode cL_law 134 = .ok (.aload_n 2, 1) := by decide +kernel
theorem dL_law_135 : decode cL_law 135 = .ok (.aload_n 0, 1) := by decide +kernel
theorem dL_law_136 : decode cL_law 136 = .ok (.iload_n 3, 1) := by decide +kernel
theorem dL_law_137 : decode cL_law 137 = .ok (.iconst 1, 1) := by decide +kernel
theorem dL_law_138 : decode cL_law 138 = .ok (.iadd, 1) := by decide +kernel
theorem dL_law_139 : decode cL_law 139 = .ok (.iaload, 1) := by decide +kernel
theorem dL_law_140 : decode cL_law 140 = .ok (.aload_n 0, 1) := by decide +kernel
theorem dL_law_141 : decode cL_law 141 = .ok (.iload_n 3, 1) := by decide +kernel
theorem dL_law_142 : decode cL_law 142 = .ok (.iconst 2, 1) := by decide +kernel
theorem dL_law_143 : decode cL_law 143 = .ok (.iadd, 1) := by decide +kernel
theorem dL_law_144 : decode cL_law 144 = .ok (.iaload, 1) := by decide +kernel
theorem dL_law_145 : decode cL_law 145 = .ok (.aload_n 0, 1) := by decide +kernel
theorem dL_law_146 : decode cL_law 146 = .ok (.iload_n 3, 1) := by decide +kernel
theorem dL_law_147 : decode cL_law 147 = .ok (.iconst 3, 1) := by decide +kernel
theorem dL_law_148 : decode cL_law 148 = .ok (.iadd, 1) := by decide +kernel
theorem dL_law_149 : decode cL_law 149 = .ok (.iaload, 1) := by decide +kernel
theorem dL_law_150 : decode cL_law 150 = .ok (.ifCond .eq 7, 3) := by decide +kernel
theorem dL_law_153 : decode cL_law 153 = .ok (.iconst 1, 1) := by decide +kernel
theorem dL_law_154 : decode cL_law 154 = .ok (.goto 4, 3) := by decide +kernel
theorem dL_law_157 : decode cL_law 157 = .ok (.iconst 0, 1) := by decide +kernel
theorem dL_law_158 : decode cL_law 158 = .ok (.invokevirtual 22, 3) := by decide +kernel
theorem dL_law_161 : decode cL_law 161 = .ok (.if_icmp .eq 176, 3) := by decide +kernel
theorem dL_law_164 : decode cL_law 164 = .ok (.iconst 0, 1) := by decide +kernel
theorem dL_law_165 : decode cL_law 165 = .ok (.ireturn, 1) := by decide +kernel
theorem dL_law_166 : decode cL_law 166 = .ok (.aload_n 1, 1) := by decide +kernel
theorem dL_law_167 : decode cL_law 167 = .ok (.aload_n 0, 1) := by decide +kernel
theorem dL_law_168 : decode cL_law 168 = .ok (.iload_n 3, 1) := by decide +kernel
theorem dL_law_169 : decode cL_law 169 = .ok (.iconst 1, 1) := by decide +kernel
theorem dL_law_170 : decode cL_law 170 = .ok (.iadd, 1) := by decide +kernel
theorem dL_law_171 : decode cL_law 171 = .ok (.iaload, 1) := by decide +kernel
theorem dL_law_172 : decode cL_law 172 = .ok (.aload_n 0, 1) := by decide +kernel
theorem dL_law_173 : decode cL_law 173 = .ok (.iload_n 3, 1) := by decide +kernel
theorem dL_law_174 : decode cL_law 174 = .ok (.iconst 2, 1) := by decide +kernel
theorem dL_law_175 : decode cL_law 175 = .ok (.iadd, 1) := by decide +kernel
theorem dL_law_176 : decode cL_law 176 = .ok (.iaload, 1) := by decide +kernel
theorem dL_law_177 : decode cL_law 177 = .ok (.invokevirtual 23, 3) := by decide +kernel
theorem dL_law_180 : decode cL_law 180 = .ok (.aload_n 2, 1) := by decide +kernel
theorem dL_law_181 : decode cL_law 181 = .ok (.aload_n 0, 1) := by decide +kernel
theorem dL_law_182 : decode cL_law 182 = .ok (.iload_n 3, 1) := by decide +kernel
theorem dL_law_183 : decode cL_law 183 = .ok (.iconst 1, 1) := by decide +kernel
theorem dL_law_184 : decode cL_law 184 = .ok (.iadd, 1) := by decide +kernel
theorem dL_law_185 : decode cL_law 185 = .ok (.iaload, 1) := by decide +kernel
theorem dL_law_186 : decode cL_law 186 = .ok (.aload_n 0, 1) := by decide +kernel
theorem dL_law_187 : decode cL_law 187 = .ok (.iload_n 3, 1) := by decide +kernel
theorem dL_law_188 : decode cL_law 188 = .ok (.iconst 2, 1) := by decide +kernel
theorem dL_law_189 : decode cL_law 189 = .ok (.iadd, 1) := by decide +kernel
theorem dL_law_190 : decode cL_law 190 = .ok (.iaload, 1) := by decide +kernel
theorem dL_law_191 : decode cL_law 191 = .ok (.invokevirtual 27, 3) := by decide +kernel
theorem dL_law_194 : decode cL_law 194 = .ok (.if_icmp .eq 143, 3) := by decide +kernel
theorem dL_law_197 : decode cL_law 197 = .ok (.iconst 0, 1) := by decide +kernel
theorem dL_law_198 : decode cL_law 198 = .ok (.ireturn, 1) := by decide +kernel
theorem dL_law_199 : decode cL_law 199 = .ok (.aload_n 1, 1) := by decide +kernel
theorem dL_law_200 : decode cL_law 200 = .ok (.aload_n 0, 1) := by decide +kernel
theorem dL_law_201 : decode cL_law 201 = .ok (.iload_n 3, 1) := by decide +kernel
theorem dL_law_202 : decode cL_law 202 = .ok (.iconst 1, 1) := by decide +kernel
theorem dL_law_203 : decode cL_law 203 = .ok (.iadd, 1) := by decide +kernel
theorem dL_law_204 : decode cL_law 204 = .ok (.iaload, 1) := by decide +kernel
theorem dL_law_205 : decode cL_law 205 = .ok (.invokevirtual 28, 3) := by decide +kernel
theorem dL_law_208 : decode cL_law 208 = .ok (.aload_n 2, 1) := by decide +kernel
theorem dL_law_209 : decode cL_law 209 = .ok (.aload_n 0, 1) := by decide +kernel
theorem dL_law_210 : decode cL_law 210 = .ok (.iload_n 3, 1) := by decide +kernel
theorem dL_law_211 : decode cL_law 211 = .ok (.iconst 1, 1) := by decide +kernel
theorem dL_law_212 : decode cL_law 212 = .ok (.iadd, 1) := by decide +kernel
theorem dL_law_213 : decode cL_law 213 = .ok (.iaload, 1) := by decide +kernel
theorem dL_law_214 : decode cL_law 214 = .ok (.invokevirtual 31, 3) := by decide +kernel
theorem dL_law_217 : decode cL_law 217 = .ok (.if_icmp .eq 120, 3) := by decide +kernel
theorem dL_law_220 : decode cL_law 220 = .ok (.iconst 0, 1) := by decide +kernel
theorem dL_law_221 : decode cL_law 221 = .ok (.ireturn, 1) := by decide +kernel
theorem dL_law_222 : decode cL_law 222 = .ok (.aload_n 1, 1) := by decide +kernel
theorem dL_law_223 : decode cL_law 223 = .ok (.invokevirtual 32, 3) := by decide +kernel
theorem dL_law_226 : decode cL_law 226 = .ok (.aload_n 2, 1) := by decide +kernel
theorem dL_law_227 : decode cL_law 227 = .ok (.invokevirtual 36, 3) := by decide +kernel
theorem dL_law_230 : decode cL_law 230 = .ok (.if_icmp .eq 107, 3) := by decide +kernel
theorem dL_law_233 : decode cL_law 233 = .ok (.iconst 0, 1) := by decide +kernel
theorem dL_law_234 : decode cL_law 234 = .ok (.ireturn, 1) := by decide +kernel
theorem dL_law_235 : decode cL_law 235 = .ok (.aload_n 1, 1) := by decide +kernel
theorem dL_law_236 : decode cL_law 236 = .ok (.aload_n 0, 1) := by decide +kernel
theorem dL_law_237 : decode cL_law 237 = .ok (.iload_n 3, 1) := by decide +kernel
theorem dL_law_238 : decode cL_law 238 = .ok (.iconst 1, 1) := by decide +kernel
theorem dL_law_239 : decode cL_law 239 = .ok (.iadd, 1) := by decide +kernel
theorem dL_law_240 : decode cL_law 240 = .ok (.iaload, 1) := by decide +kernel
theorem dL_law_241 : decode cL_law 241 = .ok (.invokevirtual 37, 3) := by decide +kernel
theorem dL_law_244 : decode cL_law 244 = .ok (.aload_n 2, 1) := by decide +kernel
theorem dL_law_245 : decode cL_law 245 = .ok (.aload_n 0, 1) := by decide +kernel
theorem dL_law_246 : decode cL_law 246 = .ok (.iload_n 3, 1) := by decide +kernel
theorem dL_law_247 : decode cL_law 247 = .ok (.iconst 1, 1) := by decide +kernel
theorem dL_law_248 : decode cL_law 248 = .ok (.iadd, 1) := by decide +kernel
theorem dL_law_249 : decode cL_law 249 = .ok (.iaload, 1) := by decide +kernel
theorem dL_law_250 : decode cL_law 250 = .ok (.invokevirtual 41, 3) := by decide +kernel
theorem dL_law_253 : decode cL_law 253 = .ok (.if_icmp .eq 84, 3) := by decide +kernel
theorem dL_law_256 : decode cL_law 256 = .ok (.iconst 0, 1) := by decide +kernel
theorem dL_law_257 : decode cL_law 257 = .ok (.ireturn, 1) := by decide +kernel
theorem dL_law_258 : decode cL_law 258 = .ok (.aload_n 1, 1) := by decide +kernel
theorem dL_law_259 : decode cL_law 259 = .ok (.aload_n 0, 1) := by decide +kernel
theorem dL_law_260 : decode cL_law 260 = .ok (.iload_n 3, 1) := by decide +kernel
theorem dL_law_261 : decode cL_law 261 = .ok (.iconst 1, 1) := by decide +kernel
theorem dL_law_262 : decode cL_law 262 = .ok (.iadd, 1) := by decide +kernel
theorem dL_law_263 : decode cL_law 263 = .ok (.iaload, 1) := by decide +kernel
theorem dL_law_264 : decode cL_law 264 = .ok (.aload_n 0, 1) := by decide +kernel
theorem dL_law_265 : decode cL_law 265 = .ok (.iload_n 3, 1) := by decide +kernel
theorem dL_law_266 : decode cL_law 266 = .ok (.iconst 2, 1) := by decide +kernel
theorem dL_law_267 : decode cL_law 267 = .ok (.iadd, 1) := by decide +kernel
theorem dL_law_268 : decode cL_law 268 = .ok (.iaload, 1) := by decide +kernel
theorem dL_law_269 : decode cL_law 269 = .ok (.invokevirtual 42, 3) := by decide +kernel
theorem dL_law_272 : decode cL_law 272 = .ok (.aload_n 2, 1) := by decide +kernel
theorem dL_law_273 : decode cL_law 273 = .ok (.aload_n 0, 1) := by decide +kernel
theorem dL_law_274 : decode cL_law 274 = .ok (.iload_n 3, 1) := by decide +kernel
theorem dL_law_275 : decode cL_law 275 = .ok (.iconst 1, 1) := by decide +kernel
theorem dL_law_276 : decode cL_law 276 = .ok (.iadd, 1) := by decide +kernel
theorem dL_law_277 : decode cL_law 277 = .ok (.iaload, 1) := by decide +kernel
theorem dL_law_278 : decode cL_law 278 = .ok (.aload_n 0, 1) := by decide +kernel
theorem dL_law_279 : decode cL_law 279 = .ok (.iload_n 3, 1) := by decide +kernel
theorem dL_law_280 : decode cL_law 280 = .ok (.iconst 2, 1) := by decide +kernel
theorem dL_law_281 : decode cL_law 281 = .ok (.iadd, 1) := by decide +kernel
theorem dL_law_282 : decode cL_law 282 = .ok (.iaload, 1) := by decide +kernel
theorem dL_law_283 : decode cL_law 283 = .ok (.invokevirtual 45, 3) := by decide +kernel
theorem dL_law_286 : decode cL_law 286 = .ok (.if_icmp .eq 51, 3) := by decide +kernel
theorem dL_law_289 : decode cL_law 289 = .ok (.iconst 0, 1) := by decide +kernel
theorem dL_law_290 : decode cL_law 290 = .ok (.ireturn, 1) := by decide +kernel
theorem dL_law_291 : decode cL_law 291 = .ok (.aload_n 1, 1) := by decide +kernel
theorem dL_law_292 : decode cL_law 292 = .ok (.aload_n 0, 1) := by decide +kernel
theorem dL_law_293 : decode cL_law 293 = .ok (.iload_n 3, 1) := by decide +kernel
theorem dL_law_294 : decode cL_law 294 = .ok (.iconst 1, 1) := by decide +kernel
theorem dL_law_295 : decode cL_law 295 = .ok (.iadd, 1) := by decide +kernel
theorem dL_law_296 : decode cL_law 296 = .ok (.iaload, 1) := by decide +kernel
theorem dL_law_297 : decode cL_law 297 = .ok (.invokevirtual 46, 3) := by decide +kernel
theorem dL_law_300 : decode cL_law 300 = .ok (.aload_n 2, 1) := by decide +kernel
theorem dL_law_301 : decode cL_law 301 = .ok (.aload_n 0, 1) := by decide +kernel
theorem dL_law_302 : decode cL_law 302 = .ok (.iload_n 3, 1) := by decide +kernel
theorem dL_law_303 : decode cL_law 303 = .ok (.iconst 1, 1) := by decide +kernel
theorem dL_law_304 : decode cL_law 304 = .ok (.iadd, 1) := by decide +kernel
theorem dL_law_305 : decode cL_law 305 = .ok (.iaload, 1) := by decide +kernel
theorem dL_law_306 : decode cL_law 306 = .ok (.invokevirtual 49, 3) := by decide +kernel
theorem dL_law_309 : decode cL_law 309 = .ok (.if_icmp .eq 28, 3) := by decide +kernel
theorem dL_law_312 : decode cL_law 312 = .ok (.iconst 0, 1) := by decide +kernel
theorem dL_law_313 : decode cL_law 313 = .ok (.ireturn, 1) := by decide +kernel
theorem dL_law_314 : decode cL_law 314 = .ok (.aload_n 1, 1) := by decide +kernel
theorem dL_law_315 : decode cL_law 315 = .ok (.aload_n 0, 1) := by decide +kernel
theorem dL_law_316 : decode cL_law 316 = .ok (.iload_n 3, 1) := by decide +kernel
theorem dL_law_317 : decode cL_law 317 = .ok (.iconst 1, 1) := by decide +kernel
theorem dL_law_318 : decode cL_law 318 = .ok (.iadd, 1) := by decide +kernel
theorem dL_law_319 : decode cL_law 319 = .ok (.iaload, 1) := by decide +kernel
theorem dL_law_320 : decode cL_law 320 = .ok (.invokevirtual 50, 3) := by decide +kernel
theorem dL_law_323 : decode cL_law 323 = .ok (.aload_n 2, 1) := by decide +kernel
theorem dL_law_324 : decode cL_law 324 = .ok (.aload_n 0, 1) := by decide +kernel
theorem dL_law_325 : decode cL_law 325 = .ok (.iload_n 3, 1) := by decide +kernel
theorem dL_law_326 : decode cL_law 326 = .ok (.iconst 1, 1) := by decide +kernel
theorem dL_law_327 : decode cL_law 327 = .ok (.iadd, 1) := by decide +kernel
theorem dL_law_328 : decode cL_law 328 = .ok (.iaload, 1) := by decide +kernel
theorem dL_law_329 : decode cL_law 329 = .ok (.invokevirtual 53, 3) := by decide +kernel
theorem dL_law_332 : decode cL_law 332 = .ok (.if_icmp .eq 5, 3) := by decide +kernel
theorem dL_law_335 : decode cL_law 335 = .ok (.iconst 0, 1) := by decide +kernel
theorem dL_law_336 : decode cL_law 336 = .ok (.ireturn, 1) := by decide +kernel
theorem dL_law_337 : decode cL_law 337 = .ok (.iinc 3 4, 3) := by decide +kernel
theorem dL_law_340 : decode cL_law 340 = .ok (.goto (-322), 3) := by decide +kernel
theorem dL_law_343 : decode cL_law 343 = .ok (.iconst 1, 1) := by decide +kernel
theorem dL_law_344 : decode cL_law 344 = .ok (.ireturn, 1) := by decide +kernel
abbrev vwCl : List vw_C := [(RX0, TX0, 1), (RX1, TX1, 12), (RX2, TX2, 13)]
end
section
/-! the layer gG: the kit's W with heap, places and locals' array hidden; world, locals' list, pc and stack in sight -/
def lv_look : List (Nat × Value) → Nat → Option Value
  | [], _ => none
  | q :: r, i => match Nat.beq q.1 i with
    | true => some q.2
    | false => lv_look r i
def lv_norm : List (Nat × Value) → List (Nat × Value)
  | [] => []
  | q :: r => q :: (lv_norm r).filter (fun x => !(x.1 == q.1))
theorem lv_norm_mem : ∀ (lv : List (Nat × Value)) (i : Nat) (v : Value), (i, v) ∈ lv_norm lv ↔ lv_look lv i = some v := by
  intro lv
  induction lv with
  | nil => intro i v; simp [lv_norm, lv_look]
  | cons q r ih =>
    intro i v
    obtain ⟨j, x⟩ := q
    simp only [lv_norm, lv_look, List.mem_cons, List.mem_filter]
    by_cases h : j = i
    · subst h
      have hb : Nat.beq j j = true := Nat.beq_refl j
      rw [hb]
      simp only [Option.some.injEq]
      constructor
      · rintro (h1 | ⟨_, h2⟩)
        · injection h1 with _ h3; exact h3.symm
        · simp at h2
      · intro h1; left; rw [h1]
    · have hb : Nat.beq j i = false := by
        cases hh : Nat.beq j i with
        | true => exact absurd (Nat.eq_of_beq_eq_true hh) h
        | false => rfl
      rw [hb]
      simp only
      rw [← ih i v]
      constructor
      · rintro (h1 | ⟨h1, _⟩)
        · injection h1 with h3 _; exact absurd h3.symm h
        · exact h1
      · intro h1
        exact Or.inr ⟨h1, by simp; exact fun e => h e.symm⟩
theorem lv_norm_sub : ∀ (lv : List (Nat × Value)) (q : Nat × Value), q ∈ lv_norm lv → q ∈ lv := by
  intro lv
  induction lv with
  | nil => intro q h; exact h
  | cons x r ih =>
    intro q h
    simp only [lv_norm, List.mem_cons, List.mem_filter] at h
    rcases h with h | h
    · exact List.mem_cons.mpr (Or.inl h)
    · exact List.mem_cons_of_mem _ (ih q h.1)
def lf (ls : Array Slot) (nL : Nat) (lv : List (Nat × Value)) : Prop := lv_has ls nL (lv_norm lv)
theorem lf_of {ls : Array Slot} {nL : Nat} {lv : List (Nat × Value)} (h : lv_has ls nL lv) : lf ls nL lv := ⟨h.1, h.2.1, fun q hq => h.2.2 q (lv_norm_sub lv q hq)⟩
theorem lf_at {ls : Array Slot} {nL : Nat} {lv : List (Nat × Value)} (h : lf ls nL lv) {i : Nat} {v : Value} (hk : lv_look lv i = some v) : ls[i]? = some (.val v) := h.2.2 (i, v) ((lv_norm_mem lv i v).mpr hk)
def lv_le : List (Nat × Value) → List (Nat × Value) → Prop
  | [], _ => True
  | q :: r, lv => lv_look lv q.1 = some q.2 ∧ lv_le r lv
theorem lf_le {ls : Array Slot} {nL : Nat} {lv : List (Nat × Value)} (h : lf ls nL lv) : ∀ {lv' : List (Nat × Value)}, lv_le lv' lv → lf ls nL lv' := by
  intro lv' h'
  refine lf_of ⟨h.1, h.2.1, ?_⟩
  induction lv' with
  | nil => intro q hq; cases hq
  | cons x r ih =>
    intro q hq
    rcases List.mem_cons.mp hq with rfl | hq
    · exact lf_at h h'.1
    · exact ih h'.2 q hq
def lv_ok (lv : List (Nat × Value)) (i : Nat) : Bool := lv.all (fun q => !(q.1 + 1 == i && q.2.category == 2))
def lv_ok2 (lv : List (Nat × Value)) (i : Nat) : Bool := lv.all (fun q => !(q.1 == i + 1) && !(q.1 + 1 == i && q.2.category == 2))
theorem lf_st1 {ls : Array Slot} {nL : Nat} {lv : List (Nat × Value)} {i : Nat} {v : Value} (hok : lv_ok lv i = true) (h : lv_has ls nL ((i, v) :: (lv_norm lv).filter (fun q => !(q.1 == i) && !(q.1 + 1 == i && q.2.category == 2)))) : lf ls nL ((i, v) :: lv) := by
  refine ⟨h.1, h.2.1, fun q hq => h.2.2 q ?_⟩
  simp only [lv_norm, List.mem_cons, List.mem_filter] at hq ⊢
  rcases hq with hq | ⟨h1, h2⟩
  · exact Or.inl hq
  · refine Or.inr ⟨h1, ?_⟩
    have h3 := List.all_eq_true.mp hok q (lv_norm_sub lv q h1)
    rw [h2, h3]; rfl
theorem lf_st2 {ls : Array Slot} {nL : Nat} {lv : List (Nat × Value)} {i : Nat} {v : Value} (hok : lv_ok2 lv i = true) (h : lv_has ls nL ((i, v) :: (lv_norm lv).filter (fun q => !(q.1 == i) && (!(q.1 == i + 1) && !(q.1 + 1 == i && q.2.category == 2))))) : lf ls nL ((i, v) :: lv) := by
  refine ⟨h.1, h.2.1, fun q hq => h.2.2 q ?_⟩
  simp only [lv_norm, List.mem_cons, List.mem_filter] at hq ⊢
  rcases hq with hq | ⟨h1, h2⟩
  · exact Or.inl hq
  · refine Or.inr ⟨h1, ?_⟩
    have h3 := List.all_eq_true.mp hok q (lv_norm_sub lv q h1)
    rw [h2, h3]; rfl
theorem is_sub : ∀ (ws ws' : va_W) (is : List Nat), is.map (fun i => ws[i]?) = ws'.map some → is.filterMap (fun i => ws[i]?) = ws' := by
  intro ws ws' is
  induction is generalizing ws' with
  | nil => intro h; cases ws' with
    | nil => rfl
    | cons a b => cases h
  | cons i r ih =>
    intro h
    cases ws' with
    | nil => cases h
    | cons a b =>
      simp only [List.map_cons, List.cons.injEq] at h
      rw [List.filterMap_cons, h.1]
      simp only
      rw [ih b h.2]

section GL
variable {p : Program} {l : Launch} {e : Env} {R : Room} {s : State} {m : MethodId} {args : Array Value} {below : List Frame} {meth : Method} {c : Code} {D : va_G} {A : Nat → Prop} {nL cells slots : Nat} {Q : State → Prop}
def gG (p : Program) (l : Launch) (e : Env) (R : Room) (s : State) (m : MethodId) (args : Array Value) (below : List Frame) (meth : Method) (c : Code) (D : va_G) (A : Nat → Prop) (nL cells slots : Nat) (Q : State → Prop) (ws : va_W) (lv : List (Nat × Value)) (pc : Nat) (st : List Value) : Prop := ∀ (H : Heap) (locs : List Loc) (ls : Array Slot), lf ls nL lv → va_P D vwCl ws H → va_D A ws → va_S A s.heap H locs → W p l e R s m args below meth c H locs cells slots Q (F0 m pc ls st)
def gC (p : Program) (s : State) (m : MethodId) (args : Array Value) (c : Code) (cc : ByteArray) (nL : Nat) (Ts : List Cond) (own : String) (D : va_G) (tys : List (ClassId × FieldType)) (A : Nat → Prop) : Prop := CallFix p m c cc nL s args Ts own ∧ va_K D vwCl tys s ∧ ∀ q, s.heap.size ≤ q → A q
variable {cc : ByteArray} {Ts : List Cond} {own : String} {tys : List (ClassId × FieldType)} {ws : va_W} {lv : List (Nat × Value)} {pc : Nat} {st : List Value}

theorem ga_iconst (C : gC p s m args c cc nL Ts own D tys A) {n : Int} {v : Int32} (hd : decode cc pc = .ok (.iconst n, 1)) (hv : Int32.ofInt n = v) (k : gG p l e R s m args below meth c D A nL cells slots Q (ws) (lv) (pc + 1) (.int v :: st)) : gG p l e R s m args below meth c D A nL cells slots Q (ws) (lv) (pc) (st) := fun H lo ls hl hP hD hS => lv_iconst C.1.1 C.1.2.1 hd hv (k H lo ls hl hP hD hS)
theorem ga_bipush (C : gC p s m args c cc nL Ts own D tys A) {n : Int} {v : Int32} (hd : decode cc pc = .ok (.bipush n, 2)) (hv : (Int8.ofInt n).toInt32 = v) (k : gG p l e R s m args below meth c D A nL cells slots Q (ws) (lv) (pc + 2) (.int v :: st)) : gG p l e R s m args below meth c D A nL cells slots Q (ws) (lv) (pc) (st) := fun H lo ls hl hP hD hS => lv_bipush C.1.1 C.1.2.1 hd hv (k H lo ls hl hP hD hS)
theorem ga_sipush (C : gC p s m args c cc nL Ts own D tys A) {n : Int} {v : Int32} (hd : decode cc pc = .ok (.sipush n, 3)) (hv : (Int16.ofInt n).toInt32 = v) (k : gG p l e R s m args below meth c D A nL cells slots Q (ws) (lv) (pc + 3) (.int v :: st)) : gG p l e R s m args below meth c D A nL cells slots Q (ws) (lv) (pc) (st) := fun H lo ls hl hP hD hS => lv_sipush C.1.1 C.1.2.1 hd hv (k H lo ls hl hP hD hS)
theorem ga_lconst (C : gC p s m args c cc nL Ts own D tys A) {n : Fin 2} {v : Int64} (hd : decode cc pc = .ok (.lconst n, 1)) (hv : Int64.ofNat (n : Nat) = v) (k : gG p l e R s m args below meth c D A nL cells slots Q (ws) (lv) (pc + 1) (.long v :: st)) : gG p l e R s m args below meth c D A nL cells slots Q (ws) (lv) (pc) (st) := fun H lo ls hl hP hD hS => lv_lconst C.1.1 C.1.2.1 hd hv (k H lo ls hl hP hD hS)
theorem ga_ldc2 (C : gC p s m args c cc nL Ts own D tys A) {index : Nat} {v : Int64} (hd : decode cc pc = .ok (.ldc2_w index, 3)) (hm : Cond.constantLong own index v ∈ Ts) (k : gG p l e R s m args below meth c D A nL cells slots Q (ws) (lv) (pc + 3) (.long v :: st)) : gG p l e R s m args below meth c D A nL cells slots Q (ws) (lv) (pc) (st) := fun H lo ls hl hP hD hS => lv_ldc2 C.1.1 C.1.2.1 C.1.2.2.2.1 (C.1.2.2.2.2 _ hm) hd (k H lo ls hl hP hD hS)
theorem ga_iload_n (i : Nat) (C : gC p s m args c cc nL Ts own D tys A) {kk : Fin 4} {x : Int32} (hd : decode cc pc = .ok (.iload_n kk, 1)) (hi : (kk : Nat) = i) (h : lv_look lv i = some (.int x)) (k : gG p l e R s m args below meth c D A nL cells slots Q (ws) (lv) (pc + 1) (.int x :: st)) : gG p l e R s m args below meth c D A nL cells slots Q (ws) (lv) (pc) (st) := fun H lo ls hl hP hD hS => lv_iload_n C.1.1 C.1.2.1 hd hi (lf_at hl h) (k H lo ls hl hP hD hS)
theorem ga_iload (i : Nat) (C : gC p s m args c cc nL Ts own D tys A) {x : Int32} (hd : decode cc pc = .ok (.iload i, 2)) (h : lv_look lv i = some (.int x)) (k : gG p l e R s m args below meth c D A nL cells slots Q (ws) (lv) (pc + 2) (.int x :: st)) : gG p l e R s m args below meth c D A nL cells slots Q (ws) (lv) (pc) (st) := fun H lo ls hl hP hD hS => lv_iload C.1.1 C.1.2.1 hd (lf_at hl h) (k H lo ls hl hP hD hS)
theorem ga_istore_n (i : Nat) (C : gC p s m args c cc nL Ts own D tys A) {kk : Fin 4} {x : Int32} (hd : decode cc pc = .ok (.istore_n kk, 1)) (hi : (kk : Nat) = i) (hn : i < nL) (ho : lv_ok lv i = true) (k : gG p l e R s m args below meth c D A nL cells slots Q (ws) ((i, .int x) :: lv) (pc + 1) (st)) : gG p l e R s m args below meth c D A nL cells slots Q (ws) (lv) (pc) (.int x :: st) := fun H lo ls hl hP hD hS => lv_istore_n C.1.1 C.1.2.1 hd hi hl hn rfl (fun ls2 h2 => k H lo ls2 (lf_st1 ho h2) hP hD hS)
theorem ga_istore (i : Nat) (C : gC p s m args c cc nL Ts own D tys A) {x : Int32} (hd : decode cc pc = .ok (.istore i, 2)) (hn : i < nL) (ho : lv_ok lv i = true) (k : gG p l e R s m args below meth c D A nL cells slots Q (ws) ((i, .int x) :: lv) (pc + 2) (st)) : gG p l e R s m args below meth c D A nL cells slots Q (ws) (lv) (pc) (.int x :: st) := fun H lo ls hl hP hD hS => lv_istore C.1.1 C.1.2.1 hd hl hn rfl (fun ls2 h2 => k H lo ls2 (lf_st1 ho h2) hP hD hS)
theorem ga_lload_n (i : Nat) (C : gC p s m args c cc nL Ts own D tys A) {kk : Fin 4} {x : Int64} (hd : decode cc pc = .ok (.lload_n kk, 1)) (hi : (kk : Nat) = i) (h : lv_look lv i = some (.long x)) (k : gG p l e R s m args below meth c D A nL cells slots Q (ws) (lv) (pc + 1) (.long x :: st)) : gG p l e R s m args below meth c D A nL cells slots Q (ws) (lv) (pc) (st) := fun H lo ls hl hP hD hS => lv_lload_n C.1.1 C.1.2.1 hd hi (lf_at hl h) (k H lo ls hl hP hD hS)
theorem ga_lload (i : Nat) (C : gC p s m args c cc nL Ts own D tys A) {x : Int64} (hd : decode cc pc = .ok (.lload i, 2)) (h : lv_look lv i = some (.long x)) (k : gG p l e R s m args below meth c D A nL cells slots Q (ws) (lv) (pc + 2) (.long x :: st)) : gG p l e R s m args below meth c D A nL cells slots Q (ws) (lv) (pc) (st) := fun H lo ls hl hP hD hS => lv_lload C.1.1 C.1.2.1 hd (lf_at hl h) (k H lo ls hl hP hD hS)
theorem ga_lstore_n (i : Nat) (C : gC p s m args c cc nL Ts own D tys A) {kk : Fin 4} {x : Int64} (hd : decode cc pc = .ok (.lstore_n kk, 1)) (hi : (kk : Nat) = i) (hn : i + 1 < nL) (ho : lv_ok2 lv i = true) (k : gG p l e R s m args below meth c D A nL cells slots Q (ws) ((i, .long x) :: lv) (pc + 1) (st)) : gG p l e R s m args below meth c D A nL cells slots Q (ws) (lv) (pc) (.long x :: st) := fun H lo ls hl hP hD hS => lv_lstore_n C.1.1 C.1.2.1 hd hi hl hn rfl (fun ls2 h2 => k H lo ls2 (lf_st2 ho h2) hP hD hS)
theorem ga_lstore (i : Nat) (C : gC p s m args c cc nL Ts own D tys A) {x : Int64} (hd : decode cc pc = .ok (.lstore i, 2)) (hn : i + 1 < nL) (ho : lv_ok2 lv i = true) (k : gG p l e R s m args below meth c D A nL cells slots Q (ws) ((i, .long x) :: lv) (pc + 2) (st)) : gG p l e R s m args below meth c D A nL cells slots Q (ws) (lv) (pc) (.long x :: st) := fun H lo ls hl hP hD hS => lv_lstore C.1.1 C.1.2.1 hd hl hn rfl (fun ls2 h2 => k H lo ls2 (lf_st2 ho h2) hP hD hS)
theorem ga_aload_n (i : Nat) (C : gC p s m args c cc nL Ts own D tys A) {kk : Fin 4} {x : Nat} (hd : decode cc pc = .ok (.aload_n kk, 1)) (hi : (kk : Nat) = i) (h : lv_look lv i = some (.ref x)) (k : gG p l e R s m args below meth c D A nL cells slots Q (ws) (lv) (pc + 1) (.ref x :: st)) : gG p l e R s m args below meth c D A nL cells slots Q (ws) (lv) (pc) (st) := fun H lo ls hl hP hD hS => lv_aload_n C.1.1 C.1.2.1 hd hi (lf_at hl h) (k H lo ls hl hP hD hS)
theorem ga_aload (i : Nat) (C : gC p s m args c cc nL Ts own D tys A) {x : Nat} (hd : decode cc pc = .ok (.aload i, 2)) (h : lv_look lv i = some (.ref x)) (k : gG p l e R s m args below meth c D A nL cells slots Q (ws) (lv) (pc + 2) (.ref x :: st)) : gG p l e R s m args below meth c D A nL cells slots Q (ws) (lv) (pc) (st) := fun H lo ls hl hP hD hS => lv_aload C.1.1 C.1.2.1 hd (lf_at hl h) (k H lo ls hl hP hD hS)
theorem ga_astore_n (i : Nat) (C : gC p s m args c cc nL Ts own D tys A) {kk : Fin 4} {x : Nat} (hd : decode cc pc = .ok (.astore_n kk, 1)) (hi : (kk : Nat) = i) (hn : i < nL) (ho : lv_ok lv i = true) (k : gG p l e R s m args below meth c D A nL cells slots Q (ws) ((i, .ref x) :: lv) (pc + 1) (st)) : gG p l e R s m args below meth c D A nL cells slots Q (ws) (lv) (pc) (.ref x :: st) := fun H lo ls hl hP hD hS => lv_astore_n C.1.1 C.1.2.1 hd hi hl hn rfl (fun ls2 h2 => k H lo ls2 (lf_st1 ho h2) hP hD hS)
theorem ga_astore (i : Nat) (C : gC p s m args c cc nL Ts own D tys A) {x : Nat} (hd : decode cc pc = .ok (.astore i, 2)) (hn : i < nL) (ho : lv_ok lv i = true) (k : gG p l e R s m args below meth c D A nL cells slots Q (ws) ((i, .ref x) :: lv) (pc + 2) (st)) : gG p l e R s m args below meth c D A nL cells slots Q (ws) (lv) (pc) (.ref x :: st) := fun H lo ls hl hP hD hS => lv_astore C.1.1 C.1.2.1 hd hl hn rfl (fun ls2 h2 => k H lo ls2 (lf_st1 ho h2) hP hD hS)
theorem lf_has {ls : Array Slot} {nL : Nat} {lv : List (Nat × Value)} (h : lf ls nL lv) {i : Nat} {v : Value} (hk : lv_look lv i = some v) : ∃ k : Nat, (lv_norm lv)[k]? = some (i, v) := List.getElem?_of_mem ((lv_norm_mem lv i v).mpr hk)
theorem ga_iinc (i : Nat) (C : gC p s m args c cc nL Ts own D tys A) {n : Int} {x v : Int32} (hd : decode cc pc = .ok (.iinc i n, 3)) (h : lv_look lv i = some (.int x)) (hv : x + Int32.ofInt n = v) (hn : i < nL) (ho : lv_ok lv i = true) (k : gG p l e R s m args below meth c D A nL cells slots Q (ws) ((i, .int v) :: lv) (pc + 3) (st)) : gG p l e R s m args below meth c D A nL cells slots Q (ws) (lv) (pc) (st) := fun H lo ls hl hP hD hS => by
  obtain ⟨j, hj⟩ := lf_has hl h
  exact lv_iinc C.1.1 C.1.2.1 hd hl hj hv hn rfl (fun ls2 h2 => k H lo ls2 (lf_st1 ho h2) hP hD hS)
theorem ga_iadd (C : gC p s m args c cc nL Ts own D tys A) {x y v : Int32} (hd : decode cc pc = .ok (.iadd, 1)) (hv : x + y = v) (k : gG p l e R s m args below meth c D A nL cells slots Q (ws) (lv) (pc + 1) (.int v :: st)) : gG p l e R s m args below meth c D A nL cells slots Q (ws) (lv) (pc) (.int y :: .int x :: st) := by subst hv; exact fun H lo ls hl hP hD hS => lv_iadd C.1.1 C.1.2.1 hd (k H lo ls hl hP hD hS)
theorem ga_isub (C : gC p s m args c cc nL Ts own D tys A) {x y v : Int32} (hd : decode cc pc = .ok (.isub, 1)) (hv : x - y = v) (k : gG p l e R s m args below meth c D A nL cells slots Q (ws) (lv) (pc + 1) (.int v :: st)) : gG p l e R s m args below meth c D A nL cells slots Q (ws) (lv) (pc) (.int y :: .int x :: st) := by subst hv; exact fun H lo ls hl hP hD hS => lv_isub C.1.1 C.1.2.1 hd (k H lo ls hl hP hD hS)
theorem ga_imul (C : gC p s m args c cc nL Ts own D tys A) {x y v : Int32} (hd : decode cc pc = .ok (.imul, 1)) (hv : x * y = v) (k : gG p l e R s m args below meth c D A nL cells slots Q (ws) (lv) (pc + 1) (.int v :: st)) : gG p l e R s m args below meth c D A nL cells slots Q (ws) (lv) (pc) (.int y :: .int x :: st) := by subst hv; exact fun H lo ls hl hP hD hS => lv_imul C.1.1 C.1.2.1 hd (k H lo ls hl hP hD hS)
theorem ga_iand (C : gC p s m args c cc nL Ts own D tys A) {x y v : Int32} (hd : decode cc pc = .ok (.iand, 1)) (hv : x &&& y = v) (k : gG p l e R s m args below meth c D A nL cells slots Q (ws) (lv) (pc + 1) (.int v :: st)) : gG p l e R s m args below meth c D A nL cells slots Q (ws) (lv) (pc) (.int y :: .int x :: st) := by subst hv; exact fun H lo ls hl hP hD hS => lv_iand C.1.1 C.1.2.1 hd (k H lo ls hl hP hD hS)
theorem ga_ior (C : gC p s m args c cc nL Ts own D tys A) {x y v : Int32} (hd : decode cc pc = .ok (.ior, 1)) (hv : x ||| y = v) (k : gG p l e R s m args below meth c D A nL cells slots Q (ws) (lv) (pc + 1) (.int v :: st)) : gG p l e R s m args below meth c D A nL cells slots Q (ws) (lv) (pc) (.int y :: .int x :: st) := by subst hv; exact fun H lo ls hl hP hD hS => lv_ior C.1.1 C.1.2.1 hd (k H lo ls hl hP hD hS)
theorem ga_ixor (C : gC p s m args c cc nL Ts own D tys A) {x y v : Int32} (hd : decode cc pc = .ok (.ixor, 1)) (hv : x ^^^ y = v) (k : gG p l e R s m args below meth c D A nL cells slots Q (ws) (lv) (pc + 1) (.int v :: st)) : gG p l e R s m args below meth c D A nL cells slots Q (ws) (lv) (pc) (.int y :: .int x :: st) := by subst hv; exact fun H lo ls hl hP hD hS => lv_ixor C.1.1 C.1.2.1 hd (k H lo ls hl hP hD hS)
theorem ga_ishl (C : gC p s m args c cc nL Ts own D tys A) {x y v : Int32} (hd : decode cc pc = .ok (.ishl, 1)) (hv : x <<< (y &&& 31) = v) (k : gG p l e R s m args below meth c D A nL cells slots Q (ws) (lv) (pc + 1) (.int v :: st)) : gG p l e R s m args below meth c D A nL cells slots Q (ws) (lv) (pc) (.int y :: .int x :: st) := by subst hv; exact fun H lo ls hl hP hD hS => lv_ishl C.1.1 C.1.2.1 hd (k H lo ls hl hP hD hS)
theorem ga_ishr (C : gC p s m args c cc nL Ts own D tys A) {x y v : Int32} (hd : decode cc pc = .ok (.ishr, 1)) (hv : x >>> (y &&& 31) = v) (k : gG p l e R s m args below meth c D A nL cells slots Q (ws) (lv) (pc + 1) (.int v :: st)) : gG p l e R s m args below meth c D A nL cells slots Q (ws) (lv) (pc) (.int y :: .int x :: st) := by subst hv; exact fun H lo ls hl hP hD hS => lv_ishr C.1.1 C.1.2.1 hd (k H lo ls hl hP hD hS)
theorem ga_idiv (C : gC p s m args c cc nL Ts own D tys A) {x y v : Int32} (hd : decode cc pc = .ok (.idiv, 1)) (hne : ¬ y = 0) (hv : x / y = v) (k : gG p l e R s m args below meth c D A nL cells slots Q (ws) (lv) (pc + 1) (.int v :: st)) : gG p l e R s m args below meth c D A nL cells slots Q (ws) (lv) (pc) (.int y :: .int x :: st) := by subst hv; exact fun H lo ls hl hP hD hS => lv_idiv C.1.1 C.1.2.1 hd hne (k H lo ls hl hP hD hS)
theorem ga_irem (C : gC p s m args c cc nL Ts own D tys A) {x y v : Int32} (hd : decode cc pc = .ok (.irem, 1)) (hne : ¬ y = 0) (hv : x - x / y * y = v) (k : gG p l e R s m args below meth c D A nL cells slots Q (ws) (lv) (pc + 1) (.int v :: st)) : gG p l e R s m args below meth c D A nL cells slots Q (ws) (lv) (pc) (.int y :: .int x :: st) := by subst hv; exact fun H lo ls hl hP hD hS => lv_irem C.1.1 C.1.2.1 hd hne (k H lo ls hl hP hD hS)
theorem ga_iushr (C : gC p s m args c cc nL Ts own D tys A) {x y v : Int32} (hd : decode cc pc = .ok (.iushr, 1)) (hv : (x.toUInt32 >>> (y.toUInt32 &&& Int32.toUInt32 31)).toInt32 = v) (k : gG p l e R s m args below meth c D A nL cells slots Q (ws) (lv) (pc + 1) (.int v :: st)) : gG p l e R s m args below meth c D A nL cells slots Q (ws) (lv) (pc) (.int y :: .int x :: st) := fun H lo ls hl hP hD hS => lv_iushr C.1.1 C.1.2.1 hd hv (k H lo ls hl hP hD hS)
theorem ga_ladd (C : gC p s m args c cc nL Ts own D tys A) {x y v : Int64} (hd : decode cc pc = .ok (.ladd, 1)) (hv : x + y = v) (k : gG p l e R s m args below meth c D A nL cells slots Q (ws) (lv) (pc + 1) (.long v :: st)) : gG p l e R s m args below meth c D A nL cells slots Q (ws) (lv) (pc) (.long y :: .long x :: st) := by subst hv; exact fun H lo ls hl hP hD hS => lv_ladd C.1.1 C.1.2.1 hd (k H lo ls hl hP hD hS)
theorem ga_lsub (C : gC p s m args c cc nL Ts own D tys A) {x y v : Int64} (hd : decode cc pc = .ok (.lsub, 1)) (hv : x - y = v) (k : gG p l e R s m args below meth c D A nL cells slots Q (ws) (lv) (pc + 1) (.long v :: st)) : gG p l e R s m args below meth c D A nL cells slots Q (ws) (lv) (pc) (.long y :: .long x :: st) := by subst hv; exact fun H lo ls hl hP hD hS => lv_lsub C.1.1 C.1.2.1 hd (k H lo ls hl hP hD hS)
theorem ga_land (C : gC p s m args c cc nL Ts own D tys A) {x y v : Int64} (hd : decode cc pc = .ok (.land, 1)) (hv : x &&& y = v) (k : gG p l e R s m args below meth c D A nL cells slots Q (ws) (lv) (pc + 1) (.long v :: st)) : gG p l e R s m args below meth c D A nL cells slots Q (ws) (lv) (pc) (.long y :: .long x :: st) := by subst hv; exact fun H lo ls hl hP hD hS => lv_land C.1.1 C.1.2.1 hd (k H lo ls hl hP hD hS)
theorem ga_lor (C : gC p s m args c cc nL Ts own D tys A) {x y v : Int64} (hd : decode cc pc = .ok (.lor, 1)) (hv : x ||| y = v) (k : gG p l e R s m args below meth c D A nL cells slots Q (ws) (lv) (pc + 1) (.long v :: st)) : gG p l e R s m args below meth c D A nL cells slots Q (ws) (lv) (pc) (.long y :: .long x :: st) := by subst hv; exact fun H lo ls hl hP hD hS => lv_lor C.1.1 C.1.2.1 hd (k H lo ls hl hP hD hS)
theorem ga_lxor (C : gC p s m args c cc nL Ts own D tys A) {x y v : Int64} (hd : decode cc pc = .ok (.lxor, 1)) (hv : x ^^^ y = v) (k : gG p l e R s m args below meth c D A nL cells slots Q (ws) (lv) (pc + 1) (.long v :: st)) : gG p l e R s m args below meth c D A nL cells slots Q (ws) (lv) (pc) (.long y :: .long x :: st) := by subst hv; exact fun H lo ls hl hP hD hS => lv_lxor C.1.1 C.1.2.1 hd (k H lo ls hl hP hD hS)
theorem ga_lneg (C : gC p s m args c cc nL Ts own D tys A) {x v : Int64} (hd : decode cc pc = .ok (.lneg, 1)) (hv : -x = v) (k : gG p l e R s m args below meth c D A nL cells slots Q (ws) (lv) (pc + 1) (.long v :: st)) : gG p l e R s m args below meth c D A nL cells slots Q (ws) (lv) (pc) (.long x :: st) := by subst hv; exact fun H lo ls hl hP hD hS => lv_lneg C.1.1 C.1.2.1 hd (k H lo ls hl hP hD hS)
theorem ga_lushr (C : gC p s m args c cc nL Ts own D tys A) {x v : Int64} {y : Int32} (hd : decode cc pc = .ok (.lushr, 1)) (hv : (x.toUInt64 >>> (y.toInt64.toUInt64 &&& Int64.toUInt64 63)).toInt64 = v) (k : gG p l e R s m args below meth c D A nL cells slots Q (ws) (lv) (pc + 1) (.long v :: st)) : gG p l e R s m args below meth c D A nL cells slots Q (ws) (lv) (pc) (.int y :: .long x :: st) := fun H lo ls hl hP hD hS => lv_lushr C.1.1 C.1.2.1 hd hv (k H lo ls hl hP hD hS)
theorem ga_lshl (C : gC p s m args c cc nL Ts own D tys A) {x v : Int64} {y : Int32} (hd : decode cc pc = .ok (.lshl, 1)) (hv : x <<< (y.toInt64 &&& 63) = v) (k : gG p l e R s m args below meth c D A nL cells slots Q (ws) (lv) (pc + 1) (.long v :: st)) : gG p l e R s m args below meth c D A nL cells slots Q (ws) (lv) (pc) (.int y :: .long x :: st) := fun H lo ls hl hP hD hS => lv_lshl C.1.1 C.1.2.1 hd hv (k H lo ls hl hP hD hS)
theorem ga_l2i (C : gC p s m args c cc nL Ts own D tys A) {x : Int64} {v : Int32} (hd : decode cc pc = .ok (.l2i, 1)) (hv : x.toInt32 = v) (k : gG p l e R s m args below meth c D A nL cells slots Q (ws) (lv) (pc + 1) (.int v :: st)) : gG p l e R s m args below meth c D A nL cells slots Q (ws) (lv) (pc) (.long x :: st) := fun H lo ls hl hP hD hS => lv_l2i C.1.1 C.1.2.1 hd hv (k H lo ls hl hP hD hS)
theorem ga_lcmp (C : gC p s m args c cc nL Ts own D tys A) {x y : Int64} (hd : decode cc pc = .ok (.lcmp, 1)) (k : gG p l e R s m args below meth c D A nL cells slots Q (ws) (lv) (pc + 1) (.int (lg_cmp x y) :: st)) : gG p l e R s m args below meth c D A nL cells slots Q (ws) (lv) (pc) (.long y :: .long x :: st) := fun H lo ls hl hP hD hS => W.lcmp C.1.1 C.1.2.1 hd (k H lo ls hl hP hD hS)
theorem ga_dup (C : gC p s m args c cc nL Ts own D tys A) {v : Value} (hd : decode cc pc = .ok (.dup, 1)) (hv : v.category = 1) (k : gG p l e R s m args below meth c D A nL cells slots Q (ws) (lv) (pc + 1) (v :: v :: st)) : gG p l e R s m args below meth c D A nL cells slots Q (ws) (lv) (pc) (v :: st) := fun H lo ls hl hP hD hS => lv_dup C.1.1 C.1.2.1 hd hv (k H lo ls hl hP hD hS)
theorem ga_dup2 (C : gC p s m args c cc nL Ts own D tys A) {v v2 : Value} (hd : decode cc pc = .ok (.dup2, 1)) (hv : v.category = 1) (hv2 : v2.category = 1) (k : gG p l e R s m args below meth c D A nL cells slots Q (ws) (lv) (pc + 1) (v :: v2 :: v :: v2 :: st)) : gG p l e R s m args below meth c D A nL cells slots Q (ws) (lv) (pc) (v :: v2 :: st) := fun H lo ls hl hP hD hS => lv_dup2_11 C.1.1 C.1.2.1 hd hv hv2 (k H lo ls hl hP hD hS)
theorem ga_if_eq (tgt : Nat) (C : gC p s m args c cc nL Ts own D tys A) {x : Int32} {off : Int} (hd : decode cc pc = .ok (.ifCond .eq off, 3)) (ht : (pc : Int) + off = (tgt : Int)) (kt : x = 0 → gG p l e R s m args below meth c D A nL cells slots Q (ws) (lv) (tgt) (st)) (kf : ¬ x = 0 → gG p l e R s m args below meth c D A nL cells slots Q (ws) (lv) (pc + 3) (st)) : gG p l e R s m args below meth c D A nL cells slots Q (ws) (lv) (pc) (.int x :: st) := fun H lo ls hl hP hD hS => lv_if_eq C.1.1 C.1.2.1 hd ht (fun h => kt h H lo ls hl hP hD hS) (fun h => kf h H lo ls hl hP hD hS)
theorem ga_icmp_eq (tgt : Nat) (C : gC p s m args c cc nL Ts own D tys A) {x y : Int32} {off : Int} (hd : decode cc pc = .ok (.if_icmp .eq off, 3)) (ht : (pc : Int) + off = (tgt : Int)) (kt : x = y → gG p l e R s m args below meth c D A nL cells slots Q (ws) (lv) (tgt) (st)) (kf : ¬ x = y → gG p l e R s m args below meth c D A nL cells slots Q (ws) (lv) (pc + 3) (st)) : gG p l e R s m args below meth c D A nL cells slots Q (ws) (lv) (pc) (.int y :: .int x :: st) := fun H lo ls hl hP hD hS => lv_icmp_eq C.1.1 C.1.2.1 hd ht (fun h => kt h H lo ls hl hP hD hS) (fun h => kf h H lo ls hl hP hD hS)
theorem ga_if_ne (tgt : Nat) (C : gC p s m args c cc nL Ts own D tys A) {x : Int32} {off : Int} (hd : decode cc pc = .ok (.ifCond .ne off, 3)) (ht : (pc : Int) + off = (tgt : Int)) (kt : ¬ x = 0 → gG p l e R s m args below meth c D A nL cells slots Q (ws) (lv) (tgt) (st)) (kf : x = 0 → gG p l e R s m args below meth c D A nL cells slots Q (ws) (lv) (pc + 3) (st)) : gG p l e R s m args below meth c D A nL cells slots Q (ws) (lv) (pc) (.int x :: st) := fun H lo ls hl hP hD hS => lv_if_ne C.1.1 C.1.2.1 hd ht (fun h => kt h H lo ls hl hP hD hS) (fun h => kf h H lo ls hl hP hD hS)
theorem ga_icmp_ne (tgt : Nat) (C : gC p s m args c cc nL Ts own D tys A) {x y : Int32} {off : Int} (hd : decode cc pc = .ok (.if_icmp .ne off, 3)) (ht : (pc : Int) + off = (tgt : Int)) (kt : ¬ x = y → gG p l e R s m args below meth c D A nL cells slots Q (ws) (lv) (tgt) (st)) (kf : x = y → gG p l e R s m args below meth c D A nL cells slots Q (ws) (lv) (pc + 3) (st)) : gG p l e R s m args below meth c D A nL cells slots Q (ws) (lv) (pc) (.int y :: .int x :: st) := fun H lo ls hl hP hD hS => lv_icmp_ne C.1.1 C.1.2.1 hd ht (fun h => kt h H lo ls hl hP hD hS) (fun h => kf h H lo ls hl hP hD hS)
theorem ga_if_lt (tgt : Nat) (C : gC p s m args c cc nL Ts own D tys A) {x : Int32} {off : Int} (hd : decode cc pc = .ok (.ifCond .lt off, 3)) (ht : (pc : Int) + off = (tgt : Int)) (kt : x < 0 → gG p l e R s m args below meth c D A nL cells slots Q (ws) (lv) (tgt) (st)) (kf : ¬ x < 0 → gG p l e R s m args below meth c D A nL cells slots Q (ws) (lv) (pc + 3) (st)) : gG p l e R s m args below meth c D A nL cells slots Q (ws) (lv) (pc) (.int x :: st) := fun H lo ls hl hP hD hS => lv_if_lt C.1.1 C.1.2.1 hd ht (fun h => kt h H lo ls hl hP hD hS) (fun h => kf h H lo ls hl hP hD hS)
theorem ga_icmp_lt (tgt : Nat) (C : gC p s m args c cc nL Ts own D tys A) {x y : Int32} {off : Int} (hd : decode cc pc = .ok (.if_icmp .lt off, 3)) (ht : (pc : Int) + off = (tgt : Int)) (kt : x < y → gG p l e R s m args below meth c D A nL cells slots Q (ws) (lv) (tgt) (st)) (kf : ¬ x < y → gG p l e R s m args below meth c D A nL cells slots Q (ws) (lv) (pc + 3) (st)) : gG p l e R s m args below meth c D A nL cells slots Q (ws) (lv) (pc) (.int y :: .int x :: st) := fun H lo ls hl hP hD hS => lv_icmp_lt C.1.1 C.1.2.1 hd ht (fun h => kt h H lo ls hl hP hD hS) (fun h => kf h H lo ls hl hP hD hS)
theorem ga_if_ge (tgt : Nat) (C : gC p s m args c cc nL Ts own D tys A) {x : Int32} {off : Int} (hd : decode cc pc = .ok (.ifCond .ge off, 3)) (ht : (pc : Int) + off = (tgt : Int)) (kt : 0 ≤ x → gG p l e R s m args below meth c D A nL cells slots Q (ws) (lv) (tgt) (st)) (kf : ¬ 0 ≤ x → gG p l e R s m args below meth c D A nL cells slots Q (ws) (lv) (pc + 3) (st)) : gG p l e R s m args below meth c D A nL cells slots Q (ws) (lv) (pc) (.int x :: st) := fun H lo ls hl hP hD hS => lv_if_ge C.1.1 C.1.2.1 hd ht (fun h => kt h H lo ls hl hP hD hS) (fun h => kf h H lo ls hl hP hD hS)
theorem ga_icmp_ge (tgt : Nat) (C : gC p s m args c cc nL Ts own D tys A) {x y : Int32} {off : Int} (hd : decode cc pc = .ok (.if_icmp .ge off, 3)) (ht : (pc : Int) + off = (tgt : Int)) (kt : y ≤ x → gG p l e R s m args below meth c D A nL cells slots Q (ws) (lv) (tgt) (st)) (kf : ¬ y ≤ x → gG p l e R s m args below meth c D A nL cells slots Q (ws) (lv) (pc + 3) (st)) : gG p l e R s m args below meth c D A nL cells slots Q (ws) (lv) (pc) (.int y :: .int x :: st) := fun H lo ls hl hP hD hS => lv_icmp_ge C.1.1 C.1.2.1 hd ht (fun h => kt h H lo ls hl hP hD hS) (fun h => kf h H lo ls hl hP hD hS)
theorem ga_if_gt (tgt : Nat) (C : gC p s m args c cc nL Ts own D tys A) {x : Int32} {off : Int} (hd : decode cc pc = .ok (.ifCond .gt off, 3)) (ht : (pc : Int) + off = (tgt : Int)) (kt : 0 < x → gG p l e R s m args below meth c D A nL cells slots Q (ws) (lv) (tgt) (st)) (kf : ¬ 0 < x → gG p l e R s m args below meth c D A nL cells slots Q (ws) (lv) (pc + 3) (st)) : gG p l e R s m args below meth c D A nL cells slots Q (ws) (lv) (pc) (.int x :: st) := fun H lo ls hl hP hD hS => lv_if_gt C.1.1 C.1.2.1 hd ht (fun h => kt h H lo ls hl hP hD hS) (fun h => kf h H lo ls hl hP hD hS)
theorem ga_icmp_gt (tgt : Nat) (C : gC p s m args c cc nL Ts own D tys A) {x y : Int32} {off : Int} (hd : decode cc pc = .ok (.if_icmp .gt off, 3)) (ht : (pc : Int) + off = (tgt : Int)) (kt : y < x → gG p l e R s m args below meth c D A nL cells slots Q (ws) (lv) (tgt) (st)) (kf : ¬ y < x → gG p l e R s m args below meth c D A nL cells slots Q (ws) (lv) (pc + 3) (st)) : gG p l e R s m args below meth c D A nL cells slots Q (ws) (lv) (pc) (.int y :: .int x :: st) := fun H lo ls hl hP hD hS => lv_icmp_gt C.1.1 C.1.2.1 hd ht (fun h => kt h H lo ls hl hP hD hS) (fun h => kf h H lo ls hl hP hD hS)
theorem ga_if_le (tgt : Nat) (C : gC p s m args c cc nL Ts own D tys A) {x : Int32} {off : Int} (hd : decode cc pc = .ok (.ifCond .le off, 3)) (ht : (pc : Int) + off = (tgt : Int)) (kt : x ≤ 0 → gG p l e R s m args below meth c D A nL cells slots Q (ws) (lv) (tgt) (st)) (kf : ¬ x ≤ 0 → gG p l e R s m args below meth c D A nL cells slots Q (ws) (lv) (pc + 3) (st)) : gG p l e R s m args below meth c D A nL cells slots Q (ws) (lv) (pc) (.int x :: st) := fun H lo ls hl hP hD hS => lv_if_le C.1.1 C.1.2.1 hd ht (fun h => kt h H lo ls hl hP hD hS) (fun h => kf h H lo ls hl hP hD hS)
theorem ga_icmp_le (tgt : Nat) (C : gC p s m args c cc nL Ts own D tys A) {x y : Int32} {off : Int} (hd : decode cc pc = .ok (.if_icmp .le off, 3)) (ht : (pc : Int) + off = (tgt : Int)) (kt : x ≤ y → gG p l e R s m args below meth c D A nL cells slots Q (ws) (lv) (tgt) (st)) (kf : ¬ x ≤ y → gG p l e R s m args below meth c D A nL cells slots Q (ws) (lv) (pc + 3) (st)) : gG p l e R s m args below meth c D A nL cells slots Q (ws) (lv) (pc) (.int y :: .int x :: st) := fun H lo ls hl hP hD hS => lv_icmp_le C.1.1 C.1.2.1 hd ht (fun h => kt h H lo ls hl hP hD hS) (fun h => kf h H lo ls hl hP hD hS)
theorem ga_goto (tgt : Nat) (C : gC p s m args c cc nL Ts own D tys A) {off : Int} (hd : decode cc pc = .ok (.goto off, 3)) (ht : (pc : Int) + off = (tgt : Int)) (k : gG p l e R s m args below meth c D A nL cells slots Q (ws) (lv) (tgt) (st)) : gG p l e R s m args below meth c D A nL cells slots Q (ws) (lv) (pc) (st) := fun H lo ls hl hP hD hS => lv_goto C.1.1 C.1.2.1 hd ht (k H lo ls hl hP hD hS)
theorem ga_get (C : gC p s m args c cc nL Ts own D tys A) {ref Cn : String} {T : u_T} {N ci index a : Nat} (hin : ∀ w ∈ u_ws Cn T N, w ∈ Ts) (q0 : Nat) {fs : List Value} (he : ws[q0]? = some (a, .inr (ci, fs))) (hc : vwCl[ci]? = some (Cn, T, N)) (j : Nat) (hk : j < N) (hlink : Cond.fieldLink own index ref (T j).2.1 (T j).2.2.1 ∈ Ts) (hr : (T j).1 = ref) {v : Value} (hv : fs[j]? = some v) (hd : decode cc pc = .ok (.getfield index, 3)) (k : gG p l e R s m args below meth c D A nL cells slots Q (ws) (lv) (pc + 3) (v :: st)) : gG p l e R s m args below meth c D A nL cells slots Q (ws) (lv) (pc) (.ref a :: st) := fun H lo ls hl hP hD hS => va_get C.1.1 C.1.2.1 C.1.2.2.2.2 hin C.1.2.2.2.1 C.2.1 hP q0 he hc j hk (C.1.2.2.2.2 _ hlink) (fun _ h => hr ▸ h) hv hd (k H lo ls hl hP hD hS)
theorem ga_put (C : gC p s m args c cc nL Ts own D tys A) {ref Cn : String} {T : u_T} {N ci index a : Nat} (hin : ∀ w ∈ u_ws Cn T N, w ∈ Ts) (ty0 : Nat → FieldType) (hty : ∀ k, k < N → parseFieldDescriptor (T k).2.2.1 = some (ty0 k)) (hnm : ∀ a, a < N → ∀ b, b < N → a ≠ b → (T a).2.1 ≠ (T b).2.1) (q0 : Nat) {fs : List Value} (he : ws[q0]? = some (a, .inr (ci, fs))) (hc : vwCl[ci]? = some (Cn, T, N)) (j : Nat) (hk : j < N) (hlink : Cond.fieldLink own index ref (T j).2.1 (T j).2.2.1 ∈ Ts) (hr : (T j).1 = ref) (hfin : (T j).2.2.2 = false) {ty : FieldType} {v : Value} (hdt : parseFieldDescriptor (T j).2.2.1 = some ty) (hn : narrow ty v = v) (hfit : fits ty v = true) (hl0 : j < fs.length) (hd : decode cc pc = .ok (.putfield index, 3)) {w9 : va_W} (hw : ws.set q0 (a, .inr (ci, fs.set j v)) = w9) (k : gG p l e R s m args below meth c D A nL cells slots Q (w9) (lv) (pc + 3) (st)) : gG p l e R s m args below meth c D A nL cells slots Q (ws) (lv) (pc) (v :: .ref a :: st) := by subst hw; exact fun H lo ls hl hP hD hS => va_put C.1.1 C.1.2.1 C.1.2.2.2.2 hin ty0 hty hnm C.1.2.2.2.1 C.2.1 hP hD hS q0 he hc j hk (C.1.2.2.2.2 _ hlink) (fun _ h => hr ▸ h) hfin hdt hn hfit hl0 hd (fun H1 lo1 hP1 hD1 hS1 => k H1 lo1 ls hl hP1 hD1 hS1)
theorem ga_iald (C : gC p s m args c cc nL Ts own D tys A) (q0 t0 : Nat) {cA : ClassId} {n a i : Nat} {f : Nat → Int32} (ha : ws[q0]? = some (a, .inl (cA, n, .inl f))) (ht : tys[t0]? = some (cA, .int)) (hi : i < n) (hN : n < 2 ^ 31) (hd : decode cc pc = .ok (.iaload, 1)) (k : gG p l e R s m args below meth c D A nL cells slots Q (ws) (lv) (pc + 1) (.int (f i) :: st)) : gG p l e R s m args below meth c D A nL cells slots Q (ws) (lv) (pc) (.int (nI i) :: .ref a :: st) := fun H lo ls hl hP hD hS => va_iald C.1.1 C.1.2.1 C.2.1 hP q0 t0 ha ht (vp_in_nI hi hN) hd (by rw [nI_clamp (Nat.lt_trans hi hN)]; exact (k H lo ls hl hP hD hS))
theorem ga_zald (C : gC p s m args c cc nL Ts own D tys A) (q0 t0 : Nat) {cA : ClassId} {n a i : Nat} {f : Nat → Int32} (ha : ws[q0]? = some (a, .inl (cA, n, .inl f))) (ht : tys[t0]? = some (cA, .boolean)) (hi : i < n) (hN : n < 2 ^ 31) (hd : decode cc pc = .ok (.baload, 1)) (k : gG p l e R s m args below meth c D A nL cells slots Q (ws) (lv) (pc + 1) (.int (f i) :: st)) : gG p l e R s m args below meth c D A nL cells slots Q (ws) (lv) (pc) (.int (nI i) :: .ref a :: st) := fun H lo ls hl hP hD hS => va_zald C.1.1 C.1.2.1 C.2.1 hP q0 t0 ha ht (vp_in_nI hi hN) hd (by rw [nI_clamp (Nat.lt_trans hi hN)]; exact (k H lo ls hl hP hD hS))
theorem ga_lald (C : gC p s m args c cc nL Ts own D tys A) (q0 t0 : Nat) {cA : ClassId} {n a i : Nat} {f : Nat → Int64} (ha : ws[q0]? = some (a, .inl (cA, n, .inr (.inl f)))) (ht : tys[t0]? = some (cA, .long)) (hi : i < n) (hN : n < 2 ^ 31) (hd : decode cc pc = .ok (.laload, 1)) (k : gG p l e R s m args below meth c D A nL cells slots Q (ws) (lv) (pc + 1) (.long (f i) :: st)) : gG p l e R s m args below meth c D A nL cells slots Q (ws) (lv) (pc) (.int (nI i) :: .ref a :: st) := fun H lo ls hl hP hD hS => va_lald C.1.1 C.1.2.1 C.2.1 hP q0 t0 ha ht (vp_in_nI hi hN) hd (by rw [nI_clamp (Nat.lt_trans hi hN)]; exact (k H lo ls hl hP hD hS))
theorem ga_iast (C : gC p s m args c cc nL Ts own D tys A) (q0 t0 : Nat) {cA : ClassId} {n a i : Nat} {f : Nat → Int32} {x : Int32} (ha : ws[q0]? = some (a, .inl (cA, n, .inl f))) (ht : tys[t0]? = some (cA, .int)) (hi : i < n) (hN : n < 2 ^ 31) (hd : decode cc pc = .ok (.iastore, 1)) {w9 : va_W} (hw : ws.set q0 (a, .inl (cA, n, .inl (upd f i x))) = w9) (k : gG p l e R s m args below meth c D A nL cells slots Q (w9) (lv) (pc + 1) (st)) : gG p l e R s m args below meth c D A nL cells slots Q (ws) (lv) (pc) (.int x :: .int (nI i) :: .ref a :: st) := by subst hw; exact fun H lo ls hl hP hD hS => va_iast C.1.1 C.1.2.1 C.2.1 hP hD hS q0 t0 ha ht (vp_in_nI hi hN) hd (by rw [nI_clamp (Nat.lt_trans hi hN)]; exact fun H1 lo1 hP1 hD1 hS1 => k H1 lo1 ls hl hP1 hD1 hS1)
theorem ga_zast (C : gC p s m args c cc nL Ts own D tys A) (q0 t0 : Nat) {cA : ClassId} {n a i : Nat} {f : Nat → Int32} {x : Int32} (ha : ws[q0]? = some (a, .inl (cA, n, .inl f))) (ht : tys[t0]? = some (cA, .boolean)) (hi : i < n) (hN : n < 2 ^ 31) (hd : decode cc pc = .ok (.bastore, 1)) {w9 : va_W} (hw : ws.set q0 (a, .inl (cA, n, .inl (upd f i (vp_nar .boolean x)))) = w9) (k : gG p l e R s m args below meth c D A nL cells slots Q (w9) (lv) (pc + 1) (st)) : gG p l e R s m args below meth c D A nL cells slots Q (ws) (lv) (pc) (.int x :: .int (nI i) :: .ref a :: st) := by subst hw; exact fun H lo ls hl hP hD hS => va_zast C.1.1 C.1.2.1 C.2.1 hP hD hS q0 t0 ha ht (vp_in_nI hi hN) hd (by rw [nI_clamp (Nat.lt_trans hi hN)]; exact fun H1 lo1 hP1 hD1 hS1 => k H1 lo1 ls hl hP1 hD1 hS1)
theorem ga_last (C : gC p s m args c cc nL Ts own D tys A) (q0 t0 : Nat) {cA : ClassId} {n a i : Nat} {f : Nat → Int64} {x : Int64} (ha : ws[q0]? = some (a, .inl (cA, n, .inr (.inl f)))) (ht : tys[t0]? = some (cA, .long)) (hi : i < n) (hN : n < 2 ^ 31) (hd : decode cc pc = .ok (.lastore, 1)) {w9 : va_W} (hw : ws.set q0 (a, .inl (cA, n, .inr (.inl (vp_updL f i x)))) = w9) (k : gG p l e R s m args below meth c D A nL cells slots Q (w9) (lv) (pc + 1) (st)) : gG p l e R s m args below meth c D A nL cells slots Q (ws) (lv) (pc) (.long x :: .int (nI i) :: .ref a :: st) := by subst hw; exact fun H lo ls hl hP hD hS => va_last C.1.1 C.1.2.1 C.2.1 hP hD hS q0 t0 ha ht (vp_in_nI hi hN) hd (by rw [nI_clamp (Nat.lt_trans hi hN)]; exact fun H1 lo1 hP1 hD1 hS1 => k H1 lo1 ls hl hP1 hD1 hS1)
theorem ga_alen (C : gC p s m args c cc nL Ts own D tys A) (q0 t0 : Nat) {cA : ClassId} {x : vp_A} {a : Nat} (ha : ws[q0]? = some (a, .inl (cA, x))) {ty : FieldType} (ht : tys[t0]? = some (cA, ty)) {v : Int32} (hv : Int32.ofNat x.1 = v) (hd : decode cc pc = .ok (.arraylength, 1)) (k : gG p l e R s m args below meth c D A nL cells slots Q (ws) (lv) (pc + 1) (.int v :: st)) : gG p l e R s m args below meth c D A nL cells slots Q (ws) (lv) (pc) (.ref a :: st) := fun H lo ls hl hP hD hS => va_alen C.1.1 C.1.2.1 C.2.1 hP q0 t0 ha ht hv hd (k H lo ls hl hP hD hS)
theorem ga_lv {lv9 : List (Nat × Value)} (h : lv_le lv9 lv) (k : gG p l e R s m args below meth c D A nL cells slots Q (ws) (lv9) (pc) (st)) : gG p l e R s m args below meth c D A nL cells slots Q (ws) (lv) (pc) (st) := fun H lo ls hl hP hD hS => k H lo ls (lf_le hl h) hP hD hS
theorem ga_ws {w9 : va_W} (is : List Nat) (h : is.map (fun i => ws[i]?) = w9.map some) (hn : va_nd is = true) (k : gG p l e R s m args below meth c D A nL cells slots Q (w9) (lv) (pc) (st)) : gG p l e R s m args below meth c D A nL cells slots Q (ws) (lv) (pc) (st) := fun H lo ls hl hP hD hS => k H lo ls hl (hP.sub is (is_sub ws w9 is h)) (hD.sub is hn h) hS
theorem ga_eqi {x y : Int32} (h : x = y) (k : gG p l e R s m args below meth c D A nL cells slots Q (ws) (lv) (pc) (.int y :: st)) : gG p l e R s m args below meth c D A nL cells slots Q (ws) (lv) (pc) (.int x :: st) := h ▸ k
theorem ga_eql {x y : Int64} (h : x = y) (k : gG p l e R s m args below meth c D A nL cells slots Q (ws) (lv) (pc) (.long y :: st)) : gG p l e R s m args below meth c D A nL cells slots Q (ws) (lv) (pc) (.long x :: st) := h ▸ k
end GL
/-! contracts: a world before, a world behind (by a value u), no cell made -/
def cB (D : va_G) (tys : List (ClassId × FieldType)) (ws : va_W) (sz : Nat) : State → Prop := fun U => U.heap.size = sz ∧ va_P D vwCl ws U.heap ∧ va_K D vwCl tys U ∧ va_D (fun _ => True) ws
def cE (D : va_G) (tys : List (ClassId × FieldType)) (ws : va_W) (sz : Nat) {S : Type} (wR : S → va_W) : S → State → Prop := fun u t => va_P D vwCl (wR u) t.heap ∧ va_K D vwCl tys t ∧ va_D (va_A ws sz) (wR u)
def ctV (l : Launch) (y : MethodName) (wy : List Cond) (rm : Room) (D : va_G) (tys : List (ClassId × FieldType)) (av : List Value) (ws : va_W) {S : Type} (post : S → Prop) (wR : S → va_W) : Prop := ∀ sz, Met l y wy rm (va_Pc av (cB D tys ws sz)) (va_Qv post (cE D tys ws sz wR) (va_A ws sz)) 0 0 (va_A ws sz)
def ctI (l : Launch) (y : MethodName) (wy : List Cond) (rm : Room) (D : va_G) (tys : List (ClassId × FieldType)) (av : List Value) (ws : va_W) {S : Type} (post : Int32 → S → Prop) (wR : S → va_W) : Prop := ∀ sz, Met l y wy rm (va_Pc av (cB D tys ws sz)) (va_Qi post (cE D tys ws sz wR) (va_A ws sz)) 0 0 (va_A ws sz)
def ctL (l : Launch) (y : MethodName) (wy : List Cond) (rm : Room) (D : va_G) (tys : List (ClassId × FieldType)) (av : List Value) (ws : va_W) {S : Type} (post : Int64 → S → Prop) (wR : S → va_W) : Prop := ∀ sz, Met l y wy rm (va_Pc av (cB D tys ws sz)) (va_Ql post (cE D tys ws sz wR) (va_A ws sz)) 0 0 (va_A ws sz)
theorem cB_blind (D : va_G) (tys : List (ClassId × FieldType)) (ws : va_W) (sz : Nat) (av : List Value) : FrameBlind (va_Pc av (cB D tys ws sz)) := fun a U g mk q => by
  obtain ⟨q0, q1, qP, qK, qD⟩ := q
  exact ⟨q0, q1, qP, va_K.moved (u := U) (U := U.calling g mk a) (Vm.Alike.refl U.vm) qK, qD⟩
/-- what a method's walk has at its entry -/
def gE (l : Launch) (y : MethodName) (wy : List Cond) (rm : Room) (D : va_G) (tys : List (ClassId × FieldType)) (av : List Value) (ws : va_W) (cc : ByteArray) (maxL : Nat) (ret : Option FieldType) (Qc : Nat → Array Value → State → Outcome → State → Prop) : Prop :=
  ∀ (p : Program) (e : Env) (s : State) (m : MethodId) (below : List Frame) (meth : Method) (c : Code), gC p s m av.toArray c cc maxL wy y.cls D tys (va_A ws s.heap.size) → meth.sig.returnType = ret → meth.locks = false → gG p l e rm s m av.toArray below meth c D (va_A ws s.heap.size) maxL 0 0 (MQ below (Qc s.heap.size) av.toArray s 0 0 (va_A ws s.heap.size)) ws (lv_args 0 av) 0 []
theorem met_of {l : Launch} {y : MethodName} {wy wy' : List Cond} {rm : Room} {D : va_G} {tys : List (ClassId × FieldType)} {av : List Value} {ws : va_W} {cc : ByteArray} {maxL : Nat} {ret : Option FieldType} {Qc : Nat → Array Value → State → Outcome → State → Prop} (hy : plainName y.cls = true) (hw : wy = Cond.code y cc maxL ret :: wy') (hav : (lg_sl av).length ≤ maxL) (h : gE l y wy rm D tys av ws cc maxL ret Qc) (sz : Nat) : Met l y wy rm (va_Pc av (cB D tys ws sz)) (Qc sz) 0 0 (va_A ws sz) := by
  refine Met.ofW (cc := cc) (maxL := maxL) (ret := ret) hy hw ?_
  intro p e s m args below meth c s₁ B hml hv
  obtain ⟨rfl, hsz, hP, hK, hD0⟩ := hv
  subst hsz
  have hts := atoms_spec (ws := wy) B.pre
  have hown : s.vm.findClass y.cls = some m.cls := findClass_of_methodNamed B.named
  have hl := lv_entry av (n := maxL) hav
  rw [lg_entry_eq]
  exact h p e s m below meth c ⟨⟨B.exec, B.bytes, hml, hown, hts⟩, hK, fun q h => Or.inr h⟩ B.returns B.notSynchronized s.heap [] _ (lf_of hl) hP (hD0.self (sz := s.heap.size)) va_S.rf
section GR
variable {p : Program} {l : Launch} {e : Env} {R : Room} {s : State} {m : MethodId} {below : List Frame} {meth : Method} {c : Code} {D : va_G} {nL : Nat} {cc : ByteArray} {Ts : List Cond} {own : String} {tys : List (ClassId × FieldType)} {ws w0 : va_W} {lv : List (Nat × Value)} {pc : Nat} {st : List Value} {av : List Value} {S : Type}
theorem ga_vret {post : S → Prop} {wR : S → va_W} (C : gC p s m av.toArray c cc nL Ts own D tys (va_A w0 s.heap.size)) (hr : meth.sig.returnType = none) (hlk : meth.locks = false) (hd : decode cc pc = .ok (.return_, 1)) (u : S) (hp : post u) (hw : ws = wR u) : gG p l e R s m av.toArray below meth c D (va_A w0 s.heap.size) nL 0 0 (MQ below (va_Qv post (cE D tys w0 s.heap.size wR) (va_A w0 s.heap.size)) av.toArray s 0 0 (va_A w0 s.heap.size)) ws lv pc [] := fun H lo ls hl hP hD hS => W.vret C.1.1 C.1.2.1 hr (fun t ht hW => ⟨⟨u, rfl, hp, by rw [ht, ← hw]; exact hP, va_K.moved hW.alike C.2.1, by rw [← hw]; exact hD⟩, hS.F ht⟩) hS.2.2 hd
theorem ga_iret {post : Int32 → S → Prop} {wR : S → va_W} {ty : FieldType} {v : Int32} (C : gC p s m av.toArray c cc nL Ts own D tys (va_A w0 s.heap.size)) (hr : meth.sig.returnType = some ty) (hn : narrow ty (.int v) = .int v) (hlk : meth.locks = false) (hd : decode cc pc = .ok (.ireturn, 1)) (u : S) (hp : post v u) (hw : ws = wR u) : gG p l e R s m av.toArray below meth c D (va_A w0 s.heap.size) nL 0 0 (MQ below (va_Qi post (cE D tys w0 s.heap.size wR) (va_A w0 s.heap.size)) av.toArray s 0 0 (va_A w0 s.heap.size)) ws lv pc [.int v] := fun H lo ls hl hP hD hS => W.zret C.1.1 C.1.2.1 hr hn (fun t ht hW => ⟨⟨v, u, rfl, hp, by rw [ht, ← hw]; exact hP, va_K.moved hW.alike C.2.1, by rw [← hw]; exact hD⟩, hS.F ht⟩) hS.2.2 hd
theorem ga_lret {post : Int64 → S → Prop} {wR : S → va_W} {v : Int64} (C : gC p s m av.toArray c cc nL Ts own D tys (va_A w0 s.heap.size)) (hr : meth.sig.returnType = some .long) (hlk : meth.locks = false) (hd : decode cc pc = .ok (.lreturn, 1)) (u : S) (hp : post v u) (hw : ws = wR u) : gG p l e R s m av.toArray below meth c D (va_A w0 s.heap.size) nL 0 0 (MQ below (va_Ql post (cE D tys w0 s.heap.size wR) (va_A w0 s.heap.size)) av.toArray s 0 0 (va_A w0 s.heap.size)) ws lv pc [.long v] := fun H lo ls hl hP hD hS => W.lret C.1.1 C.1.2.1 hr (fun t ht hW => ⟨⟨v, u, rfl, hp, by rw [ht, ← hw]; exact hP, va_K.moved hW.alike C.2.1, by rw [← hw]; exact hD⟩, hS.F ht⟩) hS.2.2 hd
end GR
section GCALL
variable {p : Program} {l : Launch} {e : Env} {R : Room} {s : State} {m : MethodId} {args : Array Value} {below : List Frame} {meth : Method} {c : Code} {D : va_G} {A : Nat → Prop} {nL cells slots : Nat} {Q : State → Prop}
variable {cc : ByteArray} {Ts : List Cond} {own : String} {tys : List (ClassId × FieldType)} {ws : va_W} {lv : List (Nat × Value)} {pc : Nat} {st st0 : List Value}
variable {y : MethodName} {wy : List Cond} {bytes : ByteArray} {maxL index n : Nat} {ret : Option FieldType} {rm : Room} {S : Type} {wR : S → va_W} {wc wr : va_W} {As : List Value}

theorem ga_callVv (C : gC p s m args c cc nL Ts own D tys A) {post : S → Prop} {b : Addr} {Cn : String} (hM : ctV l y wy rm D tys (.ref b :: As) wc post wR) (cw : CallW R s args own Cn index y bytes maxL ret wy rm 0 0 n) (isC isR : List Nat) (hC : isC.map (fun i => ws[i]?) = wc.map some) (hnC : va_nd isC = true) (hR : isR.map (fun i => ws[i]?) = wr.map some) (hn : va_nd isR = true) (hdis : ∀ i ∈ isR, i ∉ isC) (q0 : Nat) {ci : Nat} {q : vw_C} {fs : List Value} (hq0 : wc[q0]? = some (b, .inr (ci, fs))) (hcl : vwCl[ci]? = some q) (hcn : q.1 = Cn) (hlen : As.length = n) (hst : st0 = As.reverse ++ .ref b :: st) (hroom : (st.map fun v => v.category).sum ≤ 8) (hd : decode cc pc = .ok (.invokevirtual index, 3)) (hcap : cells ≤ R.cells ∧ slots ≤ R.slots)
    (k : ∀ u : S, post u → gG p l e R s m args below meth c D A nL cells slots Q (wr ++ wR u) (lv) (pc + 3) (st)) : gG p l e R s m args below meth c D A nL cells slots Q (ws) (lv) (pc) (st0) := fun H lo ls hl hP hD hS => by
  have hPc : va_P D vwCl wc H := hP.sub isC (is_sub ws wc isC hC)
  have hDc : va_D A wc := hD.sub isC hnC hC
  have hFc := va_free (wc := wc) hD hS C.2.2 isC hC
  have hpre : ∀ U : State, U.heap = H → s.WarmedH U.vm → va_Pc (.ref b :: As) (cB D tys wc H.size) (.ref b :: As).toArray U := fun U hU hW => ⟨rfl, by rw [hU], by rw [hU]; exact hPc, va_K.moved hW.alike C.2.1, hDc.weaken (fun _ _ _ _ => trivial)⟩
  refine va_callv (va_runV (As := As) (rest := st) C.1 (hM H.size) cw ⟨cB_blind D tys wc H.size (.ref b :: As), by rw [← hcn]; exact va_recv C.2.1 hPc hcl hq0, hpre⟩ rfl hlen hl.1 hst (lv_room hroom) hd hcap) hS (fun q _ h => hFc q h) hFc ?_
  intro u t H1 locs ht hvm hp hB hz1 hk1 hS1
  obtain ⟨hP1, hK1, hD1⟩ := hB
  rw [ht] at hP1
  obtain ⟨hP2, hD2⟩ := va_join hP hD isC isR hC hR hn hdis hk1 hFc hP1 hD1
  exact k u hp H1 locs ls hl hP2 hD2 hS1
theorem ga_callSv (C : gC p s m args c cc nL Ts own D tys A) {post : S → Prop}  (hM : ctV l y wy rm D tys (As) wc post wR) (cw : CallB R s args own index y bytes maxL ret wy rm 0 0 n ∧ (Cond.static y).before args s = true) (isC isR : List Nat) (hC : isC.map (fun i => ws[i]?) = wc.map some) (hnC : va_nd isC = true) (hR : isR.map (fun i => ws[i]?) = wr.map some) (hn : va_nd isR = true) (hdis : ∀ i ∈ isR, i ∉ isC)  (hlen : As.length = n) (hst : st0 = As.reverse ++ st) (hroom : (st.map fun v => v.category).sum ≤ 8) (hd : decode cc pc = .ok (.invokestatic index, 3)) (hcap : cells ≤ R.cells ∧ slots ≤ R.slots)
    (k : ∀ u : S, post u → gG p l e R s m args below meth c D A nL cells slots Q (wr ++ wR u) (lv) (pc + 3) (st)) : gG p l e R s m args below meth c D A nL cells slots Q (ws) (lv) (pc) (st0) := fun H lo ls hl hP hD hS => by
  have hPc : va_P D vwCl wc H := hP.sub isC (is_sub ws wc isC hC)
  have hDc : va_D A wc := hD.sub isC hnC hC
  have hFc := va_free (wc := wc) hD hS C.2.2 isC hC
  have hpre : ∀ U : State, U.heap = H → s.WarmedH U.vm → va_Pc (As) (cB D tys wc H.size) (As).toArray U := fun U hU hW => ⟨rfl, by rw [hU], by rw [hU]; exact hPc, va_K.moved hW.alike C.2.1, hDc.weaken (fun _ _ _ _ => trivial)⟩
  refine va_callv (va_runS (As := As) (rest := st) C.1 (hM H.size) cw ⟨cB_blind D tys wc H.size As, hpre⟩ rfl hlen hl.1 hst (lv_room hroom) hd hcap) hS (fun q _ h => hFc q h) hFc ?_
  intro u t H1 locs ht hvm hp hB hz1 hk1 hS1
  obtain ⟨hP1, hK1, hD1⟩ := hB
  rw [ht] at hP1
  obtain ⟨hP2, hD2⟩ := va_join hP hD isC isR hC hR hn hdis hk1 hFc hP1 hD1
  exact k u hp H1 locs ls hl hP2 hD2 hS1
theorem ga_callVi (C : gC p s m args c cc nL Ts own D tys A) {post : Int32 → S → Prop} {b : Addr} {Cn : String} (hM : ctI l y wy rm D tys (.ref b :: As) wc post wR) (cw : CallW R s args own Cn index y bytes maxL ret wy rm 0 0 n) (isC isR : List Nat) (hC : isC.map (fun i => ws[i]?) = wc.map some) (hnC : va_nd isC = true) (hR : isR.map (fun i => ws[i]?) = wr.map some) (hn : va_nd isR = true) (hdis : ∀ i ∈ isR, i ∉ isC) (q0 : Nat) {ci : Nat} {q : vw_C} {fs : List Value} (hq0 : wc[q0]? = some (b, .inr (ci, fs))) (hcl : vwCl[ci]? = some q) (hcn : q.1 = Cn) (hlen : As.length = n) (hst : st0 = As.reverse ++ .ref b :: st) (hroom : (st.map fun v => v.category).sum ≤ 8) (hd : decode cc pc = .ok (.invokevirtual index, 3)) (hcap : cells ≤ R.cells ∧ slots ≤ R.slots)
    (k : ∀ (r : Int32) (u : S), post r u → gG p l e R s m args below meth c D A nL cells slots Q (wr ++ wR u) (lv) (pc + 3) (.int r :: st)) : gG p l e R s m args below meth c D A nL cells slots Q (ws) (lv) (pc) (st0) := fun H lo ls hl hP hD hS => by
  have hPc : va_P D vwCl wc H := hP.sub isC (is_sub ws wc isC hC)
  have hDc : va_D A wc := hD.sub isC hnC hC
  have hFc := va_free (wc := wc) hD hS C.2.2 isC hC
  have hpre : ∀ U : State, U.heap = H → s.WarmedH U.vm → va_Pc (.ref b :: As) (cB D tys wc H.size) (.ref b :: As).toArray U := fun U hU hW => ⟨rfl, by rw [hU], by rw [hU]; exact hPc, va_K.moved hW.alike C.2.1, hDc.weaken (fun _ _ _ _ => trivial)⟩
  refine va_calli (va_runV (As := As) (rest := st) C.1 (hM H.size) cw ⟨cB_blind D tys wc H.size (.ref b :: As), by rw [← hcn]; exact va_recv C.2.1 hPc hcl hq0, hpre⟩ rfl hlen hl.1 hst (lv_room hroom) hd hcap) hS (fun q _ h => hFc q h) hFc ?_
  intro r u t H1 locs ht hvm hp hB hz1 hk1 hS1
  obtain ⟨hP1, hK1, hD1⟩ := hB
  rw [ht] at hP1
  obtain ⟨hP2, hD2⟩ := va_join hP hD isC isR hC hR hn hdis hk1 hFc hP1 hD1
  exact k r u hp H1 locs ls hl hP2 hD2 hS1
theorem ga_callSi (C : gC p s m args c cc nL Ts own D tys A) {post : Int32 → S → Prop}  (hM : ctI l y wy rm D tys (As) wc post wR) (cw : CallB R s args own index y bytes maxL ret wy rm 0 0 n ∧ (Cond.static y).before args s = true) (isC isR : List Nat) (hC : isC.map (fun i => ws[i]?) = wc.map some) (hnC : va_nd isC = true) (hR : isR.map (fun i => ws[i]?) = wr.map some) (hn : va_nd isR = true) (hdis : ∀ i ∈ isR, i ∉ isC)  (hlen : As.length = n) (hst : st0 = As.reverse ++ st) (hroom : (st.map fun v => v.category).sum ≤ 8) (hd : decode cc pc = .ok (.invokestatic index, 3)) (hcap : cells ≤ R.cells ∧ slots ≤ R.slots)
    (k : ∀ (r : Int32) (u : S), post r u → gG p l e R s m args below meth c D A nL cells slots Q (wr ++ wR u) (lv) (pc + 3) (.int r :: st)) : gG p l e R s m args below meth c D A nL cells slots Q (ws) (lv) (pc) (st0) := fun H lo ls hl hP hD hS => by
  have hPc : va_P D vwCl wc H := hP.sub isC (is_sub ws wc isC hC)
  have hDc : va_D A wc := hD.sub isC hnC hC
  have hFc := va_free (wc := wc) hD hS C.2.2 isC hC
  have hpre : ∀ U : State, U.heap = H → s.WarmedH U.vm → va_Pc (As) (cB D tys wc H.size) (As).toArray U := fun U hU hW => ⟨rfl, by rw [hU], by rw [hU]; exact hPc, va_K.moved hW.alike C.2.1, hDc.weaken (fun _ _ _ _ => trivial)⟩
  refine va_calli (va_runS (As := As) (rest := st) C.1 (hM H.size) cw ⟨cB_blind D tys wc H.size As, hpre⟩ rfl hlen hl.1 hst (lv_room hroom) hd hcap) hS (fun q _ h => hFc q h) hFc ?_
  intro r u t H1 locs ht hvm hp hB hz1 hk1 hS1
  obtain ⟨hP1, hK1, hD1⟩ := hB
  rw [ht] at hP1
  obtain ⟨hP2, hD2⟩ := va_join hP hD isC isR hC hR hn hdis hk1 hFc hP1 hD1
  exact k r u hp H1 locs ls hl hP2 hD2 hS1
theorem ga_callVl (C : gC p s m args c cc nL Ts own D tys A) {post : Int64 → S → Prop} {b : Addr} {Cn : String} (hM : ctL l y wy rm D tys (.ref b :: As) wc post wR) (cw : CallW R s args own Cn index y bytes maxL ret wy rm 0 0 n) (isC isR : List Nat) (hC : isC.map (fun i => ws[i]?) = wc.map some) (hnC : va_nd isC = true) (hR : isR.map (fun i => ws[i]?) = wr.map some) (hn : va_nd isR = true) (hdis : ∀ i ∈ isR, i ∉ isC) (q0 : Nat) {ci : Nat} {q : vw_C} {fs : List Value} (hq0 : wc[q0]? = some (b, .inr (ci, fs))) (hcl : vwCl[ci]? = some q) (hcn : q.1 = Cn) (hlen : As.length = n) (hst : st0 = As.reverse ++ .ref b :: st) (hroom : (st.map fun v => v.category).sum ≤ 8) (hd : decode cc pc = .ok (.invokevirtual index, 3)) (hcap : cells ≤ R.cells ∧ slots ≤ R.slots)
    (k : ∀ (r : Int64) (u : S), post r u → gG p l e R s m args below meth c D A nL cells slots Q (wr ++ wR u) (lv) (pc + 3) (.long r :: st)) : gG p l e R s m args below meth c D A nL cells slots Q (ws) (lv) (pc) (st0) := fun H lo ls hl hP hD hS => by
  have hPc : va_P D vwCl wc H := hP.sub isC (is_sub ws wc isC hC)
  have hDc : va_D A wc := hD.sub isC hnC hC
  have hFc := va_free (wc := wc) hD hS C.2.2 isC hC
  have hpre : ∀ U : State, U.heap = H → s.WarmedH U.vm → va_Pc (.ref b :: As) (cB D tys wc H.size) (.ref b :: As).toArray U := fun U hU hW => ⟨rfl, by rw [hU], by rw [hU]; exact hPc, va_K.moved hW.alike C.2.1, hDc.weaken (fun _ _ _ _ => trivial)⟩
  refine va_calll (va_runV (As := As) (rest := st) C.1 (hM H.size) cw ⟨cB_blind D tys wc H.size (.ref b :: As), by rw [← hcn]; exact va_recv C.2.1 hPc hcl hq0, hpre⟩ rfl hlen hl.1 hst (lv_room hroom) hd hcap) hS (fun q _ h => hFc q h) hFc ?_
  intro r u t H1 locs ht hvm hp hB hz1 hk1 hS1
  obtain ⟨hP1, hK1, hD1⟩ := hB
  rw [ht] at hP1
  obtain ⟨hP2, hD2⟩ := va_join hP hD isC isR hC hR hn hdis hk1 hFc hP1 hD1
  exact k r u hp H1 locs ls hl hP2 hD2 hS1
theorem ga_callSl (C : gC p s m args c cc nL Ts own D tys A) {post : Int64 → S → Prop}  (hM : ctL l y wy rm D tys (As) wc post wR) (cw : CallB R s args own index y bytes maxL ret wy rm 0 0 n ∧ (Cond.static y).before args s = true) (isC isR : List Nat) (hC : isC.map (fun i => ws[i]?) = wc.map some) (hnC : va_nd isC = true) (hR : isR.map (fun i => ws[i]?) = wr.map some) (hn : va_nd isR = true) (hdis : ∀ i ∈ isR, i ∉ isC)  (hlen : As.length = n) (hst : st0 = As.reverse ++ st) (hroom : (st.map fun v => v.category).sum ≤ 8) (hd : decode cc pc = .ok (.invokestatic index, 3)) (hcap : cells ≤ R.cells ∧ slots ≤ R.slots)
    (k : ∀ (r : Int64) (u : S), post r u → gG p l e R s m args below meth c D A nL cells slots Q (wr ++ wR u) (lv) (pc + 3) (.long r :: st)) : gG p l e R s m args below meth c D A nL cells slots Q (ws) (lv) (pc) (st0) := fun H lo ls hl hP hD hS => by
  have hPc : va_P D vwCl wc H := hP.sub isC (is_sub ws wc isC hC)
  have hDc : va_D A wc := hD.sub isC hnC hC
  have hFc := va_free (wc := wc) hD hS C.2.2 isC hC
  have hpre : ∀ U : State, U.heap = H → s.WarmedH U.vm → va_Pc (As) (cB D tys wc H.size) (As).toArray U := fun U hU hW => ⟨rfl, by rw [hU], by rw [hU]; exact hPc, va_K.moved hW.alike C.2.1, hDc.weaken (fun _ _ _ _ => trivial)⟩
  refine va_calll (va_runS (As := As) (rest := st) C.1 (hM H.size) cw ⟨cB_blind D tys wc H.size As, hpre⟩ rfl hlen hl.1 hst (lv_room hroom) hd hcap) hS (fun q _ h => hFc q h) hFc ?_
  intro r u t H1 locs ht hvm hp hB hz1 hk1 hS1
  obtain ⟨hP1, hK1, hD1⟩ := hB
  rw [ht] at hP1
  obtain ⟨hP2, hD2⟩ := va_join hP hD isC isR hC hR hn hdis hk1 hFc hP1 hD1
  exact k r u hp H1 locs ls hl hP2 hD2 hS1
end GCALL
end
section
/-! numbers: nI forms, compares, worlds of the classes -/
def nA (g : Nat → Nat) : Nat → Int32 := fun k => nI (g k)
def upN (g : Nat → Nat) (i v : Nat) : Nat → Nat := fun k => if k = i then v else g k
theorem upd_nA (g : Nat → Nat) (i v : Nat) : upd (nA g) i (nI v) = nA (upN g i v) := by
  funext k
  by_cases h : k = i <;> simp [upd, nA, upN, h]
theorem nA_0 : (fun _ => (0 : Int32)) = nA (fun _ => 0) := by
  funext k
  exact nI_0.symm
theorem upN_s {g : Nat → Nat} {i v : Nat} : upN g i v i = v := by simp [upN]
theorem upN_n {g : Nat → Nat} {i v k : Nat} (h : k ≠ i) : upN g i v k = g k := by simp [upN, h]
theorem nI_inc (a : Nat) : nI a + Int32.ofInt 1 = nI (a + 1) := nI_1 a
theorem nI_inc4 (a : Nat) : nI a + Int32.ofInt 4 = nI (a + 4) := nI_add a 4
theorem nI_dec {a : Nat} (h : 0 < a) : nI a + Int32.ofInt (-1) = nI (a - 1) := by
  obtain ⟨b, rfl⟩ : ∃ b, a = b + 1 := ⟨a - 1, by omega⟩
  have h1 : Int32.ofInt (-1) = -1 := by decide
  rw [h1]
  exact pk_m1 b
theorem sh6 {a : Nat} (h : a < 2 ^ 31) : nI a >>> (nI 6 &&& 31) = nI (a / 64) := pk_shrN h _ 6 (by decide)
theorem sl6 {a : Nat} (h : a < 2 ^ 20) : nI a <<< (nI 6 &&& 31) = nI (a * 64) := pk_shlN _ 6 (by decide) (by omega)
theorem dv32 {a : Nat} (h : a < 2 ^ 31) : nI a / nI 32 = nI (a / 32) := pk_div h (by decide) (by decide)
theorem rm32 {a : Nat} (h : a < 2 ^ 31) : nI a - nI a / nI 32 * nI 32 = nI (a % 32) := pk_rem h (by decide) (by decide)
theorem n32_ne : ¬ nI 32 = 0 := by decide
section GN
variable {p : Program} {l : Launch} {e : Env} {R : Room} {s : State} {m : MethodId} {args : Array Value} {below : List Frame} {meth : Method} {c : Code} {D : va_G} {A : Nat → Prop} {nL cells slots : Nat} {Q : State → Prop}
variable {cc : ByteArray} {Ts : List Cond} {own : String} {tys : List (ClassId × FieldType)} {ws : va_W} {lv : List (Nat × Value)} {pc : Nat} {st : List Value}
theorem gn_icmp_eq (tgt : Nat) (C : gC p s m args c cc nL Ts own D tys A) {a b : Nat} {off : Int} (hd : decode cc pc = .ok (.if_icmp .eq off, 3)) (ht : (pc : Int) + off = (tgt : Int)) (ha : a < 2 ^ 31) (hb : b < 2 ^ 31) (kt : a = b → gG p l e R s m args below meth c D A nL cells slots Q (ws) (lv) (tgt) (st)) (kf : a ≠ b → gG p l e R s m args below meth c D A nL cells slots Q (ws) (lv) (pc + 3) (st)) : gG p l e R s m args below meth c D A nL cells slots Q (ws) (lv) (pc) (.int (nI b) :: .int (nI a) :: st) := ga_icmp_eq tgt C hd ht (fun h => kt ((nI_eq ha hb).mp h)) (fun h => kf (fun q => h (by rw [q])))
theorem gn_if_eq (tgt : Nat) (C : gC p s m args c cc nL Ts own D tys A) {a : Nat} {off : Int} (hd : decode cc pc = .ok (.ifCond .eq off, 3)) (ht : (pc : Int) + off = (tgt : Int)) (ha : a < 2 ^ 31) (kt : a = 0 → gG p l e R s m args below meth c D A nL cells slots Q (ws) (lv) (tgt) (st)) (kf : a ≠ 0 → gG p l e R s m args below meth c D A nL cells slots Q (ws) (lv) (pc + 3) (st)) : gG p l e R s m args below meth c D A nL cells slots Q (ws) (lv) (pc) (.int (nI a) :: st) := by
  have hb : (0 : Nat) < 2 ^ 31 := by decide
  refine ga_if_eq tgt C hd ht ?_ ?_ <;> rw [← nI_0]
  · exact (fun h => kt ((nI_eq ha hb).mp h))
  · exact (fun h => kf (fun q => h (by rw [q])))
theorem gn_icmp_ne (tgt : Nat) (C : gC p s m args c cc nL Ts own D tys A) {a b : Nat} {off : Int} (hd : decode cc pc = .ok (.if_icmp .ne off, 3)) (ht : (pc : Int) + off = (tgt : Int)) (ha : a < 2 ^ 31) (hb : b < 2 ^ 31) (kt : a ≠ b → gG p l e R s m args below meth c D A nL cells slots Q (ws) (lv) (tgt) (st)) (kf : a = b → gG p l e R s m args below meth c D A nL cells slots Q (ws) (lv) (pc + 3) (st)) : gG p l e R s m args below meth c D A nL cells slots Q (ws) (lv) (pc) (.int (nI b) :: .int (nI a) :: st) := ga_icmp_ne tgt C hd ht (fun h => kt (fun q => h (by rw [q]))) (fun h => kf ((nI_eq ha hb).mp h))
theorem gn_if_ne (tgt : Nat) (C : gC p s m args c cc nL Ts own D tys A) {a : Nat} {off : Int} (hd : decode cc pc = .ok (.ifCond .ne off, 3)) (ht : (pc : Int) + off = (tgt : Int)) (ha : a < 2 ^ 31) (kt : a ≠ 0 → gG p l e R s m args below meth c D A nL cells slots Q (ws) (lv) (tgt) (st)) (kf : a = 0 → gG p l e R s m args below meth c D A nL cells slots Q (ws) (lv) (pc + 3) (st)) : gG p l e R s m args below meth c D A nL cells slots Q (ws) (lv) (pc) (.int (nI a) :: st) := by
  have hb : (0 : Nat) < 2 ^ 31 := by decide
  refine ga_if_ne tgt C hd ht ?_ ?_ <;> rw [← nI_0]
  · exact (fun h => kt (fun q => h (by rw [q])))
  · exact (fun h => kf ((nI_eq ha hb).mp h))
theorem gn_icmp_lt (tgt : Nat) (C : gC p s m args c cc nL Ts own D tys A) {a b : Nat} {off : Int} (hd : decode cc pc = .ok (.if_icmp .lt off, 3)) (ht : (pc : Int) + off = (tgt : Int)) (ha : a < 2 ^ 31) (hb : b < 2 ^ 31) (kt : a < b → gG p l e R s m args below meth c D A nL cells slots Q (ws) (lv) (tgt) (st)) (kf : b ≤ a → gG p l e R s m args below meth c D A nL cells slots Q (ws) (lv) (pc + 3) (st)) : gG p l e R s m args below meth c D A nL cells slots Q (ws) (lv) (pc) (.int (nI b) :: .int (nI a) :: st) := ga_icmp_lt tgt C hd ht (fun h => kt ((nI_ltI ha hb).mp h)) (fun h => kf (Nat.le_of_not_lt (fun q => h ((nI_ltI ha hb).mpr q))))
theorem gn_if_lt (tgt : Nat) (C : gC p s m args c cc nL Ts own D tys A) {a : Nat} {off : Int} (hd : decode cc pc = .ok (.ifCond .lt off, 3)) (ht : (pc : Int) + off = (tgt : Int)) (ha : a < 2 ^ 31) (kt : a < 0 → gG p l e R s m args below meth c D A nL cells slots Q (ws) (lv) (tgt) (st)) (kf : 0 ≤ a → gG p l e R s m args below meth c D A nL cells slots Q (ws) (lv) (pc + 3) (st)) : gG p l e R s m args below meth c D A nL cells slots Q (ws) (lv) (pc) (.int (nI a) :: st) := by
  have hb : (0 : Nat) < 2 ^ 31 := by decide
  refine ga_if_lt tgt C hd ht ?_ ?_ <;> rw [← nI_0]
  · exact (fun h => kt ((nI_ltI ha hb).mp h))
  · exact (fun h => kf (Nat.le_of_not_lt (fun q => h ((nI_ltI ha hb).mpr q))))
theorem gn_icmp_ge (tgt : Nat) (C : gC p s m args c cc nL Ts own D tys A) {a b : Nat} {off : Int} (hd : decode cc pc = .ok (.if_icmp .ge off, 3)) (ht : (pc : Int) + off = (tgt : Int)) (ha : a < 2 ^ 31) (hb : b < 2 ^ 31) (kt : b ≤ a → gG p l e R s m args below meth c D A nL cells slots Q (ws) (lv) (tgt) (st)) (kf : a < b → gG p l e R s m args below meth c D A nL cells slots Q (ws) (lv) (pc + 3) (st)) : gG p l e R s m args below meth c D A nL cells slots Q (ws) (lv) (pc) (.int (nI b) :: .int (nI a) :: st) := ga_icmp_ge tgt C hd ht (fun h => kt ((nI_leI hb ha).mp h)) (fun h => kf (Nat.lt_of_not_le (fun q => h ((nI_leI hb ha).mpr q))))
theorem gn_if_ge (tgt : Nat) (C : gC p s m args c cc nL Ts own D tys A) {a : Nat} {off : Int} (hd : decode cc pc = .ok (.ifCond .ge off, 3)) (ht : (pc : Int) + off = (tgt : Int)) (ha : a < 2 ^ 31) (kt : 0 ≤ a → gG p l e R s m args below meth c D A nL cells slots Q (ws) (lv) (tgt) (st)) (kf : a < 0 → gG p l e R s m args below meth c D A nL cells slots Q (ws) (lv) (pc + 3) (st)) : gG p l e R s m args below meth c D A nL cells slots Q (ws) (lv) (pc) (.int (nI a) :: st) := by
  have hb : (0 : Nat) < 2 ^ 31 := by decide
  refine ga_if_ge tgt C hd ht ?_ ?_ <;> rw [← nI_0]
  · exact (fun h => kt ((nI_leI hb ha).mp h))
  · exact (fun h => kf (Nat.lt_of_not_le (fun q => h ((nI_leI hb ha).mpr q))))
theorem gn_icmp_gt (tgt : Nat) (C : gC p s m args c cc nL Ts own D tys A) {a b : Nat} {off : Int} (hd : decode cc pc = .ok (.if_icmp .gt off, 3)) (ht : (pc : Int) + off = (tgt : Int)) (ha : a < 2 ^ 31) (hb : b < 2 ^ 31) (kt : b < a → gG p l e R s m args below meth c D A nL cells slots Q (ws) (lv) (tgt) (st)) (kf : a ≤ b → gG p l e R s m args below meth c D A nL cells slots Q (ws) (lv) (pc + 3) (st)) : gG p l e R s m args below meth c D A nL cells slots Q (ws) (lv) (pc) (.int (nI b) :: .int (nI a) :: st) := ga_icmp_gt tgt C hd ht (fun h => kt ((nI_ltI hb ha).mp h)) (fun h => kf (Nat.le_of_not_lt (fun q => h ((nI_ltI hb ha).mpr q))))
theorem gn_if_gt (tgt : Nat) (C : gC p s m args c cc nL Ts own D tys A) {a : Nat} {off : Int} (hd : decode cc pc = .ok (.ifCond .gt off, 3)) (ht : (pc : Int) + off = (tgt : Int)) (ha : a < 2 ^ 31) (kt : 0 < a → gG p l e R s m args below meth c D A nL cells slots Q (ws) (lv) (tgt) (st)) (kf : a ≤ 0 → gG p l e R s m args below meth c D A nL cells slots Q (ws) (lv) (pc + 3) (st)) : gG p l e R s m args below meth c D A nL cells slots Q (ws) (lv) (pc) (.int (nI a) :: st) := by
  have hb : (0 : Nat) < 2 ^ 31 := by decide
  refine ga_if_gt tgt C hd ht ?_ ?_ <;> rw [← nI_0]
  · exact (fun h => kt ((nI_ltI hb ha).mp h))
  · exact (fun h => kf (Nat.le_of_not_lt (fun q => h ((nI_ltI hb ha).mpr q))))
theorem gn_icmp_le (tgt : Nat) (C : gC p s m args c cc nL Ts own D tys A) {a b : Nat} {off : Int} (hd : decode cc pc = .ok (.if_icmp .le off, 3)) (ht : (pc : Int) + off = (tgt : Int)) (ha : a < 2 ^ 31) (hb : b < 2 ^ 31) (kt : a ≤ b → gG p l e R s m args below meth c D A nL cells slots Q (ws) (lv) (tgt) (st)) (kf : b < a → gG p l e R s m args below meth c D A nL cells slots Q (ws) (lv) (pc + 3) (st)) : gG p l e R s m args below meth c D A nL cells slots Q (ws) (lv) (pc) (.int (nI b) :: .int (nI a) :: st) := ga_icmp_le tgt C hd ht (fun h => kt ((nI_leI ha hb).mp h)) (fun h => kf (Nat.lt_of_not_le (fun q => h ((nI_leI ha hb).mpr q))))
theorem gn_if_le (tgt : Nat) (C : gC p s m args c cc nL Ts own D tys A) {a : Nat} {off : Int} (hd : decode cc pc = .ok (.ifCond .le off, 3)) (ht : (pc : Int) + off = (tgt : Int)) (ha : a < 2 ^ 31) (kt : a ≤ 0 → gG p l e R s m args below meth c D A nL cells slots Q (ws) (lv) (tgt) (st)) (kf : 0 < a → gG p l e R s m args below meth c D A nL cells slots Q (ws) (lv) (pc + 3) (st)) : gG p l e R s m args below meth c D A nL cells slots Q (ws) (lv) (pc) (.int (nI a) :: st) := by
  have hb : (0 : Nat) < 2 ^ 31 := by decide
  refine ga_if_le tgt C hd ht ?_ ?_ <;> rw [← nI_0]
  · exact (fun h => kt ((nI_leI ha hb).mp h))
  · exact (fun h => kf (Nat.lt_of_not_le (fun q => h ((nI_leI ha hb).mpr q))))
/-- an array of Nat-valued ints -/
theorem gn_iald (C : gC p s m args c cc nL Ts own D tys A) (q0 t0 : Nat) {cA : ClassId} {n a i : Nat} {g : Nat → Nat} (ha : ws[q0]? = some (a, .inl (cA, n, .inl (nA g)))) (ht : tys[t0]? = some (cA, .int)) (hi : i < n) (hN : n < 2 ^ 31) (hd : decode cc pc = .ok (.iaload, 1)) (k : gG p l e R s m args below meth c D A nL cells slots Q ws lv (pc + 1) (.int (nI (g i)) :: st)) : gG p l e R s m args below meth c D A nL cells slots Q ws lv pc (.int (nI i) :: .ref a :: st) := ga_iald C q0 t0 ha ht hi hN hd k
theorem gn_zald (C : gC p s m args c cc nL Ts own D tys A) (q0 t0 : Nat) {cA : ClassId} {n a i : Nat} {g : Nat → Nat} (ha : ws[q0]? = some (a, .inl (cA, n, .inl (nA g)))) (ht : tys[t0]? = some (cA, .boolean)) (hi : i < n) (hN : n < 2 ^ 31) (hd : decode cc pc = .ok (.baload, 1)) (k : gG p l e R s m args below meth c D A nL cells slots Q ws lv (pc + 1) (.int (nI (g i)) :: st)) : gG p l e R s m args below meth c D A nL cells slots Q ws lv pc (.int (nI i) :: .ref a :: st) := ga_zald C q0 t0 ha ht hi hN hd k
theorem vp_nz {v : Nat} (h : v < 2) : vp_nar .boolean (nI v) = nI v := by
  rcases (show v = 0 ∨ v = 1 by omega) with rfl | rfl <;> decide
theorem nar_z {v : Nat} (h : v < 2) : narrow .boolean (.int (nI v)) = .int (nI v) := by
  rcases (show v = 0 ∨ v = 1 by omega) with rfl | rfl <;> rfl
theorem fit_z {v : Nat} (h : v < 2) : fits .boolean (.int (nI v)) = true := by
  rcases (show v = 0 ∨ v = 1 by omega) with rfl | rfl <;> rfl
theorem gn_iast (C : gC p s m args c cc nL Ts own D tys A) (q0 t0 : Nat) {cA : ClassId} {n a i v : Nat} {g : Nat → Nat} (ha : ws[q0]? = some (a, .inl (cA, n, .inl (nA g)))) (ht : tys[t0]? = some (cA, .int)) (hi : i < n) (hN : n < 2 ^ 31) (hd : decode cc pc = .ok (.iastore, 1)) {w9 : va_W} (hw : ws.set q0 (a, .inl (cA, n, .inl (nA (upN g i v)))) = w9) (k : gG p l e R s m args below meth c D A nL cells slots Q w9 lv (pc + 1) st) : gG p l e R s m args below meth c D A nL cells slots Q ws lv pc (.int (nI v) :: .int (nI i) :: .ref a :: st) := ga_iast C q0 t0 ha ht hi hN hd (by rw [upd_nA]; exact hw) k
theorem gn_zast (C : gC p s m args c cc nL Ts own D tys A) (q0 t0 : Nat) {cA : ClassId} {n a i v : Nat} {g : Nat → Nat} (ha : ws[q0]? = some (a, .inl (cA, n, .inl (nA g)))) (ht : tys[t0]? = some (cA, .boolean)) (hi : i < n) (hN : n < 2 ^ 31) (hv : v < 2) (hd : decode cc pc = .ok (.bastore, 1)) {w9 : va_W} (hw : ws.set q0 (a, .inl (cA, n, .inl (nA (upN g i v)))) = w9) (k : gG p l e R s m args below meth c D A nL cells slots Q w9 lv (pc + 1) st) : gG p l e R s m args below meth c D A nL cells slots Q ws lv pc (.int (nI v) :: .int (nI i) :: .ref a :: st) := ga_zast C q0 t0 ha ht hi hN hd (by rw [vp_nz hv, upd_nA]; exact hw) k
end GN
section GC0
variable {p : Program} {l : Launch} {e : Env} {R : Room} {s : State} {m : MethodId} {args : Array Value} {below : List Frame} {meth : Method} {c : Code} {D : va_G} {A : Nat → Prop} {nL cells slots : Nat} {Q : State → Prop}
variable {cc : ByteArray} {Ts : List Cond} {own : String} {tys : List (ClassId × FieldType)} {ws : va_W} {lv : List (Nat × Value)} {pc : Nat} {st st0 : List Value}
variable {y : MethodName} {wy : List Cond} {bytes : ByteArray} {maxL index n : Nat} {ret : Option FieldType} {rm : Room} {As : List Value}
theorem kept0 {H H1 : Heap} (hP : va_P D vwCl ws H) (hk : ∀ q : Nat, q < H.size → ¬ va_A [] H.size q → H1[q]? = H[q]?) : va_P D vwCl ws H1 := hP.kept (fun k q h => hk q.1 (hP k q h).lt (fun z => by
  rcases z with ⟨k2, e2, h2⟩ | h2
  · simp at h2
  · exact absurd (hP k q h).lt (Nat.not_lt.mpr h2)))
/-- a static method without a world -/
theorem ga_call0l (C : gC p s m args c cc nL Ts own D tys A) {post : Int64 → Unit → Prop} (hM : ctL l y wy rm D tys As [] post (fun _ => [])) (cw : CallB R s args own index y bytes maxL ret wy rm 0 0 n ∧ (Cond.static y).before args s = true) (hlen : As.length = n) (hst : st0 = As.reverse ++ st) (hroom : (st.map fun v => v.category).sum ≤ 8) (hd : decode cc pc = .ok (.invokestatic index, 3)) (hcap : cells ≤ R.cells ∧ slots ≤ R.slots)
    (k : ∀ r : Int64, post r () → gG p l e R s m args below meth c D A nL cells slots Q ws lv (pc + 3) (.long r :: st)) : gG p l e R s m args below meth c D A nL cells slots Q ws lv pc st0 := fun H lo ls hl hP hD hS => by
  have hpre : ∀ U : State, U.heap = H → s.WarmedH U.vm → va_Pc As (cB D tys [] H.size) As.toArray U := fun U hU hW => ⟨rfl, by rw [hU], fun k q h => by simp at h, va_K.moved hW.alike C.2.1, ⟨fun i j p q h => by simp at h, fun k q h => by simp at h⟩⟩
  have hFc : ∀ q, va_A [] H.size q → A q := fun q h => by
    rcases h with ⟨k2, e2, h2⟩ | h2
    · simp at h2
    · exact C.2.2 q (Nat.le_trans hS.1 h2)
  refine va_calll (va_runS (As := As) (rest := st) C.1 (hM H.size) cw ⟨cB_blind D tys [] H.size As, hpre⟩ rfl hlen hl.1 hst (lv_room hroom) hd hcap) hS (fun q _ h => hFc q h) hFc ?_
  intro r u t H1 locs ht hvm hp hB hz1 hk1 hS1
  exact k r hp H1 locs ls hl (kept0 hP hk1) hD hS1
theorem ga_call0i (C : gC p s m args c cc nL Ts own D tys A) {post : Int32 → Unit → Prop} (hM : ctI l y wy rm D tys As [] post (fun _ => [])) (cw : CallB R s args own index y bytes maxL ret wy rm 0 0 n ∧ (Cond.static y).before args s = true) (hlen : As.length = n) (hst : st0 = As.reverse ++ st) (hroom : (st.map fun v => v.category).sum ≤ 8) (hd : decode cc pc = .ok (.invokestatic index, 3)) (hcap : cells ≤ R.cells ∧ slots ≤ R.slots)
    (k : ∀ r : Int32, post r () → gG p l e R s m args below meth c D A nL cells slots Q ws lv (pc + 3) (.int r :: st)) : gG p l e R s m args below meth c D A nL cells slots Q ws lv pc st0 := fun H lo ls hl hP hD hS => by
  have hpre : ∀ U : State, U.heap = H → s.WarmedH U.vm → va_Pc As (cB D tys [] H.size) As.toArray U := fun U hU hW => ⟨rfl, by rw [hU], fun k q h => by simp at h, va_K.moved hW.alike C.2.1, ⟨fun i j p q h => by simp at h, fun k q h => by simp at h⟩⟩
  have hFc : ∀ q, va_A [] H.size q → A q := fun q h => by
    rcases h with ⟨k2, e2, h2⟩ | h2
    · simp at h2
    · exact C.2.2 q (Nat.le_trans hS.1 h2)
  refine va_calli (va_runS (As := As) (rest := st) C.1 (hM H.size) cw ⟨cB_blind D tys [] H.size As, hpre⟩ rfl hlen hl.1 hst (lv_room hroom) hd hcap) hS (fun q _ h => hFc q h) hFc ?_
  intro r u t H1 locs ht hvm hp hB hz1 hk1 hS1
  exact k r hp H1 locs ls hl (kept0 hP hk1) hD hS1
end GC0
/-! the worlds -/
abbrev ty3 (cI cJ cZ : ClassId) : List (ClassId × FieldType) := [(cI, .int), (cJ, .long), (cZ, .boolean)]
abbrev wB (q w : Nat) (cJ : ClassId) (f : Nat → Int64) : va_W := [(q, .inr (0, [.ref w])), (w, .inl (cJ, 800, .inr (.inl f)))]
abbrev wX (ad : Nat → Nat) (cI cJ cZ : ClassId) (T S D : Nat → Int64) (R O N Wt : Nat → Nat) (L : Nat → Int32) (P : Nat → Nat) (bl os kn : Nat) : va_W :=
  [(ad 0, .inr (1, [.ref (ad 1), .ref (ad 2), .ref (ad 3), .ref (ad 7), .ref (ad 8), .ref (ad 9), .ref (ad 10), .ref (ad 11), .ref (ad 12), .int (nI bl), .int (nI os), .int (nI kn)])),
   (ad 1, .inr (0, [.ref (ad 4)])), (ad 2, .inr (0, [.ref (ad 5)])), (ad 3, .inr (0, [.ref (ad 6)])),
   (ad 4, .inl (cJ, 800, .inr (.inl T))), (ad 5, .inl (cJ, 800, .inr (.inl S))), (ad 6, .inl (cJ, 800, .inr (.inl D))),
   (ad 7, .inl (cZ, 200, .inl (nA R))), (ad 8, .inl (cI, 200, .inl (nA O))), (ad 9, .inl (cI, 200, .inl (nA N))), (ad 10, .inl (cI, 200, .inl (nA Wt))), (ad 11, .inl (cI, 200, .inl L)), (ad 12, .inl (cI, 200, .inl (nA P)))]
abbrev wM (am : Nat → Nat) (cI cZ : ClassId) (on ba : Nat → Int32) (ik : Nat) (me un : Nat → Int32) (ra : Nat → Nat) (ne : Nat → Int32) (he de : Nat → Nat) (wa : Nat → Int32) (le : Nat → Nat) (n wt : Nat) : va_W :=
  [(am 0, .inr (2, [.int (nI n), .ref (am 1), .ref (am 2), .int (nI ik), .ref (am 3), .ref (am 4), .ref (am 5), .ref (am 6), .ref (am 7), .ref (am 8), .ref (am 9), .ref (am 10), .int (nI wt)])),
   (am 1, .inl (cI, 1400, .inl on)), (am 2, .inl (cI, 1400, .inl ba)), (am 3, .inl (cI, 7, .inl me)), (am 4, .inl (cI, 1400, .inl un)), (am 5, .inl (cI, 200, .inl (nA ra))), (am 6, .inl (cI, 200, .inl ne)),
   (am 7, .inl (cZ, 200, .inl (nA he))), (am 8, .inl (cI, 200, .inl (nA de))), (am 9, .inl (cI, 7, .inl wa)), (am 10, .inl (cI, 200, .inl (nA le)))]
end
section
/-! the family wb_ (begun from kit/laws/BITS.to-paste) -/
theorem wb_tb (n : Nat) : (lN n).toBitVec = BitVec.ofNat 64 n := rfl
theorem wb_inj {a b : Int64} (h : a.toBitVec = b.toBitVec) : a = b := Int64.toBitVec_inj.mp h
theorem wb_tn {n : Nat} (h : n < 2 ^ 64) : (lN n).toBitVec.toNat = n := by rw [wb_tb, BitVec.toNat_ofNat, Nat.mod_eq_of_lt h]
theorem wb_of (x : Int64) : ∃ n, n < 2 ^ 64 ∧ x = lN n := ⟨x.toBitVec.toNat, x.toBitVec.isLt, wb_inj (by rw [wb_tb]; simp)⟩
theorem wb_of32 (x : Int32) : ∃ n, n < 2 ^ 32 ∧ x = nI n := ⟨x.toBitVec.toNat, x.toBitVec.isLt, Int32.toBitVec_inj.mp (by show _ = BitVec.ofNat 32 _; simp)⟩
theorem wb_c : ∀ k, k < 64 → ((nI k).toInt64 &&& 63) = lN k := by decide +kernel
theorem wb_cu : ∀ k, k < 64 → ((nI k).toInt64.toUInt64 &&& Int64.toUInt64 63) = UInt64.ofNat k := by decide +kernel
theorem wb_sm : ∀ k, k < 64 → (BitVec.ofNat 64 k).smod 64 = BitVec.ofNat 64 k := by decide +kernel
theorem wb_pw {a b : Nat} (h : a ≤ b) : 2 ^ b = 2 ^ a * 2 ^ (b - a) := by rw [← Nat.pow_add]; congr 1; omega
theorem wb_lt2 {a b : Nat} (h : a < b) : 2 ^ a < 2 ^ b := Nat.pow_lt_pow_right (by decide) h
theorem wb_mod (n : Nat) : lN n = lN (n % 2 ^ 64) := wb_inj (by rw [wb_tb, wb_tb]; apply BitVec.eq_of_toNat_eq; rw [BitVec.toNat_ofNat, BitVec.toNat_ofNat, Nat.mod_mod])
theorem wb_shr {n k : Nat} (hn : n < 2 ^ 64) (hk : k < 64) : ((lN n).toUInt64 >>> ((nI k).toInt64.toUInt64 &&& Int64.toUInt64 63)).toInt64 = lN (n / 2 ^ k) := by
  rw [wb_cu k hk]
  apply wb_inj
  apply BitVec.eq_of_toNat_eq
  show ((lN n).toUInt64 >>> UInt64.ofNat k).toNat = (BitVec.ofNat 64 _).toNat
  have h1 : (UInt64.ofNat k).toNat = k := by
    show (BitVec.ofNat 64 k).toNat = k
    rw [BitVec.toNat_ofNat, Nat.mod_eq_of_lt (by omega)]
  have h2 : (lN n).toUInt64.toNat = n := wb_tn hn
  rw [UInt64.toNat_shiftRight, h1, h2, Nat.mod_eq_of_lt hk, Nat.shiftRight_eq_div_pow, BitVec.toNat_ofNat, Nat.mod_eq_of_lt (Nat.lt_of_le_of_lt (Nat.div_le_self _ _) hn)]
theorem wb_shl (n : Nat) {k : Nat} (hk : k < 64) : lN n <<< ((nI k).toInt64 &&& 63) = lN (n * 2 ^ k) := by
  rw [wb_c k hk]
  apply wb_inj
  rw [Int64.toBitVec_shiftLeft, wb_tb, wb_tb, wb_tb, wb_sm k hk]
  apply BitVec.eq_of_toNat_eq
  rw [BitVec.shiftLeft_eq', BitVec.toNat_shiftLeft, BitVec.toNat_ofNat, BitVec.toNat_ofNat, BitVec.toNat_ofNat, Nat.mod_eq_of_lt (show k < 2 ^ 64 by omega), Nat.shiftLeft_eq, Nat.mul_mod, Nat.mod_mod, ← Nat.mul_mod]
theorem wb_and {a b : Nat} (ha : a < 2 ^ 64) (hb : b < 2 ^ 64) : lN a &&& lN b = lN (a &&& b) := by
  apply wb_inj
  rw [Int64.toBitVec_and, wb_tb, wb_tb, wb_tb]
  apply BitVec.eq_of_toNat_eq
  rw [BitVec.toNat_and, BitVec.toNat_ofNat, BitVec.toNat_ofNat, BitVec.toNat_ofNat, Nat.mod_eq_of_lt ha, Nat.mod_eq_of_lt hb, Nat.mod_eq_of_lt (Nat.and_lt_two_pow _ hb)]
theorem wb_or {a b : Nat} (ha : a < 2 ^ 64) (hb : b < 2 ^ 64) : lN a ||| lN b = lN (a ||| b) := by
  apply wb_inj
  rw [Int64.toBitVec_or, wb_tb, wb_tb, wb_tb]
  apply BitVec.eq_of_toNat_eq
  rw [BitVec.toNat_or, BitVec.toNat_ofNat, BitVec.toNat_ofNat, BitVec.toNat_ofNat, Nat.mod_eq_of_lt ha, Nat.mod_eq_of_lt hb, Nat.mod_eq_of_lt (Nat.or_lt_two_pow ha hb)]
theorem wb_mask {n k : Nat} (hn : n < 2 ^ 64) (hk : k < 64) : lN n &&& lN (2 ^ k - 1) = lN (n % 2 ^ k) := by
  rw [wb_and hn (by have := wb_lt2 hk; omega), Nat.and_two_pow_sub_one_eq_mod]
theorem wb_a1 {n : Nat} (hn : n < 2 ^ 64) : lN n &&& 1 = lN (n % 2) := wb_mask (k := 1) hn (by decide)
/-! counting -/
noncomputable def cnP (P : Nat → Prop) : Nat → Nat
  | 0 => 0
  | n + 1 => cnP P n + @ite Nat (P n) (Classical.propDecidable _) 1 0
def cnb (f : Nat → Bool) : Nat → Nat
  | 0 => 0
  | n + 1 => cnb f n + (f n).toNat
theorem cnP_t {P : Nat → Prop} {n : Nat} (h : P n) : cnP P (n + 1) = cnP P n + 1 := by
  show cnP P n + @ite Nat (P n) (Classical.propDecidable _) 1 0 = _
  rw [if_pos h]
theorem cnP_f {P : Nat → Prop} {n : Nat} (h : ¬ P n) : cnP P (n + 1) = cnP P n := by
  show cnP P n + @ite Nat (P n) (Classical.propDecidable _) 1 0 = _
  rw [if_neg h]; rfl
theorem cnP_0 (P : Nat → Prop) : cnP P 0 = 0 := rfl
theorem cnP_congr {P Q : Nat → Prop} : ∀ {n : Nat}, (∀ k, k < n → (P k ↔ Q k)) → cnP P n = cnP Q n := by
  intro n
  induction n with
  | zero => intro _; rfl
  | succ n ih =>
    intro h
    have h1 := ih (fun k hk => h k (by omega))
    by_cases hp : P n
    · rw [cnP_t hp, cnP_t ((h n (by omega)).mp hp), h1]
    · rw [cnP_f hp, cnP_f (fun q => hp ((h n (by omega)).mpr q)), h1]
theorem cnP_le {P : Nat → Prop} : ∀ n : Nat, cnP P n ≤ n := by
  intro n
  induction n with
  | zero => exact Nat.le_refl _
  | succ n ih =>
    by_cases hp : P n
    · rw [cnP_t hp]; omega
    · rw [cnP_f hp]; omega
theorem cnP_mono {P Q : Nat → Prop} : ∀ {n : Nat}, (∀ k, k < n → P k → Q k) → cnP P n ≤ cnP Q n := by
  intro n
  induction n with
  | zero => intro _; exact Nat.le_refl _
  | succ n ih =>
    intro h
    have h1 := ih (fun k hk => h k (by omega))
    by_cases hp : P n
    · rw [cnP_t hp, cnP_t (h n (by omega) hp)]; omega
    · rw [cnP_f hp]
      by_cases hq : Q n
      · rw [cnP_t hq]; omega
      · rw [cnP_f hq]; exact h1
theorem cnP_lt {P Q : Nat → Prop} {a : Nat} : ∀ {n : Nat}, (∀ k, k < n → P k → Q k) → a < n → Q a → ¬ P a → cnP P n < cnP Q n := by
  intro n
  induction n with
  | zero => intro _ h; omega
  | succ n ih =>
    intro h ha hq hp
    by_cases e : a = n
    · subst e
      rw [cnP_f hp, cnP_t hq]
      have := cnP_mono (n := a) (fun k hk => h k (by omega))
      omega
    · have h1 := ih (fun k hk => h k (by omega)) (by omega) hq hp
      by_cases hp : P n
      · rw [cnP_t hp, cnP_t (h n (by omega) hp)]; omega
      · rw [cnP_f hp]
        by_cases hq : Q n
        · rw [cnP_t hq]; omega
        · rw [cnP_f hq]; exact h1
theorem cnP_add {P Q : Nat → Prop} {a : Nat} : ∀ {n : Nat}, (∀ k, k < n → (Q k ↔ P k ∨ k = a)) → a < n → ¬ P a → cnP Q n = cnP P n + 1 := by
  intro n
  induction n with
  | zero => intro _ h; omega
  | succ n ih =>
    intro h ha hp
    by_cases e : a = n
    · subst e
      rw [cnP_f hp, cnP_t ((h a (by omega)).mpr (Or.inr rfl))]
      have := cnP_congr (P := Q) (Q := P) (n := a) (fun k hk => by
        rw [h k (by omega)]
        exact ⟨fun z => z.elim id (fun z => by omega), Or.inl⟩)
      omega
    · have h1 := ih (fun k hk => h k (by omega)) (by omega) hp
      have hn := h n (by omega)
      by_cases hq : P n
      · rw [cnP_t hq, cnP_t (hn.mpr (Or.inl hq))]; omega
      · rw [cnP_f hq, cnP_f (fun z => (hn.mp z).elim hq (fun z => by omega))]; exact h1
theorem cnP_ext {P : Nat → Prop} {n m : Nat} (hnm : n ≤ m) (h : ∀ k, n ≤ k → k < m → ¬ P k) : cnP P m = cnP P n := by
  induction m with
  | zero => obtain rfl : n = 0 := by omega
            rfl
  | succ m ih =>
    by_cases e : n = m + 1
    · rw [e]
    · rw [cnP_f (h m (by omega) (by omega))]
      exact ih (by omega) (fun k h1 h2 => h k h1 (by omega))
theorem cnP_off {P : Nat → Prop} (a : Nat) : ∀ b : Nat, cnP P (a + b) = cnP P a + cnP (fun k => P (a + k)) b := by
  intro b
  induction b with
  | zero => rfl
  | succ b ih =>
    show cnP P (a + b + 1) = _
    by_cases h : P (a + b)
    · rw [cnP_t h, cnP_t (P := fun k => P (a + k)) h, ih]; omega
    · rw [cnP_f h, cnP_f (P := fun k => P (a + k)) h, ih]
theorem cnP_b (f : Nat → Bool) : ∀ n : Nat, cnP (fun k => f k = true) n = cnb f n := by
  intro n
  induction n with
  | zero => rfl
  | succ n ih =>
    show _ = cnb f n + (f n).toNat
    cases h : f n with
    | true => rw [cnP_t (P := fun k => f k = true) h, ih]; rfl
    | false => rw [cnP_f (P := fun k => f k = true) (by simp [h]), ih]; rfl
theorem cnP_pos {P : Nat → Prop} {n a : Nat} (ha : a < n) (h : P a) : 0 < cnP P n := by
  have h1 : cnP (fun _ => False) n < cnP P n := cnP_lt (P := fun _ => False) (a := a) (fun k hk q => q.elim) ha h (fun q => q)
  omega
/-! the bits' number of a word -/
theorem and256 {x c : Nat} (hx : x < 256) (hc : c < 256) (y z : Nat) : (x + 256 * y) &&& (c + 256 * z) = (x &&& c) + 256 * (y &&& z) := by
  apply Nat.eq_of_testBit_eq
  intro i
  have e : ∀ a b : Nat, a + 256 * b = 2 ^ 8 * b + a := fun a b => by omega
  have hxc : (x &&& c) < 2 ^ 8 := Nat.lt_of_le_of_lt Nat.and_le_left (by omega)
  rw [Nat.testBit_and, e, e, e, Nat.testBit_two_pow_mul_add _ (by omega), Nat.testBit_two_pow_mul_add _ (by omega), Nat.testBit_two_pow_mul_add _ hxc]
  by_cases h : i < 8 <;> simp [h]
def mk8 (c : Nat) : Nat → Nat
  | 0 => 0
  | k + 1 => c + 256 * mk8 c k
def mb (t : Nat → Nat) : Nat → Nat → Nat
  | 0, _ => 0
  | k + 1, n => t (n % 256) + 256 * mb t k (n / 256)
def t1 (b : Nat) : Nat := b - ((b / 2) &&& 85)
def t2 (b : Nat) : Nat := (b &&& 51) + ((b / 4) &&& 51)
def t3 (b : Nat) : Nat := (b + b / 16) &&& 15
def pop8 (b : Nat) : Nat := cnb (fun j => b.testBit j) 8
theorem t1_d : ∀ b, b < 256 → ∀ q, q < 2 → ((b / 2 + 128 * q) &&& 85) = ((b / 2) &&& 85) ∧ ((b / 2) &&& 85) ≤ b := by decide +kernel
theorem t2_d : ∀ b, b < 256 → ∀ q, q < 4 → ((b / 4 + 64 * q) &&& 51) = ((b / 4) &&& 51) := by decide +kernel
theorem t12_d : ∀ b, b < 256 → t1 b < 256 ∧ t2 b < 256 ∧ t2 (t1 b) % 16 ≤ 4 ∧ t2 (t1 b) / 16 ≤ 4 ∧ t3 (t2 (t1 b)) = pop8 b ∧ pop8 b ≤ 8 := by decide +kernel
theorem s1_mb : ∀ (k n : Nat), n < 256 ^ k → n - ((n / 2) &&& mk8 85 k) = mb t1 k n := by
  intro k
  induction k with
  | zero => intro n h; simp at h; subst h; rfl
  | succ k ih =>
    intro n h
    have hm : n / 256 < 256 ^ k := by rw [Nat.pow_succ] at h; omega
    have h1 := ih (n / 256) hm
    have hb : n % 256 < 256 := Nat.mod_lt _ (by decide)
    have e1 : n / 2 = (n % 256 / 2 + 128 * (n / 256 % 2)) + 256 * (n / 256 / 2) := by omega
    obtain ⟨d1, d2⟩ := t1_d (n % 256) hb (n / 256 % 2) (by omega)
    have e2 : (n / 2) &&& mk8 85 (k + 1) = ((n % 256 / 2) &&& 85) + 256 * ((n / 256 / 2) &&& mk8 85 k) := by
      rw [e1]
      show _ &&& (85 + 256 * mk8 85 k) = _
      rw [and256 (by omega) (by decide), d1]
    have h3 : (n / 256 / 2) &&& mk8 85 k ≤ n / 256 := Nat.le_trans Nat.and_le_left (by omega)
    show _ = t1 (n % 256) + 256 * mb t1 k (n / 256)
    rw [e2, ← h1]
    unfold t1
    omega
theorem mb_lt {t : Nat → Nat} (ht : ∀ b, b < 256 → t b < 256) : ∀ (k n : Nat), mb t k n < 256 ^ k := by
  intro k
  induction k with
  | zero => intro n; simp [mb]
  | succ k ih =>
    intro n
    have h1 := ih (n / 256)
    have h2 := ht (n % 256) (Nat.mod_lt _ (by decide))
    show t (n % 256) + 256 * mb t k (n / 256) < 256 ^ (k + 1)
    rw [Nat.pow_succ]
    omega
theorem s2_mb : ∀ (k n : Nat), n < 256 ^ k → (n &&& mk8 51 k) + ((n / 4) &&& mk8 51 k) = mb t2 k n := by
  intro k
  induction k with
  | zero => intro n h; simp at h; subst h; rfl
  | succ k ih =>
    intro n h
    have hm : n / 256 < 256 ^ k := by rw [Nat.pow_succ] at h; omega
    have h1 := ih (n / 256) hm
    have hb : n % 256 < 256 := Nat.mod_lt _ (by decide)
    have e0 : n = n % 256 + 256 * (n / 256) := by omega
    have e1 : n / 4 = (n % 256 / 4 + 64 * (n / 256 % 4)) + 256 * (n / 256 / 4) := by omega
    have d1 := t2_d (n % 256) hb (n / 256 % 4) (by omega)
    have e2 : (n / 4) &&& mk8 51 (k + 1) = ((n % 256 / 4) &&& 51) + 256 * ((n / 256 / 4) &&& mk8 51 k) := by
      rw [e1]
      show _ &&& (51 + 256 * mk8 51 k) = _
      rw [and256 (by omega) (by decide), d1]
    have e3 : n &&& mk8 51 (k + 1) = ((n % 256) &&& 51) + 256 * ((n / 256) &&& mk8 51 k) := by
      show n &&& (51 + 256 * mk8 51 k) = _
      conv => lhs; rw [e0]
      rw [and256 (by omega) (by decide)]
    show _ = t2 (n % 256) + 256 * mb t2 k (n / 256)
    rw [e2, e3, ← h1]
    unfold t2
    omega
theorem mb_mb {t u : Nat → Nat} (ht : ∀ b, b < 256 → t b < 256) : ∀ (k n : Nat), mb u k (mb t k n) = mb (fun b => u (t b)) k n := by
  intro k
  induction k with
  | zero => intro n; rfl
  | succ k ih =>
    intro n
    have h2 := ht (n % 256) (Nat.mod_lt _ (by decide))
    show u ((t (n % 256) + 256 * mb t k (n / 256)) % 256) + 256 * mb u k ((t (n % 256) + 256 * mb t k (n / 256)) / 256) = _
    rw [show (t (n % 256) + 256 * mb t k (n / 256)) % 256 = t (n % 256) by omega, show (t (n % 256) + 256 * mb t k (n / 256)) / 256 = mb t k (n / 256) by omega, ih]
    rfl
theorem s3_mb {t : Nat → Nat} (ht : ∀ b, b < 256 → t b % 16 ≤ 4 ∧ t b / 16 ≤ 4) : ∀ (k n : Nat), (mb t k n + mb t k n / 16) &&& mk8 15 k = mb (fun b => t3 (t b)) k n := by
  intro k
  induction k with
  | zero => intro n; simp [mb, mk8]
  | succ k ih =>
    intro n
    obtain ⟨h1, h2⟩ := ht (n % 256) (Nat.mod_lt _ (by decide))
    have hm : mb t k (n / 256) % 16 ≤ 4 := by
      cases k with
      | zero => simp [mb]
      | succ k =>
        have := (ht (n / 256 % 256) (Nat.mod_lt _ (by decide))).1
        show (t (n / 256 % 256) + 256 * mb t k (n / 256 / 256)) % 16 ≤ 4
        omega
    have h4 := ih (n / 256)
    show (t (n % 256) + 256 * mb t k (n / 256) + (t (n % 256) + 256 * mb t k (n / 256)) / 16) &&& (15 + 256 * mk8 15 k) = t3 (t (n % 256)) + 256 * mb (fun b => t3 (t b)) k (n / 256)
    rw [← h4]
    generalize t (n % 256) = b at *
    generalize mb t k (n / 256) = q at *
    rw [show b + 256 * q + (b + 256 * q) / 16 = (b + b / 16 + 16 * (q % 16)) + 256 * (q + q / 16) by omega, and256 (by omega) (by decide)]
    have e : (b + b / 16 + 16 * (q % 16)) &&& 15 = t3 b := by
      unfold t3
      rw [show (15 : Nat) = 2 ^ 4 - 1 from rfl, Nat.and_two_pow_sub_one_eq_mod, Nat.and_two_pow_sub_one_eq_mod]
      omega
    rw [e]
def sd (k n : Nat) : Nat := match k with
  | 0 => 0
  | k + 1 => pop8 (n % 256) + sd k (n / 256)
def pcA (n : Nat) : Nat := n - ((n / 2 ^ 1) &&& 6148914691236517205)
def pcB (n : Nat) : Nat := (n &&& 3689348814741910323) + ((n / 2 ^ 2) &&& 3689348814741910323)
def pcC (n : Nat) : Nat := (n + n / 2 ^ 4) &&& 1085102592571150095
theorem pc_abc {n : Nat} (h : n < 2 ^ 64) : pcC (pcB (pcA n)) = mb pop8 8 n ∧ pcA n < 2 ^ 64 ∧ pcB (pcA n) < 2 ^ 63 := by
  have hn : n < 256 ^ 8 := by simpa using h
  have hA : pcA n = mb t1 8 n := s1_mb 8 n hn
  have hl1 : mb t1 8 n < 256 ^ 8 := mb_lt (fun b hb => (t12_d b hb).1) 8 n
  have hB : pcB (pcA n) = mb (fun b => t2 (t1 b)) 8 n := by
    rw [hA]
    have := s2_mb 8 (mb t1 8 n) hl1
    rw [mb_mb (fun b hb => (t12_d b hb).1)] at this
    exact this
  refine ⟨?_, by rw [hA]; simpa using hl1, ?_⟩
  · rw [hB]
    have h3 := s3_mb (t := fun b => t2 (t1 b)) (fun b hb => ⟨(t12_d b hb).2.2.1, (t12_d b hb).2.2.2.1⟩) 8 n
    have h4 : mb (fun b => t3 (t2 (t1 b))) 8 n = mb pop8 8 n := by
      have : ∀ k n, mb (fun b => t3 (t2 (t1 b))) k n = mb pop8 k n := by
        intro k
        induction k with
        | zero => intro n; rfl
        | succ k ih =>
          intro n
          show t3 (t2 (t1 (n % 256))) + 256 * mb (fun b => t3 (t2 (t1 b))) k (n / 256) = pop8 (n % 256) + 256 * mb pop8 k (n / 256)
          rw [ih, (t12_d (n % 256) (Nat.mod_lt _ (by decide))).2.2.2.2.1]
      exact this 8 n
    rw [← h4]
    exact h3
  · rw [hB]
    have key : ∀ k n, mb (fun b => t2 (t1 b)) k n * 15 + 4 ≤ 4 * 256 ^ k := by
      intro k
      induction k with
      | zero => intro n; simp [mb]
      | succ k ih =>
        intro n
        have h1 := ih (n / 256)
        obtain ⟨_, _, d1, d2, _⟩ := t12_d (n % 256) (Nat.mod_lt _ (by decide))
        show (t2 (t1 (n % 256)) + 256 * mb (fun b => t2 (t1 b)) k (n / 256)) * 15 + 4 ≤ 4 * 256 ^ (k + 1)
        rw [Nat.pow_succ]
        omega
    have h5 := key 8 n
    have h6 : (256 : Nat) ^ 8 = 18446744073709551616 := by decide
    rw [h6] at h5
    omega
theorem sd_eq {p0 p1 p2 p3 p4 p5 p6 p7 : Nat} (h0 : p0 ≤ 8) (h1 : p1 ≤ 8) (h2 : p2 ≤ 8) (h3 : p3 ≤ 8) (h4 : p4 ≤ 8) (h5 : p5 ≤ 8) (h6 : p6 ≤ 8) (h7 : p7 ≤ 8) {a b c d : Nat} (ha : a = p0 + 256 * (p1 + 256 * (p2 + 256 * (p3 + 256 * (p4 + 256 * (p5 + 256 * (p6 + 256 * (p7 + 256 * 0)))))))) (hb : b = a + a / 2 ^ 8) (hc : c = b + b / 2 ^ 16) (hd : d = c + c / 2 ^ 32) : a < 2 ^ 60 ∧ b < 2 ^ 61 ∧ c < 2 ^ 62 ∧ d < 2 ^ 63 ∧ d % 128 = p0 + (p1 + (p2 + (p3 + (p4 + (p5 + (p6 + (p7 + 0))))))) := by
  obtain ⟨a7, e7⟩ : ∃ x, x = p7 + 256 * 0 := ⟨_, rfl⟩
  rw [← e7] at ha
  obtain ⟨a6, e6⟩ : ∃ x, x = p6 + 256 * a7 := ⟨_, rfl⟩
  rw [← e6] at ha
  obtain ⟨a5, e5⟩ : ∃ x, x = p5 + 256 * a6 := ⟨_, rfl⟩
  rw [← e5] at ha
  obtain ⟨a4, e4⟩ : ∃ x, x = p4 + 256 * a5 := ⟨_, rfl⟩
  rw [← e4] at ha
  obtain ⟨a3, e3⟩ : ∃ x, x = p3 + 256 * a4 := ⟨_, rfl⟩
  rw [← e3] at ha
  obtain ⟨a2, e2⟩ : ∃ x, x = p2 + 256 * a3 := ⟨_, rfl⟩
  rw [← e2] at ha
  obtain ⟨a1, e1⟩ : ∃ x, x = p1 + 256 * a2 := ⟨_, rfl⟩
  rw [← e1] at ha
  have l7 : a7 ≤ 8 := by clear hb hc hd ha; omega
  have l6 : a6 ≤ 2056 := by clear hb hc hd ha; omega
  have l5 : a5 ≤ 526344 := by clear hb hc hd ha; omega
  have l4 : a4 ≤ 134744072 := by clear hb hc hd ha; omega
  have l3 : a3 ≤ 34494482440 := by clear hb hc hd ha; omega
  have l2 : a2 ≤ 8830587504648 := by clear hb hc hd ha; omega
  have l1 : a1 ≤ 2260630401189896 := by clear hb hc hd ha; omega
  have la : a ≤ 578721382704613384 := by clear hb hc hd; omega
  have d1 : a / 2 ^ 8 = a1 := by clear hb hc hd e1 e2 e3 e4 e5 e6 e7; omega
  rw [d1] at hb
  have f1 : b = (p0 + p1) + 256 * (p1 + p2) + 65536 * (a2 + a3) := by clear hc hd e3 e4 e5 e6 e7 d1; omega
  have d2 : b / 2 ^ 16 = a2 + a3 := by clear hc hd e1 e2 e3 e4 e5 e6 e7 d1 hb ha; omega
  rw [d2] at hc
  have g4 : a4 + a5 = (p4 + p5) + 256 * (a5 + a6) := by clear hc hd hb ha d1 d2 f1 e1 e2 e3 e6 e7; omega
  have f2 : c = (p0 + p1 + p2 + p3) + 256 * (p1 + p2 + p3 + p4) + 65536 * (a2 + a3 + a4 + a5) := by clear hd d1 d2 hb ha e1 e5 e6 e7 g4; omega
  have f3 : a2 + a3 + a4 + a5 = (p2 + p3 + p4 + p5) + 256 * (p3 + p4 + p5 + p6) + 65536 * (a4 + a5 + a6 + a7) := by clear hc hd hb ha d1 d2 f1 f2 e1 e7 g4; omega
  have d3 : c / 2 ^ 32 = a4 + a5 + a6 + a7 := by clear hc hd hb ha d1 d2 f1 e1 e2 e3 e4 e5 e6 e7 g4; omega
  rw [d3] at hd
  have f4 : a4 + a5 + a6 + a7 = (p4 + p5 + p6 + p7) + 256 * (a5 + a6 + a7) := by clear hc hd hb ha d1 d2 f1 f2 f3 e1 e2 e3 g4 d3; omega
  have f5 : d % 128 = p0 + (p1 + (p2 + (p3 + (p4 + (p5 + (p6 + (p7 + 0))))))) := by clear hc hb ha d1 d2 f1 f3 e1 e2 e3 e4 e5 e6 e7 g4 d3 la l1 l2 l3 l4 l5 l6 l7; omega
  refine ⟨?_, ?_, ?_, ?_, f5⟩
  · clear hc hd hb ha d1 d2 f1 f2 f3 f4 f5 e1 e2 e3 e4 e5 e6 e7 g4 d3; omega
  · clear hc hd ha d1 d2 f1 f2 f3 f4 f5 e1 e2 e3 e4 e5 e6 e7 g4 d3; omega
  · clear hd ha d1 d2 f1 f2 f3 f4 f5 e1 e2 e3 e4 e5 e6 e7 g4 d3; omega
  · clear ha d1 d2 f1 f2 f3 f4 f5 e1 e2 e3 e4 e5 e6 e7 g4 d3; omega
theorem sd_cn : ∀ (k n : Nat), sd k n = cnP (fun j => n.testBit j = true) (8 * k) := by
  intro k
  induction k with
  | zero => intro n; rfl
  | succ k ih =>
    intro n
    show pop8 (n % 256) + sd k (n / 256) = _
    rw [ih, show 8 * (k + 1) = 8 + 8 * k by omega, cnP_off]
    congr 1
    · unfold pop8
      rw [← cnP_b]
      apply cnP_congr
      intro j hj
      rw [show (256 : Nat) = 2 ^ 8 from rfl, Nat.testBit_mod_two_pow]
      simp [hj]
    · apply cnP_congr
      intro j hj
      rw [show (256 : Nat) = 2 ^ 8 from rfl, Nat.testBit_div_two_pow, Nat.add_comm]
def pcD (n : Nat) : Nat := n + n / 2 ^ 8
def pcE (n : Nat) : Nat := n + n / 2 ^ 16
def pcF (n : Nat) : Nat := n + n / 2 ^ 32
theorem pc_all {n : Nat} (h : n < 2 ^ 64) : pcC (pcB (pcA n)) < 2 ^ 60 ∧ pcD (pcC (pcB (pcA n))) < 2 ^ 61 ∧ pcE (pcD (pcC (pcB (pcA n)))) < 2 ^ 62 ∧ pcF (pcE (pcD (pcC (pcB (pcA n))))) < 2 ^ 63 ∧ pcF (pcE (pcD (pcC (pcB (pcA n))))) % 128 = cnP (fun j => n.testBit j = true) 64 := by
  have hp : ∀ b, pop8 (b % 256) ≤ 8 := fun b => (t12_d (b % 256) (Nat.mod_lt _ (by decide))).2.2.2.2.2
  have h1 := (pc_abc h).1
  have h2 := sd_eq (hp n) (hp (n / 256)) (hp (n / 256 / 256)) (hp (n / 256 / 256 / 256)) (hp (n / 256 / 256 / 256 / 256)) (hp (n / 256 / 256 / 256 / 256 / 256)) (hp (n / 256 / 256 / 256 / 256 / 256 / 256)) (hp (n / 256 / 256 / 256 / 256 / 256 / 256 / 256)) (a := pcC (pcB (pcA n))) (b := pcD (pcC (pcB (pcA n)))) (c := pcE (pcD (pcC (pcB (pcA n))))) (d := pcF (pcE (pcD (pcC (pcB (pcA n)))))) (by rw [h1]; rfl) rfl rfl rfl
  refine ⟨h2.1, h2.2.1, h2.2.2.1, h2.2.2.2.1, ?_⟩
  rw [h2.2.2.2.2]
  have h3 := sd_cn 8 n
  rw [← show sd 8 n = _ from rfl] at *
  exact h3
/-! the lowest bit -/
theorem low_bit {n r q : Nat} (hr : r < 64) (hn : n = 2 ^ r * (2 * q + 1)) (hl : n < 2 ^ 64) : n &&& (2 ^ 64 - n) = 2 ^ r := by
  have hq : q < 2 ^ (63 - r) := by
    apply Nat.lt_of_not_le
    intro h
    have : 2 ^ 64 ≤ n := by
      rw [hn, show 64 = r + (63 - r + 1) by omega, Nat.pow_add, Nat.pow_succ]
      apply Nat.mul_le_mul_left
      omega
    omega
  have e : 2 ^ 64 - n = 2 ^ r * (2 * (2 ^ (63 - r) - (q + 1)) + 1) := by
    have h1 : 2 ^ 64 = 2 ^ r * (2 * 2 ^ (63 - r)) := by
      conv => lhs; rw [show 64 = r + (63 - r + 1) by omega, Nat.pow_add, Nat.pow_succ]
      rw [Nat.mul_comm (2 ^ (63 - r)) 2]
    rw [hn]
    conv => lhs; rw [h1]
    rw [← Nat.mul_sub]
    congr 1
    omega
  apply Nat.eq_of_testBit_eq
  intro i
  rw [Nat.testBit_and, e, hn, Nat.testBit_two_pow_mul, Nat.testBit_two_pow_mul, Nat.testBit_two_pow]
  by_cases h : r ≤ i
  · obtain ⟨d, rfl⟩ : ∃ d, i = r + d := ⟨i - r, by omega⟩
    cases d with
    | zero => simp
    | succ d =>
      have e1 : (2 * q + 1).testBit (d + 1) = q.testBit d := by rw [Nat.testBit_add_one]; congr 1; omega
      have e2 : (2 * (2 ^ (63 - r) - (q + 1)) + 1).testBit (d + 1) = (2 ^ (63 - r) - (q + 1)).testBit d := by rw [Nat.testBit_add_one]; congr 1; omega
      rw [show r + (d + 1) - r = d + 1 by omega, e1, e2, Nat.testBit_two_pow_sub_succ hq]
      have hne : ¬ r = r + (d + 1) := by omega
      simp
      intro h1 h2
      exact h1
  · have h2 : ¬ r = i := by omega
    simp [h, h2]
theorem low_ex {n : Nat} (h0 : n ≠ 0) (hl : n < 2 ^ 64) : ∃ r q, r < 64 ∧ n = 2 ^ r * (2 * q + 1) ∧ n.testBit r = true ∧ ∀ j, j < r → n.testBit j = false := by
  obtain ⟨r, hr, hm⟩ := pk_least (fun i => n.testBit i = true) (Nat.exists_testBit_of_ne_zero h0)
  have hm' : ∀ j, j < r → n.testBit j = false := fun j hj => by
    cases h : n.testBit j with
    | true => exact absurd h (hm j hj)
    | false => rfl
  have hr64 : r < 64 := by
    apply Nat.lt_of_not_le
    intro h
    have : n < 2 ^ r := Nat.lt_of_lt_of_le hl (Nat.pow_le_pow_right (by decide) h)
    rw [Nat.testBit_lt_two_pow this] at hr
    cases hr
  have hmod : n % 2 ^ r = 0 := by
    apply Nat.eq_of_testBit_eq
    intro i
    rw [Nat.testBit_mod_two_pow, Nat.zero_testBit]
    by_cases h : i < r
    · rw [hm' i h]; simp
    · simp [h]
  have hodd : n / 2 ^ r % 2 = 1 := by
    have h1 : (n / 2 ^ r).testBit 0 = true := by rw [Nat.testBit_div_two_pow, Nat.zero_add]; exact hr
    rw [Nat.testBit_zero] at h1
    simpa using h1
  refine ⟨r, n / 2 ^ r / 2, hr64, ?_, hr, hm'⟩
  have h1 := Nat.div_add_mod n (2 ^ r)
  rw [hmod, Nat.add_zero] at h1
  have h2 : 2 * (n / 2 ^ r / 2) + 1 = n / 2 ^ r := by omega
  rw [h2]
  exact h1.symm
theorem cn_low {r : Nat} (hr : r < 64) : cnP (fun j => (2 ^ r - 1).testBit j = true) 64 = r := by
  have h1 : ∀ r, cnP (fun j => j < r) r = r := by
    intro r
    have key : ∀ a, a ≤ r → cnP (fun j => j < r) a = a := by
      intro a
      induction a with
      | zero => intro _; rfl
      | succ a ih =>
        intro h
        rw [cnP_t (P := fun j => j < r) (by omega), ih (by omega)]
    exact key r (Nat.le_refl _)
  have h2 : cnP (fun j => (2 ^ r - 1).testBit j = true) 64 = cnP (fun j => j < r) 64 := cnP_congr (fun k _ => by simp)
  rw [h2, cnP_ext (n := r) (m := 64) (by omega) (fun k h1 h2 => by omega), h1]
/-! words as numbers -/
def uJ (x : Int64) : Nat := x.toBitVec.toNat
def uI (x : Int32) : Nat := x.toBitVec.toNat
theorem uJ_lt (x : Int64) : uJ x < 2 ^ 64 := x.toBitVec.isLt
theorem uI_lt (x : Int32) : uI x < 2 ^ 32 := x.toBitVec.isLt
theorem uJ_lN {n : Nat} (h : n < 2 ^ 64) : uJ (lN n) = n := wb_tn h
theorem lN_uJ (x : Int64) : lN (uJ x) = x := wb_inj (by rw [wb_tb]; simp [uJ])
theorem uJ_inj {x y : Int64} (h : uJ x = uJ y) : x = y := by rw [← lN_uJ x, ← lN_uJ y, h]
theorem uI_inj {x y : Int32} (h : uI x = uI y) : x = y := Int32.toBitVec_inj.mp (BitVec.eq_of_toNat_eq h)
theorem uJ_and (x y : Int64) : uJ (x &&& y) = (uJ x &&& uJ y) := by simp [uJ]
theorem uJ_or (x y : Int64) : uJ (x ||| y) = (uJ x ||| uJ y) := by simp [uJ]
theorem uJ_xor (x y : Int64) : uJ (x ^^^ y) = (uJ x ^^^ uJ y) := by simp [uJ]
theorem uI_and (x y : Int32) : uI (x &&& y) = (uI x &&& uI y) := by simp [uI]
theorem uI_or (x y : Int32) : uI (x ||| y) = (uI x ||| uI y) := by simp [uI]
theorem uI_xor (x y : Int32) : uI (x ^^^ y) = (uI x ^^^ uI y) := by simp [uI]
theorem uJ_neg (x : Int64) : uJ (-x) = (2 ^ 64 - uJ x) % 2 ^ 64 := by simp [uJ]
theorem uJ_0 : uJ 0 = 0 := rfl
theorem uI_0 : uI 0 = 0 := rfl
theorem uJ_m1 : uJ (-1) = 2 ^ 64 - 1 := by decide
theorem uI_m1 : uI (-1) = 2 ^ 32 - 1 := by decide
theorem uI_nI {n : Nat} (h : n < 2 ^ 32) : uI (nI n) = n := pk_tn h
theorem uJ_bit : ∀ k, k < 256 → uJ ((1 : Int64) <<< ((nI k).toInt64 &&& 63)) = 2 ^ (k % 64) := by decide +kernel
theorem uJ_mask : ∀ k, k < 256 → uJ ((-1 : Int64) <<< ((nI k).toInt64 &&& 63)) = 2 ^ 64 - 2 ^ (k % 64) := by decide +kernel
theorem uI_bit : ∀ k, k < 32 → uI (nI 1 <<< (nI k &&& 31)) = 2 ^ k := by decide +kernel
theorem uJ_ne0 {x : Int64} (h : ¬ x = 0) : uJ x ≠ 0 := fun q => h (uJ_inj q)
theorem lcmp0 (x y : Int64) : lg_cmp x y = 0 ↔ x = y := by
  unfold lg_cmp
  by_cases h : x > y
  · rw [if_pos h]
    constructor
    · intro q; exact absurd q (by decide)
    · intro q; subst q; exact absurd h (fun z => Int64.lt_irrefl z)
  · rw [if_neg h]
    by_cases h2 : x = y
    · rw [if_pos h2]; exact ⟨fun _ => h2, fun _ => rfl⟩
    · rw [if_neg h2]
      constructor
      · intro q; exact absurd q (by decide)
      · intro q; exact absurd q h2
def bj (f : Nat → Int64) (r b : Nat) : Bool := (uJ (f (r * 4 + b / 64))).testBit (b % 64)
def bi (f : Nat → Int32) (r b : Nat) : Bool := (uI (f (r * 7 + b / 32))).testBit (b % 32)
theorem mask_tb {k j : Nat} (hk : k < 64) (hj : j < 64) : (2 ^ 64 - 2 ^ k).testBit j = decide (k ≤ j) := by
  have e : 2 ^ 64 - 2 ^ k = 2 ^ 64 - ((2 ^ k - 1) + 1) := by
    have := Nat.pow_pos (n := k) (show 0 < 2 by decide)
    omega
  have hl : 2 ^ k - 1 < 2 ^ 64 := by
    have := Nat.pow_lt_pow_right (show 1 < 2 by decide) hk
    omega
  rw [e, Nat.testBit_two_pow_sub_succ hl, Nat.testBit_two_pow_sub_one]
  by_cases h : k ≤ j <;> simp [h, hj] <;> omega
end
section
section GW
variable {p : Program} {l : Launch} {e : Env} {R : Room} {s : State} {m : MethodId} {args : Array Value} {below : List Frame} {meth : Method} {c : Code} {G : va_G} {A : Nat → Prop} {nL cells slots : Nat} {Q : State → Prop}
variable {cc : ByteArray} {Ts : List Cond} {own : String} {lv : List (Nat × Value)} {pc index : Nat} {st st0 : List Value} {cI cJ cZ : ClassId}
theorem gb_get {q w : Nat} {f : Nat → Int64} (C : gC p s m args c cc nL Ts own G (ty3 cI cJ cZ) A) (hin : ∀ w ∈ wsX00, w ∈ Ts) (hlink : Cond.fieldLink own index (TX0 0).1 (TX0 0).2.1 (TX0 0).2.2.1 ∈ Ts) (hd : decode cc pc = .ok (.getfield index, 3)) (k : gG p l e R s m args below meth c G A nL cells slots Q (wB q w cJ f) (lv) (pc + 3) (.ref w :: st)) : gG p l e R s m args below meth c G A nL cells slots Q (wB q w cJ f) (lv) (pc) (.ref (q) :: st) := ga_get C hin 0 rfl rfl 0 (by decide) hlink rfl rfl hd k
theorem gb_ald {q w : Nat} {f : Nat → Int64} {i : Nat} (C : gC p s m args c cc nL Ts own G (ty3 cI cJ cZ) A) (hi : i < 800) (hd : decode cc pc = .ok (.laload, 1)) (k : gG p l e R s m args below meth c G A nL cells slots Q (wB q w cJ f) (lv) (pc + 1) (.long (f i) :: st)) : gG p l e R s m args below meth c G A nL cells slots Q (wB q w cJ f) (lv) (pc) (.int (nI i) :: .ref w :: st) := ga_lald C 1 1 rfl rfl hi (by decide) hd k
theorem gb_ast {q w : Nat} {f : Nat → Int64} {i : Nat} {x : Int64} (C : gC p s m args c cc nL Ts own G (ty3 cI cJ cZ) A) (hi : i < 800) (hd : decode cc pc = .ok (.lastore, 1)) (k : gG p l e R s m args below meth c G A nL cells slots Q (wB q w cJ (vp_updL f i x)) (lv) (pc + 1) (st)) : gG p l e R s m args below meth c G A nL cells slots Q (wB q w cJ f) (lv) (pc) (.long x :: .int (nI i) :: .ref w :: st) := ga_last C 1 1 rfl rfl hi (by decide) hd rfl k
theorem gx_get_T {ad : Nat → Nat} {T S D : Nat → Int64} {Re O N Wt : Nat → Nat} {L : Nat → Int32} {P : Nat → Nat} {bl os kn : Nat} (C : gC p s m args c cc nL Ts own G (ty3 cI cJ cZ) A) (hin : ∀ w ∈ wsX10, w ∈ Ts) (hlink : Cond.fieldLink own index (TX1 0).1 (TX1 0).2.1 (TX1 0).2.2.1 ∈ Ts) (hd : decode cc pc = .ok (.getfield index, 3)) (k : gG p l e R s m args below meth c G A nL cells slots Q (wX ad cI cJ cZ T S D Re O N Wt L P bl os kn) (lv) (pc + 3) (.ref (ad 1) :: st)) : gG p l e R s m args below meth c G A nL cells slots Q (wX ad cI cJ cZ T S D Re O N Wt L P bl os kn) (lv) (pc) (.ref (ad 0) :: st) := ga_get C hin 0 rfl rfl 0 (by decide) hlink rfl rfl hd k
theorem gx_get_S {ad : Nat → Nat} {T S D : Nat → Int64} {Re O N Wt : Nat → Nat} {L : Nat → Int32} {P : Nat → Nat} {bl os kn : Nat} (C : gC p s m args c cc nL Ts own G (ty3 cI cJ cZ) A) (hin : ∀ w ∈ wsX10, w ∈ Ts) (hlink : Cond.fieldLink own index (TX1 1).1 (TX1 1).2.1 (TX1 1).2.2.1 ∈ Ts) (hd : decode cc pc = .ok (.getfield index, 3)) (k : gG p l e R s m args below meth c G A nL cells slots Q (wX ad cI cJ cZ T S D Re O N Wt L P bl os kn) (lv) (pc + 3) (.ref (ad 2) :: st)) : gG p l e R s m args below meth c G A nL cells slots Q (wX ad cI cJ cZ T S D Re O N Wt L P bl os kn) (lv) (pc) (.ref (ad 0) :: st) := ga_get C hin 0 rfl rfl 1 (by decide) hlink rfl rfl hd k
theorem gx_get_D {ad : Nat → Nat} {T S D : Nat → Int64} {Re O N Wt : Nat → Nat} {L : Nat → Int32} {P : Nat → Nat} {bl os kn : Nat} (C : gC p s m args c cc nL Ts own G (ty3 cI cJ cZ) A) (hin : ∀ w ∈ wsX10, w ∈ Ts) (hlink : Cond.fieldLink own index (TX1 2).1 (TX1 2).2.1 (TX1 2).2.2.1 ∈ Ts) (hd : decode cc pc = .ok (.getfield index, 3)) (k : gG p l e R s m args below meth c G A nL cells slots Q (wX ad cI cJ cZ T S D Re O N Wt L P bl os kn) (lv) (pc + 3) (.ref (ad 3) :: st)) : gG p l e R s m args below meth c G A nL cells slots Q (wX ad cI cJ cZ T S D Re O N Wt L P bl os kn) (lv) (pc) (.ref (ad 0) :: st) := ga_get C hin 0 rfl rfl 2 (by decide) hlink rfl rfl hd k
theorem gx_get_Re {ad : Nat → Nat} {T S D : Nat → Int64} {Re O N Wt : Nat → Nat} {L : Nat → Int32} {P : Nat → Nat} {bl os kn : Nat} (C : gC p s m args c cc nL Ts own G (ty3 cI cJ cZ) A) (hin : ∀ w ∈ wsX10, w ∈ Ts) (hlink : Cond.fieldLink own index (TX1 3).1 (TX1 3).2.1 (TX1 3).2.2.1 ∈ Ts) (hd : decode cc pc = .ok (.getfield index, 3)) (k : gG p l e R s m args below meth c G A nL cells slots Q (wX ad cI cJ cZ T S D Re O N Wt L P bl os kn) (lv) (pc + 3) (.ref (ad 7) :: st)) : gG p l e R s m args below meth c G A nL cells slots Q (wX ad cI cJ cZ T S D Re O N Wt L P bl os kn) (lv) (pc) (.ref (ad 0) :: st) := ga_get C hin 0 rfl rfl 3 (by decide) hlink rfl rfl hd k
theorem gx_get_O {ad : Nat → Nat} {T S D : Nat → Int64} {Re O N Wt : Nat → Nat} {L : Nat → Int32} {P : Nat → Nat} {bl os kn : Nat} (C : gC p s m args c cc nL Ts own G (ty3 cI cJ cZ) A) (hin : ∀ w ∈ wsX10, w ∈ Ts) (hlink : Cond.fieldLink own index (TX1 4).1 (TX1 4).2.1 (TX1 4).2.2.1 ∈ Ts) (hd : decode cc pc = .ok (.getfield index, 3)) (k : gG p l e R s m args below meth c G A nL cells slots Q (wX ad cI cJ cZ T S D Re O N Wt L P bl os kn) (lv) (pc + 3) (.ref (ad 8) :: st)) : gG p l e R s m args below meth c G A nL cells slots Q (wX ad cI cJ cZ T S D Re O N Wt L P bl os kn) (lv) (pc) (.ref (ad 0) :: st) := ga_get C hin 0 rfl rfl 4 (by decide) hlink rfl rfl hd k
theorem gx_get_N {ad : Nat → Nat} {T S D : Nat → Int64} {Re O N Wt : Nat → Nat} {L : Nat → Int32} {P : Nat → Nat} {bl os kn : Nat} (C : gC p s m args c cc nL Ts own G (ty3 cI cJ cZ) A) (hin : ∀ w ∈ wsX10, w ∈ Ts) (hlink : Cond.fieldLink own index (TX1 5).1 (TX1 5).2.1 (TX1 5).2.2.1 ∈ Ts) (hd : decode cc pc = .ok (.getfield index, 3)) (k : gG p l e R s m args below meth c G A nL cells slots Q (wX ad cI cJ cZ T S D Re O N Wt L P bl os kn) (lv) (pc + 3) (.ref (ad 9) :: st)) : gG p l e R s m args below meth c G A nL cells slots Q (wX ad cI cJ cZ T S D Re O N Wt L P bl os kn) (lv) (pc) (.ref (ad 0) :: st) := ga_get C hin 0 rfl rfl 5 (by decide) hlink rfl rfl hd k
theorem gx_get_Wt {ad : Nat → Nat} {T S D : Nat → Int64} {Re O N Wt : Nat → Nat} {L : Nat → Int32} {P : Nat → Nat} {bl os kn : Nat} (C : gC p s m args c cc nL Ts own G (ty3 cI cJ cZ) A) (hin : ∀ w ∈ wsX10, w ∈ Ts) (hlink : Cond.fieldLink own index (TX1 6).1 (TX1 6).2.1 (TX1 6).2.2.1 ∈ Ts) (hd : decode cc pc = .ok (.getfield index, 3)) (k : gG p l e R s m args below meth c G A nL cells slots Q (wX ad cI cJ cZ T S D Re O N Wt L P bl os kn) (lv) (pc + 3) (.ref (ad 10) :: st)) : gG p l e R s m args below meth c G A nL cells slots Q (wX ad cI cJ cZ T S D Re O N Wt L P bl os kn) (lv) (pc) (.ref (ad 0) :: st) := ga_get C hin 0 rfl rfl 6 (by decide) hlink rfl rfl hd k
theorem gx_get_L {ad : Nat → Nat} {T S D : Nat → Int64} {Re O N Wt : Nat → Nat} {L : Nat → Int32} {P : Nat → Nat} {bl os kn : Nat} (C : gC p s m args c cc nL Ts own G (ty3 cI cJ cZ) A) (hin : ∀ w ∈ wsX10, w ∈ Ts) (hlink : Cond.fieldLink own index (TX1 7).1 (TX1 7).2.1 (TX1 7).2.2.1 ∈ Ts) (hd : decode cc pc = .ok (.getfield index, 3)) (k : gG p l e R s m args below meth c G A nL cells slots Q (wX ad cI cJ cZ T S D Re O N Wt L P bl os kn) (lv) (pc + 3) (.ref (ad 11) :: st)) : gG p l e R s m args below meth c G A nL cells slots Q (wX ad cI cJ cZ T S D Re O N Wt L P bl os kn) (lv) (pc) (.ref (ad 0) :: st) := ga_get C hin 0 rfl rfl 7 (by decide) hlink rfl rfl hd k
theorem gx_get_P {ad : Nat → Nat} {T S D : Nat → Int64} {Re O N Wt : Nat → Nat} {L : Nat → Int32} {P : Nat → Nat} {bl os kn : Nat} (C : gC p s m args c cc nL Ts own G (ty3 cI cJ cZ) A) (hin : ∀ w ∈ wsX10, w ∈ Ts) (hlink : Cond.fieldLink own index (TX1 8).1 (TX1 8).2.1 (TX1 8).2.2.1 ∈ Ts) (hd : decode cc pc = .ok (.getfield index, 3)) (k : gG p l e R s m args below meth c G A nL cells slots Q (wX ad cI cJ cZ T S D Re O N Wt L P bl os kn) (lv) (pc + 3) (.ref (ad 12) :: st)) : gG p l e R s m args below meth c G A nL cells slots Q (wX ad cI cJ cZ T S D Re O N Wt L P bl os kn) (lv) (pc) (.ref (ad 0) :: st) := ga_get C hin 0 rfl rfl 8 (by decide) hlink rfl rfl hd k
theorem gx_get_bl {ad : Nat → Nat} {T S D : Nat → Int64} {Re O N Wt : Nat → Nat} {L : Nat → Int32} {P : Nat → Nat} {bl os kn : Nat} (C : gC p s m args c cc nL Ts own G (ty3 cI cJ cZ) A) (hin : ∀ w ∈ wsX10, w ∈ Ts) (hlink : Cond.fieldLink own index (TX1 9).1 (TX1 9).2.1 (TX1 9).2.2.1 ∈ Ts) (hd : decode cc pc = .ok (.getfield index, 3)) (k : gG p l e R s m args below meth c G A nL cells slots Q (wX ad cI cJ cZ T S D Re O N Wt L P bl os kn) (lv) (pc + 3) (.int (nI bl) :: st)) : gG p l e R s m args below meth c G A nL cells slots Q (wX ad cI cJ cZ T S D Re O N Wt L P bl os kn) (lv) (pc) (.ref (ad 0) :: st) := ga_get C hin 0 rfl rfl 9 (by decide) hlink rfl rfl hd k
theorem gx_get_os {ad : Nat → Nat} {T S D : Nat → Int64} {Re O N Wt : Nat → Nat} {L : Nat → Int32} {P : Nat → Nat} {bl os kn : Nat} (C : gC p s m args c cc nL Ts own G (ty3 cI cJ cZ) A) (hin : ∀ w ∈ wsX10, w ∈ Ts) (hlink : Cond.fieldLink own index (TX1 10).1 (TX1 10).2.1 (TX1 10).2.2.1 ∈ Ts) (hd : decode cc pc = .ok (.getfield index, 3)) (k : gG p l e R s m args below meth c G A nL cells slots Q (wX ad cI cJ cZ T S D Re O N Wt L P bl os kn) (lv) (pc + 3) (.int (nI os) :: st)) : gG p l e R s m args below meth c G A nL cells slots Q (wX ad cI cJ cZ T S D Re O N Wt L P bl os kn) (lv) (pc) (.ref (ad 0) :: st) := ga_get C hin 0 rfl rfl 10 (by decide) hlink rfl rfl hd k
theorem gx_get_kn {ad : Nat → Nat} {T S D : Nat → Int64} {Re O N Wt : Nat → Nat} {L : Nat → Int32} {P : Nat → Nat} {bl os kn : Nat} (C : gC p s m args c cc nL Ts own G (ty3 cI cJ cZ) A) (hin : ∀ w ∈ wsX10, w ∈ Ts) (hlink : Cond.fieldLink own index (TX1 11).1 (TX1 11).2.1 (TX1 11).2.2.1 ∈ Ts) (hd : decode cc pc = .ok (.getfield index, 3)) (k : gG p l e R s m args below meth c G A nL cells slots Q (wX ad cI cJ cZ T S D Re O N Wt L P bl os kn) (lv) (pc + 3) (.int (nI kn) :: st)) : gG p l e R s m args below meth c G A nL cells slots Q (wX ad cI cJ cZ T S D Re O N Wt L P bl os kn) (lv) (pc) (.ref (ad 0) :: st) := ga_get C hin 0 rfl rfl 11 (by decide) hlink rfl rfl hd k
theorem gx_put_bl {ad : Nat → Nat} {T S D : Nat → Int64} {Re O N Wt : Nat → Nat} {L : Nat → Int32} {P : Nat → Nat} {bl os kn : Nat} {v : Nat} (C : gC p s m args c cc nL Ts own G (ty3 cI cJ cZ) A) (hin : ∀ w ∈ wsX10, w ∈ Ts) (hlink : Cond.fieldLink own index (TX1 9).1 (TX1 9).2.1 (TX1 9).2.2.1 ∈ Ts) (hd : decode cc pc = .ok (.putfield index, 3)) (k : gG p l e R s m args below meth c G A nL cells slots Q (wX ad cI cJ cZ T S D Re O N Wt L P v os kn) (lv) (pc + 3) (st)) : gG p l e R s m args below meth c G A nL cells slots Q (wX ad cI cJ cZ T S D Re O N Wt L P bl os kn) (lv) (pc) (.int (nI v) :: .ref (ad 0) :: st) := by
  refine ga_put C hin tyX1 tyX1_ok nmX1 0 rfl rfl 9 (by decide) hlink rfl rfl (ty := .int) (by decide +kernel) rfl rfl (Nat.le_of_ble_eq_true rfl) hd rfl ?_
  exact k
theorem gx_put_os {ad : Nat → Nat} {T S D : Nat → Int64} {Re O N Wt : Nat → Nat} {L : Nat → Int32} {P : Nat → Nat} {bl os kn : Nat} {v : Nat} (C : gC p s m args c cc nL Ts own G (ty3 cI cJ cZ) A) (hin : ∀ w ∈ wsX10, w ∈ Ts) (hlink : Cond.fieldLink own index (TX1 10).1 (TX1 10).2.1 (TX1 10).2.2.1 ∈ Ts) (hd : decode cc pc = .ok (.putfield index, 3)) (k : gG p l e R s m args below meth c G A nL cells slots Q (wX ad cI cJ cZ T S D Re O N Wt L P bl v kn) (lv) (pc + 3) (st)) : gG p l e R s m args below meth c G A nL cells slots Q (wX ad cI cJ cZ T S D Re O N Wt L P bl os kn) (lv) (pc) (.int (nI v) :: .ref (ad 0) :: st) := by
  refine ga_put C hin tyX1 tyX1_ok nmX1 0 rfl rfl 10 (by decide) hlink rfl rfl (ty := .int) (by decide +kernel) rfl rfl (Nat.le_of_ble_eq_true rfl) hd rfl ?_
  exact k
theorem gx_put_kn {ad : Nat → Nat} {T S D : Nat → Int64} {Re O N Wt : Nat → Nat} {L : Nat → Int32} {P : Nat → Nat} {bl os kn : Nat} {v : Nat} (C : gC p s m args c cc nL Ts own G (ty3 cI cJ cZ) A) (hin : ∀ w ∈ wsX10, w ∈ Ts) (hlink : Cond.fieldLink own index (TX1 11).1 (TX1 11).2.1 (TX1 11).2.2.1 ∈ Ts) (hd : decode cc pc = .ok (.putfield index, 3)) (k : gG p l e R s m args below meth c G A nL cells slots Q (wX ad cI cJ cZ T S D Re O N Wt L P bl os v) (lv) (pc + 3) (st)) : gG p l e R s m args below meth c G A nL cells slots Q (wX ad cI cJ cZ T S D Re O N Wt L P bl os kn) (lv) (pc) (.int (nI v) :: .ref (ad 0) :: st) := by
  refine ga_put C hin tyX1 tyX1_ok nmX1 0 rfl rfl 11 (by decide) hlink rfl rfl (ty := .int) (by decide +kernel) rfl rfl (Nat.le_of_ble_eq_true rfl) hd rfl ?_
  exact k
theorem gx_ald_Re {ad : Nat → Nat} {T S D : Nat → Int64} {Re O N Wt : Nat → Nat} {L : Nat → Int32} {P : Nat → Nat} {bl os kn : Nat} {i : Nat} (C : gC p s m args c cc nL Ts own G (ty3 cI cJ cZ) A) (hi : i < 200) (hd : decode cc pc = .ok (.baload, 1)) (k : gG p l e R s m args below meth c G A nL cells slots Q (wX ad cI cJ cZ T S D Re O N Wt L P bl os kn) (lv) (pc + 1) (.int (nI (Re i)) :: st)) : gG p l e R s m args below meth c G A nL cells slots Q (wX ad cI cJ cZ T S D Re O N Wt L P bl os kn) (lv) (pc) (.int (nI i) :: .ref (ad 7) :: st) := gn_zald C 7 2 rfl rfl hi (by decide) hd k
theorem gx_ast_Re {ad : Nat → Nat} {T S D : Nat → Int64} {Re O N Wt : Nat → Nat} {L : Nat → Int32} {P : Nat → Nat} {bl os kn : Nat} {i v : Nat} (C : gC p s m args c cc nL Ts own G (ty3 cI cJ cZ) A) (hi : i < 200) (hv : v < 2) (hd : decode cc pc = .ok (.bastore, 1)) (k : gG p l e R s m args below meth c G A nL cells slots Q (wX ad cI cJ cZ T S D (upN Re i v) O N Wt L P bl os kn) (lv) (pc + 1) (st)) : gG p l e R s m args below meth c G A nL cells slots Q (wX ad cI cJ cZ T S D Re O N Wt L P bl os kn) (lv) (pc) (.int (nI v) :: .int (nI i) :: .ref (ad 7) :: st) := gn_zast C 7 2 rfl rfl hi (by decide) hv hd rfl k
theorem gx_ald_O {ad : Nat → Nat} {T S D : Nat → Int64} {Re O N Wt : Nat → Nat} {L : Nat → Int32} {P : Nat → Nat} {bl os kn : Nat} {i : Nat} (C : gC p s m args c cc nL Ts own G (ty3 cI cJ cZ) A) (hi : i < 200) (hd : decode cc pc = .ok (.iaload, 1)) (k : gG p l e R s m args below meth c G A nL cells slots Q (wX ad cI cJ cZ T S D Re O N Wt L P bl os kn) (lv) (pc + 1) (.int (nI (O i)) :: st)) : gG p l e R s m args below meth c G A nL cells slots Q (wX ad cI cJ cZ T S D Re O N Wt L P bl os kn) (lv) (pc) (.int (nI i) :: .ref (ad 8) :: st) := gn_iald C 8 0 rfl rfl hi (by decide) hd k
theorem gx_ast_O {ad : Nat → Nat} {T S D : Nat → Int64} {Re O N Wt : Nat → Nat} {L : Nat → Int32} {P : Nat → Nat} {bl os kn : Nat} {i v : Nat} (C : gC p s m args c cc nL Ts own G (ty3 cI cJ cZ) A) (hi : i < 200)  (hd : decode cc pc = .ok (.iastore, 1)) (k : gG p l e R s m args below meth c G A nL cells slots Q (wX ad cI cJ cZ T S D Re (upN O i v) N Wt L P bl os kn) (lv) (pc + 1) (st)) : gG p l e R s m args below meth c G A nL cells slots Q (wX ad cI cJ cZ T S D Re O N Wt L P bl os kn) (lv) (pc) (.int (nI v) :: .int (nI i) :: .ref (ad 8) :: st) := gn_iast C 8 0 rfl rfl hi (by decide)  hd rfl k
theorem gx_ald_N {ad : Nat → Nat} {T S D : Nat → Int64} {Re O N Wt : Nat → Nat} {L : Nat → Int32} {P : Nat → Nat} {bl os kn : Nat} {i : Nat} (C : gC p s m args c cc nL Ts own G (ty3 cI cJ cZ) A) (hi : i < 200) (hd : decode cc pc = .ok (.iaload, 1)) (k : gG p l e R s m args below meth c G A nL cells slots Q (wX ad cI cJ cZ T S D Re O N Wt L P bl os kn) (lv) (pc + 1) (.int (nI (N i)) :: st)) : gG p l e R s m args below meth c G A nL cells slots Q (wX ad cI cJ cZ T S D Re O N Wt L P bl os kn) (lv) (pc) (.int (nI i) :: .ref (ad 9) :: st) := gn_iald C 9 0 rfl rfl hi (by decide) hd k
theorem gx_ast_N {ad : Nat → Nat} {T S D : Nat → Int64} {Re O N Wt : Nat → Nat} {L : Nat → Int32} {P : Nat → Nat} {bl os kn : Nat} {i v : Nat} (C : gC p s m args c cc nL Ts own G (ty3 cI cJ cZ) A) (hi : i < 200)  (hd : decode cc pc = .ok (.iastore, 1)) (k : gG p l e R s m args below meth c G A nL cells slots Q (wX ad cI cJ cZ T S D Re O (upN N i v) Wt L P bl os kn) (lv) (pc + 1) (st)) : gG p l e R s m args below meth c G A nL cells slots Q (wX ad cI cJ cZ T S D Re O N Wt L P bl os kn) (lv) (pc) (.int (nI v) :: .int (nI i) :: .ref (ad 9) :: st) := gn_iast C 9 0 rfl rfl hi (by decide)  hd rfl k
theorem gx_ald_Wt {ad : Nat → Nat} {T S D : Nat → Int64} {Re O N Wt : Nat → Nat} {L : Nat → Int32} {P : Nat → Nat} {bl os kn : Nat} {i : Nat} (C : gC p s m args c cc nL Ts own G (ty3 cI cJ cZ) A) (hi : i < 200) (hd : decode cc pc = .ok (.iaload, 1)) (k : gG p l e R s m args below meth c G A nL cells slots Q (wX ad cI cJ cZ T S D Re O N Wt L P bl os kn) (lv) (pc + 1) (.int (nI (Wt i)) :: st)) : gG p l e R s m args below meth c G A nL cells slots Q (wX ad cI cJ cZ T S D Re O N Wt L P bl os kn) (lv) (pc) (.int (nI i) :: .ref (ad 10) :: st) := gn_iald C 10 0 rfl rfl hi (by decide) hd k
theorem gx_ast_Wt {ad : Nat → Nat} {T S D : Nat → Int64} {Re O N Wt : Nat → Nat} {L : Nat → Int32} {P : Nat → Nat} {bl os kn : Nat} {i v : Nat} (C : gC p s m args c cc nL Ts own G (ty3 cI cJ cZ) A) (hi : i < 200)  (hd : decode cc pc = .ok (.iastore, 1)) (k : gG p l e R s m args below meth c G A nL cells slots Q (wX ad cI cJ cZ T S D Re O N (upN Wt i v) L P bl os kn) (lv) (pc + 1) (st)) : gG p l e R s m args below meth c G A nL cells slots Q (wX ad cI cJ cZ T S D Re O N Wt L P bl os kn) (lv) (pc) (.int (nI v) :: .int (nI i) :: .ref (ad 10) :: st) := gn_iast C 10 0 rfl rfl hi (by decide)  hd rfl k
theorem gx_ald_P {ad : Nat → Nat} {T S D : Nat → Int64} {Re O N Wt : Nat → Nat} {L : Nat → Int32} {P : Nat → Nat} {bl os kn : Nat} {i : Nat} (C : gC p s m args c cc nL Ts own G (ty3 cI cJ cZ) A) (hi : i < 200) (hd : decode cc pc = .ok (.iaload, 1)) (k : gG p l e R s m args below meth c G A nL cells slots Q (wX ad cI cJ cZ T S D Re O N Wt L P bl os kn) (lv) (pc + 1) (.int (nI (P i)) :: st)) : gG p l e R s m args below meth c G A nL cells slots Q (wX ad cI cJ cZ T S D Re O N Wt L P bl os kn) (lv) (pc) (.int (nI i) :: .ref (ad 12) :: st) := gn_iald C 12 0 rfl rfl hi (by decide) hd k
theorem gx_ast_P {ad : Nat → Nat} {T S D : Nat → Int64} {Re O N Wt : Nat → Nat} {L : Nat → Int32} {P : Nat → Nat} {bl os kn : Nat} {i v : Nat} (C : gC p s m args c cc nL Ts own G (ty3 cI cJ cZ) A) (hi : i < 200)  (hd : decode cc pc = .ok (.iastore, 1)) (k : gG p l e R s m args below meth c G A nL cells slots Q (wX ad cI cJ cZ T S D Re O N Wt L (upN P i v) bl os kn) (lv) (pc + 1) (st)) : gG p l e R s m args below meth c G A nL cells slots Q (wX ad cI cJ cZ T S D Re O N Wt L P bl os kn) (lv) (pc) (.int (nI v) :: .int (nI i) :: .ref (ad 12) :: st) := gn_iast C 12 0 rfl rfl hi (by decide)  hd rfl k
theorem gx_ald_L {ad : Nat → Nat} {T S D : Nat → Int64} {Re O N Wt : Nat → Nat} {L : Nat → Int32} {P : Nat → Nat} {bl os kn : Nat} {i : Nat} (C : gC p s m args c cc nL Ts own G (ty3 cI cJ cZ) A) (hi : i < 200) (hd : decode cc pc = .ok (.iaload, 1)) (k : gG p l e R s m args below meth c G A nL cells slots Q (wX ad cI cJ cZ T S D Re O N Wt L P bl os kn) (lv) (pc + 1) (.int (L i) :: st)) : gG p l e R s m args below meth c G A nL cells slots Q (wX ad cI cJ cZ T S D Re O N Wt L P bl os kn) (lv) (pc) (.int (nI i) :: .ref (ad 11) :: st) := ga_iald C 11 0 rfl rfl hi (by decide) hd k
theorem gx_ast_L {ad : Nat → Nat} {T S D : Nat → Int64} {Re O N Wt : Nat → Nat} {L : Nat → Int32} {P : Nat → Nat} {bl os kn : Nat} {i : Nat} {x : Int32} (C : gC p s m args c cc nL Ts own G (ty3 cI cJ cZ) A) (hi : i < 200) (hd : decode cc pc = .ok (.iastore, 1)) (k : gG p l e R s m args below meth c G A nL cells slots Q (wX ad cI cJ cZ T S D Re O N Wt (upd L i x) P bl os kn) (lv) (pc + 1) (st)) : gG p l e R s m args below meth c G A nL cells slots Q (wX ad cI cJ cZ T S D Re O N Wt L P bl os kn) (lv) (pc) (.int x :: .int (nI i) :: .ref (ad 11) :: st) := ga_iast C 11 0 rfl rfl hi (by decide) hd rfl k
theorem gx_cr_T {ad : Nat → Nat} {T S D : Nat → Int64} {Re O N Wt : Nat → Nat} {L : Nat → Int32} {P : Nat → Nat} {bl os kn : Nat} {y : MethodName} {wy : List Cond} {bytes : ByteArray} {maxL n : Nat} {ret : Option FieldType} {rm : Room} {As : List Value} (C : gC p s m args c cc nL Ts own G (ty3 cI cJ cZ) A) {post : Int32 → Unit → Prop} (hM : ctI l y wy rm G (ty3 cI cJ cZ) (.ref (ad 1) :: As) (wB (ad 1) (ad 4) cJ T) post (fun _ => wB (ad 1) (ad 4) cJ T)) (cw : CallW R s args own RX0 index y bytes maxL ret wy rm 0 0 n) (hlen : As.length = n) (hst : st0 = As.reverse ++ .ref (ad 1) :: st) (hroom : (st.map fun v => v.category).sum ≤ 8) (hd : decode cc pc = .ok (.invokevirtual index, 3)) (hcap : cells ≤ R.cells ∧ slots ≤ R.slots) (k : ∀ r : Int32, post r () → gG p l e R s m args below meth c G A nL cells slots Q (wX ad cI cJ cZ T S D Re O N Wt L P bl os kn) (lv) (pc + 3) (.int r :: st)) : gG p l e R s m args below meth c G A nL cells slots Q (wX ad cI cJ cZ T S D Re O N Wt L P bl os kn) (lv) (pc) (st0) := ga_callVi (wr := [(ad 0, .inr (1, [.ref (ad 1), .ref (ad 2), .ref (ad 3), .ref (ad 7), .ref (ad 8), .ref (ad 9), .ref (ad 10), .ref (ad 11), .ref (ad 12), .int (nI bl), .int (nI os), .int (nI kn)])), (ad 2, .inr (0, [.ref (ad 5)])), (ad 3, .inr (0, [.ref (ad 6)])), (ad 5, .inl (cJ, 800, .inr (.inl S))), (ad 6, .inl (cJ, 800, .inr (.inl D))), (ad 7, .inl (cZ, 200, .inl (nA Re))), (ad 8, .inl (cI, 200, .inl (nA O))), (ad 9, .inl (cI, 200, .inl (nA N))), (ad 10, .inl (cI, 200, .inl (nA Wt))), (ad 11, .inl (cI, 200, .inl L)), (ad 12, .inl (cI, 200, .inl (nA P)))]) C hM cw [1, 4] [0, 2, 3, 5, 6, 7, 8, 9, 10, 11, 12] rfl rfl rfl rfl (by decide) 0 rfl rfl rfl hlen hst hroom hd hcap (fun r u hp => ga_ws [0, 11, 1, 2, 12, 3, 4, 5, 6, 7, 8, 9, 10] rfl rfl (k r hp))
theorem gx_cv_T {ad : Nat → Nat} {T S D : Nat → Int64} {Re O N Wt : Nat → Nat} {L : Nat → Int32} {P : Nat → Nat} {bl os kn : Nat} {y : MethodName} {wy : List Cond} {bytes : ByteArray} {maxL n : Nat} {ret : Option FieldType} {rm : Room} {As : List Value} (C : gC p s m args c cc nL Ts own G (ty3 cI cJ cZ) A) {post : (Nat → Int64) → Prop} (hM : ctV l y wy rm G (ty3 cI cJ cZ) (.ref (ad 1) :: As) (wB (ad 1) (ad 4) cJ T) post (fun u => wB (ad 1) (ad 4) cJ u)) (cw : CallW R s args own RX0 index y bytes maxL ret wy rm 0 0 n) (hlen : As.length = n) (hst : st0 = As.reverse ++ .ref (ad 1) :: st) (hroom : (st.map fun v => v.category).sum ≤ 8) (hd : decode cc pc = .ok (.invokevirtual index, 3)) (hcap : cells ≤ R.cells ∧ slots ≤ R.slots) (k : ∀ u : Nat → Int64, post u → gG p l e R s m args below meth c G A nL cells slots Q (wX ad cI cJ cZ u S D Re O N Wt L P bl os kn) (lv) (pc + 3) (st)) : gG p l e R s m args below meth c G A nL cells slots Q (wX ad cI cJ cZ T S D Re O N Wt L P bl os kn) (lv) (pc) (st0) := ga_callVv (wr := [(ad 0, .inr (1, [.ref (ad 1), .ref (ad 2), .ref (ad 3), .ref (ad 7), .ref (ad 8), .ref (ad 9), .ref (ad 10), .ref (ad 11), .ref (ad 12), .int (nI bl), .int (nI os), .int (nI kn)])), (ad 2, .inr (0, [.ref (ad 5)])), (ad 3, .inr (0, [.ref (ad 6)])), (ad 5, .inl (cJ, 800, .inr (.inl S))), (ad 6, .inl (cJ, 800, .inr (.inl D))), (ad 7, .inl (cZ, 200, .inl (nA Re))), (ad 8, .inl (cI, 200, .inl (nA O))), (ad 9, .inl (cI, 200, .inl (nA N))), (ad 10, .inl (cI, 200, .inl (nA Wt))), (ad 11, .inl (cI, 200, .inl L)), (ad 12, .inl (cI, 200, .inl (nA P)))]) C hM cw [1, 4] [0, 2, 3, 5, 6, 7, 8, 9, 10, 11, 12] rfl rfl rfl rfl (by decide) 0 rfl rfl rfl hlen hst hroom hd hcap (fun u hp => ga_ws [0, 11, 1, 2, 12, 3, 4, 5, 6, 7, 8, 9, 10] rfl rfl (k u hp))
theorem gx_cr_S {ad : Nat → Nat} {T S D : Nat → Int64} {Re O N Wt : Nat → Nat} {L : Nat → Int32} {P : Nat → Nat} {bl os kn : Nat} {y : MethodName} {wy : List Cond} {bytes : ByteArray} {maxL n : Nat} {ret : Option FieldType} {rm : Room} {As : List Value} (C : gC p s m args c cc nL Ts own G (ty3 cI cJ cZ) A) {post : Int32 → Unit → Prop} (hM : ctI l y wy rm G (ty3 cI cJ cZ) (.ref (ad 2) :: As) (wB (ad 2) (ad 5) cJ S) post (fun _ => wB (ad 2) (ad 5) cJ S)) (cw : CallW R s args own RX0 index y bytes maxL ret wy rm 0 0 n) (hlen : As.length = n) (hst : st0 = As.reverse ++ .ref (ad 2) :: st) (hroom : (st.map fun v => v.category).sum ≤ 8) (hd : decode cc pc = .ok (.invokevirtual index, 3)) (hcap : cells ≤ R.cells ∧ slots ≤ R.slots) (k : ∀ r : Int32, post r () → gG p l e R s m args below meth c G A nL cells slots Q (wX ad cI cJ cZ T S D Re O N Wt L P bl os kn) (lv) (pc + 3) (.int r :: st)) : gG p l e R s m args below meth c G A nL cells slots Q (wX ad cI cJ cZ T S D Re O N Wt L P bl os kn) (lv) (pc) (st0) := ga_callVi (wr := [(ad 0, .inr (1, [.ref (ad 1), .ref (ad 2), .ref (ad 3), .ref (ad 7), .ref (ad 8), .ref (ad 9), .ref (ad 10), .ref (ad 11), .ref (ad 12), .int (nI bl), .int (nI os), .int (nI kn)])), (ad 1, .inr (0, [.ref (ad 4)])), (ad 3, .inr (0, [.ref (ad 6)])), (ad 4, .inl (cJ, 800, .inr (.inl T))), (ad 6, .inl (cJ, 800, .inr (.inl D))), (ad 7, .inl (cZ, 200, .inl (nA Re))), (ad 8, .inl (cI, 200, .inl (nA O))), (ad 9, .inl (cI, 200, .inl (nA N))), (ad 10, .inl (cI, 200, .inl (nA Wt))), (ad 11, .inl (cI, 200, .inl L)), (ad 12, .inl (cI, 200, .inl (nA P)))]) C hM cw [2, 5] [0, 1, 3, 4, 6, 7, 8, 9, 10, 11, 12] rfl rfl rfl rfl (by decide) 0 rfl rfl rfl hlen hst hroom hd hcap (fun r u hp => ga_ws [0, 1, 11, 2, 3, 12, 4, 5, 6, 7, 8, 9, 10] rfl rfl (k r hp))
theorem gx_cv_S {ad : Nat → Nat} {T S D : Nat → Int64} {Re O N Wt : Nat → Nat} {L : Nat → Int32} {P : Nat → Nat} {bl os kn : Nat} {y : MethodName} {wy : List Cond} {bytes : ByteArray} {maxL n : Nat} {ret : Option FieldType} {rm : Room} {As : List Value} (C : gC p s m args c cc nL Ts own G (ty3 cI cJ cZ) A) {post : (Nat → Int64) → Prop} (hM : ctV l y wy rm G (ty3 cI cJ cZ) (.ref (ad 2) :: As) (wB (ad 2) (ad 5) cJ S) post (fun u => wB (ad 2) (ad 5) cJ u)) (cw : CallW R s args own RX0 index y bytes maxL ret wy rm 0 0 n) (hlen : As.length = n) (hst : st0 = As.reverse ++ .ref (ad 2) :: st) (hroom : (st.map fun v => v.category).sum ≤ 8) (hd : decode cc pc = .ok (.invokevirtual index, 3)) (hcap : cells ≤ R.cells ∧ slots ≤ R.slots) (k : ∀ u : Nat → Int64, post u → gG p l e R s m args below meth c G A nL cells slots Q (wX ad cI cJ cZ T u D Re O N Wt L P bl os kn) (lv) (pc + 3) (st)) : gG p l e R s m args below meth c G A nL cells slots Q (wX ad cI cJ cZ T S D Re O N Wt L P bl os kn) (lv) (pc) (st0) := ga_callVv (wr := [(ad 0, .inr (1, [.ref (ad 1), .ref (ad 2), .ref (ad 3), .ref (ad 7), .ref (ad 8), .ref (ad 9), .ref (ad 10), .ref (ad 11), .ref (ad 12), .int (nI bl), .int (nI os), .int (nI kn)])), (ad 1, .inr (0, [.ref (ad 4)])), (ad 3, .inr (0, [.ref (ad 6)])), (ad 4, .inl (cJ, 800, .inr (.inl T))), (ad 6, .inl (cJ, 800, .inr (.inl D))), (ad 7, .inl (cZ, 200, .inl (nA Re))), (ad 8, .inl (cI, 200, .inl (nA O))), (ad 9, .inl (cI, 200, .inl (nA N))), (ad 10, .inl (cI, 200, .inl (nA Wt))), (ad 11, .inl (cI, 200, .inl L)), (ad 12, .inl (cI, 200, .inl (nA P)))]) C hM cw [2, 5] [0, 1, 3, 4, 6, 7, 8, 9, 10, 11, 12] rfl rfl rfl rfl (by decide) 0 rfl rfl rfl hlen hst hroom hd hcap (fun u hp => ga_ws [0, 1, 11, 2, 3, 12, 4, 5, 6, 7, 8, 9, 10] rfl rfl (k u hp))
theorem gx_cr_D {ad : Nat → Nat} {T S D : Nat → Int64} {Re O N Wt : Nat → Nat} {L : Nat → Int32} {P : Nat → Nat} {bl os kn : Nat} {y : MethodName} {wy : List Cond} {bytes : ByteArray} {maxL n : Nat} {ret : Option FieldType} {rm : Room} {As : List Value} (C : gC p s m args c cc nL Ts own G (ty3 cI cJ cZ) A) {post : Int32 → Unit → Prop} (hM : ctI l y wy rm G (ty3 cI cJ cZ) (.ref (ad 3) :: As) (wB (ad 3) (ad 6) cJ D) post (fun _ => wB (ad 3) (ad 6) cJ D)) (cw : CallW R s args own RX0 index y bytes maxL ret wy rm 0 0 n) (hlen : As.length = n) (hst : st0 = As.reverse ++ .ref (ad 3) :: st) (hroom : (st.map fun v => v.category).sum ≤ 8) (hd : decode cc pc = .ok (.invokevirtual index, 3)) (hcap : cells ≤ R.cells ∧ slots ≤ R.slots) (k : ∀ r : Int32, post r () → gG p l e R s m args below meth c G A nL cells slots Q (wX ad cI cJ cZ T S D Re O N Wt L P bl os kn) (lv) (pc + 3) (.int r :: st)) : gG p l e R s m args below meth c G A nL cells slots Q (wX ad cI cJ cZ T S D Re O N Wt L P bl os kn) (lv) (pc) (st0) := ga_callVi (wr := [(ad 0, .inr (1, [.ref (ad 1), .ref (ad 2), .ref (ad 3), .ref (ad 7), .ref (ad 8), .ref (ad 9), .ref (ad 10), .ref (ad 11), .ref (ad 12), .int (nI bl), .int (nI os), .int (nI kn)])), (ad 1, .inr (0, [.ref (ad 4)])), (ad 2, .inr (0, [.ref (ad 5)])), (ad 4, .inl (cJ, 800, .inr (.inl T))), (ad 5, .inl (cJ, 800, .inr (.inl S))), (ad 7, .inl (cZ, 200, .inl (nA Re))), (ad 8, .inl (cI, 200, .inl (nA O))), (ad 9, .inl (cI, 200, .inl (nA N))), (ad 10, .inl (cI, 200, .inl (nA Wt))), (ad 11, .inl (cI, 200, .inl L)), (ad 12, .inl (cI, 200, .inl (nA P)))]) C hM cw [3, 6] [0, 1, 2, 4, 5, 7, 8, 9, 10, 11, 12] rfl rfl rfl rfl (by decide) 0 rfl rfl rfl hlen hst hroom hd hcap (fun r u hp => ga_ws [0, 1, 2, 11, 3, 4, 12, 5, 6, 7, 8, 9, 10] rfl rfl (k r hp))
theorem gx_cv_D {ad : Nat → Nat} {T S D : Nat → Int64} {Re O N Wt : Nat → Nat} {L : Nat → Int32} {P : Nat → Nat} {bl os kn : Nat} {y : MethodName} {wy : List Cond} {bytes : ByteArray} {maxL n : Nat} {ret : Option FieldType} {rm : Room} {As : List Value} (C : gC p s m args c cc nL Ts own G (ty3 cI cJ cZ) A) {post : (Nat → Int64) → Prop} (hM : ctV l y wy rm G (ty3 cI cJ cZ) (.ref (ad 3) :: As) (wB (ad 3) (ad 6) cJ D) post (fun u => wB (ad 3) (ad 6) cJ u)) (cw : CallW R s args own RX0 index y bytes maxL ret wy rm 0 0 n) (hlen : As.length = n) (hst : st0 = As.reverse ++ .ref (ad 3) :: st) (hroom : (st.map fun v => v.category).sum ≤ 8) (hd : decode cc pc = .ok (.invokevirtual index, 3)) (hcap : cells ≤ R.cells ∧ slots ≤ R.slots) (k : ∀ u : Nat → Int64, post u → gG p l e R s m args below meth c G A nL cells slots Q (wX ad cI cJ cZ T S u Re O N Wt L P bl os kn) (lv) (pc + 3) (st)) : gG p l e R s m args below meth c G A nL cells slots Q (wX ad cI cJ cZ T S D Re O N Wt L P bl os kn) (lv) (pc) (st0) := ga_callVv (wr := [(ad 0, .inr (1, [.ref (ad 1), .ref (ad 2), .ref (ad 3), .ref (ad 7), .ref (ad 8), .ref (ad 9), .ref (ad 10), .ref (ad 11), .ref (ad 12), .int (nI bl), .int (nI os), .int (nI kn)])), (ad 1, .inr (0, [.ref (ad 4)])), (ad 2, .inr (0, [.ref (ad 5)])), (ad 4, .inl (cJ, 800, .inr (.inl T))), (ad 5, .inl (cJ, 800, .inr (.inl S))), (ad 7, .inl (cZ, 200, .inl (nA Re))), (ad 8, .inl (cI, 200, .inl (nA O))), (ad 9, .inl (cI, 200, .inl (nA N))), (ad 10, .inl (cI, 200, .inl (nA Wt))), (ad 11, .inl (cI, 200, .inl L)), (ad 12, .inl (cI, 200, .inl (nA P)))]) C hM cw [3, 6] [0, 1, 2, 4, 5, 7, 8, 9, 10, 11, 12] rfl rfl rfl rfl (by decide) 0 rfl rfl rfl hlen hst hroom hd hcap (fun u hp => ga_ws [0, 1, 2, 11, 3, 4, 12, 5, 6, 7, 8, 9, 10] rfl rfl (k u hp))
theorem gx_cw_D {ad : Nat → Nat} {T S D : Nat → Int64} {Re O N Wt : Nat → Nat} {L : Nat → Int32} {P : Nat → Nat} {bl os kn : Nat} {y : MethodName} {wy : List Cond} {bytes : ByteArray} {maxL n : Nat} {ret : Option FieldType} {rm : Room} {As : List Value} (C : gC p s m args c cc nL Ts own G (ty3 cI cJ cZ) A) {post : Int32 → (Nat → Int64) → Prop} (hM : ctI l y wy rm G (ty3 cI cJ cZ) (.ref (ad 3) :: As) (wB (ad 3) (ad 6) cJ D) post (fun u => wB (ad 3) (ad 6) cJ u)) (cw : CallW R s args own RX0 index y bytes maxL ret wy rm 0 0 n) (hlen : As.length = n) (hst : st0 = As.reverse ++ .ref (ad 3) :: st) (hroom : (st.map fun v => v.category).sum ≤ 8) (hd : decode cc pc = .ok (.invokevirtual index, 3)) (hcap : cells ≤ R.cells ∧ slots ≤ R.slots) (k : ∀ (r : Int32) (u : Nat → Int64), post r u → gG p l e R s m args below meth c G A nL cells slots Q (wX ad cI cJ cZ T S u Re O N Wt L P bl os kn) (lv) (pc + 3) (.int r :: st)) : gG p l e R s m args below meth c G A nL cells slots Q (wX ad cI cJ cZ T S D Re O N Wt L P bl os kn) (lv) (pc) (st0) := ga_callVi (wr := [(ad 0, .inr (1, [.ref (ad 1), .ref (ad 2), .ref (ad 3), .ref (ad 7), .ref (ad 8), .ref (ad 9), .ref (ad 10), .ref (ad 11), .ref (ad 12), .int (nI bl), .int (nI os), .int (nI kn)])), (ad 1, .inr (0, [.ref (ad 4)])), (ad 2, .inr (0, [.ref (ad 5)])), (ad 4, .inl (cJ, 800, .inr (.inl T))), (ad 5, .inl (cJ, 800, .inr (.inl S))), (ad 7, .inl (cZ, 200, .inl (nA Re))), (ad 8, .inl (cI, 200, .inl (nA O))), (ad 9, .inl (cI, 200, .inl (nA N))), (ad 10, .inl (cI, 200, .inl (nA Wt))), (ad 11, .inl (cI, 200, .inl L)), (ad 12, .inl (cI, 200, .inl (nA P)))]) C hM cw [3, 6] [0, 1, 2, 4, 5, 7, 8, 9, 10, 11, 12] rfl rfl rfl rfl (by decide) 0 rfl rfl rfl hlen hst hroom hd hcap (fun r u hp => ga_ws [0, 1, 2, 11, 3, 4, 12, 5, 6, 7, 8, 9, 10] rfl rfl (k r u hp))
abbrev XS : Type := (Nat → Int64) × (Nat → Int64) × (Nat → Int64) × (Nat → Nat) × (Nat → Nat) × (Nat → Nat) × (Nat → Nat) × (Nat → Int32) × (Nat → Nat) × Nat × Nat × Nat
abbrev wXu (ad : Nat → Nat) (cI cJ cZ : ClassId) (u : XS) : va_W := wX ad cI cJ cZ u.1 u.2.1 u.2.2.1 u.2.2.2.1 u.2.2.2.2.1 u.2.2.2.2.2.1 u.2.2.2.2.2.2.1 u.2.2.2.2.2.2.2.1 u.2.2.2.2.2.2.2.2.1 u.2.2.2.2.2.2.2.2.2.1 u.2.2.2.2.2.2.2.2.2.2.1 u.2.2.2.2.2.2.2.2.2.2.2
theorem gx_call_i {ad : Nat → Nat} {T S D : Nat → Int64} {Re O N Wt : Nat → Nat} {L : Nat → Int32} {P : Nat → Nat} {bl os kn : Nat} {y : MethodName} {wy : List Cond} {bytes : ByteArray} {maxL n : Nat} {ret : Option FieldType} {rm : Room} {As : List Value} (C : gC p s m args c cc nL Ts own G (ty3 cI cJ cZ) A) {post : Int32 → XS → Prop} (hM : ctI l y wy rm G (ty3 cI cJ cZ) (.ref (ad 0) :: As) (wX ad cI cJ cZ T S D Re O N Wt L P bl os kn) post (wXu ad cI cJ cZ)) (cw : CallW R s args own RX1 index y bytes maxL ret wy rm 0 0 n) (hlen : As.length = n) (hst : st0 = As.reverse ++ .ref (ad 0) :: st) (hroom : (st.map fun v => v.category).sum ≤ 8) (hd : decode cc pc = .ok (.invokevirtual index, 3)) (hcap : cells ≤ R.cells ∧ slots ≤ R.slots) (k : ∀ (r : Int32) (T2 S2 D2 : Nat → Int64) (Re2 O2 N2 Wt2 : Nat → Nat) (L2 : Nat → Int32) (P2 : Nat → Nat) (bl2 os2 kn2 : Nat), post r (T2, S2, D2, Re2, O2, N2, Wt2, L2, P2, bl2, os2, kn2) → gG p l e R s m args below meth c G A nL cells slots Q (wX ad cI cJ cZ T2 S2 D2 Re2 O2 N2 Wt2 L2 P2 bl2 os2 kn2) (lv) (pc + 3) (.int r :: st)) : gG p l e R s m args below meth c G A nL cells slots Q (wX ad cI cJ cZ T S D Re O N Wt L P bl os kn) (lv) (pc) (st0) := ga_callVi (wr := []) C hM cw [0, 1, 2, 3, 4, 5, 6, 7, 8, 9, 10, 11, 12] [] rfl rfl rfl rfl (by decide) 0 rfl rfl rfl hlen hst hroom hd hcap (fun r u hp => k r u.1 u.2.1 u.2.2.1 u.2.2.2.1 u.2.2.2.2.1 u.2.2.2.2.2.1 u.2.2.2.2.2.2.1 u.2.2.2.2.2.2.2.1 u.2.2.2.2.2.2.2.2.1 u.2.2.2.2.2.2.2.2.2.1 u.2.2.2.2.2.2.2.2.2.2.1 u.2.2.2.2.2.2.2.2.2.2.2 hp)
theorem gx_call_v {ad : Nat → Nat} {T S D : Nat → Int64} {Re O N Wt : Nat → Nat} {L : Nat → Int32} {P : Nat → Nat} {bl os kn : Nat} {y : MethodName} {wy : List Cond} {bytes : ByteArray} {maxL n : Nat} {ret : Option FieldType} {rm : Room} {As : List Value} (C : gC p s m args c cc nL Ts own G (ty3 cI cJ cZ) A) {post : XS → Prop} (hM : ctV l y wy rm G (ty3 cI cJ cZ) (.ref (ad 0) :: As) (wX ad cI cJ cZ T S D Re O N Wt L P bl os kn) post (wXu ad cI cJ cZ)) (cw : CallW R s args own RX1 index y bytes maxL ret wy rm 0 0 n) (hlen : As.length = n) (hst : st0 = As.reverse ++ .ref (ad 0) :: st) (hroom : (st.map fun v => v.category).sum ≤ 8) (hd : decode cc pc = .ok (.invokevirtual index, 3)) (hcap : cells ≤ R.cells ∧ slots ≤ R.slots) (k : ∀ (T2 S2 D2 : Nat → Int64) (Re2 O2 N2 Wt2 : Nat → Nat) (L2 : Nat → Int32) (P2 : Nat → Nat) (bl2 os2 kn2 : Nat), post (T2, S2, D2, Re2, O2, N2, Wt2, L2, P2, bl2, os2, kn2) → gG p l e R s m args below meth c G A nL cells slots Q (wX ad cI cJ cZ T2 S2 D2 Re2 O2 N2 Wt2 L2 P2 bl2 os2 kn2) (lv) (pc + 3) (st)) : gG p l e R s m args below meth c G A nL cells slots Q (wX ad cI cJ cZ T S D Re O N Wt L P bl os kn) (lv) (pc) (st0) := ga_callVv (wr := []) C hM cw [0, 1, 2, 3, 4, 5, 6, 7, 8, 9, 10, 11, 12] [] rfl rfl rfl rfl (by decide) 0 rfl rfl rfl hlen hst hroom hd hcap (fun u hp => k u.1 u.2.1 u.2.2.1 u.2.2.2.1 u.2.2.2.2.1 u.2.2.2.2.2.1 u.2.2.2.2.2.2.1 u.2.2.2.2.2.2.2.1 u.2.2.2.2.2.2.2.2.1 u.2.2.2.2.2.2.2.2.2.1 u.2.2.2.2.2.2.2.2.2.2.1 u.2.2.2.2.2.2.2.2.2.2.2 hp)
theorem gx_call_r {ad : Nat → Nat} {T S D : Nat → Int64} {Re O N Wt : Nat → Nat} {L : Nat → Int32} {P : Nat → Nat} {bl os kn : Nat} {y : MethodName} {wy : List Cond} {bytes : ByteArray} {maxL n : Nat} {ret : Option FieldType} {rm : Room} {As : List Value} (C : gC p s m args c cc nL Ts own G (ty3 cI cJ cZ) A) {post : Int32 → Unit → Prop} (hM : ctI l y wy rm G (ty3 cI cJ cZ) (.ref (ad 0) :: As) (wX ad cI cJ cZ T S D Re O N Wt L P bl os kn) post (fun _ => wX ad cI cJ cZ T S D Re O N Wt L P bl os kn)) (cw : CallW R s args own RX1 index y bytes maxL ret wy rm 0 0 n) (hlen : As.length = n) (hst : st0 = As.reverse ++ .ref (ad 0) :: st) (hroom : (st.map fun v => v.category).sum ≤ 8) (hd : decode cc pc = .ok (.invokevirtual index, 3)) (hcap : cells ≤ R.cells ∧ slots ≤ R.slots) (k : ∀ r : Int32, post r () → gG p l e R s m args below meth c G A nL cells slots Q (wX ad cI cJ cZ T S D Re O N Wt L P bl os kn) (lv) (pc + 3) (.int r :: st)) : gG p l e R s m args below meth c G A nL cells slots Q (wX ad cI cJ cZ T S D Re O N Wt L P bl os kn) (lv) (pc) (st0) := ga_callVi (wr := []) C hM cw [0, 1, 2, 3, 4, 5, 6, 7, 8, 9, 10, 11, 12] [] rfl rfl rfl rfl (by decide) 0 rfl rfl rfl hlen hst hroom hd hcap (fun r u hp => k r hp)
theorem gx_fill_P {ad : Nat → Nat} {T S D : Nat → Int64} {Re O N Wt : Nat → Nat} {L : Nat → Int32} {P : Nat → Nat} {bl os kn : Nat} {y : MethodName} {wy : List Cond} {bytes : ByteArray} {maxL n : Nat} {ret : Option FieldType} {rm : Room} {As : List Value} {x : Int32} (C : gC p s m args c cc nL Ts own G (ty3 cI cJ cZ) A) {post : (Nat → Int32) → Prop} (hM : ctV l y wy rm G (ty3 cI cJ cZ) [.ref (ad 12), .int x] [(ad 12, .inl (cI, 200, .inl (nA P)))] post (fun u => [(ad 12, .inl (cI, 200, .inl u))])) (cw : CallB R s args own index y bytes maxL ret wy rm 0 0 n ∧ (Cond.static y).before args s = true) (hn : 2 = n) (hroom : (st.map fun v => v.category).sum ≤ 8) (hd : decode cc pc = .ok (.invokestatic index, 3)) (hcap : cells ≤ R.cells ∧ slots ≤ R.slots) (k : ∀ u : Nat → Int32, post u → gG p l e R s m args below meth c G A nL cells slots Q ([(ad 0, .inr (1, [.ref (ad 1), .ref (ad 2), .ref (ad 3), .ref (ad 7), .ref (ad 8), .ref (ad 9), .ref (ad 10), .ref (ad 11), .ref (ad 12), .int (nI bl), .int (nI os), .int (nI kn)])), (ad 1, .inr (0, [.ref (ad 4)])), (ad 2, .inr (0, [.ref (ad 5)])), (ad 3, .inr (0, [.ref (ad 6)])), (ad 4, .inl (cJ, 800, .inr (.inl T))), (ad 5, .inl (cJ, 800, .inr (.inl S))), (ad 6, .inl (cJ, 800, .inr (.inl D))), (ad 7, .inl (cZ, 200, .inl (nA Re))), (ad 8, .inl (cI, 200, .inl (nA O))), (ad 9, .inl (cI, 200, .inl (nA N))), (ad 10, .inl (cI, 200, .inl (nA Wt))), (ad 11, .inl (cI, 200, .inl L)), (ad 12, .inl (cI, 200, .inl u))]) (lv) (pc + 3) (st)) : gG p l e R s m args below meth c G A nL cells slots Q (wX ad cI cJ cZ T S D Re O N Wt L P bl os kn) (lv) (pc) (.int x :: .ref (ad 12) :: st) := ga_callSv (wr := [(ad 0, .inr (1, [.ref (ad 1), .ref (ad 2), .ref (ad 3), .ref (ad 7), .ref (ad 8), .ref (ad 9), .ref (ad 10), .ref (ad 11), .ref (ad 12), .int (nI bl), .int (nI os), .int (nI kn)])), (ad 1, .inr (0, [.ref (ad 4)])), (ad 2, .inr (0, [.ref (ad 5)])), (ad 3, .inr (0, [.ref (ad 6)])), (ad 4, .inl (cJ, 800, .inr (.inl T))), (ad 5, .inl (cJ, 800, .inr (.inl S))), (ad 6, .inl (cJ, 800, .inr (.inl D))), (ad 7, .inl (cZ, 200, .inl (nA Re))), (ad 8, .inl (cI, 200, .inl (nA O))), (ad 9, .inl (cI, 200, .inl (nA N))), (ad 10, .inl (cI, 200, .inl (nA Wt))), (ad 11, .inl (cI, 200, .inl L))]) C hM cw [12] [0, 1, 2, 3, 4, 5, 6, 7, 8, 9, 10, 11] rfl rfl rfl rfl (by decide) hn rfl hroom hd hcap (fun u hp => ga_ws [0, 1, 2, 3, 4, 5, 6, 7, 8, 9, 10, 11, 12] rfl rfl (k u hp))
theorem gx_fill_L {ad : Nat → Nat} {T S D : Nat → Int64} {Re O N Wt : Nat → Nat} {L : Nat → Int32} {P : Nat → Nat} {bl os kn : Nat} {y : MethodName} {wy : List Cond} {bytes : ByteArray} {maxL n : Nat} {ret : Option FieldType} {rm : Room} {As : List Value} {x : Int32} (C : gC p s m args c cc nL Ts own G (ty3 cI cJ cZ) A) {post : (Nat → Int32) → Prop} (hM : ctV l y wy rm G (ty3 cI cJ cZ) [.ref (ad 11), .int x] [(ad 11, .inl (cI, 200, .inl (L)))] post (fun u => [(ad 11, .inl (cI, 200, .inl u))])) (cw : CallB R s args own index y bytes maxL ret wy rm 0 0 n ∧ (Cond.static y).before args s = true) (hn : 2 = n) (hroom : (st.map fun v => v.category).sum ≤ 8) (hd : decode cc pc = .ok (.invokestatic index, 3)) (hcap : cells ≤ R.cells ∧ slots ≤ R.slots) (k : ∀ u : Nat → Int32, post u → gG p l e R s m args below meth c G A nL cells slots Q (wX ad cI cJ cZ T S D Re O N Wt u P bl os kn) (lv) (pc + 3) (st)) : gG p l e R s m args below meth c G A nL cells slots Q (wX ad cI cJ cZ T S D Re O N Wt L P bl os kn) (lv) (pc) (.int x :: .ref (ad 11) :: st) := ga_callSv (wr := [(ad 0, .inr (1, [.ref (ad 1), .ref (ad 2), .ref (ad 3), .ref (ad 7), .ref (ad 8), .ref (ad 9), .ref (ad 10), .ref (ad 11), .ref (ad 12), .int (nI bl), .int (nI os), .int (nI kn)])), (ad 1, .inr (0, [.ref (ad 4)])), (ad 2, .inr (0, [.ref (ad 5)])), (ad 3, .inr (0, [.ref (ad 6)])), (ad 4, .inl (cJ, 800, .inr (.inl T))), (ad 5, .inl (cJ, 800, .inr (.inl S))), (ad 6, .inl (cJ, 800, .inr (.inl D))), (ad 7, .inl (cZ, 200, .inl (nA Re))), (ad 8, .inl (cI, 200, .inl (nA O))), (ad 9, .inl (cI, 200, .inl (nA N))), (ad 10, .inl (cI, 200, .inl (nA Wt))), (ad 12, .inl (cI, 200, .inl (nA P)))]) C hM cw [11] [0, 1, 2, 3, 4, 5, 6, 7, 8, 9, 10, 12] rfl rfl rfl rfl (by decide) hn rfl hroom hd hcap (fun u hp => ga_ws [0, 1, 2, 3, 4, 5, 6, 7, 8, 9, 10, 12, 11] rfl rfl (k u hp))
end GW
section GWM
variable {p : Program} {l : Launch} {e : Env} {R : Room} {s : State} {m : MethodId} {args : Array Value} {below : List Frame} {meth : Method} {c : Code} {G : va_G} {A : Nat → Prop} {nL cells slots : Nat} {Q : State → Prop}
variable {cc : ByteArray} {Ts : List Cond} {own : String} {lv : List (Nat × Value)} {pc index : Nat} {st st0 : List Value} {cI cJ cZ : ClassId}
theorem gm_get_n {am : Nat → Nat} {on ba : Nat → Int32} {ik : Nat} {me un : Nat → Int32} {ra : Nat → Nat} {ne : Nat → Int32} {he de : Nat → Nat} {wa : Nat → Int32} {le : Nat → Nat} {n wt : Nat} (C : gC p s m args c cc nL Ts own G (ty3 cI cJ cZ) A) (hin : ∀ w ∈ wsX20, w ∈ Ts) (hlink : Cond.fieldLink own index (TX2 0).1 (TX2 0).2.1 (TX2 0).2.2.1 ∈ Ts) (hd : decode cc pc = .ok (.getfield index, 3)) (k : gG p l e R s m args below meth c G A nL cells slots Q (wM am cI cZ on ba ik me un ra ne he de wa le n wt) (lv) (pc + 3) (.int (nI n) :: st)) : gG p l e R s m args below meth c G A nL cells slots Q (wM am cI cZ on ba ik me un ra ne he de wa le n wt) (lv) (pc) (.ref (am 0) :: st) := ga_get C hin 0 rfl rfl 0 (by decide) hlink rfl rfl hd k
theorem gm_get_on {am : Nat → Nat} {on ba : Nat → Int32} {ik : Nat} {me un : Nat → Int32} {ra : Nat → Nat} {ne : Nat → Int32} {he de : Nat → Nat} {wa : Nat → Int32} {le : Nat → Nat} {n wt : Nat} (C : gC p s m args c cc nL Ts own G (ty3 cI cJ cZ) A) (hin : ∀ w ∈ wsX20, w ∈ Ts) (hlink : Cond.fieldLink own index (TX2 1).1 (TX2 1).2.1 (TX2 1).2.2.1 ∈ Ts) (hd : decode cc pc = .ok (.getfield index, 3)) (k : gG p l e R s m args below meth c G A nL cells slots Q (wM am cI cZ on ba ik me un ra ne he de wa le n wt) (lv) (pc + 3) (.ref (am 1) :: st)) : gG p l e R s m args below meth c G A nL cells slots Q (wM am cI cZ on ba ik me un ra ne he de wa le n wt) (lv) (pc) (.ref (am 0) :: st) := ga_get C hin 0 rfl rfl 1 (by decide) hlink rfl rfl hd k
theorem gm_get_ba {am : Nat → Nat} {on ba : Nat → Int32} {ik : Nat} {me un : Nat → Int32} {ra : Nat → Nat} {ne : Nat → Int32} {he de : Nat → Nat} {wa : Nat → Int32} {le : Nat → Nat} {n wt : Nat} (C : gC p s m args c cc nL Ts own G (ty3 cI cJ cZ) A) (hin : ∀ w ∈ wsX20, w ∈ Ts) (hlink : Cond.fieldLink own index (TX2 2).1 (TX2 2).2.1 (TX2 2).2.2.1 ∈ Ts) (hd : decode cc pc = .ok (.getfield index, 3)) (k : gG p l e R s m args below meth c G A nL cells slots Q (wM am cI cZ on ba ik me un ra ne he de wa le n wt) (lv) (pc + 3) (.ref (am 2) :: st)) : gG p l e R s m args below meth c G A nL cells slots Q (wM am cI cZ on ba ik me un ra ne he de wa le n wt) (lv) (pc) (.ref (am 0) :: st) := ga_get C hin 0 rfl rfl 2 (by decide) hlink rfl rfl hd k
theorem gm_get_ik {am : Nat → Nat} {on ba : Nat → Int32} {ik : Nat} {me un : Nat → Int32} {ra : Nat → Nat} {ne : Nat → Int32} {he de : Nat → Nat} {wa : Nat → Int32} {le : Nat → Nat} {n wt : Nat} (C : gC p s m args c cc nL Ts own G (ty3 cI cJ cZ) A) (hin : ∀ w ∈ wsX20, w ∈ Ts) (hlink : Cond.fieldLink own index (TX2 3).1 (TX2 3).2.1 (TX2 3).2.2.1 ∈ Ts) (hd : decode cc pc = .ok (.getfield index, 3)) (k : gG p l e R s m args below meth c G A nL cells slots Q (wM am cI cZ on ba ik me un ra ne he de wa le n wt) (lv) (pc + 3) (.int (nI ik) :: st)) : gG p l e R s m args below meth c G A nL cells slots Q (wM am cI cZ on ba ik me un ra ne he de wa le n wt) (lv) (pc) (.ref (am 0) :: st) := ga_get C hin 0 rfl rfl 3 (by decide) hlink rfl rfl hd k
theorem gm_get_me {am : Nat → Nat} {on ba : Nat → Int32} {ik : Nat} {me un : Nat → Int32} {ra : Nat → Nat} {ne : Nat → Int32} {he de : Nat → Nat} {wa : Nat → Int32} {le : Nat → Nat} {n wt : Nat} (C : gC p s m args c cc nL Ts own G (ty3 cI cJ cZ) A) (hin : ∀ w ∈ wsX20, w ∈ Ts) (hlink : Cond.fieldLink own index (TX2 4).1 (TX2 4).2.1 (TX2 4).2.2.1 ∈ Ts) (hd : decode cc pc = .ok (.getfield index, 3)) (k : gG p l e R s m args below meth c G A nL cells slots Q (wM am cI cZ on ba ik me un ra ne he de wa le n wt) (lv) (pc + 3) (.ref (am 3) :: st)) : gG p l e R s m args below meth c G A nL cells slots Q (wM am cI cZ on ba ik me un ra ne he de wa le n wt) (lv) (pc) (.ref (am 0) :: st) := ga_get C hin 0 rfl rfl 4 (by decide) hlink rfl rfl hd k
theorem gm_get_un {am : Nat → Nat} {on ba : Nat → Int32} {ik : Nat} {me un : Nat → Int32} {ra : Nat → Nat} {ne : Nat → Int32} {he de : Nat → Nat} {wa : Nat → Int32} {le : Nat → Nat} {n wt : Nat} (C : gC p s m args c cc nL Ts own G (ty3 cI cJ cZ) A) (hin : ∀ w ∈ wsX20, w ∈ Ts) (hlink : Cond.fieldLink own index (TX2 5).1 (TX2 5).2.1 (TX2 5).2.2.1 ∈ Ts) (hd : decode cc pc = .ok (.getfield index, 3)) (k : gG p l e R s m args below meth c G A nL cells slots Q (wM am cI cZ on ba ik me un ra ne he de wa le n wt) (lv) (pc + 3) (.ref (am 4) :: st)) : gG p l e R s m args below meth c G A nL cells slots Q (wM am cI cZ on ba ik me un ra ne he de wa le n wt) (lv) (pc) (.ref (am 0) :: st) := ga_get C hin 0 rfl rfl 5 (by decide) hlink rfl rfl hd k
theorem gm_get_ra {am : Nat → Nat} {on ba : Nat → Int32} {ik : Nat} {me un : Nat → Int32} {ra : Nat → Nat} {ne : Nat → Int32} {he de : Nat → Nat} {wa : Nat → Int32} {le : Nat → Nat} {n wt : Nat} (C : gC p s m args c cc nL Ts own G (ty3 cI cJ cZ) A) (hin : ∀ w ∈ wsX20, w ∈ Ts) (hlink : Cond.fieldLink own index (TX2 6).1 (TX2 6).2.1 (TX2 6).2.2.1 ∈ Ts) (hd : decode cc pc = .ok (.getfield index, 3)) (k : gG p l e R s m args below meth c G A nL cells slots Q (wM am cI cZ on ba ik me un ra ne he de wa le n wt) (lv) (pc + 3) (.ref (am 5) :: st)) : gG p l e R s m args below meth c G A nL cells slots Q (wM am cI cZ on ba ik me un ra ne he de wa le n wt) (lv) (pc) (.ref (am 0) :: st) := ga_get C hin 0 rfl rfl 6 (by decide) hlink rfl rfl hd k
theorem gm_get_ne {am : Nat → Nat} {on ba : Nat → Int32} {ik : Nat} {me un : Nat → Int32} {ra : Nat → Nat} {ne : Nat → Int32} {he de : Nat → Nat} {wa : Nat → Int32} {le : Nat → Nat} {n wt : Nat} (C : gC p s m args c cc nL Ts own G (ty3 cI cJ cZ) A) (hin : ∀ w ∈ wsX20, w ∈ Ts) (hlink : Cond.fieldLink own index (TX2 7).1 (TX2 7).2.1 (TX2 7).2.2.1 ∈ Ts) (hd : decode cc pc = .ok (.getfield index, 3)) (k : gG p l e R s m args below meth c G A nL cells slots Q (wM am cI cZ on ba ik me un ra ne he de wa le n wt) (lv) (pc + 3) (.ref (am 6) :: st)) : gG p l e R s m args below meth c G A nL cells slots Q (wM am cI cZ on ba ik me un ra ne he de wa le n wt) (lv) (pc) (.ref (am 0) :: st) := ga_get C hin 0 rfl rfl 7 (by decide) hlink rfl rfl hd k
theorem gm_get_he {am : Nat → Nat} {on ba : Nat → Int32} {ik : Nat} {me un : Nat → Int32} {ra : Nat → Nat} {ne : Nat → Int32} {he de : Nat → Nat} {wa : Nat → Int32} {le : Nat → Nat} {n wt : Nat} (C : gC p s m args c cc nL Ts own G (ty3 cI cJ cZ) A) (hin : ∀ w ∈ wsX20, w ∈ Ts) (hlink : Cond.fieldLink own index (TX2 8).1 (TX2 8).2.1 (TX2 8).2.2.1 ∈ Ts) (hd : decode cc pc = .ok (.getfield index, 3)) (k : gG p l e R s m args below meth c G A nL cells slots Q (wM am cI cZ on ba ik me un ra ne he de wa le n wt) (lv) (pc + 3) (.ref (am 7) :: st)) : gG p l e R s m args below meth c G A nL cells slots Q (wM am cI cZ on ba ik me un ra ne he de wa le n wt) (lv) (pc) (.ref (am 0) :: st) := ga_get C hin 0 rfl rfl 8 (by decide) hlink rfl rfl hd k
theorem gm_get_de {am : Nat → Nat} {on ba : Nat → Int32} {ik : Nat} {me un : Nat → Int32} {ra : Nat → Nat} {ne : Nat → Int32} {he de : Nat → Nat} {wa : Nat → Int32} {le : Nat → Nat} {n wt : Nat} (C : gC p s m args c cc nL Ts own G (ty3 cI cJ cZ) A) (hin : ∀ w ∈ wsX20, w ∈ Ts) (hlink : Cond.fieldLink own index (TX2 9).1 (TX2 9).2.1 (TX2 9).2.2.1 ∈ Ts) (hd : decode cc pc = .ok (.getfield index, 3)) (k : gG p l e R s m args below meth c G A nL cells slots Q (wM am cI cZ on ba ik me un ra ne he de wa le n wt) (lv) (pc + 3) (.ref (am 8) :: st)) : gG p l e R s m args below meth c G A nL cells slots Q (wM am cI cZ on ba ik me un ra ne he de wa le n wt) (lv) (pc) (.ref (am 0) :: st) := ga_get C hin 0 rfl rfl 9 (by decide) hlink rfl rfl hd k
theorem gm_get_wa {am : Nat → Nat} {on ba : Nat → Int32} {ik : Nat} {me un : Nat → Int32} {ra : Nat → Nat} {ne : Nat → Int32} {he de : Nat → Nat} {wa : Nat → Int32} {le : Nat → Nat} {n wt : Nat} (C : gC p s m args c cc nL Ts own G (ty3 cI cJ cZ) A) (hin : ∀ w ∈ wsX20, w ∈ Ts) (hlink : Cond.fieldLink own index (TX2 10).1 (TX2 10).2.1 (TX2 10).2.2.1 ∈ Ts) (hd : decode cc pc = .ok (.getfield index, 3)) (k : gG p l e R s m args below meth c G A nL cells slots Q (wM am cI cZ on ba ik me un ra ne he de wa le n wt) (lv) (pc + 3) (.ref (am 9) :: st)) : gG p l e R s m args below meth c G A nL cells slots Q (wM am cI cZ on ba ik me un ra ne he de wa le n wt) (lv) (pc) (.ref (am 0) :: st) := ga_get C hin 0 rfl rfl 10 (by decide) hlink rfl rfl hd k
theorem gm_get_le {am : Nat → Nat} {on ba : Nat → Int32} {ik : Nat} {me un : Nat → Int32} {ra : Nat → Nat} {ne : Nat → Int32} {he de : Nat → Nat} {wa : Nat → Int32} {le : Nat → Nat} {n wt : Nat} (C : gC p s m args c cc nL Ts own G (ty3 cI cJ cZ) A) (hin : ∀ w ∈ wsX20, w ∈ Ts) (hlink : Cond.fieldLink own index (TX2 11).1 (TX2 11).2.1 (TX2 11).2.2.1 ∈ Ts) (hd : decode cc pc = .ok (.getfield index, 3)) (k : gG p l e R s m args below meth c G A nL cells slots Q (wM am cI cZ on ba ik me un ra ne he de wa le n wt) (lv) (pc + 3) (.ref (am 10) :: st)) : gG p l e R s m args below meth c G A nL cells slots Q (wM am cI cZ on ba ik me un ra ne he de wa le n wt) (lv) (pc) (.ref (am 0) :: st) := ga_get C hin 0 rfl rfl 11 (by decide) hlink rfl rfl hd k
theorem gm_get_wt {am : Nat → Nat} {on ba : Nat → Int32} {ik : Nat} {me un : Nat → Int32} {ra : Nat → Nat} {ne : Nat → Int32} {he de : Nat → Nat} {wa : Nat → Int32} {le : Nat → Nat} {n wt : Nat} (C : gC p s m args c cc nL Ts own G (ty3 cI cJ cZ) A) (hin : ∀ w ∈ wsX20, w ∈ Ts) (hlink : Cond.fieldLink own index (TX2 12).1 (TX2 12).2.1 (TX2 12).2.2.1 ∈ Ts) (hd : decode cc pc = .ok (.getfield index, 3)) (k : gG p l e R s m args below meth c G A nL cells slots Q (wM am cI cZ on ba ik me un ra ne he de wa le n wt) (lv) (pc + 3) (.int (nI wt) :: st)) : gG p l e R s m args below meth c G A nL cells slots Q (wM am cI cZ on ba ik me un ra ne he de wa le n wt) (lv) (pc) (.ref (am 0) :: st) := ga_get C hin 0 rfl rfl 12 (by decide) hlink rfl rfl hd k
theorem gm_put_n {am : Nat → Nat} {on ba : Nat → Int32} {ik : Nat} {me un : Nat → Int32} {ra : Nat → Nat} {ne : Nat → Int32} {he de : Nat → Nat} {wa : Nat → Int32} {le : Nat → Nat} {n wt : Nat} {v : Nat} (C : gC p s m args c cc nL Ts own G (ty3 cI cJ cZ) A) (hin : ∀ w ∈ wsX20, w ∈ Ts) (hlink : Cond.fieldLink own index (TX2 0).1 (TX2 0).2.1 (TX2 0).2.2.1 ∈ Ts) (hd : decode cc pc = .ok (.putfield index, 3)) (k : gG p l e R s m args below meth c G A nL cells slots Q (wM am cI cZ on ba ik me un ra ne he de wa le v wt) (lv) (pc + 3) (st)) : gG p l e R s m args below meth c G A nL cells slots Q (wM am cI cZ on ba ik me un ra ne he de wa le n wt) (lv) (pc) (.int (nI v) :: .ref (am 0) :: st) := by
  refine ga_put C hin tyX2 tyX2_ok nmX2 0 rfl rfl 0 (by decide) hlink rfl rfl (ty := .int) (by decide +kernel) rfl rfl (Nat.le_of_ble_eq_true rfl) hd rfl ?_
  exact k
theorem gm_put_wt {am : Nat → Nat} {on ba : Nat → Int32} {ik : Nat} {me un : Nat → Int32} {ra : Nat → Nat} {ne : Nat → Int32} {he de : Nat → Nat} {wa : Nat → Int32} {le : Nat → Nat} {n wt : Nat} {v : Nat} (C : gC p s m args c cc nL Ts own G (ty3 cI cJ cZ) A) (hin : ∀ w ∈ wsX20, w ∈ Ts) (hlink : Cond.fieldLink own index (TX2 12).1 (TX2 12).2.1 (TX2 12).2.2.1 ∈ Ts) (hd : decode cc pc = .ok (.putfield index, 3)) (k : gG p l e R s m args below meth c G A nL cells slots Q (wM am cI cZ on ba ik me un ra ne he de wa le n v) (lv) (pc + 3) (st)) : gG p l e R s m args below meth c G A nL cells slots Q (wM am cI cZ on ba ik me un ra ne he de wa le n wt) (lv) (pc) (.int (nI v) :: .ref (am 0) :: st) := by
  refine ga_put C hin tyX2 tyX2_ok nmX2 0 rfl rfl 12 (by decide) hlink rfl rfl (ty := .int) (by decide +kernel) rfl rfl (Nat.le_of_ble_eq_true rfl) hd rfl ?_
  exact k
theorem gm_put_ik {am : Nat → Nat} {on ba : Nat → Int32} {ik : Nat} {me un : Nat → Int32} {ra : Nat → Nat} {ne : Nat → Int32} {he de : Nat → Nat} {wa : Nat → Int32} {le : Nat → Nat} {n wt : Nat} {v : Nat} (C : gC p s m args c cc nL Ts own G (ty3 cI cJ cZ) A) (hin : ∀ w ∈ wsX20, w ∈ Ts) (hlink : Cond.fieldLink own index (TX2 3).1 (TX2 3).2.1 (TX2 3).2.2.1 ∈ Ts) (hv : v < 2) (hd : decode cc pc = .ok (.putfield index, 3)) (k : gG p l e R s m args below meth c G A nL cells slots Q (wM am cI cZ on ba v me un ra ne he de wa le n wt) (lv) (pc + 3) (st)) : gG p l e R s m args below meth c G A nL cells slots Q (wM am cI cZ on ba ik me un ra ne he de wa le n wt) (lv) (pc) (.int (nI v) :: .ref (am 0) :: st) := by
  refine ga_put C hin tyX2 tyX2_ok nmX2 0 rfl rfl 3 (by decide) hlink rfl rfl (ty := .boolean) (by decide +kernel) (nar_z hv) (fit_z hv) (Nat.le_of_ble_eq_true rfl) hd rfl ?_
  exact k
theorem gm_ald_ra {am : Nat → Nat} {on ba : Nat → Int32} {ik : Nat} {me un : Nat → Int32} {ra : Nat → Nat} {ne : Nat → Int32} {he de : Nat → Nat} {wa : Nat → Int32} {le : Nat → Nat} {n wt : Nat} {i : Nat} (C : gC p s m args c cc nL Ts own G (ty3 cI cJ cZ) A) (hi : i < 200) (hd : decode cc pc = .ok (.iaload, 1)) (k : gG p l e R s m args below meth c G A nL cells slots Q (wM am cI cZ on ba ik me un ra ne he de wa le n wt) (lv) (pc + 1) (.int (nI (ra i)) :: st)) : gG p l e R s m args below meth c G A nL cells slots Q (wM am cI cZ on ba ik me un ra ne he de wa le n wt) (lv) (pc) (.int (nI i) :: .ref (am 5) :: st) := gn_iald C 5 0 rfl rfl hi (by decide) hd k
theorem gm_ast_ra {am : Nat → Nat} {on ba : Nat → Int32} {ik : Nat} {me un : Nat → Int32} {ra : Nat → Nat} {ne : Nat → Int32} {he de : Nat → Nat} {wa : Nat → Int32} {le : Nat → Nat} {n wt : Nat} {i v : Nat} (C : gC p s m args c cc nL Ts own G (ty3 cI cJ cZ) A) (hi : i < 200)  (hd : decode cc pc = .ok (.iastore, 1)) (k : gG p l e R s m args below meth c G A nL cells slots Q (wM am cI cZ on ba ik me un (upN ra i v) ne he de wa le n wt) (lv) (pc + 1) (st)) : gG p l e R s m args below meth c G A nL cells slots Q (wM am cI cZ on ba ik me un ra ne he de wa le n wt) (lv) (pc) (.int (nI v) :: .int (nI i) :: .ref (am 5) :: st) := gn_iast C 5 0 rfl rfl hi (by decide)  hd rfl k
theorem gm_ald_he {am : Nat → Nat} {on ba : Nat → Int32} {ik : Nat} {me un : Nat → Int32} {ra : Nat → Nat} {ne : Nat → Int32} {he de : Nat → Nat} {wa : Nat → Int32} {le : Nat → Nat} {n wt : Nat} {i : Nat} (C : gC p s m args c cc nL Ts own G (ty3 cI cJ cZ) A) (hi : i < 200) (hd : decode cc pc = .ok (.baload, 1)) (k : gG p l e R s m args below meth c G A nL cells slots Q (wM am cI cZ on ba ik me un ra ne he de wa le n wt) (lv) (pc + 1) (.int (nI (he i)) :: st)) : gG p l e R s m args below meth c G A nL cells slots Q (wM am cI cZ on ba ik me un ra ne he de wa le n wt) (lv) (pc) (.int (nI i) :: .ref (am 7) :: st) := gn_zald C 7 2 rfl rfl hi (by decide) hd k
theorem gm_ast_he {am : Nat → Nat} {on ba : Nat → Int32} {ik : Nat} {me un : Nat → Int32} {ra : Nat → Nat} {ne : Nat → Int32} {he de : Nat → Nat} {wa : Nat → Int32} {le : Nat → Nat} {n wt : Nat} {i v : Nat} (C : gC p s m args c cc nL Ts own G (ty3 cI cJ cZ) A) (hi : i < 200) (hv : v < 2) (hd : decode cc pc = .ok (.bastore, 1)) (k : gG p l e R s m args below meth c G A nL cells slots Q (wM am cI cZ on ba ik me un ra ne (upN he i v) de wa le n wt) (lv) (pc + 1) (st)) : gG p l e R s m args below meth c G A nL cells slots Q (wM am cI cZ on ba ik me un ra ne he de wa le n wt) (lv) (pc) (.int (nI v) :: .int (nI i) :: .ref (am 7) :: st) := gn_zast C 7 2 rfl rfl hi (by decide) hv hd rfl k
theorem gm_ald_de {am : Nat → Nat} {on ba : Nat → Int32} {ik : Nat} {me un : Nat → Int32} {ra : Nat → Nat} {ne : Nat → Int32} {he de : Nat → Nat} {wa : Nat → Int32} {le : Nat → Nat} {n wt : Nat} {i : Nat} (C : gC p s m args c cc nL Ts own G (ty3 cI cJ cZ) A) (hi : i < 200) (hd : decode cc pc = .ok (.iaload, 1)) (k : gG p l e R s m args below meth c G A nL cells slots Q (wM am cI cZ on ba ik me un ra ne he de wa le n wt) (lv) (pc + 1) (.int (nI (de i)) :: st)) : gG p l e R s m args below meth c G A nL cells slots Q (wM am cI cZ on ba ik me un ra ne he de wa le n wt) (lv) (pc) (.int (nI i) :: .ref (am 8) :: st) := gn_iald C 8 0 rfl rfl hi (by decide) hd k
theorem gm_ast_de {am : Nat → Nat} {on ba : Nat → Int32} {ik : Nat} {me un : Nat → Int32} {ra : Nat → Nat} {ne : Nat → Int32} {he de : Nat → Nat} {wa : Nat → Int32} {le : Nat → Nat} {n wt : Nat} {i v : Nat} (C : gC p s m args c cc nL Ts own G (ty3 cI cJ cZ) A) (hi : i < 200)  (hd : decode cc pc = .ok (.iastore, 1)) (k : gG p l e R s m args below meth c G A nL cells slots Q (wM am cI cZ on ba ik me un ra ne he (upN de i v) wa le n wt) (lv) (pc + 1) (st)) : gG p l e R s m args below meth c G A nL cells slots Q (wM am cI cZ on ba ik me un ra ne he de wa le n wt) (lv) (pc) (.int (nI v) :: .int (nI i) :: .ref (am 8) :: st) := gn_iast C 8 0 rfl rfl hi (by decide)  hd rfl k
theorem gm_ald_le {am : Nat → Nat} {on ba : Nat → Int32} {ik : Nat} {me un : Nat → Int32} {ra : Nat → Nat} {ne : Nat → Int32} {he de : Nat → Nat} {wa : Nat → Int32} {le : Nat → Nat} {n wt : Nat} {i : Nat} (C : gC p s m args c cc nL Ts own G (ty3 cI cJ cZ) A) (hi : i < 200) (hd : decode cc pc = .ok (.iaload, 1)) (k : gG p l e R s m args below meth c G A nL cells slots Q (wM am cI cZ on ba ik me un ra ne he de wa le n wt) (lv) (pc + 1) (.int (nI (le i)) :: st)) : gG p l e R s m args below meth c G A nL cells slots Q (wM am cI cZ on ba ik me un ra ne he de wa le n wt) (lv) (pc) (.int (nI i) :: .ref (am 10) :: st) := gn_iald C 10 0 rfl rfl hi (by decide) hd k
theorem gm_ast_le {am : Nat → Nat} {on ba : Nat → Int32} {ik : Nat} {me un : Nat → Int32} {ra : Nat → Nat} {ne : Nat → Int32} {he de : Nat → Nat} {wa : Nat → Int32} {le : Nat → Nat} {n wt : Nat} {i v : Nat} (C : gC p s m args c cc nL Ts own G (ty3 cI cJ cZ) A) (hi : i < 200)  (hd : decode cc pc = .ok (.iastore, 1)) (k : gG p l e R s m args below meth c G A nL cells slots Q (wM am cI cZ on ba ik me un ra ne he de wa (upN le i v) n wt) (lv) (pc + 1) (st)) : gG p l e R s m args below meth c G A nL cells slots Q (wM am cI cZ on ba ik me un ra ne he de wa le n wt) (lv) (pc) (.int (nI v) :: .int (nI i) :: .ref (am 10) :: st) := gn_iast C 10 0 rfl rfl hi (by decide)  hd rfl k
theorem gm_ald_on {am : Nat → Nat} {on ba : Nat → Int32} {ik : Nat} {me un : Nat → Int32} {ra : Nat → Nat} {ne : Nat → Int32} {he de : Nat → Nat} {wa : Nat → Int32} {le : Nat → Nat} {n wt : Nat} {i : Nat} (C : gC p s m args c cc nL Ts own G (ty3 cI cJ cZ) A) (hi : i < 1400) (hd : decode cc pc = .ok (.iaload, 1)) (k : gG p l e R s m args below meth c G A nL cells slots Q (wM am cI cZ on ba ik me un ra ne he de wa le n wt) (lv) (pc + 1) (.int (on i) :: st)) : gG p l e R s m args below meth c G A nL cells slots Q (wM am cI cZ on ba ik me un ra ne he de wa le n wt) (lv) (pc) (.int (nI i) :: .ref (am 1) :: st) := ga_iald C 1 0 rfl rfl hi (by decide) hd k
theorem gm_ast_on {am : Nat → Nat} {on ba : Nat → Int32} {ik : Nat} {me un : Nat → Int32} {ra : Nat → Nat} {ne : Nat → Int32} {he de : Nat → Nat} {wa : Nat → Int32} {le : Nat → Nat} {n wt : Nat} {i : Nat} {x : Int32} (C : gC p s m args c cc nL Ts own G (ty3 cI cJ cZ) A) (hi : i < 1400) (hd : decode cc pc = .ok (.iastore, 1)) (k : gG p l e R s m args below meth c G A nL cells slots Q (wM am cI cZ (upd on i x) ba ik me un ra ne he de wa le n wt) (lv) (pc + 1) (st)) : gG p l e R s m args below meth c G A nL cells slots Q (wM am cI cZ on ba ik me un ra ne he de wa le n wt) (lv) (pc) (.int x :: .int (nI i) :: .ref (am 1) :: st) := ga_iast C 1 0 rfl rfl hi (by decide) hd rfl k
theorem gm_ald_ba {am : Nat → Nat} {on ba : Nat → Int32} {ik : Nat} {me un : Nat → Int32} {ra : Nat → Nat} {ne : Nat → Int32} {he de : Nat → Nat} {wa : Nat → Int32} {le : Nat → Nat} {n wt : Nat} {i : Nat} (C : gC p s m args c cc nL Ts own G (ty3 cI cJ cZ) A) (hi : i < 1400) (hd : decode cc pc = .ok (.iaload, 1)) (k : gG p l e R s m args below meth c G A nL cells slots Q (wM am cI cZ on ba ik me un ra ne he de wa le n wt) (lv) (pc + 1) (.int (ba i) :: st)) : gG p l e R s m args below meth c G A nL cells slots Q (wM am cI cZ on ba ik me un ra ne he de wa le n wt) (lv) (pc) (.int (nI i) :: .ref (am 2) :: st) := ga_iald C 2 0 rfl rfl hi (by decide) hd k
theorem gm_ast_ba {am : Nat → Nat} {on ba : Nat → Int32} {ik : Nat} {me un : Nat → Int32} {ra : Nat → Nat} {ne : Nat → Int32} {he de : Nat → Nat} {wa : Nat → Int32} {le : Nat → Nat} {n wt : Nat} {i : Nat} {x : Int32} (C : gC p s m args c cc nL Ts own G (ty3 cI cJ cZ) A) (hi : i < 1400) (hd : decode cc pc = .ok (.iastore, 1)) (k : gG p l e R s m args below meth c G A nL cells slots Q (wM am cI cZ on (upd ba i x) ik me un ra ne he de wa le n wt) (lv) (pc + 1) (st)) : gG p l e R s m args below meth c G A nL cells slots Q (wM am cI cZ on ba ik me un ra ne he de wa le n wt) (lv) (pc) (.int x :: .int (nI i) :: .ref (am 2) :: st) := ga_iast C 2 0 rfl rfl hi (by decide) hd rfl k
theorem gm_ald_me {am : Nat → Nat} {on ba : Nat → Int32} {ik : Nat} {me un : Nat → Int32} {ra : Nat → Nat} {ne : Nat → Int32} {he de : Nat → Nat} {wa : Nat → Int32} {le : Nat → Nat} {n wt : Nat} {i : Nat} (C : gC p s m args c cc nL Ts own G (ty3 cI cJ cZ) A) (hi : i < 7) (hd : decode cc pc = .ok (.iaload, 1)) (k : gG p l e R s m args below meth c G A nL cells slots Q (wM am cI cZ on ba ik me un ra ne he de wa le n wt) (lv) (pc + 1) (.int (me i) :: st)) : gG p l e R s m args below meth c G A nL cells slots Q (wM am cI cZ on ba ik me un ra ne he de wa le n wt) (lv) (pc) (.int (nI i) :: .ref (am 3) :: st) := ga_iald C 3 0 rfl rfl hi (by decide) hd k
theorem gm_ast_me {am : Nat → Nat} {on ba : Nat → Int32} {ik : Nat} {me un : Nat → Int32} {ra : Nat → Nat} {ne : Nat → Int32} {he de : Nat → Nat} {wa : Nat → Int32} {le : Nat → Nat} {n wt : Nat} {i : Nat} {x : Int32} (C : gC p s m args c cc nL Ts own G (ty3 cI cJ cZ) A) (hi : i < 7) (hd : decode cc pc = .ok (.iastore, 1)) (k : gG p l e R s m args below meth c G A nL cells slots Q (wM am cI cZ on ba ik (upd me i x) un ra ne he de wa le n wt) (lv) (pc + 1) (st)) : gG p l e R s m args below meth c G A nL cells slots Q (wM am cI cZ on ba ik me un ra ne he de wa le n wt) (lv) (pc) (.int x :: .int (nI i) :: .ref (am 3) :: st) := ga_iast C 3 0 rfl rfl hi (by decide) hd rfl k
theorem gm_ald_un {am : Nat → Nat} {on ba : Nat → Int32} {ik : Nat} {me un : Nat → Int32} {ra : Nat → Nat} {ne : Nat → Int32} {he de : Nat → Nat} {wa : Nat → Int32} {le : Nat → Nat} {n wt : Nat} {i : Nat} (C : gC p s m args c cc nL Ts own G (ty3 cI cJ cZ) A) (hi : i < 1400) (hd : decode cc pc = .ok (.iaload, 1)) (k : gG p l e R s m args below meth c G A nL cells slots Q (wM am cI cZ on ba ik me un ra ne he de wa le n wt) (lv) (pc + 1) (.int (un i) :: st)) : gG p l e R s m args below meth c G A nL cells slots Q (wM am cI cZ on ba ik me un ra ne he de wa le n wt) (lv) (pc) (.int (nI i) :: .ref (am 4) :: st) := ga_iald C 4 0 rfl rfl hi (by decide) hd k
theorem gm_ast_un {am : Nat → Nat} {on ba : Nat → Int32} {ik : Nat} {me un : Nat → Int32} {ra : Nat → Nat} {ne : Nat → Int32} {he de : Nat → Nat} {wa : Nat → Int32} {le : Nat → Nat} {n wt : Nat} {i : Nat} {x : Int32} (C : gC p s m args c cc nL Ts own G (ty3 cI cJ cZ) A) (hi : i < 1400) (hd : decode cc pc = .ok (.iastore, 1)) (k : gG p l e R s m args below meth c G A nL cells slots Q (wM am cI cZ on ba ik me (upd un i x) ra ne he de wa le n wt) (lv) (pc + 1) (st)) : gG p l e R s m args below meth c G A nL cells slots Q (wM am cI cZ on ba ik me un ra ne he de wa le n wt) (lv) (pc) (.int x :: .int (nI i) :: .ref (am 4) :: st) := ga_iast C 4 0 rfl rfl hi (by decide) hd rfl k
theorem gm_ald_ne {am : Nat → Nat} {on ba : Nat → Int32} {ik : Nat} {me un : Nat → Int32} {ra : Nat → Nat} {ne : Nat → Int32} {he de : Nat → Nat} {wa : Nat → Int32} {le : Nat → Nat} {n wt : Nat} {i : Nat} (C : gC p s m args c cc nL Ts own G (ty3 cI cJ cZ) A) (hi : i < 200) (hd : decode cc pc = .ok (.iaload, 1)) (k : gG p l e R s m args below meth c G A nL cells slots Q (wM am cI cZ on ba ik me un ra ne he de wa le n wt) (lv) (pc + 1) (.int (ne i) :: st)) : gG p l e R s m args below meth c G A nL cells slots Q (wM am cI cZ on ba ik me un ra ne he de wa le n wt) (lv) (pc) (.int (nI i) :: .ref (am 6) :: st) := ga_iald C 6 0 rfl rfl hi (by decide) hd k
theorem gm_ast_ne {am : Nat → Nat} {on ba : Nat → Int32} {ik : Nat} {me un : Nat → Int32} {ra : Nat → Nat} {ne : Nat → Int32} {he de : Nat → Nat} {wa : Nat → Int32} {le : Nat → Nat} {n wt : Nat} {i : Nat} {x : Int32} (C : gC p s m args c cc nL Ts own G (ty3 cI cJ cZ) A) (hi : i < 200) (hd : decode cc pc = .ok (.iastore, 1)) (k : gG p l e R s m args below meth c G A nL cells slots Q (wM am cI cZ on ba ik me un ra (upd ne i x) he de wa le n wt) (lv) (pc + 1) (st)) : gG p l e R s m args below meth c G A nL cells slots Q (wM am cI cZ on ba ik me un ra ne he de wa le n wt) (lv) (pc) (.int x :: .int (nI i) :: .ref (am 6) :: st) := ga_iast C 6 0 rfl rfl hi (by decide) hd rfl k
theorem gm_ald_wa {am : Nat → Nat} {on ba : Nat → Int32} {ik : Nat} {me un : Nat → Int32} {ra : Nat → Nat} {ne : Nat → Int32} {he de : Nat → Nat} {wa : Nat → Int32} {le : Nat → Nat} {n wt : Nat} {i : Nat} (C : gC p s m args c cc nL Ts own G (ty3 cI cJ cZ) A) (hi : i < 7) (hd : decode cc pc = .ok (.iaload, 1)) (k : gG p l e R s m args below meth c G A nL cells slots Q (wM am cI cZ on ba ik me un ra ne he de wa le n wt) (lv) (pc + 1) (.int (wa i) :: st)) : gG p l e R s m args below meth c G A nL cells slots Q (wM am cI cZ on ba ik me un ra ne he de wa le n wt) (lv) (pc) (.int (nI i) :: .ref (am 9) :: st) := ga_iald C 9 0 rfl rfl hi (by decide) hd k
theorem gm_ast_wa {am : Nat → Nat} {on ba : Nat → Int32} {ik : Nat} {me un : Nat → Int32} {ra : Nat → Nat} {ne : Nat → Int32} {he de : Nat → Nat} {wa : Nat → Int32} {le : Nat → Nat} {n wt : Nat} {i : Nat} {x : Int32} (C : gC p s m args c cc nL Ts own G (ty3 cI cJ cZ) A) (hi : i < 7) (hd : decode cc pc = .ok (.iastore, 1)) (k : gG p l e R s m args below meth c G A nL cells slots Q (wM am cI cZ on ba ik me un ra ne he de (upd wa i x) le n wt) (lv) (pc + 1) (st)) : gG p l e R s m args below meth c G A nL cells slots Q (wM am cI cZ on ba ik me un ra ne he de wa le n wt) (lv) (pc) (.int x :: .int (nI i) :: .ref (am 9) :: st) := ga_iast C 9 0 rfl rfl hi (by decide) hd rfl k
theorem gm_isSet_on {am : Nat → Nat} {on ba : Nat → Int32} {ik : Nat} {me un : Nat → Int32} {ra : Nat → Nat} {ne : Nat → Int32} {he de : Nat → Nat} {wa : Nat → Int32} {le : Nat → Nat} {n wt : Nat} {y : MethodName} {wy : List Cond} {bytes : ByteArray} {maxL nn : Nat} {ret : Option FieldType} {rm : Room} {As : List Value} (C : gC p s m args c cc nL Ts own G (ty3 cI cJ cZ) A) {post : Int32 → Unit → Prop} (hM : ctI l y wy rm G (ty3 cI cJ cZ) (.ref (am 1) :: As) [(am 1, .inl (cI, 1400, .inl on))] post (fun _ => [(am 1, .inl (cI, 1400, .inl on))])) (cw : CallB R s args own index y bytes maxL ret wy rm 0 0 nn ∧ (Cond.static y).before args s = true) (hlen : (.ref (am 1) :: As).length = nn) (hst : st0 = (.ref (am 1) :: As).reverse ++ st) (hroom : (st.map fun v => v.category).sum ≤ 8) (hd : decode cc pc = .ok (.invokestatic index, 3)) (hcap : cells ≤ R.cells ∧ slots ≤ R.slots) (k : ∀ r : Int32, post r () → gG p l e R s m args below meth c G A nL cells slots Q (wM am cI cZ on ba ik me un ra ne he de wa le n wt) (lv) (pc + 3) (.int r :: st)) : gG p l e R s m args below meth c G A nL cells slots Q (wM am cI cZ on ba ik me un ra ne he de wa le n wt) (lv) (pc) (st0) := ga_callSi (wr := [(am 0, .inr (2, [.int (nI n), .ref (am 1), .ref (am 2), .int (nI ik), .ref (am 3), .ref (am 4), .ref (am 5), .ref (am 6), .ref (am 7), .ref (am 8), .ref (am 9), .ref (am 10), .int (nI wt)])), (am 2, .inl (cI, 1400, .inl ba)), (am 3, .inl (cI, 7, .inl me)), (am 4, .inl (cI, 1400, .inl un)), (am 5, .inl (cI, 200, .inl (nA ra))), (am 6, .inl (cI, 200, .inl ne)), (am 7, .inl (cZ, 200, .inl (nA he))), (am 8, .inl (cI, 200, .inl (nA de))), (am 9, .inl (cI, 7, .inl wa)), (am 10, .inl (cI, 200, .inl (nA le)))]) C hM cw [1] [0, 2, 3, 4, 5, 6, 7, 8, 9, 10] rfl rfl rfl rfl (by decide) hlen hst hroom hd hcap (fun r u hp => ga_ws [0, 10, 1, 2, 3, 4, 5, 6, 7, 8, 9] rfl rfl (k r hp))
theorem gm_turn_on {am : Nat → Nat} {on ba : Nat → Int32} {ik : Nat} {me un : Nat → Int32} {ra : Nat → Nat} {ne : Nat → Int32} {he de : Nat → Nat} {wa : Nat → Int32} {le : Nat → Nat} {n wt : Nat} {y : MethodName} {wy : List Cond} {bytes : ByteArray} {maxL nn : Nat} {ret : Option FieldType} {rm : Room} {As : List Value} (C : gC p s m args c cc nL Ts own G (ty3 cI cJ cZ) A) {post : (Nat → Int32) → Prop} (hM : ctV l y wy rm G (ty3 cI cJ cZ) (.ref (am 1) :: As) [(am 1, .inl (cI, 1400, .inl on))] post (fun u => [(am 1, .inl (cI, 1400, .inl u))])) (cw : CallB R s args own index y bytes maxL ret wy rm 0 0 nn ∧ (Cond.static y).before args s = true) (hlen : (.ref (am 1) :: As).length = nn) (hst : st0 = (.ref (am 1) :: As).reverse ++ st) (hroom : (st.map fun v => v.category).sum ≤ 8) (hd : decode cc pc = .ok (.invokestatic index, 3)) (hcap : cells ≤ R.cells ∧ slots ≤ R.slots) (k : ∀ u : Nat → Int32, post u → gG p l e R s m args below meth c G A nL cells slots Q (wM am cI cZ u ba ik me un ra ne he de wa le n wt) (lv) (pc + 3) (st)) : gG p l e R s m args below meth c G A nL cells slots Q (wM am cI cZ on ba ik me un ra ne he de wa le n wt) (lv) (pc) (st0) := ga_callSv (wr := [(am 0, .inr (2, [.int (nI n), .ref (am 1), .ref (am 2), .int (nI ik), .ref (am 3), .ref (am 4), .ref (am 5), .ref (am 6), .ref (am 7), .ref (am 8), .ref (am 9), .ref (am 10), .int (nI wt)])), (am 2, .inl (cI, 1400, .inl ba)), (am 3, .inl (cI, 7, .inl me)), (am 4, .inl (cI, 1400, .inl un)), (am 5, .inl (cI, 200, .inl (nA ra))), (am 6, .inl (cI, 200, .inl ne)), (am 7, .inl (cZ, 200, .inl (nA he))), (am 8, .inl (cI, 200, .inl (nA de))), (am 9, .inl (cI, 7, .inl wa)), (am 10, .inl (cI, 200, .inl (nA le)))]) C hM cw [1] [0, 2, 3, 4, 5, 6, 7, 8, 9, 10] rfl rfl rfl rfl (by decide) hlen hst hroom hd hcap (fun u hp => ga_ws [0, 10, 1, 2, 3, 4, 5, 6, 7, 8, 9] rfl rfl (k u hp))
theorem gm_isSet_ba {am : Nat → Nat} {on ba : Nat → Int32} {ik : Nat} {me un : Nat → Int32} {ra : Nat → Nat} {ne : Nat → Int32} {he de : Nat → Nat} {wa : Nat → Int32} {le : Nat → Nat} {n wt : Nat} {y : MethodName} {wy : List Cond} {bytes : ByteArray} {maxL nn : Nat} {ret : Option FieldType} {rm : Room} {As : List Value} (C : gC p s m args c cc nL Ts own G (ty3 cI cJ cZ) A) {post : Int32 → Unit → Prop} (hM : ctI l y wy rm G (ty3 cI cJ cZ) (.ref (am 2) :: As) [(am 2, .inl (cI, 1400, .inl ba))] post (fun _ => [(am 2, .inl (cI, 1400, .inl ba))])) (cw : CallB R s args own index y bytes maxL ret wy rm 0 0 nn ∧ (Cond.static y).before args s = true) (hlen : (.ref (am 2) :: As).length = nn) (hst : st0 = (.ref (am 2) :: As).reverse ++ st) (hroom : (st.map fun v => v.category).sum ≤ 8) (hd : decode cc pc = .ok (.invokestatic index, 3)) (hcap : cells ≤ R.cells ∧ slots ≤ R.slots) (k : ∀ r : Int32, post r () → gG p l e R s m args below meth c G A nL cells slots Q (wM am cI cZ on ba ik me un ra ne he de wa le n wt) (lv) (pc + 3) (.int r :: st)) : gG p l e R s m args below meth c G A nL cells slots Q (wM am cI cZ on ba ik me un ra ne he de wa le n wt) (lv) (pc) (st0) := ga_callSi (wr := [(am 0, .inr (2, [.int (nI n), .ref (am 1), .ref (am 2), .int (nI ik), .ref (am 3), .ref (am 4), .ref (am 5), .ref (am 6), .ref (am 7), .ref (am 8), .ref (am 9), .ref (am 10), .int (nI wt)])), (am 1, .inl (cI, 1400, .inl on)), (am 3, .inl (cI, 7, .inl me)), (am 4, .inl (cI, 1400, .inl un)), (am 5, .inl (cI, 200, .inl (nA ra))), (am 6, .inl (cI, 200, .inl ne)), (am 7, .inl (cZ, 200, .inl (nA he))), (am 8, .inl (cI, 200, .inl (nA de))), (am 9, .inl (cI, 7, .inl wa)), (am 10, .inl (cI, 200, .inl (nA le)))]) C hM cw [2] [0, 1, 3, 4, 5, 6, 7, 8, 9, 10] rfl rfl rfl rfl (by decide) hlen hst hroom hd hcap (fun r u hp => ga_ws [0, 1, 10, 2, 3, 4, 5, 6, 7, 8, 9] rfl rfl (k r hp))
theorem gm_turn_ba {am : Nat → Nat} {on ba : Nat → Int32} {ik : Nat} {me un : Nat → Int32} {ra : Nat → Nat} {ne : Nat → Int32} {he de : Nat → Nat} {wa : Nat → Int32} {le : Nat → Nat} {n wt : Nat} {y : MethodName} {wy : List Cond} {bytes : ByteArray} {maxL nn : Nat} {ret : Option FieldType} {rm : Room} {As : List Value} (C : gC p s m args c cc nL Ts own G (ty3 cI cJ cZ) A) {post : (Nat → Int32) → Prop} (hM : ctV l y wy rm G (ty3 cI cJ cZ) (.ref (am 2) :: As) [(am 2, .inl (cI, 1400, .inl ba))] post (fun u => [(am 2, .inl (cI, 1400, .inl u))])) (cw : CallB R s args own index y bytes maxL ret wy rm 0 0 nn ∧ (Cond.static y).before args s = true) (hlen : (.ref (am 2) :: As).length = nn) (hst : st0 = (.ref (am 2) :: As).reverse ++ st) (hroom : (st.map fun v => v.category).sum ≤ 8) (hd : decode cc pc = .ok (.invokestatic index, 3)) (hcap : cells ≤ R.cells ∧ slots ≤ R.slots) (k : ∀ u : Nat → Int32, post u → gG p l e R s m args below meth c G A nL cells slots Q (wM am cI cZ on u ik me un ra ne he de wa le n wt) (lv) (pc + 3) (st)) : gG p l e R s m args below meth c G A nL cells slots Q (wM am cI cZ on ba ik me un ra ne he de wa le n wt) (lv) (pc) (st0) := ga_callSv (wr := [(am 0, .inr (2, [.int (nI n), .ref (am 1), .ref (am 2), .int (nI ik), .ref (am 3), .ref (am 4), .ref (am 5), .ref (am 6), .ref (am 7), .ref (am 8), .ref (am 9), .ref (am 10), .int (nI wt)])), (am 1, .inl (cI, 1400, .inl on)), (am 3, .inl (cI, 7, .inl me)), (am 4, .inl (cI, 1400, .inl un)), (am 5, .inl (cI, 200, .inl (nA ra))), (am 6, .inl (cI, 200, .inl ne)), (am 7, .inl (cZ, 200, .inl (nA he))), (am 8, .inl (cI, 200, .inl (nA de))), (am 9, .inl (cI, 7, .inl wa)), (am 10, .inl (cI, 200, .inl (nA le)))]) C hM cw [2] [0, 1, 3, 4, 5, 6, 7, 8, 9, 10] rfl rfl rfl rfl (by decide) hlen hst hroom hd hcap (fun u hp => ga_ws [0, 1, 10, 2, 3, 4, 5, 6, 7, 8, 9] rfl rfl (k u hp))
theorem gm_isSet_me {am : Nat → Nat} {on ba : Nat → Int32} {ik : Nat} {me un : Nat → Int32} {ra : Nat → Nat} {ne : Nat → Int32} {he de : Nat → Nat} {wa : Nat → Int32} {le : Nat → Nat} {n wt : Nat} {y : MethodName} {wy : List Cond} {bytes : ByteArray} {maxL nn : Nat} {ret : Option FieldType} {rm : Room} {As : List Value} (C : gC p s m args c cc nL Ts own G (ty3 cI cJ cZ) A) {post : Int32 → Unit → Prop} (hM : ctI l y wy rm G (ty3 cI cJ cZ) (.ref (am 3) :: As) [(am 3, .inl (cI, 7, .inl me))] post (fun _ => [(am 3, .inl (cI, 7, .inl me))])) (cw : CallB R s args own index y bytes maxL ret wy rm 0 0 nn ∧ (Cond.static y).before args s = true) (hlen : (.ref (am 3) :: As).length = nn) (hst : st0 = (.ref (am 3) :: As).reverse ++ st) (hroom : (st.map fun v => v.category).sum ≤ 8) (hd : decode cc pc = .ok (.invokestatic index, 3)) (hcap : cells ≤ R.cells ∧ slots ≤ R.slots) (k : ∀ r : Int32, post r () → gG p l e R s m args below meth c G A nL cells slots Q (wM am cI cZ on ba ik me un ra ne he de wa le n wt) (lv) (pc + 3) (.int r :: st)) : gG p l e R s m args below meth c G A nL cells slots Q (wM am cI cZ on ba ik me un ra ne he de wa le n wt) (lv) (pc) (st0) := ga_callSi (wr := [(am 0, .inr (2, [.int (nI n), .ref (am 1), .ref (am 2), .int (nI ik), .ref (am 3), .ref (am 4), .ref (am 5), .ref (am 6), .ref (am 7), .ref (am 8), .ref (am 9), .ref (am 10), .int (nI wt)])), (am 1, .inl (cI, 1400, .inl on)), (am 2, .inl (cI, 1400, .inl ba)), (am 4, .inl (cI, 1400, .inl un)), (am 5, .inl (cI, 200, .inl (nA ra))), (am 6, .inl (cI, 200, .inl ne)), (am 7, .inl (cZ, 200, .inl (nA he))), (am 8, .inl (cI, 200, .inl (nA de))), (am 9, .inl (cI, 7, .inl wa)), (am 10, .inl (cI, 200, .inl (nA le)))]) C hM cw [3] [0, 1, 2, 4, 5, 6, 7, 8, 9, 10] rfl rfl rfl rfl (by decide) hlen hst hroom hd hcap (fun r u hp => ga_ws [0, 1, 2, 10, 3, 4, 5, 6, 7, 8, 9] rfl rfl (k r hp))
theorem gm_isSet_un {am : Nat → Nat} {on ba : Nat → Int32} {ik : Nat} {me un : Nat → Int32} {ra : Nat → Nat} {ne : Nat → Int32} {he de : Nat → Nat} {wa : Nat → Int32} {le : Nat → Nat} {n wt : Nat} {y : MethodName} {wy : List Cond} {bytes : ByteArray} {maxL nn : Nat} {ret : Option FieldType} {rm : Room} {As : List Value} (C : gC p s m args c cc nL Ts own G (ty3 cI cJ cZ) A) {post : Int32 → Unit → Prop} (hM : ctI l y wy rm G (ty3 cI cJ cZ) (.ref (am 4) :: As) [(am 4, .inl (cI, 1400, .inl un))] post (fun _ => [(am 4, .inl (cI, 1400, .inl un))])) (cw : CallB R s args own index y bytes maxL ret wy rm 0 0 nn ∧ (Cond.static y).before args s = true) (hlen : (.ref (am 4) :: As).length = nn) (hst : st0 = (.ref (am 4) :: As).reverse ++ st) (hroom : (st.map fun v => v.category).sum ≤ 8) (hd : decode cc pc = .ok (.invokestatic index, 3)) (hcap : cells ≤ R.cells ∧ slots ≤ R.slots) (k : ∀ r : Int32, post r () → gG p l e R s m args below meth c G A nL cells slots Q (wM am cI cZ on ba ik me un ra ne he de wa le n wt) (lv) (pc + 3) (.int r :: st)) : gG p l e R s m args below meth c G A nL cells slots Q (wM am cI cZ on ba ik me un ra ne he de wa le n wt) (lv) (pc) (st0) := ga_callSi (wr := [(am 0, .inr (2, [.int (nI n), .ref (am 1), .ref (am 2), .int (nI ik), .ref (am 3), .ref (am 4), .ref (am 5), .ref (am 6), .ref (am 7), .ref (am 8), .ref (am 9), .ref (am 10), .int (nI wt)])), (am 1, .inl (cI, 1400, .inl on)), (am 2, .inl (cI, 1400, .inl ba)), (am 3, .inl (cI, 7, .inl me)), (am 5, .inl (cI, 200, .inl (nA ra))), (am 6, .inl (cI, 200, .inl ne)), (am 7, .inl (cZ, 200, .inl (nA he))), (am 8, .inl (cI, 200, .inl (nA de))), (am 9, .inl (cI, 7, .inl wa)), (am 10, .inl (cI, 200, .inl (nA le)))]) C hM cw [4] [0, 1, 2, 3, 5, 6, 7, 8, 9, 10] rfl rfl rfl rfl (by decide) hlen hst hroom hd hcap (fun r u hp => ga_ws [0, 1, 2, 3, 10, 4, 5, 6, 7, 8, 9] rfl rfl (k r hp))
theorem gm_isSet_wa {am : Nat → Nat} {on ba : Nat → Int32} {ik : Nat} {me un : Nat → Int32} {ra : Nat → Nat} {ne : Nat → Int32} {he de : Nat → Nat} {wa : Nat → Int32} {le : Nat → Nat} {n wt : Nat} {y : MethodName} {wy : List Cond} {bytes : ByteArray} {maxL nn : Nat} {ret : Option FieldType} {rm : Room} {As : List Value} (C : gC p s m args c cc nL Ts own G (ty3 cI cJ cZ) A) {post : Int32 → Unit → Prop} (hM : ctI l y wy rm G (ty3 cI cJ cZ) (.ref (am 9) :: As) [(am 9, .inl (cI, 7, .inl wa))] post (fun _ => [(am 9, .inl (cI, 7, .inl wa))])) (cw : CallB R s args own index y bytes maxL ret wy rm 0 0 nn ∧ (Cond.static y).before args s = true) (hlen : (.ref (am 9) :: As).length = nn) (hst : st0 = (.ref (am 9) :: As).reverse ++ st) (hroom : (st.map fun v => v.category).sum ≤ 8) (hd : decode cc pc = .ok (.invokestatic index, 3)) (hcap : cells ≤ R.cells ∧ slots ≤ R.slots) (k : ∀ r : Int32, post r () → gG p l e R s m args below meth c G A nL cells slots Q (wM am cI cZ on ba ik me un ra ne he de wa le n wt) (lv) (pc + 3) (.int r :: st)) : gG p l e R s m args below meth c G A nL cells slots Q (wM am cI cZ on ba ik me un ra ne he de wa le n wt) (lv) (pc) (st0) := ga_callSi (wr := [(am 0, .inr (2, [.int (nI n), .ref (am 1), .ref (am 2), .int (nI ik), .ref (am 3), .ref (am 4), .ref (am 5), .ref (am 6), .ref (am 7), .ref (am 8), .ref (am 9), .ref (am 10), .int (nI wt)])), (am 1, .inl (cI, 1400, .inl on)), (am 2, .inl (cI, 1400, .inl ba)), (am 3, .inl (cI, 7, .inl me)), (am 4, .inl (cI, 1400, .inl un)), (am 5, .inl (cI, 200, .inl (nA ra))), (am 6, .inl (cI, 200, .inl ne)), (am 7, .inl (cZ, 200, .inl (nA he))), (am 8, .inl (cI, 200, .inl (nA de))), (am 10, .inl (cI, 200, .inl (nA le)))]) C hM cw [9] [0, 1, 2, 3, 4, 5, 6, 7, 8, 10] rfl rfl rfl rfl (by decide) hlen hst hroom hd hcap (fun r u hp => ga_ws [0, 1, 2, 3, 4, 5, 6, 7, 8, 10, 9] rfl rfl (k r hp))
abbrev MS : Type := (Nat → Int32) × (Nat → Int32) × Nat × (Nat → Int32) × (Nat → Int32) × (Nat → Nat) × (Nat → Int32) × (Nat → Nat) × (Nat → Nat) × (Nat → Int32) × (Nat → Nat) × Nat × Nat
abbrev wMu (am : Nat → Nat) (cI cZ : ClassId) (u : MS) : va_W := wM am cI cZ u.1 u.2.1 u.2.2.1 u.2.2.2.1 u.2.2.2.2.1 u.2.2.2.2.2.1 u.2.2.2.2.2.2.1 u.2.2.2.2.2.2.2.1 u.2.2.2.2.2.2.2.2.1 u.2.2.2.2.2.2.2.2.2.1 u.2.2.2.2.2.2.2.2.2.2.1 u.2.2.2.2.2.2.2.2.2.2.2.1 u.2.2.2.2.2.2.2.2.2.2.2.2
theorem gm_call_i {am : Nat → Nat} {on ba : Nat → Int32} {ik : Nat} {me un : Nat → Int32} {ra : Nat → Nat} {ne : Nat → Int32} {he de : Nat → Nat} {wa : Nat → Int32} {le : Nat → Nat} {n wt : Nat} {y : MethodName} {wy : List Cond} {bytes : ByteArray} {maxL nn : Nat} {ret : Option FieldType} {rm : Room} {As : List Value} (C : gC p s m args c cc nL Ts own G (ty3 cI cJ cZ) A) {post : Int32 → MS → Prop} (hM : ctI l y wy rm G (ty3 cI cJ cZ) (.ref (am 0) :: As) (wM am cI cZ on ba ik me un ra ne he de wa le n wt) post (wMu am cI cZ)) (cw : CallW R s args own RX2 index y bytes maxL ret wy rm 0 0 nn) (hlen : As.length = nn) (hst : st0 = As.reverse ++ .ref (am 0) :: st) (hroom : (st.map fun v => v.category).sum ≤ 8) (hd : decode cc pc = .ok (.invokevirtual index, 3)) (hcap : cells ≤ R.cells ∧ slots ≤ R.slots) (k : ∀ (r : Int32) (on2 ba2 : Nat → Int32) (ik2 : Nat) (me2 un2 : Nat → Int32) (ra2 : Nat → Nat) (ne2 : Nat → Int32) (he2 de2 : Nat → Nat) (wa2 : Nat → Int32) (le2 : Nat → Nat) (n2 wt2 : Nat), post r (on2, ba2, ik2, me2, un2, ra2, ne2, he2, de2, wa2, le2, n2, wt2) → gG p l e R s m args below meth c G A nL cells slots Q (wM am cI cZ on2 ba2 ik2 me2 un2 ra2 ne2 he2 de2 wa2 le2 n2 wt2) (lv) (pc + 3) (.int r :: st)) : gG p l e R s m args below meth c G A nL cells slots Q (wM am cI cZ on ba ik me un ra ne he de wa le n wt) (lv) (pc) (st0) := ga_callVi (wr := []) C hM cw [0, 1, 2, 3, 4, 5, 6, 7, 8, 9, 10] [] rfl rfl rfl rfl (by decide) 0 rfl rfl rfl hlen hst hroom hd hcap (fun r u hp => k r u.1 u.2.1 u.2.2.1 u.2.2.2.1 u.2.2.2.2.1 u.2.2.2.2.2.1 u.2.2.2.2.2.2.1 u.2.2.2.2.2.2.2.1 u.2.2.2.2.2.2.2.2.1 u.2.2.2.2.2.2.2.2.2.1 u.2.2.2.2.2.2.2.2.2.2.1 u.2.2.2.2.2.2.2.2.2.2.2.1 u.2.2.2.2.2.2.2.2.2.2.2.2 hp)
theorem gm_call_v {am : Nat → Nat} {on ba : Nat → Int32} {ik : Nat} {me un : Nat → Int32} {ra : Nat → Nat} {ne : Nat → Int32} {he de : Nat → Nat} {wa : Nat → Int32} {le : Nat → Nat} {n wt : Nat} {y : MethodName} {wy : List Cond} {bytes : ByteArray} {maxL nn : Nat} {ret : Option FieldType} {rm : Room} {As : List Value} (C : gC p s m args c cc nL Ts own G (ty3 cI cJ cZ) A) {post : MS → Prop} (hM : ctV l y wy rm G (ty3 cI cJ cZ) (.ref (am 0) :: As) (wM am cI cZ on ba ik me un ra ne he de wa le n wt) post (wMu am cI cZ)) (cw : CallW R s args own RX2 index y bytes maxL ret wy rm 0 0 nn) (hlen : As.length = nn) (hst : st0 = As.reverse ++ .ref (am 0) :: st) (hroom : (st.map fun v => v.category).sum ≤ 8) (hd : decode cc pc = .ok (.invokevirtual index, 3)) (hcap : cells ≤ R.cells ∧ slots ≤ R.slots) (k : ∀ (on2 ba2 : Nat → Int32) (ik2 : Nat) (me2 un2 : Nat → Int32) (ra2 : Nat → Nat) (ne2 : Nat → Int32) (he2 de2 : Nat → Nat) (wa2 : Nat → Int32) (le2 : Nat → Nat) (n2 wt2 : Nat), post (on2, ba2, ik2, me2, un2, ra2, ne2, he2, de2, wa2, le2, n2, wt2) → gG p l e R s m args below meth c G A nL cells slots Q (wM am cI cZ on2 ba2 ik2 me2 un2 ra2 ne2 he2 de2 wa2 le2 n2 wt2) (lv) (pc + 3) (st)) : gG p l e R s m args below meth c G A nL cells slots Q (wM am cI cZ on ba ik me un ra ne he de wa le n wt) (lv) (pc) (st0) := ga_callVv (wr := []) C hM cw [0, 1, 2, 3, 4, 5, 6, 7, 8, 9, 10] [] rfl rfl rfl rfl (by decide) 0 rfl rfl rfl hlen hst hroom hd hcap (fun u hp => k u.1 u.2.1 u.2.2.1 u.2.2.2.1 u.2.2.2.2.1 u.2.2.2.2.2.1 u.2.2.2.2.2.2.1 u.2.2.2.2.2.2.2.1 u.2.2.2.2.2.2.2.2.1 u.2.2.2.2.2.2.2.2.2.1 u.2.2.2.2.2.2.2.2.2.2.1 u.2.2.2.2.2.2.2.2.2.2.2.1 u.2.2.2.2.2.2.2.2.2.2.2.2 hp)
theorem gm_call_r {am : Nat → Nat} {on ba : Nat → Int32} {ik : Nat} {me un : Nat → Int32} {ra : Nat → Nat} {ne : Nat → Int32} {he de : Nat → Nat} {wa : Nat → Int32} {le : Nat → Nat} {n wt : Nat} {y : MethodName} {wy : List Cond} {bytes : ByteArray} {maxL nn : Nat} {ret : Option FieldType} {rm : Room} {As : List Value} (C : gC p s m args c cc nL Ts own G (ty3 cI cJ cZ) A) {post : Int32 → Unit → Prop} (hM : ctI l y wy rm G (ty3 cI cJ cZ) (.ref (am 0) :: As) (wM am cI cZ on ba ik me un ra ne he de wa le n wt) post (fun _ => wM am cI cZ on ba ik me un ra ne he de wa le n wt)) (cw : CallW R s args own RX2 index y bytes maxL ret wy rm 0 0 nn) (hlen : As.length = nn) (hst : st0 = As.reverse ++ .ref (am 0) :: st) (hroom : (st.map fun v => v.category).sum ≤ 8) (hd : decode cc pc = .ok (.invokevirtual index, 3)) (hcap : cells ≤ R.cells ∧ slots ≤ R.slots) (k : ∀ r : Int32, post r () → gG p l e R s m args below meth c G A nL cells slots Q (wM am cI cZ on ba ik me un ra ne he de wa le n wt) (lv) (pc + 3) (.int r :: st)) : gG p l e R s m args below meth c G A nL cells slots Q (wM am cI cZ on ba ik me un ra ne he de wa le n wt) (lv) (pc) (st0) := ga_callVi (wr := []) C hM cw [0, 1, 2, 3, 4, 5, 6, 7, 8, 9, 10] [] rfl rfl rfl rfl (by decide) 0 rfl rfl rfl hlen hst hroom hd hcap (fun r u hp => k r hp)
end GWM
set_option maxRecDepth 20000 in
theorem in_X0_init : ∀ w ∈ wsX00, w ∈ wsX0_init := by first | exact fun _ h => List.mem_cons_of_mem _ (List.mem_append_right _ h) | exact fun _ h => List.mem_cons_of_mem _ (List.mem_append_left _ (List.mem_append_right _ h)) | exact fun _ h => List.mem_cons_of_mem _ (List.mem_append_left _ (List.mem_append_left _ (List.mem_append_right _ h))) | decide +kernel
set_option maxRecDepth 20000 in
theorem in_X0_clear : ∀ w ∈ wsX00, w ∈ wsX0_clear := by first | exact fun _ h => List.mem_cons_of_mem _ (List.mem_append_right _ h) | exact fun _ h => List.mem_cons_of_mem _ (List.mem_append_left _ (List.mem_append_right _ h)) | exact fun _ h => List.mem_cons_of_mem _ (List.mem_append_left _ (List.mem_append_left _ (List.mem_append_right _ h))) | decide +kernel
set_option maxRecDepth 20000 in
theorem in_X0_fill : ∀ w ∈ wsX00, w ∈ wsX0_fill := by first | exact fun _ h => List.mem_cons_of_mem _ (List.mem_append_right _ h) | exact fun _ h => List.mem_cons_of_mem _ (List.mem_append_left _ (List.mem_append_right _ h)) | exact fun _ h => List.mem_cons_of_mem _ (List.mem_append_left _ (List.mem_append_left _ (List.mem_append_right _ h))) | decide +kernel
set_option maxRecDepth 20000 in
theorem in_X0_holds : ∀ w ∈ wsX00, w ∈ wsX0_holds := by first | exact fun _ h => List.mem_cons_of_mem _ (List.mem_append_right _ h) | exact fun _ h => List.mem_cons_of_mem _ (List.mem_append_left _ (List.mem_append_right _ h)) | exact fun _ h => List.mem_cons_of_mem _ (List.mem_append_left _ (List.mem_append_left _ (List.mem_append_right _ h))) | decide +kernel
set_option maxRecDepth 20000 in
theorem in_X0_put : ∀ w ∈ wsX00, w ∈ wsX0_put := by first | exact fun _ h => List.mem_cons_of_mem _ (List.mem_append_right _ h) | exact fun _ h => List.mem_cons_of_mem _ (List.mem_append_left _ (List.mem_append_right _ h)) | exact fun _ h => List.mem_cons_of_mem _ (List.mem_append_left _ (List.mem_append_left _ (List.mem_append_right _ h))) | decide +kernel
set_option maxRecDepth 20000 in
theorem in_X0_count : ∀ w ∈ wsX00, w ∈ wsX0_count := by first | exact fun _ h => List.mem_cons_of_mem _ (List.mem_append_right _ h) | exact fun _ h => List.mem_cons_of_mem _ (List.mem_append_left _ (List.mem_append_right _ h)) | exact fun _ h => List.mem_cons_of_mem _ (List.mem_append_left _ (List.mem_append_left _ (List.mem_append_right _ h))) | decide +kernel
set_option maxRecDepth 20000 in
theorem in_X0_next : ∀ w ∈ wsX00, w ∈ wsX0_next := by first | exact fun _ h => List.mem_cons_of_mem _ (List.mem_append_right _ h) | exact fun _ h => List.mem_cons_of_mem _ (List.mem_append_left _ (List.mem_append_right _ h)) | exact fun _ h => List.mem_cons_of_mem _ (List.mem_append_left _ (List.mem_append_left _ (List.mem_append_right _ h))) | decide +kernel
set_option maxRecDepth 20000 in
theorem in_X0_keepOthersOf : ∀ w ∈ wsX00, w ∈ wsX0_keepOthersOf := by first | exact fun _ h => List.mem_cons_of_mem _ (List.mem_append_right _ h) | exact fun _ h => List.mem_cons_of_mem _ (List.mem_append_left _ (List.mem_append_right _ h)) | exact fun _ h => List.mem_cons_of_mem _ (List.mem_append_left _ (List.mem_append_left _ (List.mem_append_right _ h))) | decide +kernel
set_option maxRecDepth 20000 in
theorem in_X1_init : ∀ w ∈ wsX10, w ∈ wsX1_init := by first | exact fun _ h => List.mem_cons_of_mem _ (List.mem_append_right _ h) | exact fun _ h => List.mem_cons_of_mem _ (List.mem_append_left _ (List.mem_append_right _ h)) | exact fun _ h => List.mem_cons_of_mem _ (List.mem_append_left _ (List.mem_append_left _ (List.mem_append_right _ h))) | decide +kernel
set_option maxRecDepth 20000 in
theorem in_X1_size : ∀ w ∈ wsX10, w ∈ wsX1_size := by first | exact fun _ h => List.mem_cons_of_mem _ (List.mem_append_right _ h) | exact fun _ h => List.mem_cons_of_mem _ (List.mem_append_left _ (List.mem_append_right _ h)) | exact fun _ h => List.mem_cons_of_mem _ (List.mem_append_left _ (List.mem_append_left _ (List.mem_append_right _ h))) | decide +kernel
set_option maxRecDepth 20000 in
theorem in_X1_isBlock : ∀ w ∈ wsX10, w ∈ wsX1_isBlock := by first | exact fun _ h => List.mem_cons_of_mem _ (List.mem_append_right _ h) | exact fun _ h => List.mem_cons_of_mem _ (List.mem_append_left _ (List.mem_append_right _ h)) | exact fun _ h => List.mem_cons_of_mem _ (List.mem_append_left _ (List.mem_append_left _ (List.mem_append_right _ h))) | decide +kernel
set_option maxRecDepth 20000 in
theorem in_X1_edge : ∀ w ∈ wsX10, w ∈ wsX1_edge := by first | exact fun _ h => List.mem_cons_of_mem _ (List.mem_append_right _ h) | exact fun _ h => List.mem_cons_of_mem _ (List.mem_append_left _ (List.mem_append_right _ h)) | exact fun _ h => List.mem_cons_of_mem _ (List.mem_append_left _ (List.mem_append_left _ (List.mem_append_right _ h))) | decide +kernel
set_option maxRecDepth 20000 in
theorem in_X1_has : ∀ w ∈ wsX10, w ∈ wsX1_has := by first | exact fun _ h => List.mem_cons_of_mem _ (List.mem_append_right _ h) | exact fun _ h => List.mem_cons_of_mem _ (List.mem_append_left _ (List.mem_append_right _ h)) | exact fun _ h => List.mem_cons_of_mem _ (List.mem_append_left _ (List.mem_append_left _ (List.mem_append_right _ h))) | decide +kernel
set_option maxRecDepth 20000 in
theorem in_X1_takeUnreachedTarget : ∀ w ∈ wsX10, w ∈ wsX1_takeUnreachedTarget := by first | exact fun _ h => List.mem_cons_of_mem _ (List.mem_append_right _ h) | exact fun _ h => List.mem_cons_of_mem _ (List.mem_append_left _ (List.mem_append_right _ h)) | exact fun _ h => List.mem_cons_of_mem _ (List.mem_append_left _ (List.mem_append_left _ (List.mem_append_right _ h))) | decide +kernel
set_option maxRecDepth 20000 in
theorem in_X1_findReached : ∀ w ∈ wsX10, w ∈ wsX1_findReached := by first | exact fun _ h => List.mem_cons_of_mem _ (List.mem_append_right _ h) | exact fun _ h => List.mem_cons_of_mem _ (List.mem_append_left _ (List.mem_append_right _ h)) | exact fun _ h => List.mem_cons_of_mem _ (List.mem_append_left _ (List.mem_append_left _ (List.mem_append_right _ h))) | decide +kernel
set_option maxRecDepth 20000 in
theorem in_X1_reached : ∀ w ∈ wsX10, w ∈ wsX1_reached := by first | exact fun _ h => List.mem_cons_of_mem _ (List.mem_append_right _ h) | exact fun _ h => List.mem_cons_of_mem _ (List.mem_append_left _ (List.mem_append_right _ h)) | exact fun _ h => List.mem_cons_of_mem _ (List.mem_append_left _ (List.mem_append_left _ (List.mem_append_right _ h))) | decide +kernel
set_option maxRecDepth 20000 in
theorem in_X1_reachedOnes : ∀ w ∈ wsX10, w ∈ wsX1_reachedOnes := by first | exact fun _ h => List.mem_cons_of_mem _ (List.mem_append_right _ h) | exact fun _ h => List.mem_cons_of_mem _ (List.mem_append_left _ (List.mem_append_right _ h)) | exact fun _ h => List.mem_cons_of_mem _ (List.mem_append_left _ (List.mem_append_left _ (List.mem_append_right _ h))) | decide +kernel
set_option maxRecDepth 20000 in
theorem in_X1_startDominators : ∀ w ∈ wsX10, w ∈ wsX1_startDominators := by first | exact fun _ h => List.mem_cons_of_mem _ (List.mem_append_right _ h) | exact fun _ h => List.mem_cons_of_mem _ (List.mem_append_left _ (List.mem_append_right _ h)) | exact fun _ h => List.mem_cons_of_mem _ (List.mem_append_left _ (List.mem_append_left _ (List.mem_append_right _ h))) | decide +kernel
set_option maxRecDepth 20000 in
theorem in_X1_strikeOutDominators : ∀ w ∈ wsX10, w ∈ wsX1_strikeOutDominators := by first | exact fun _ h => List.mem_cons_of_mem _ (List.mem_append_right _ h) | exact fun _ h => List.mem_cons_of_mem _ (List.mem_append_left _ (List.mem_append_right _ h)) | exact fun _ h => List.mem_cons_of_mem _ (List.mem_append_left _ (List.mem_append_left _ (List.mem_append_right _ h))) | decide +kernel
set_option maxRecDepth 20000 in
theorem in_X1_findDominators : ∀ w ∈ wsX10, w ∈ wsX1_findDominators := by first | exact fun _ h => List.mem_cons_of_mem _ (List.mem_append_right _ h) | exact fun _ h => List.mem_cons_of_mem _ (List.mem_append_left _ (List.mem_append_right _ h)) | exact fun _ h => List.mem_cons_of_mem _ (List.mem_append_left _ (List.mem_append_left _ (List.mem_append_right _ h))) | decide +kernel
set_option maxRecDepth 20000 in
theorem in_X1_dominator : ∀ w ∈ wsX10, w ∈ wsX1_dominator := by first | exact fun _ h => List.mem_cons_of_mem _ (List.mem_append_right _ h) | exact fun _ h => List.mem_cons_of_mem _ (List.mem_append_left _ (List.mem_append_right _ h)) | exact fun _ h => List.mem_cons_of_mem _ (List.mem_append_left _ (List.mem_append_left _ (List.mem_append_right _ h))) | decide +kernel
set_option maxRecDepth 20000 in
theorem in_X1_dominates : ∀ w ∈ wsX10, w ∈ wsX1_dominates := by first | exact fun _ h => List.mem_cons_of_mem _ (List.mem_append_right _ h) | exact fun _ h => List.mem_cons_of_mem _ (List.mem_append_left _ (List.mem_append_right _ h)) | exact fun _ h => List.mem_cons_of_mem _ (List.mem_append_left _ (List.mem_append_left _ (List.mem_append_right _ h))) | decide +kernel
set_option maxRecDepth 20000 in
theorem in_X1_isHead : ∀ w ∈ wsX10, w ∈ wsX1_isHead := by first | exact fun _ h => List.mem_cons_of_mem _ (List.mem_append_right _ h) | exact fun _ h => List.mem_cons_of_mem _ (List.mem_append_left _ (List.mem_append_right _ h)) | exact fun _ h => List.mem_cons_of_mem _ (List.mem_append_left _ (List.mem_append_left _ (List.mem_append_right _ h))) | decide +kernel
set_option maxRecDepth 20000 in
theorem in_X1_head : ∀ w ∈ wsX10, w ∈ wsX1_head := by first | exact fun _ h => List.mem_cons_of_mem _ (List.mem_append_right _ h) | exact fun _ h => List.mem_cons_of_mem _ (List.mem_append_left _ (List.mem_append_right _ h)) | exact fun _ h => List.mem_cons_of_mem _ (List.mem_append_left _ (List.mem_append_left _ (List.mem_append_right _ h))) | decide +kernel
set_option maxRecDepth 20000 in
theorem in_X1_joinLoop : ∀ w ∈ wsX10, w ∈ wsX1_joinLoop := by first | exact fun _ h => List.mem_cons_of_mem _ (List.mem_append_right _ h) | exact fun _ h => List.mem_cons_of_mem _ (List.mem_append_left _ (List.mem_append_right _ h)) | exact fun _ h => List.mem_cons_of_mem _ (List.mem_append_left _ (List.mem_append_left _ (List.mem_append_right _ h))) | decide +kernel
set_option maxRecDepth 20000 in
theorem in_X1_countLoop : ∀ w ∈ wsX10, w ∈ wsX1_countLoop := by first | exact fun _ h => List.mem_cons_of_mem _ (List.mem_append_right _ h) | exact fun _ h => List.mem_cons_of_mem _ (List.mem_append_left _ (List.mem_append_right _ h)) | exact fun _ h => List.mem_cons_of_mem _ (List.mem_append_left _ (List.mem_append_left _ (List.mem_append_right _ h))) | decide +kernel
set_option maxRecDepth 20000 in
theorem in_X1_findDepths : ∀ w ∈ wsX10, w ∈ wsX1_findDepths := by first | exact fun _ h => List.mem_cons_of_mem _ (List.mem_append_right _ h) | exact fun _ h => List.mem_cons_of_mem _ (List.mem_append_left _ (List.mem_append_right _ h)) | exact fun _ h => List.mem_cons_of_mem _ (List.mem_append_left _ (List.mem_append_left _ (List.mem_append_right _ h))) | decide +kernel
set_option maxRecDepth 20000 in
theorem in_X1_depth : ∀ w ∈ wsX10, w ∈ wsX1_depth := by first | exact fun _ h => List.mem_cons_of_mem _ (List.mem_append_right _ h) | exact fun _ h => List.mem_cons_of_mem _ (List.mem_append_left _ (List.mem_append_right _ h)) | exact fun _ h => List.mem_cons_of_mem _ (List.mem_append_left _ (List.mem_append_left _ (List.mem_append_right _ h))) | decide +kernel
set_option maxRecDepth 20000 in
theorem in_X2_init : ∀ w ∈ wsX20, w ∈ wsX2_init := by first | exact fun _ h => List.mem_cons_of_mem _ (List.mem_append_right _ h) | exact fun _ h => List.mem_cons_of_mem _ (List.mem_append_left _ (List.mem_append_right _ h)) | exact fun _ h => List.mem_cons_of_mem _ (List.mem_append_left _ (List.mem_append_left _ (List.mem_append_right _ h))) | decide +kernel
set_option maxRecDepth 20000 in
theorem in_X2_size : ∀ w ∈ wsX20, w ∈ wsX2_size := by first | exact fun _ h => List.mem_cons_of_mem _ (List.mem_append_right _ h) | exact fun _ h => List.mem_cons_of_mem _ (List.mem_append_left _ (List.mem_append_right _ h)) | exact fun _ h => List.mem_cons_of_mem _ (List.mem_append_left _ (List.mem_append_left _ (List.mem_append_right _ h))) | decide +kernel
set_option maxRecDepth 20000 in
theorem in_X2_isBlock : ∀ w ∈ wsX20, w ∈ wsX2_isBlock := by first | exact fun _ h => List.mem_cons_of_mem _ (List.mem_append_right _ h) | exact fun _ h => List.mem_cons_of_mem _ (List.mem_append_left _ (List.mem_append_right _ h)) | exact fun _ h => List.mem_cons_of_mem _ (List.mem_append_left _ (List.mem_append_left _ (List.mem_append_right _ h))) | decide +kernel
set_option maxRecDepth 20000 in
theorem in_X2_has : ∀ w ∈ wsX20, w ∈ wsX2_has := by first | exact fun _ h => List.mem_cons_of_mem _ (List.mem_append_right _ h) | exact fun _ h => List.mem_cons_of_mem _ (List.mem_append_left _ (List.mem_append_right _ h)) | exact fun _ h => List.mem_cons_of_mem _ (List.mem_append_left _ (List.mem_append_left _ (List.mem_append_right _ h))) | decide +kernel
set_option maxRecDepth 20000 in
theorem in_X2_edge : ∀ w ∈ wsX20, w ∈ wsX2_edge := by first | exact fun _ h => List.mem_cons_of_mem _ (List.mem_append_right _ h) | exact fun _ h => List.mem_cons_of_mem _ (List.mem_append_left _ (List.mem_append_right _ h)) | exact fun _ h => List.mem_cons_of_mem _ (List.mem_append_left _ (List.mem_append_left _ (List.mem_append_right _ h))) | decide +kernel
set_option maxRecDepth 20000 in
theorem in_X2_start : ∀ w ∈ wsX20, w ∈ wsX2_start := by first | exact fun _ h => List.mem_cons_of_mem _ (List.mem_append_right _ h) | exact fun _ h => List.mem_cons_of_mem _ (List.mem_append_left _ (List.mem_append_right _ h)) | exact fun _ h => List.mem_cons_of_mem _ (List.mem_append_left _ (List.mem_append_left _ (List.mem_append_right _ h))) | decide +kernel
set_option maxRecDepth 20000 in
theorem in_X2_spread : ∀ w ∈ wsX20, w ∈ wsX2_spread := by first | exact fun _ h => List.mem_cons_of_mem _ (List.mem_append_right _ h) | exact fun _ h => List.mem_cons_of_mem _ (List.mem_append_left _ (List.mem_append_right _ h)) | exact fun _ h => List.mem_cons_of_mem _ (List.mem_append_left _ (List.mem_append_left _ (List.mem_append_right _ h))) | decide +kernel
set_option maxRecDepth 20000 in
theorem in_X2_clear : ∀ w ∈ wsX20, w ∈ wsX2_clear := by first | exact fun _ h => List.mem_cons_of_mem _ (List.mem_append_right _ h) | exact fun _ h => List.mem_cons_of_mem _ (List.mem_append_left _ (List.mem_append_right _ h)) | exact fun _ h => List.mem_cons_of_mem _ (List.mem_append_left _ (List.mem_append_left _ (List.mem_append_right _ h))) | decide +kernel
set_option maxRecDepth 20000 in
theorem in_X2_rank : ∀ w ∈ wsX20, w ∈ wsX2_rank := by first | exact fun _ h => List.mem_cons_of_mem _ (List.mem_append_right _ h) | exact fun _ h => List.mem_cons_of_mem _ (List.mem_append_left _ (List.mem_append_right _ h)) | exact fun _ h => List.mem_cons_of_mem _ (List.mem_append_left _ (List.mem_append_left _ (List.mem_append_right _ h))) | decide +kernel
set_option maxRecDepth 20000 in
theorem in_X2_loops : ∀ w ∈ wsX20, w ∈ wsX2_loops := by first | exact fun _ h => List.mem_cons_of_mem _ (List.mem_append_right _ h) | exact fun _ h => List.mem_cons_of_mem _ (List.mem_append_left _ (List.mem_append_right _ h)) | exact fun _ h => List.mem_cons_of_mem _ (List.mem_append_left _ (List.mem_append_left _ (List.mem_append_right _ h))) | decide +kernel
set_option maxRecDepth 20000 in
theorem in_X2_know : ∀ w ∈ wsX20, w ∈ wsX2_know := by first | exact fun _ h => List.mem_cons_of_mem _ (List.mem_append_right _ h) | exact fun _ h => List.mem_cons_of_mem _ (List.mem_append_left _ (List.mem_append_right _ h)) | exact fun _ h => List.mem_cons_of_mem _ (List.mem_append_left _ (List.mem_append_left _ (List.mem_append_right _ h))) | decide +kernel
set_option maxRecDepth 20000 in
theorem in_X2_reached : ∀ w ∈ wsX20, w ∈ wsX2_reached := by first | exact fun _ h => List.mem_cons_of_mem _ (List.mem_append_right _ h) | exact fun _ h => List.mem_cons_of_mem _ (List.mem_append_left _ (List.mem_append_right _ h)) | exact fun _ h => List.mem_cons_of_mem _ (List.mem_append_left _ (List.mem_append_left _ (List.mem_append_right _ h))) | decide +kernel
set_option maxRecDepth 20000 in
theorem in_X2_reachedOnes : ∀ w ∈ wsX20, w ∈ wsX2_reachedOnes := by first | exact fun _ h => List.mem_cons_of_mem _ (List.mem_append_right _ h) | exact fun _ h => List.mem_cons_of_mem _ (List.mem_append_left _ (List.mem_append_right _ h)) | exact fun _ h => List.mem_cons_of_mem _ (List.mem_append_left _ (List.mem_append_left _ (List.mem_append_right _ h))) | decide +kernel
set_option maxRecDepth 20000 in
theorem in_X2_dominator : ∀ w ∈ wsX20, w ∈ wsX2_dominator := by first | exact fun _ h => List.mem_cons_of_mem _ (List.mem_append_right _ h) | exact fun _ h => List.mem_cons_of_mem _ (List.mem_append_left _ (List.mem_append_right _ h)) | exact fun _ h => List.mem_cons_of_mem _ (List.mem_append_left _ (List.mem_append_left _ (List.mem_append_right _ h))) | decide +kernel
set_option maxRecDepth 20000 in
theorem in_X2_dominates : ∀ w ∈ wsX20, w ∈ wsX2_dominates := by first | exact fun _ h => List.mem_cons_of_mem _ (List.mem_append_right _ h) | exact fun _ h => List.mem_cons_of_mem _ (List.mem_append_left _ (List.mem_append_right _ h)) | exact fun _ h => List.mem_cons_of_mem _ (List.mem_append_left _ (List.mem_append_left _ (List.mem_append_right _ h))) | decide +kernel
set_option maxRecDepth 20000 in
theorem in_X2_head : ∀ w ∈ wsX20, w ∈ wsX2_head := by first | exact fun _ h => List.mem_cons_of_mem _ (List.mem_append_right _ h) | exact fun _ h => List.mem_cons_of_mem _ (List.mem_append_left _ (List.mem_append_right _ h)) | exact fun _ h => List.mem_cons_of_mem _ (List.mem_append_left _ (List.mem_append_left _ (List.mem_append_right _ h))) | decide +kernel
set_option maxRecDepth 20000 in
theorem in_X2_depth : ∀ w ∈ wsX20, w ∈ wsX2_depth := by first | exact fun _ h => List.mem_cons_of_mem _ (List.mem_append_right _ h) | exact fun _ h => List.mem_cons_of_mem _ (List.mem_append_left _ (List.mem_append_right _ h)) | exact fun _ h => List.mem_cons_of_mem _ (List.mem_append_left _ (List.mem_append_left _ (List.mem_append_right _ h))) | decide +kernel
end
section
theorem metV {l : Launch} {y : MethodName} {wy wy' : List Cond} {rm : Room} {D : va_G} {tys : List (ClassId × FieldType)} {av : List Value} {ws : va_W} {cc : ByteArray} {maxL : Nat} {ret : Option FieldType} {S : Type} {post : S → Prop} {wR : S → va_W} (hy : plainName y.cls = true) (hw : wy = Cond.code y cc maxL ret :: wy') (hav : (lg_sl av).length ≤ maxL) (h : gE l y wy rm D tys av ws cc maxL ret (fun sz => va_Qv post (cE D tys ws sz wR) (va_A ws sz))) : ctV l y wy rm D tys av ws post wR := fun sz => met_of hy hw hav h sz
theorem metI {l : Launch} {y : MethodName} {wy wy' : List Cond} {rm : Room} {D : va_G} {tys : List (ClassId × FieldType)} {av : List Value} {ws : va_W} {cc : ByteArray} {maxL : Nat} {ret : Option FieldType} {S : Type} {post : Int32 → S → Prop} {wR : S → va_W} (hy : plainName y.cls = true) (hw : wy = Cond.code y cc maxL ret :: wy') (hav : (lg_sl av).length ≤ maxL) (h : gE l y wy rm D tys av ws cc maxL ret (fun sz => va_Qi post (cE D tys ws sz wR) (va_A ws sz))) : ctI l y wy rm D tys av ws post wR := fun sz => met_of hy hw hav h sz
theorem metL {l : Launch} {y : MethodName} {wy wy' : List Cond} {rm : Room} {D : va_G} {tys : List (ClassId × FieldType)} {av : List Value} {ws : va_W} {cc : ByteArray} {maxL : Nat} {ret : Option FieldType} {S : Type} {post : Int64 → S → Prop} {wR : S → va_W} (hy : plainName y.cls = true) (hw : wy = Cond.code y cc maxL ret :: wy') (hav : (lg_sl av).length ≤ maxL) (h : gE l y wy rm D tys av ws cc maxL ret (fun sz => va_Ql post (cE D tys ws sz wR) (va_A ws sz))) : ctL l y wy rm D tys av ws post wR := fun sz => met_of hy hw hav h sz
theorem up_ind (n : Nat) {P : Nat → Prop} (h : ∀ i, i ≤ n → (∀ j, i < j → j ≤ n → P j) → P i) : ∀ i, i ≤ n → P i := by
  have key : ∀ d i, i ≤ n → n - i = d → P i := by
    intro d
    induction d using Nat.strongRecOn with
    | _ d ih =>
      intro i hi hd
      exact h i hi (fun j hj hjn => ih (n - j) (by omega) j hjn rfl)
  intro i hi
  exact key (n - i) i hi rfl
theorem tb_and {x b : Int64} {j : Nat} (hb : uJ b = 2 ^ j) : x &&& b = 0 ↔ (uJ x).testBit j = false := by
  have e : uJ (x &&& b) = (uJ x &&& 2 ^ j) := by rw [uJ_and, hb]
  constructor
  · intro h
    have h1 : (uJ (x &&& b)).testBit j = false := by rw [h, uJ_0, Nat.zero_testBit]
    rw [e, Nat.testBit_and, Nat.testBit_two_pow] at h1
    simpa using h1
  · intro h
    apply uJ_inj
    rw [e, uJ_0]
    apply Nat.eq_of_testBit_eq
    intro i
    rw [Nat.testBit_and, Nat.testBit_two_pow, Nat.zero_testBit]
    by_cases hi : j = i
    · subst hi; simp [h]
    · simp [hi]
theorem bj_upd {f : Nat → Int64} {a k r b : Nat} {v : Int64} (hk : k < 256) (hb : b < 256) : bj (vp_updL f (a * 4 + k / 64) v) r b = if r = a ∧ b / 64 = k / 64 then (uJ v).testBit (b % 64) else bj f r b := by
  unfold bj
  by_cases h : r = a ∧ b / 64 = k / 64
  · rw [if_pos h, h.1, h.2, pk_uLs]
  · rw [if_neg h, pk_uLn (by omega)]
theorem bj_put {f : Nat → Int64} {a k : Nat} {v : Int64} {x : Bool} (hk : k < 256) (hv : ∀ j, j < 64 → (uJ v).testBit j = if j = k % 64 then x else (uJ (f (a * 4 + k / 64))).testBit j) : ∀ r b, r < 200 → b < 256 → bj (vp_updL f (a * 4 + k / 64) v) r b = if r = a ∧ b = k then x else bj f r b := by
  intro r b hr hb
  rw [bj_upd hk hb]
  by_cases h : r = a ∧ b / 64 = k / 64
  · rw [if_pos h, hv _ (Nat.mod_lt _ (by decide))]
    by_cases h2 : b % 64 = k % 64
    · rw [if_pos h2, if_pos ⟨h.1, by omega⟩]
    · rw [if_neg h2, if_neg (by omega)]
      unfold bj
      rw [h.1, h.2]
  · rw [if_neg h, if_neg (by omega)]

set_option maxHeartbeats 4000000 in
set_option maxRecDepth 100000 in
/-- bit(k): the word with bit k % 64 -/
theorem c_bit (l : Launch) (G : va_G) (cI cJ cZ : ClassId) (k : Nat) (hk : k < 256) : ctL l yX0_bit wsX0_bit { frames := 0, cells := 0, slots := 0, locals := 0 } G (ty3 cI cJ cZ) [.int (nI k)] ([]) (fun r (_ : Unit) => uJ r = 2 ^ (k % 64)) (fun _ => []) := by
  refine metL (cc := cX0_bit) (maxL := 1) (ret := (some .long)) (by decide) rfl (Nat.le_of_ble_eq_true rfl) ?_
  intro p e s m below meth c C hr hlk
  refine ga_lv (lv9 := [(0, .int (nI k))]) ⟨rfl, trivial⟩ ?_
  refine ga_lconst (v := 1) C dX0_bit_0 (by decide) ?_
  refine ga_iload_n 0 C dX0_bit_1 rfl rfl ?_
  refine ga_lshl C dX0_bit_2 rfl ?_
  exact ga_lret C hr hlk dX0_bit_3 () (uJ_bit k hk) rfl
set_option maxHeartbeats 4000000 in
set_option maxRecDepth 100000 in
/-- Long.bitCount -/
theorem c_bitCount (l : Launch) (G : va_G) (cI cJ cZ : ClassId) (n : Nat) (hn : n < 2 ^ 64) : ctI l yJ13_bitCount_95d88 wsJ13_bitCount_95d88 { frames := 0, cells := 0, slots := 0, locals := 0 } G (ty3 cI cJ cZ) [.long (lN n)] ([]) (fun r (_ : Unit) => r = nI (cnP (fun j => n.testBit j = true) 64)) (fun _ => []) := by
  refine metI (cc := cJ13_bitCount_95d88) (maxL := 2) (ret := (some .int)) (by decide) rfl (Nat.le_of_ble_eq_true rfl) ?_
  intro p e s m below meth c C hr hlk
  refine ga_lv (lv9 := [(0, .long (lN n))]) ⟨rfl, trivial⟩ ?_
  obtain ⟨hC, hD, hE, hF, hR⟩ := pc_all hn
  obtain ⟨-, hA, hB⟩ := pc_abc hn
  refine ga_lload_n 0 C dJ13_bitCount_95d88_0 rfl rfl ?_
  refine ga_lload_n 0 C dJ13_bitCount_95d88_1 rfl rfl ?_
  refine ga_iconst (v := nI 1) C dJ13_bitCount_95d88_2 (by decide) ?_
  refine ga_lushr (v := lN (n / 2 ^ 1)) C dJ13_bitCount_95d88_3 (wb_shr hn (by decide)) ?_
  refine ga_ldc2 (v := 6148914691236517205) C dJ13_bitCount_95d88_4 (by decide +kernel) ?_
  refine ga_land (v := lN ((n / 2 ^ 1) &&& 6148914691236517205)) C dJ13_bitCount_95d88_7 (wb_and (b := 6148914691236517205) (by omega) (by decide)) ?_
  refine ga_lsub (v := lN (pcA n)) C dJ13_bitCount_95d88_8 (lN_sub (Nat.le_trans Nat.and_le_left (by omega))) ?_
  refine ga_lstore_n 0 C dJ13_bitCount_95d88_9 rfl (by decide) rfl ?_
  refine ga_lload_n 0 C dJ13_bitCount_95d88_10 rfl rfl ?_
  refine ga_ldc2 (v := 3689348814741910323) C dJ13_bitCount_95d88_11 (by decide +kernel) ?_
  refine ga_land (v := lN (pcA n &&& 3689348814741910323)) C dJ13_bitCount_95d88_14 (wb_and (b := 3689348814741910323) hA (by decide)) ?_
  refine ga_lload_n 0 C dJ13_bitCount_95d88_15 rfl rfl ?_
  refine ga_iconst (v := nI 2) C dJ13_bitCount_95d88_16 (by decide) ?_
  refine ga_lushr (v := lN (pcA n / 2 ^ 2)) C dJ13_bitCount_95d88_17 (wb_shr hA (by decide)) ?_
  refine ga_ldc2 (v := 3689348814741910323) C dJ13_bitCount_95d88_18 (by decide +kernel) ?_
  refine ga_land (v := lN ((pcA n / 2 ^ 2) &&& 3689348814741910323)) C dJ13_bitCount_95d88_21 (wb_and (b := 3689348814741910323) (by omega) (by decide)) ?_
  refine ga_ladd (v := lN (pcB (pcA n))) C dJ13_bitCount_95d88_22 (lN_add _ _) ?_
  refine ga_lstore_n 0 C dJ13_bitCount_95d88_23 rfl (by decide) rfl ?_
  refine ga_lload_n 0 C dJ13_bitCount_95d88_24 rfl rfl ?_
  refine ga_lload_n 0 C dJ13_bitCount_95d88_25 rfl rfl ?_
  refine ga_iconst (v := nI 4) C dJ13_bitCount_95d88_26 (by decide) ?_
  refine ga_lushr (v := lN (pcB (pcA n) / 2 ^ 4)) C dJ13_bitCount_95d88_27 (wb_shr (by omega) (by decide)) ?_
  refine ga_ladd (v := lN (pcB (pcA n) + pcB (pcA n) / 2 ^ 4)) C dJ13_bitCount_95d88_28 (lN_add _ _) ?_
  refine ga_ldc2 (v := 1085102592571150095) C dJ13_bitCount_95d88_29 (by decide +kernel) ?_
  refine ga_land (v := lN (pcC (pcB (pcA n)))) C dJ13_bitCount_95d88_32 (wb_and (b := 1085102592571150095) (by omega) (by decide)) ?_
  refine ga_lstore_n 0 C dJ13_bitCount_95d88_33 rfl (by decide) rfl ?_
  refine ga_lload_n 0 C dJ13_bitCount_95d88_34 rfl rfl ?_
  refine ga_lload_n 0 C dJ13_bitCount_95d88_35 rfl rfl ?_
  refine ga_bipush (v := nI 8) C dJ13_bitCount_95d88_36 (by decide) ?_
  refine ga_lushr (v := lN (pcC (pcB (pcA n)) / 2 ^ 8)) C dJ13_bitCount_95d88_38 (wb_shr (by omega) (by decide)) ?_
  refine ga_ladd (v := lN (pcD (pcC (pcB (pcA n))))) C dJ13_bitCount_95d88_39 (lN_add _ _) ?_
  refine ga_lstore_n 0 C dJ13_bitCount_95d88_40 rfl (by decide) rfl ?_
  refine ga_lload_n 0 C dJ13_bitCount_95d88_41 rfl rfl ?_
  refine ga_lload_n 0 C dJ13_bitCount_95d88_42 rfl rfl ?_
  refine ga_bipush (v := nI 16) C dJ13_bitCount_95d88_43 (by decide) ?_
  refine ga_lushr (v := lN (pcD (pcC (pcB (pcA n))) / 2 ^ 16)) C dJ13_bitCount_95d88_45 (wb_shr (by omega) (by decide)) ?_
  refine ga_ladd (v := lN (pcE (pcD (pcC (pcB (pcA n)))))) C dJ13_bitCount_95d88_46 (lN_add _ _) ?_
  refine ga_lstore_n 0 C dJ13_bitCount_95d88_47 rfl (by decide) rfl ?_
  refine ga_lload_n 0 C dJ13_bitCount_95d88_48 rfl rfl ?_
  refine ga_lload_n 0 C dJ13_bitCount_95d88_49 rfl rfl ?_
  refine ga_bipush (v := nI 32) C dJ13_bitCount_95d88_50 (by decide) ?_
  refine ga_lushr (v := lN (pcE (pcD (pcC (pcB (pcA n)))) / 2 ^ 32)) C dJ13_bitCount_95d88_52 (wb_shr (by omega) (by decide)) ?_
  refine ga_ladd (v := lN (pcF (pcE (pcD (pcC (pcB (pcA n))))))) C dJ13_bitCount_95d88_53 (lN_add _ _) ?_
  refine ga_lstore_n 0 C dJ13_bitCount_95d88_54 rfl (by decide) rfl ?_
  refine ga_lload_n 0 C dJ13_bitCount_95d88_55 rfl rfl ?_
  refine ga_l2i (v := nI (pcF (pcE (pcD (pcC (pcB (pcA n))))))) C dJ13_bitCount_95d88_56 (lN_i _) ?_
  refine ga_bipush (v := nI 127) C dJ13_bitCount_95d88_57 (by decide) ?_
  refine ga_iand (v := nI (cnP (fun j => n.testBit j = true) 64)) C dJ13_bitCount_95d88_59 ?_ ?_
  · rw [pk_and _ 7 (by decide), ← hR]
    congr 1
    show (BitVec.ofNat 32 _).toNat % 2 ^ 7 = _
    rw [BitVec.toNat_ofNat]
    omega
  · exact ga_iret C hr rfl hlk dJ13_bitCount_95d88_60 () rfl rfl
set_option maxHeartbeats 4000000 in
set_option maxRecDepth 100000 in
/-- Arrays.fill of longs -/
theorem c_fillJ (l : Launch) (G : va_G) (cI cJ cZ : ClassId) (q : Nat) (f : Nat → Int64) (x : Int64) : ctV l yJ7_fill_d0a16 wsJ7_fill_d0a16 { frames := 0, cells := 0, slots := 0, locals := 0 } G (ty3 cI cJ cZ) [.ref q, .long x] ([(q, .inl (cJ, 800, .inr (.inl f)))]) (fun u : Nat → Int64 => ∀ i, i < 800 → u i = x) (fun u => [(q, .inl (cJ, 800, .inr (.inl u)))]) := by
  refine metV (cc := cJ7_fill_d0a16) (maxL := 5) (ret := none) (by decide) rfl (Nat.le_of_ble_eq_true rfl) ?_
  intro p e s m below meth c C hr hlk
  refine ga_lv (lv9 := [(0, .ref q), (1, .long x)]) ⟨rfl, rfl, trivial⟩ ?_
  refine ga_iconst (v := nI 0) C dJ7_fill_d0a16_0 (by decide) ?_
  refine ga_istore_n 3 C dJ7_fill_d0a16_1 rfl (by decide) rfl ?_
  refine ga_aload_n 0 C dJ7_fill_d0a16_2 rfl rfl ?_
  refine ga_alen (v := nI 800) C 0 1 rfl rfl rfl dJ7_fill_d0a16_3 ?_
  refine ga_istore 4 C dJ7_fill_d0a16_4 (by decide) rfl ?_
  refine ga_lv (lv9 := [(0, .ref q), (1, .long x), (3, .int (nI 0)), (4, .int (nI 800))]) ⟨rfl, rfl, rfl, rfl, trivial⟩ ?_
  refine up_ind 800 (P := fun i => ∀ u : Nat → Int64, (∀ j, j < i → u j = x) → gG p l e _ s m _ below meth c G _ _ 0 0 _ [(q, .inl (cJ, 800, .inr (.inl u)))] [(0, .ref q), (1, .long x), (3, .int (nI i)), (4, .int (nI 800))] 6 []) ?_ 0 (by omega) f (fun j hj => by omega)
  intro i hi ih u hu
  refine ga_iload_n 3 C dJ7_fill_d0a16_6 rfl rfl ?_
  refine ga_iload 4 C dJ7_fill_d0a16_7 rfl ?_
  refine gn_icmp_ge 22 C dJ7_fill_d0a16_9 (by decide) (by omega) (by omega) (fun h9 => ?_) (fun h9 => ?_)
  · exact ga_vret C hr hlk dJ7_fill_d0a16_22 u (fun j hj => hu j (by omega)) rfl
  · skip
    refine ga_aload_n 0 C dJ7_fill_d0a16_12 rfl rfl ?_
    refine ga_iload_n 3 C dJ7_fill_d0a16_13 rfl rfl ?_
    refine ga_lload_n 1 C dJ7_fill_d0a16_14 rfl rfl ?_
    refine ga_last C 0 1 rfl rfl (by omega) (by decide) dJ7_fill_d0a16_15 rfl ?_
    refine ga_iinc 3 C dJ7_fill_d0a16_16 rfl (nI_inc _) (by decide) rfl ?_
    refine ga_goto 6 C dJ7_fill_d0a16_19 (by decide) ?_
    refine ga_lv (lv9 := [(0, .ref q), (1, .long x), (3, .int (nI (i + 1))), (4, .int (nI 800))]) ⟨rfl, rfl, rfl, rfl, trivial⟩ ?_
    refine ih (i + 1) (by omega) (by omega) (vp_updL u i x) (fun j hj => ?_)
    by_cases h : j = i
    · rw [h, pk_uLs]
    · rw [pk_uLn h]; exact hu j (by omega)
set_option maxHeartbeats 4000000 in
set_option maxRecDepth 100000 in
/-- Arrays.fill of ints -/
theorem c_fillI (l : Launch) (G : va_G) (cI cJ cZ : ClassId) (q : Nat) (f : Nat → Int32) (x : Int32) : ctV l yJ7_fill_53178 wsJ7_fill_53178 { frames := 0, cells := 0, slots := 0, locals := 0 } G (ty3 cI cJ cZ) [.ref q, .int x] ([(q, .inl (cI, 200, .inl f))]) (fun u : Nat → Int32 => ∀ i, u i = if i < 200 then x else f i) (fun u => [(q, .inl (cI, 200, .inl u))]) := by
  refine metV (cc := cJ7_fill_53178) (maxL := 4) (ret := none) (by decide) rfl (Nat.le_of_ble_eq_true rfl) ?_
  intro p e s m below meth c C hr hlk
  refine ga_lv (lv9 := [(0, .ref q), (1, .int x)]) ⟨rfl, rfl, trivial⟩ ?_
  refine ga_iconst (v := nI 0) C dJ7_fill_53178_0 (by decide) ?_
  refine ga_istore_n 2 C dJ7_fill_53178_1 rfl (by decide) rfl ?_
  refine ga_aload_n 0 C dJ7_fill_53178_2 rfl rfl ?_
  refine ga_alen (v := nI 200) C 0 0 rfl rfl rfl dJ7_fill_53178_3 ?_
  refine ga_istore_n 3 C dJ7_fill_53178_4 rfl (by decide) rfl ?_
  refine ga_lv (lv9 := [(0, .ref q), (1, .int x), (2, .int (nI 0)), (3, .int (nI 200))]) ⟨rfl, rfl, rfl, rfl, trivial⟩ ?_
  refine up_ind 200 (P := fun i => ∀ u : Nat → Int32, (∀ j, u j = if j < i then x else f j) → gG p l e _ s m _ below meth c G _ _ 0 0 _ [(q, .inl (cI, 200, .inl u))] [(0, .ref q), (1, .int x), (2, .int (nI i)), (3, .int (nI 200))] 5 []) ?_ 0 (by omega) f (fun j => by rw [if_neg (by omega)])
  intro i hi ih u hu
  refine ga_iload_n 2 C dJ7_fill_53178_5 rfl rfl ?_
  refine ga_iload_n 3 C dJ7_fill_53178_6 rfl rfl ?_
  refine gn_icmp_ge 20 C dJ7_fill_53178_7 (by decide) (by omega) (by omega) (fun h9 => ?_) (fun h9 => ?_)
  · obtain rfl : i = 200 := by omega
    exact ga_vret C hr hlk dJ7_fill_53178_20 u hu rfl
  · skip
    refine ga_aload_n 0 C dJ7_fill_53178_10 rfl rfl ?_
    refine ga_iload_n 2 C dJ7_fill_53178_11 rfl rfl ?_
    refine ga_iload_n 1 C dJ7_fill_53178_12 rfl rfl ?_
    refine ga_iast C 0 0 rfl rfl (by omega) (by decide) dJ7_fill_53178_13 rfl ?_
    refine ga_iinc 2 C dJ7_fill_53178_14 rfl (nI_inc _) (by decide) rfl ?_
    refine ga_goto 5 C dJ7_fill_53178_17 (by decide) ?_
    refine ga_lv (lv9 := [(0, .ref q), (1, .int x), (2, .int (nI (i + 1))), (3, .int (nI 200))]) ⟨rfl, rfl, rfl, rfl, trivial⟩ ?_
    refine ih (i + 1) (by omega) (by omega) (upd u i x) (fun j => ?_)
    by_cases h : j = i
    · rw [h, pk_us, if_pos (by omega)]
    · rw [pk_un h, hu j]
      by_cases h2 : j < i
      · rw [if_pos h2, if_pos (by omega)]
      · rw [if_neg h2, if_neg (by omega)]
set_option maxHeartbeats 4000000 in
set_option maxRecDepth 100000 in
/-- Arrays.rangeCheck -/
theorem c_range (l : Launch) (G : va_G) (cI cJ cZ : ClassId) (n a b : Nat) (hn : n < 2 ^ 30) (hab : a ≤ b) (hb : b ≤ n) : ctV l yJ7_rangeCheck_23922 wsJ7_rangeCheck_23922 { frames := 0, cells := 0, slots := 0, locals := 0 } G (ty3 cI cJ cZ) [.int (nI n), .int (nI a), .int (nI b)] ([]) (fun _ : Unit => True) (fun _ => []) := by
  refine metV (cc := cJ7_rangeCheck_23922) (maxL := 3) (ret := none) (by decide) rfl (Nat.le_of_ble_eq_true rfl) ?_
  intro p e s m below meth c C hr hlk
  refine ga_lv (lv9 := [(0, .int (nI n)), (1, .int (nI a)), (2, .int (nI b))]) ⟨rfl, rfl, rfl, trivial⟩ ?_
  refine ga_iload_n 1 C dJ7_rangeCheck_23922_0 rfl rfl ?_
  refine ga_iload_n 2 C dJ7_rangeCheck_23922_1 rfl rfl ?_
  refine gn_icmp_le 46 C dJ7_rangeCheck_23922_2 (by decide) (by omega) (by omega) (fun h9 => ?_) (fun h9 => absurd h9 (by omega))
  refine ga_iload_n 1 C dJ7_rangeCheck_23922_46 rfl rfl ?_
  refine gn_if_ge 59 C dJ7_rangeCheck_23922_47 (by decide) (by omega) (fun h9 => ?_) (fun h9 => absurd h9 (by omega))
  refine ga_iload_n 2 C dJ7_rangeCheck_23922_59 rfl rfl ?_
  refine ga_iload_n 0 C dJ7_rangeCheck_23922_60 rfl rfl ?_
  refine gn_icmp_le 73 C dJ7_rangeCheck_23922_61 (by decide) (by omega) (by omega) (fun h9 => ?_) (fun h9 => absurd h9 (by omega))
  exact ga_vret C hr hlk dJ7_rangeCheck_23922_73 () trivial rfl
set_option maxHeartbeats 4000000 in
set_option maxRecDepth 100000 in
/-- Arrays.fill of a part -/
theorem c_fillR (l : Launch) (G : va_G) (cI cJ cZ : ClassId) (q : Nat) (f : Nat → Int64) (a b : Nat) (x : Int64) (hab : a ≤ b) (hb : b ≤ 800) : ctV l yJ7_fill_bad5a wsJ7_fill_bad5a { frames := 1, cells := 0, slots := 0, locals := 22 } G (ty3 cI cJ cZ) [.ref q, .int (nI a), .int (nI b), .long x] ([(q, .inl (cJ, 800, .inr (.inl f)))]) (fun u : Nat → Int64 => ∀ i, u i = if a ≤ i ∧ i < b then x else f i) (fun u => [(q, .inl (cJ, 800, .inr (.inl u)))]) := by
  refine metV (cc := cJ7_fill_bad5a) (maxL := 6) (ret := none) (by decide) rfl (Nat.le_of_ble_eq_true rfl) ?_
  intro p e s m below meth c C hr hlk
  refine ga_lv (lv9 := [(0, .ref q), (1, .int (nI a)), (2, .int (nI b)), (3, .long x)]) ⟨rfl, rfl, rfl, rfl, trivial⟩ ?_
  refine ga_aload_n 0 C dJ7_fill_bad5a_0 rfl rfl ?_
  refine ga_alen (v := nI 800) C 0 1 rfl rfl rfl dJ7_fill_bad5a_1 ?_
  refine ga_iload_n 1 C dJ7_fill_bad5a_2 rfl rfl ?_
  refine ga_iload_n 2 C dJ7_fill_bad5a_3 rfl rfl ?_
  refine ga_callSv (wr := [(q, .inl (cJ, 800, .inr (.inl f)))]) C (c_range l G cI cJ cZ 800 a b (by decide) hab hb) (va_cwS 3 C.1.2.2.2.2 gJ7_fill_bad5a_J7_rangeCheck_23922 rfl rfl rfl (by decide +kernel) ⟨Nat.le_of_ble_eq_true rfl, Nat.le_of_ble_eq_true rfl⟩) [] [0] rfl rfl rfl rfl (by decide) rfl rfl (Nat.le_of_ble_eq_true rfl) dJ7_fill_bad5a_4 ⟨Nat.zero_le _, Nat.zero_le _⟩ (fun _ _ => ?_)
  refine ga_ws [0] (w9 := [(q, .inl (cJ, 800, .inr (.inl f)))]) rfl rfl ?_
  refine ga_iload_n 1 C dJ7_fill_bad5a_7 rfl rfl ?_
  refine ga_istore 5 C dJ7_fill_bad5a_8 (by decide) rfl ?_
  refine ga_lv (lv9 := [(0, .ref q), (2, .int (nI b)), (3, .long x), (5, .int (nI a))]) ⟨rfl, rfl, rfl, rfl, trivial⟩ ?_
  refine up_ind b (P := fun i => ∀ u : Nat → Int64, a ≤ i → (∀ j, u j = if a ≤ j ∧ j < i then x else f j) → gG p l e _ s m _ below meth c G _ _ 0 0 _ [(q, .inl (cJ, 800, .inr (.inl u)))] [(0, .ref q), (2, .int (nI b)), (3, .long x), (5, .int (nI i))] 10 []) ?_ a hab f (Nat.le_refl _) (fun j => by rw [if_neg (by omega)])
  intro i hi ih u hai hu
  refine ga_iload 5 C dJ7_fill_bad5a_10 rfl ?_
  refine ga_iload_n 2 C dJ7_fill_bad5a_12 rfl rfl ?_
  refine gn_icmp_ge 27 C dJ7_fill_bad5a_13 (by decide) (by omega) (by omega) (fun h9 => ?_) (fun h9 => ?_)
  · obtain rfl : i = b := by omega
    exact ga_vret C hr hlk dJ7_fill_bad5a_27 u hu rfl
  · skip
    refine ga_aload_n 0 C dJ7_fill_bad5a_16 rfl rfl ?_
    refine ga_iload 5 C dJ7_fill_bad5a_17 rfl ?_
    refine ga_lload_n 3 C dJ7_fill_bad5a_19 rfl rfl ?_
    refine ga_last C 0 1 rfl rfl (by omega) (by decide) dJ7_fill_bad5a_20 rfl ?_
    refine ga_iinc 5 C dJ7_fill_bad5a_21 rfl (nI_inc _) (by decide) rfl ?_
    refine ga_goto 10 C dJ7_fill_bad5a_24 (by decide) ?_
    refine ga_lv (lv9 := [(0, .ref q), (2, .int (nI b)), (3, .long x), (5, .int (nI (i + 1)))]) ⟨rfl, rfl, rfl, rfl, trivial⟩ ?_
    refine ih (i + 1) (by omega) (by omega) (vp_updL u i x) (by omega) (fun j => ?_)
    by_cases h : j = i
    · rw [h, pk_uLs, if_pos (by omega)]
    · rw [pk_uLn h, hu j]
      by_cases h2 : a ≤ j ∧ j < i
      · rw [if_pos h2, if_pos (by omega)]
      · rw [if_neg h2, if_neg (by omega)]
end
section
section GTAIL
variable {p : Program} {l : Launch} {e : Env} {R : Room} {s : State} {m : MethodId} {args : Array Value} {below : List Frame} {meth : Method} {c : Code} {D : va_G} {A : Nat → Prop} {nL cells slots : Nat} {Q : State → Prop} {ws : va_W} {lv : List (Nat × Value)} {pc : Nat} {st : List Value}
theorem ga_tail {α : Type} {H : α → Prop} {w9 : α → va_W} {lv9 : α → List (Nat × Value)} {pc9 : Nat} {F : α → List Value} (tail : ∀ x, H x → gG p l e R s m args below meth c D A nL cells slots Q (w9 x) (lv9 x) pc9 (F x)) (k : (∀ x, H x → gG p l e R s m args below meth c D A nL cells slots Q (w9 x) (lv9 x) pc9 (F x)) → gG p l e R s m args below meth c D A nL cells slots Q ws lv pc st) : gG p l e R s m args below meth c D A nL cells slots Q ws lv pc st := k tail
theorem ga_lk {lv9 : List (Nat × Value)} (k : gG p l e R s m args below meth c D A nL cells slots Q ws lv9 pc st) (h : lv_le lv9 lv) : gG p l e R s m args below meth c D A nL cells slots Q ws lv pc st := ga_lv h k
end GTAIL
theorem tb_or {x b : Int64} {j : Nat} (hb : uJ b = 2 ^ j) (i : Nat) : (uJ (x ||| b)).testBit i = if i = j then true else (uJ x).testBit i := by
  rw [uJ_or, hb, Nat.testBit_or, Nat.testBit_two_pow]
  by_cases h : i = j
  · subst h; simp
  · have h2 : ¬ j = i := fun q => h q.symm
    simp [h, h2]
theorem tb_clr {x b : Int64} {j : Nat} (hb : uJ b = 2 ^ j) (i : Nat) (hi : i < 64) : (uJ (x &&& (b ^^^ (-1)))).testBit i = if i = j then false else (uJ x).testBit i := by
  rw [uJ_and, uJ_xor, hb, uJ_m1, Nat.testBit_and, Nat.testBit_xor, Nat.testBit_two_pow, Nat.testBit_two_pow_sub_one]
  by_cases h : i = j
  · subst h; simp [hi]
  · have h2 : ¬ j = i := fun q => h q.symm
    simp [h, h2, hi]
def isNext (g : Nat → Bool) (b x : Nat) : Prop := (b ≤ x ∧ x < 256 ∧ g x = true ∧ ∀ j, b ≤ j → j < x → g j = false) ∨ (x = 200 ∧ ∀ j, b ≤ j → j < 256 → g j = false)

set_option maxHeartbeats 4000000 in
set_option maxRecDepth 100000 in
/-- clear: all sets empty -/
theorem c_clear (l : Launch) (G : va_G) (cI cJ cZ : ClassId) (q w : Nat) (f : Nat → Int64) : ctV l yX0_clear wsX0_clear { frames := 1, cells := 0, slots := 0, locals := 24 } G (ty3 cI cJ cZ) [.ref q] (wB q w cJ f) (fun u : Nat → Int64 => ∀ r b, r < 200 → b < 256 → bj u r b = false) (fun u => wB q w cJ u) := by
  refine metV (cc := cX0_clear) (maxL := 1) (ret := none) (by decide) rfl (Nat.le_of_ble_eq_true rfl) ?_
  intro p e s m below meth c C hr hlk
  refine ga_lv (lv9 := [(0, .ref q)]) ⟨rfl, trivial⟩ ?_
  refine ga_aload_n 0 C dX0_clear_0 rfl rfl ?_
  refine gb_get C in_X0_clear (by decide +kernel) dX0_clear_1 ?_
  refine ga_lconst (v := 0) C dX0_clear_4 (by decide) ?_
  refine ga_callSv (wr := [(q, .inr (0, [.ref w]))]) C (c_fillJ l G cI cJ cZ w f 0) (va_cwS 2 C.1.2.2.2.2 gX0_clear_J7_fill_d0a16 rfl rfl rfl (by decide +kernel) ⟨Nat.le_of_ble_eq_true rfl, Nat.le_of_ble_eq_true rfl⟩) [1] [0] rfl rfl rfl rfl (by decide) rfl rfl (Nat.le_of_ble_eq_true rfl) dX0_clear_5 ⟨Nat.zero_le _, Nat.zero_le _⟩ (fun u hu => ?_)
  refine ga_ws [0, 1] (w9 := wB q w cJ u) rfl rfl ?_
  refine ga_vret C hr hlk dX0_clear_8 u (fun r b h1 h2 => ?_) rfl
  unfold bj
  rw [hu _ (by omega), uJ_0, Nat.zero_testBit]
set_option maxHeartbeats 4000000 in
set_option maxRecDepth 100000 in
/-- fill: a set of all -/
theorem c_fill (l : Launch) (G : va_G) (cI cJ cZ : ClassId) (q w : Nat) (f : Nat → Int64) (a : Nat) (ha : a < 200) : ctV l yX0_fill wsX0_fill { frames := 2, cells := 0, slots := 0, locals := 47 } G (ty3 cI cJ cZ) [.ref q, .int (nI a)] (wB q w cJ f) (fun u : Nat → Int64 => ∀ r b, r < 200 → b < 256 → bj u r b = if r = a then true else bj f r b) (fun u => wB q w cJ u) := by
  refine metV (cc := cX0_fill) (maxL := 2) (ret := none) (by decide) rfl (Nat.le_of_ble_eq_true rfl) ?_
  intro p e s m below meth c C hr hlk
  refine ga_lv (lv9 := [(0, .ref q), (1, .int (nI a))]) ⟨rfl, rfl, trivial⟩ ?_
  refine ga_aload_n 0 C dX0_fill_0 rfl rfl ?_
  refine gb_get C in_X0_fill (by decide +kernel) dX0_fill_1 ?_
  refine ga_iload_n 1 C dX0_fill_4 rfl rfl ?_
  refine ga_iconst (v := nI 4) C dX0_fill_5 (by decide) ?_
  refine ga_imul C dX0_fill_6 (pk_mul _ _) ?_
  refine ga_iload_n 1 C dX0_fill_7 rfl rfl ?_
  refine ga_iconst (v := nI 4) C dX0_fill_8 (by decide) ?_
  refine ga_imul C dX0_fill_9 (pk_mul _ _) ?_
  refine ga_iconst (v := nI 4) C dX0_fill_10 (by decide) ?_
  refine ga_iadd C dX0_fill_11 (nI_add _ _) ?_
  refine ga_ldc2 (v := -1) C dX0_fill_12 (by decide +kernel) ?_
  refine ga_callSv (wr := [(q, .inr (0, [.ref w]))]) C (c_fillR l G cI cJ cZ w f (a * 4) (a * 4 + 4) (-1) (by omega) (by omega)) (va_cwS 4 C.1.2.2.2.2 gX0_fill_J7_fill_bad5a rfl rfl rfl (by decide +kernel) ⟨Nat.le_of_ble_eq_true rfl, Nat.le_of_ble_eq_true rfl⟩) [1] [0] rfl rfl rfl rfl (by decide) rfl rfl (Nat.le_of_ble_eq_true rfl) dX0_fill_15 ⟨Nat.zero_le _, Nat.zero_le _⟩ (fun u hu => ?_)
  refine ga_ws [0, 1] (w9 := wB q w cJ u) rfl rfl ?_
  refine ga_vret C hr hlk dX0_fill_18 u (fun r b h1 h2 => ?_) rfl
  unfold bj
  rw [hu]
  by_cases h : r = a
  · rw [if_pos h, if_pos (by omega), uJ_m1, Nat.testBit_two_pow_sub_one]
    exact decide_eq_true (Nat.mod_lt _ (by decide))
  · rw [if_neg h, if_neg (by omega)]
set_option maxHeartbeats 4000000 in
set_option maxRecDepth 100000 in
/-- holds -/
theorem c_holds (l : Launch) (G : va_G) (cI cJ cZ : ClassId) (q w : Nat) (f : Nat → Int64) (a k : Nat) (ha : a < 200) (hk : k < 256) : ctI l yX0_holds wsX0_holds { frames := 1, cells := 0, slots := 0, locals := 20 } G (ty3 cI cJ cZ) [.ref q, .int (nI a), .int (nI k)] (wB q w cJ f) (fun r (_ : Unit) => r = nI (bj f a k).toNat) (fun _ => wB q w cJ f) := by
  refine metI (cc := cX0_holds) (maxL := 3) (ret := (some .boolean)) (by decide) rfl (Nat.le_of_ble_eq_true rfl) ?_
  intro p e s m below meth c C hr hlk
  refine ga_lv (lv9 := [(0, .ref q), (1, .int (nI a)), (2, .int (nI k))]) ⟨rfl, rfl, rfl, trivial⟩ ?_
  refine ga_aload_n 0 C dX0_holds_0 rfl rfl ?_
  refine gb_get C in_X0_holds (by decide +kernel) dX0_holds_1 ?_
  refine ga_iload_n 1 C dX0_holds_4 rfl rfl ?_
  refine ga_iconst (v := nI 4) C dX0_holds_5 (by decide) ?_
  refine ga_imul C dX0_holds_6 (pk_mul _ _) ?_
  refine ga_iload_n 2 C dX0_holds_7 rfl rfl ?_
  refine ga_bipush (v := nI 6) C dX0_holds_8 (by decide) ?_
  refine ga_ishr C dX0_holds_10 (sh6 (by omega)) ?_
  refine ga_iadd C dX0_holds_11 (nI_add _ _) ?_
  refine gb_ald C (by omega) dX0_holds_12 ?_
  refine ga_iload_n 2 C dX0_holds_13 rfl rfl ?_
  refine ga_call0l C (c_bit l G cI cJ cZ k hk) (va_cwS 1 C.1.2.2.2.2 gX0_holds_X0_bit rfl rfl rfl (by decide +kernel) ⟨Nat.le_of_ble_eq_true rfl, Nat.le_of_ble_eq_true rfl⟩) rfl rfl (Nat.le_of_ble_eq_true rfl) dX0_holds_14 ⟨Nat.zero_le _, Nat.zero_le _⟩ (fun r hb => ?_)
  refine ga_land C dX0_holds_17 rfl ?_
  refine ga_lconst (v := 0) C dX0_holds_18 (by decide) ?_
  refine ga_lcmp C dX0_holds_19 ?_
  refine ga_if_eq 27 C dX0_holds_20 (by decide) (fun h9 => ?_) (fun h9 => ?_)
  · have hz : bj f a k = false := (tb_and hb).mp ((lcmp0 _ _).mp h9)
    refine ga_iconst (v := nI 0) C dX0_holds_27 (by decide) ?_
    exact ga_iret C hr (nar_z (by omega)) hlk dX0_holds_28 () (by rw [hz]; rfl) rfl
  · have hz : bj f a k = true := by
      cases hq : bj f a k with
      | true => rfl
      | false => exact absurd ((lcmp0 _ _).mpr ((tb_and hb).mpr hq)) h9
    refine ga_iconst (v := nI 1) C dX0_holds_23 (by decide) ?_
    refine ga_goto 28 C dX0_holds_24 (by decide) ?_
    exact ga_iret C hr (nar_z (by omega)) hlk dX0_holds_28 () (by rw [hz]; rfl) rfl
set_option maxHeartbeats 4000000 in
set_option maxRecDepth 100000 in
/-- put -/
theorem c_put (l : Launch) (G : va_G) (cI cJ cZ : ClassId) (q w : Nat) (f : Nat → Int64) (a k i : Nat) (ha : a < 200) (hk : k < 256) (hi : i < 2) : ctV l yX0_put wsX0_put { frames := 1, cells := 0, slots := 0, locals := 20 } G (ty3 cI cJ cZ) [.ref q, .int (nI a), .int (nI k), .int (nI i)] (wB q w cJ f) (fun u : Nat → Int64 => ∀ r b, r < 200 → b < 256 → bj u r b = if r = a ∧ b = k then decide (i = 1) else bj f r b) (fun u => wB q w cJ u) := by
  refine metV (cc := cX0_put) (maxL := 5) (ret := none) (by decide) rfl (Nat.le_of_ble_eq_true rfl) ?_
  intro p e s m below meth c C hr hlk
  refine ga_lv (lv9 := [(0, .ref q), (1, .int (nI a)), (2, .int (nI k)), (3, .int (nI i))]) ⟨rfl, rfl, rfl, rfl, trivial⟩ ?_
  refine ga_iload_n 1 C dX0_put_0 rfl rfl ?_
  refine ga_iconst (v := nI 4) C dX0_put_1 (by decide) ?_
  refine ga_imul C dX0_put_2 (pk_mul _ _) ?_
  refine ga_iload_n 2 C dX0_put_3 rfl rfl ?_
  refine ga_bipush (v := nI 6) C dX0_put_4 (by decide) ?_
  refine ga_ishr C dX0_put_6 (sh6 (by omega)) ?_
  refine ga_iadd C dX0_put_7 (nI_add _ _) ?_
  refine ga_istore 4 C dX0_put_8 (by decide) rfl ?_
  refine ga_aload_n 0 C dX0_put_10 rfl rfl ?_
  refine gb_get C in_X0_put (by decide +kernel) dX0_put_11 ?_
  refine ga_iload 4 C dX0_put_14 rfl ?_
  refine ga_iload_n 3 C dX0_put_16 rfl rfl ?_
  refine gn_if_eq 35 C dX0_put_17 (by decide) (by omega) (fun h9 => ?_) (fun h9 => ?_)
  · skip
    refine ga_aload_n 0 C dX0_put_35 rfl rfl ?_
    refine gb_get C in_X0_put (by decide +kernel) dX0_put_36 ?_
    refine ga_iload 4 C dX0_put_39 rfl ?_
    refine gb_ald C (by omega) dX0_put_41 ?_
    refine ga_iload_n 2 C dX0_put_42 rfl rfl ?_
    refine ga_call0l C (c_bit l G cI cJ cZ k hk) (va_cwS 1 C.1.2.2.2.2 gX0_put_X0_bit rfl rfl rfl (by decide +kernel) ⟨Nat.le_of_ble_eq_true rfl, Nat.le_of_ble_eq_true rfl⟩) rfl rfl (Nat.le_of_ble_eq_true rfl) dX0_put_43 ⟨Nat.zero_le _, Nat.zero_le _⟩ (fun r hb => ?_)
    refine ga_ldc2 (v := -1) C dX0_put_46 (by decide +kernel) ?_
    refine ga_lxor C dX0_put_49 rfl ?_
    refine ga_land C dX0_put_50 rfl ?_
    refine gb_ast C (by omega) dX0_put_51 ?_
    refine ga_vret C hr hlk dX0_put_52 _ (bj_put (x := decide (i = 1)) hk (fun j hj => ?_)) rfl
    rw [tb_clr hb j hj, h9]
    rfl
  · skip
    refine ga_aload_n 0 C dX0_put_20 rfl rfl ?_
    refine gb_get C in_X0_put (by decide +kernel) dX0_put_21 ?_
    refine ga_iload 4 C dX0_put_24 rfl ?_
    refine gb_ald C (by omega) dX0_put_26 ?_
    refine ga_iload_n 2 C dX0_put_27 rfl rfl ?_
    refine ga_call0l C (c_bit l G cI cJ cZ k hk) (va_cwS 1 C.1.2.2.2.2 gX0_put_X0_bit rfl rfl rfl (by decide +kernel) ⟨Nat.le_of_ble_eq_true rfl, Nat.le_of_ble_eq_true rfl⟩) rfl rfl (Nat.le_of_ble_eq_true rfl) dX0_put_28 ⟨Nat.zero_le _, Nat.zero_le _⟩ (fun r hb => ?_)
    refine ga_lor C dX0_put_31 rfl ?_
    refine ga_goto 51 C dX0_put_32 (by decide) ?_
    refine gb_ast C (by omega) dX0_put_51 ?_
    refine ga_vret C hr hlk dX0_put_52 _ (bj_put (x := decide (i = 1)) hk (fun j hj => ?_)) rfl
    rw [tb_or hb j]
    have hi1 : i = 1 := by omega
    rw [hi1]
    rfl
set_option maxHeartbeats 4000000 in
set_option maxRecDepth 100000 in
/-- count -/
theorem c_count (l : Launch) (G : va_G) (cI cJ cZ : ClassId) (q w : Nat) (f : Nat → Int64) (a : Nat) (ha : a < 200) : ctI l yX0_count wsX0_count { frames := 1, cells := 0, slots := 0, locals := 21 } G (ty3 cI cJ cZ) [.ref q, .int (nI a)] (wB q w cJ f) (fun r (_ : Unit) => r = nI (cnP (fun b => bj f a b = true) 256)) (fun _ => wB q w cJ f) := by
  refine metI (cc := cX0_count) (maxL := 4) (ret := (some .int)) (by decide) rfl (Nat.le_of_ble_eq_true rfl) ?_
  intro p e s m below meth c C hr hlk
  refine ga_lv (lv9 := [(0, .ref q), (1, .int (nI a))]) ⟨rfl, rfl, trivial⟩ ?_
  refine ga_iconst (v := nI 0) C dX0_count_0 (by decide) ?_
  refine ga_istore_n 2 C dX0_count_1 rfl (by decide) rfl ?_
  refine ga_iconst (v := nI 0) C dX0_count_2 (by decide) ?_
  refine ga_istore_n 3 C dX0_count_3 rfl (by decide) rfl ?_
  refine ga_lv (lv9 := [(0, .ref q), (1, .int (nI a)), (2, .int (nI (cnP (fun b => bj f a b = true) (64 * 0)))), (3, .int (nI 0))]) ⟨rfl, rfl, rfl, rfl, trivial⟩ ?_
  refine up_ind 4 (P := fun i => gG p l e _ s m _ below meth c G _ _ 0 0 _ (wB q w cJ f) [(0, .ref q), (1, .int (nI a)), (2, .int (nI (cnP (fun b => bj f a b = true) (64 * i)))), (3, .int (nI i))] 4 []) ?_ 0 (by omega)
  intro i hi ih
  refine ga_iload_n 3 C dX0_count_4 rfl rfl ?_
  refine ga_iconst (v := nI 4) C dX0_count_5 (by decide) ?_
  refine gn_icmp_ge 31 C dX0_count_6 (by decide) (by omega) (by omega) (fun h9 => ?_) (fun h9 => ?_)
  · obtain rfl : i = 4 := by omega
    refine ga_iload_n 2 C dX0_count_31 rfl rfl ?_
    exact ga_iret C hr rfl hlk dX0_count_32 () rfl rfl
  · skip
    refine ga_iload_n 2 C dX0_count_9 rfl rfl ?_
    refine ga_aload_n 0 C dX0_count_10 rfl rfl ?_
    refine gb_get C in_X0_count (by decide +kernel) dX0_count_11 ?_
    refine ga_iload_n 1 C dX0_count_14 rfl rfl ?_
    refine ga_iconst (v := nI 4) C dX0_count_15 (by decide) ?_
    refine ga_imul C dX0_count_16 (pk_mul _ _) ?_
    refine ga_iload_n 3 C dX0_count_17 rfl rfl ?_
    refine ga_iadd C dX0_count_18 (nI_add _ _) ?_
    refine gb_ald C (by omega) dX0_count_19 ?_
    refine ga_eql (lN_uJ _).symm ?_
    refine ga_call0i C (c_bitCount l G cI cJ cZ (uJ (f (a * 4 + i))) (uJ_lt _)) (va_cwS 1 C.1.2.2.2.2 gX0_count_J13_bitCount_95d88 rfl rfl rfl (by decide +kernel) ⟨Nat.le_of_ble_eq_true rfl, Nat.le_of_ble_eq_true rfl⟩) rfl rfl (Nat.le_of_ble_eq_true rfl) dX0_count_20 ⟨Nat.zero_le _, Nat.zero_le _⟩ (fun r hb => ?_)
    subst hb
    refine ga_iadd C dX0_count_23 (nI_add _ _) ?_
    refine ga_istore_n 2 C dX0_count_24 rfl (by decide) rfl ?_
    refine ga_iinc 3 C dX0_count_25 rfl (nI_inc _) (by decide) rfl ?_
    refine ga_goto 4 C dX0_count_28 (by decide) ?_
    have e : cnP (fun b => bj f a b = true) (64 * i) + cnP (fun j => (uJ (f (a * 4 + i))).testBit j = true) 64 = cnP (fun b => bj f a b = true) (64 * (i + 1)) := by
      rw [show 64 * (i + 1) = 64 * i + 64 by omega, cnP_off]
      congr 1
      apply cnP_congr
      intro j hj
      unfold bj
      rw [show (64 * i + j) / 64 = i by omega, show (64 * i + j) % 64 = j by omega]
    rw [e]
    exact ga_lk (ih (i + 1) (by omega) (by omega)) ⟨rfl, rfl, rfl, rfl, trivial⟩
set_option maxHeartbeats 4000000 in
set_option maxRecDepth 100000 in
/-- next -/
theorem c_next (l : Launch) (G : va_G) (cI cJ cZ : ClassId) (q w : Nat) (f : Nat → Int64) (a b : Nat) (ha : a < 200) (hb : b ≤ 200) : ctI l yX0_next wsX0_next { frames := 1, cells := 0, slots := 0, locals := 21 } G (ty3 cI cJ cZ) [.ref q, .int (nI a), .int (nI b)] (wB q w cJ f) (fun r (_ : Unit) => ∃ x, r = nI x ∧ isNext (bj f a) b x) (fun _ => wB q w cJ f) := by
  refine metI (cc := cX0_next) (maxL := 10) (ret := (some .int)) (by decide) rfl (Nat.le_of_ble_eq_true rfl) ?_
  intro p e s m below meth c C hr hlk
  refine ga_lv (lv9 := [(0, .ref q), (1, .int (nI a)), (2, .int (nI b))]) ⟨rfl, rfl, rfl, trivial⟩ ?_
  refine ga_ldc2 (v := -1) C dX0_next_0 (by decide +kernel) ?_
  refine ga_iload_n 2 C dX0_next_3 rfl rfl ?_
  refine ga_lshl C dX0_next_4 rfl ?_
  refine ga_lstore_n 3 C dX0_next_5 rfl (by decide) rfl ?_
  refine ga_iload_n 2 C dX0_next_6 rfl rfl ?_
  refine ga_bipush (v := nI 6) C dX0_next_7 (by decide) ?_
  refine ga_ishr C dX0_next_9 (sh6 (by omega)) ?_
  refine ga_istore 5 C dX0_next_10 (by decide) rfl ?_
  refine ga_lv (lv9 := [(0, .ref q), (1, .int (nI a)), (3, .long ((-1) <<< ((nI b).toInt64 &&& 63))), (5, .int (nI (b / 64)))]) ⟨rfl, rfl, rfl, rfl, trivial⟩ ?_
  refine up_ind 4 (P := fun i => ∀ M : Int64, b / 64 ≤ i → (∀ j, j < 64 → (uJ M).testBit j = decide (b ≤ 64 * i + j)) → (∀ j, b ≤ j → j < 64 * i → bj f a j = false) → gG p l e _ s m _ below meth c G _ _ 0 0 _ (wB q w cJ f) [(0, .ref q), (1, .int (nI a)), (3, .long (M)), (5, .int (nI i))] 12 []) ?_ (b / 64) (by omega) _ (Nat.le_refl _) (fun j hj => ?_) (fun j h1 h2 => by omega)
  rotate_left
  · rw [uJ_mask b (by omega), mask_tb (Nat.mod_lt _ (by decide)) hj]
    exact decide_eq_decide.mpr (by omega)
  intro i hi ih M hbi hM hlo
  refine ga_iload 5 C dX0_next_12 rfl ?_
  refine ga_iconst (v := nI 4) C dX0_next_14 (by decide) ?_
  refine gn_icmp_ge 72 C dX0_next_15 (by decide) (by omega) (by omega) (fun h9 => ?_) (fun h9 => ?_)
  · skip
    refine ga_sipush (v := nI 200) C dX0_next_72 (by decide) ?_
    exact ga_iret C hr rfl hlk dX0_next_75 () ⟨200, rfl, Or.inr ⟨rfl, fun j h1 h2 => hlo j h1 (by omega)⟩⟩ rfl
  · skip
    refine ga_aload_n 0 C dX0_next_18 rfl rfl ?_
    refine gb_get C in_X0_next (by decide +kernel) dX0_next_19 ?_
    refine ga_iload_n 1 C dX0_next_22 rfl rfl ?_
    refine ga_iconst (v := nI 4) C dX0_next_23 (by decide) ?_
    refine ga_imul C dX0_next_24 (pk_mul _ _) ?_
    refine ga_iload 5 C dX0_next_25 rfl ?_
    refine ga_iadd C dX0_next_27 (nI_add _ _) ?_
    refine gb_ald C (by omega) dX0_next_28 ?_
    refine ga_lload_n 3 C dX0_next_29 rfl rfl ?_
    refine ga_land C dX0_next_30 rfl ?_
    refine ga_lstore 6 C dX0_next_31 (by decide) rfl ?_
    refine ga_lload 6 C dX0_next_33 rfl ?_
    refine ga_lconst (v := 0) C dX0_next_35 (by decide) ?_
    refine ga_lcmp C dX0_next_36 ?_
    refine ga_if_eq 62 C dX0_next_37 (by decide) (fun h9 => ?_) (fun h9 => ?_)
    · have hz : f (a * 4 + i) &&& M = 0 := (lcmp0 _ _).mp h9
      refine ga_ldc2 (v := -1) C dX0_next_62 (by decide +kernel) ?_
      refine ga_lstore_n 3 C dX0_next_65 rfl (by decide) rfl ?_
      refine ga_iinc 5 C dX0_next_66 rfl (nI_inc _) (by decide) rfl ?_
      refine ga_goto 12 C dX0_next_69 (by decide) ?_
      refine ga_lv (lv9 := [(0, .ref q), (1, .int (nI a)), (3, .long (-1)), (5, .int (nI (i + 1)))]) ⟨rfl, rfl, rfl, rfl, trivial⟩ ?_
      have hlo2 : ∀ j, b ≤ j → j < 64 * (i + 1) → bj f a j = false := fun j h1 h2 => by
        by_cases h3 : j < 64 * i
        · exact hlo j h1 h3
        · have h4 : (uJ (f (a * 4 + i) &&& M)).testBit (j % 64) = false := by rw [hz, uJ_0, Nat.zero_testBit]
          rw [uJ_and, Nat.testBit_and, hM _ (Nat.mod_lt _ (by decide)), decide_eq_true (show b ≤ 64 * i + j % 64 by omega), Bool.and_true] at h4
          unfold bj
          rw [show j / 64 = i by omega]
          exact h4
      refine ih (i + 1) (by omega) (by omega) (-1) (by omega) (fun j hj => ?_) hlo2
      rw [uJ_m1, Nat.testBit_two_pow_sub_one, decide_eq_true hj, decide_eq_true (show b ≤ 64 * (i + 1) + j by omega)]
    · have hnz : uJ (f (a * 4 + i) &&& M) ≠ 0 := uJ_ne0 (fun q => h9 ((lcmp0 _ _).mpr q))
      obtain ⟨r, z, hr64, hn, hbr, hbl⟩ := low_ex hnz (uJ_lt _)
      have hlow := low_bit hr64 hn (uJ_lt _)
      have hp := Nat.pow_pos (n := r) (show 0 < 2 by decide)
      have hp2 := Nat.pow_lt_pow_right (show 1 < 2 by decide) hr64
      generalize hX : f (a * 4 + i) &&& M = X at *
      have e1 : X &&& -X = lN (2 ^ r) := by
        apply uJ_inj
        have hx := uJ_lt X
        rw [uJ_and, uJ_neg, uJ_lN hp2, Nat.mod_eq_of_lt (by omega), hlow]
      refine ga_lload 6 C dX0_next_40 rfl ?_
      refine ga_lload 6 C dX0_next_42 rfl ?_
      refine ga_lneg C dX0_next_44 rfl ?_
      refine ga_land C dX0_next_45 e1 ?_
      refine ga_lconst (v := lN 1) C dX0_next_46 (by decide) ?_
      refine ga_lsub C dX0_next_47 (lN_sub (by omega)) ?_
      refine ga_lstore 8 C dX0_next_48 (by decide) rfl ?_
      refine ga_iload 5 C dX0_next_50 rfl ?_
      refine ga_bipush (v := nI 6) C dX0_next_52 (by decide) ?_
      refine ga_ishl C dX0_next_54 (sl6 (by omega)) ?_
      refine ga_lload 8 C dX0_next_55 rfl ?_
      refine ga_call0i C (c_bitCount l G cI cJ cZ (2 ^ r - 1) (by omega)) (va_cwS 1 C.1.2.2.2.2 gX0_next_J13_bitCount_95d88 rfl rfl rfl (by decide +kernel) ⟨Nat.le_of_ble_eq_true rfl, Nat.le_of_ble_eq_true rfl⟩) rfl rfl (Nat.le_of_ble_eq_true rfl) dX0_next_57 ⟨Nat.zero_le _, Nat.zero_le _⟩ (fun r2 hr2 => ?_)
      rw [cn_low hr64] at hr2
      subst hr2
      refine ga_iadd C dX0_next_60 (nI_add _ _) ?_
      have hb1 : (uJ (f (a * 4 + i))).testBit r = true ∧ b ≤ 64 * i + r := by
        rw [← hX, uJ_and, Nat.testBit_and, hM _ hr64, Bool.and_eq_true, decide_eq_true_eq] at hbr
        exact hbr
      refine ga_iret C hr rfl hlk dX0_next_61 () ⟨i * 64 + r, rfl, Or.inl ⟨by omega, by omega, ?_, fun j h1 h2 => ?_⟩⟩ rfl
      · unfold bj
        rw [show (i * 64 + r) / 64 = i by omega, show (i * 64 + r) % 64 = r by omega]
        exact hb1.1
      · by_cases h3 : j < 64 * i
        · exact hlo j h1 h3
        · have h4 := hbl (j % 64) (by omega)
          rw [← hX, uJ_and, Nat.testBit_and, hM _ (Nat.mod_lt _ (by decide)), decide_eq_true (show b ≤ 64 * i + j % 64 by omega), Bool.and_true] at h4
          unfold bj
          rw [show j / 64 = i by omega]
          exact h4
set_option maxHeartbeats 4000000 in
set_option maxRecDepth 100000 in
/-- keepOthersOf -/
theorem c_keep (l : Launch) (G : va_G) (cI cJ cZ : ClassId) (q w : Nat) (f : Nat → Int64) (a o : Nat) (ha : a < 200) (ho : o < 200) : ctI l yX0_keepOthersOf wsX0_keepOthersOf { frames := 1, cells := 0, slots := 0, locals := 20 } G (ty3 cI cJ cZ) [.ref q, .int (nI a), .int (nI o)] (wB q w cJ f) (fun r (u : Nat → Int64) => (∃ z, z < 2 ∧ r = nI z ∧ (z = 0 → ∀ x, x < 256 → bj u a x = bj f a x)) ∧ ∀ r2 x, r2 < 200 → x < 256 → bj u r2 x = if r2 = a then (bj f a x && (bj f o x || decide (x = a))) else bj f r2 x) (fun u => wB q w cJ u) := by
  refine metI (cc := cX0_keepOthersOf) (maxL := 11) (ret := (some .boolean)) (by decide) rfl (Nat.le_of_ble_eq_true rfl) ?_
  intro p e s m below meth c C hr hlk
  refine ga_lv (lv9 := [(0, .ref q), (1, .int (nI a)), (2, .int (nI o))]) ⟨rfl, rfl, rfl, trivial⟩ ?_
  refine ga_iconst (v := nI 0) C dX0_keepOthersOf_0 (by decide) ?_
  refine ga_istore_n 3 C dX0_keepOthersOf_1 rfl (by decide) rfl ?_
  refine ga_iconst (v := nI 0) C dX0_keepOthersOf_2 (by decide) ?_
  refine ga_istore 4 C dX0_keepOthersOf_3 (by decide) rfl ?_
  refine ga_lv (lv9 := [(0, .ref q), (1, .int (nI a)), (2, .int (nI o)), (3, .int (nI 0)), (4, .int (nI 0))]) ⟨rfl, rfl, rfl, rfl, rfl, trivial⟩ ?_
  refine up_ind 4 (P := fun i => ∀ (u : Nat → Int64) (z : Nat), z < 2 → (z = 0 → ∀ x, x < 256 → bj u a x = bj f a x) → (∀ r2 x, r2 < 200 → x < 256 → bj u r2 x = if r2 = a ∧ x < 64 * i then (bj f a x && (bj f o x || decide (x = a))) else bj f r2 x) → gG p l e _ s m _ below meth c G _ _ 0 0 _ (wB q w cJ u) [(0, .ref q), (1, .int (nI a)), (2, .int (nI o)), (3, .int (nI z)), (4, .int (nI i))] 5 []) ?_ 0 (by omega) f 0 (by omega) (fun _ _ _ => rfl) (fun r2 x h1 h2 => by rw [if_neg (by omega)])
  intro i hi ih u z hz hz0 hu
  refine ga_iload 4 C dX0_keepOthersOf_5 rfl ?_
  refine ga_iconst (v := nI 4) C dX0_keepOthersOf_7 (by decide) ?_
  refine gn_icmp_ge 99 C dX0_keepOthersOf_8 (by decide) (by omega) (by omega) (fun h9 => ?_) (fun h9 => ?_)
  · skip
    refine ga_iload_n 3 C dX0_keepOthersOf_99 rfl rfl ?_
    refine ga_iret C hr (nar_z (by omega)) hlk dX0_keepOthersOf_100 u ⟨⟨z, hz, rfl, hz0⟩, fun r2 x h1 h2 => ?_⟩ rfl
    rw [hu r2 x h1 h2]
    by_cases h : r2 = a
    · rw [if_pos ⟨h, by omega⟩, if_pos h]
    · rw [if_neg (fun q => h q.1), if_neg h]
  · refine ga_tail (H := fun ow : Int64 => ∀ j, j < 64 → (uJ ow).testBit j = decide (64 * i + j = a)) (w9 := fun _ => wB q w cJ u) (lv9 := fun _ => [(0, .ref q), (1, .int (nI a)), (2, .int (nI o)), (3, .int (nI z)), (4, .int (nI i))]) (pc9 := 28) (F := fun ow => [.long ow]) ?_ (fun tail => ?_)
    · intro ow how
      refine ga_lstore 5 C dX0_keepOthersOf_28 (by decide) rfl ?_
      refine ga_aload_n 0 C dX0_keepOthersOf_30 rfl rfl ?_
      refine gb_get C in_X0_keepOthersOf (by decide +kernel) dX0_keepOthersOf_31 ?_
      refine ga_iload_n 1 C dX0_keepOthersOf_34 rfl rfl ?_
      refine ga_iconst (v := nI 4) C dX0_keepOthersOf_35 (by decide) ?_
      refine ga_imul C dX0_keepOthersOf_36 (pk_mul _ _) ?_
      refine ga_iload 4 C dX0_keepOthersOf_37 rfl ?_
      refine ga_iadd C dX0_keepOthersOf_39 (nI_add _ _) ?_
      refine gb_ald C (by omega) dX0_keepOthersOf_40 ?_
      refine ga_lstore 7 C dX0_keepOthersOf_41 (by decide) rfl ?_
      refine ga_lload 7 C dX0_keepOthersOf_43 rfl ?_
      refine ga_aload_n 0 C dX0_keepOthersOf_45 rfl rfl ?_
      refine gb_get C in_X0_keepOthersOf (by decide +kernel) dX0_keepOthersOf_46 ?_
      refine ga_iload_n 2 C dX0_keepOthersOf_49 rfl rfl ?_
      refine ga_iconst (v := nI 4) C dX0_keepOthersOf_50 (by decide) ?_
      refine ga_imul C dX0_keepOthersOf_51 (pk_mul _ _) ?_
      refine ga_iload 4 C dX0_keepOthersOf_52 rfl ?_
      refine ga_iadd C dX0_keepOthersOf_54 (nI_add _ _) ?_
      refine gb_ald C (by omega) dX0_keepOthersOf_55 ?_
      refine ga_lload 5 C dX0_keepOthersOf_56 rfl ?_
      refine ga_lor C dX0_keepOthersOf_58 rfl ?_
      refine ga_land C dX0_keepOthersOf_59 rfl ?_
      refine ga_lstore 9 C dX0_keepOthersOf_60 (by decide) rfl ?_
      refine ga_aload_n 0 C dX0_keepOthersOf_62 rfl rfl ?_
      refine gb_get C in_X0_keepOthersOf (by decide +kernel) dX0_keepOthersOf_63 ?_
      refine ga_iload_n 1 C dX0_keepOthersOf_66 rfl rfl ?_
      refine ga_iconst (v := nI 4) C dX0_keepOthersOf_67 (by decide) ?_
      refine ga_imul C dX0_keepOthersOf_68 (pk_mul _ _) ?_
      refine ga_iload 4 C dX0_keepOthersOf_69 rfl ?_
      refine ga_iadd C dX0_keepOthersOf_71 (nI_add _ _) ?_
      refine ga_lload 9 C dX0_keepOthersOf_72 rfl ?_
      refine gb_ast C (by omega) dX0_keepOthersOf_74 ?_
      generalize hv : u (a * 4 + i) &&& (u (o * 4 + i) ||| ow) = v
      have hvb : ∀ j, j < 64 → (uJ v).testBit j = (bj u a (64 * i + j) && (bj u o (64 * i + j) || decide (64 * i + j = a))) := fun j hj => by
        rw [← hv, uJ_and, uJ_or, Nat.testBit_and, Nat.testBit_or, how j hj]
        unfold bj
        rw [show (64 * i + j) / 64 = i by omega, show (64 * i + j) % 64 = j by omega]
      have hu2 : ∀ r2 x, r2 < 200 → x < 256 → bj (vp_updL u (a * 4 + i) v) r2 x = if r2 = a ∧ x < 64 * (i + 1) then (bj f a x && (bj f o x || decide (x = a))) else bj f r2 x := fun r2 x h1 h2 => by
        have e1 : bj (vp_updL u (a * 4 + i) v) r2 x = if r2 = a ∧ x / 64 = i then (uJ v).testBit (x % 64) else bj u r2 x := by
          have := bj_upd (f := u) (a := a) (k := 64 * i) (r := r2) (b := x) (v := v) (by omega) h2
          rw [show 64 * i / 64 = i by omega] at this
          exact this
        rw [e1]
        by_cases h : r2 = a ∧ x / 64 = i
        · rw [if_pos h, if_pos (by omega), hvb _ (Nat.mod_lt _ (by decide)), show 64 * i + x % 64 = x by omega, hu a x ha h2, if_neg (by omega), hu o x ho h2, if_neg (by omega)]
        · rw [if_neg h, hu r2 x h1 h2]
          by_cases h3 : r2 = a ∧ x < 64 * i
          · rw [if_pos h3, if_pos (by omega)]
          · rw [if_neg h3, if_neg (by omega)]
      refine ga_tail (H := fun z2 : Nat => z2 < 2 ∧ (z2 = 0 → z = 0 ∧ v = u (a * 4 + i))) (w9 := fun _ => wB q w cJ (vp_updL u (a * 4 + i) v)) (lv9 := fun _ => [(0, .ref q), (1, .int (nI a)), (2, .int (nI o)), (3, .int (nI z)), (4, .int (nI i))]) (pc9 := 92) (F := fun z2 => [.int (nI z2)]) ?_ (fun tail2 => ?_)
      · rintro z2 ⟨hz2, hz20⟩
        refine ga_istore_n 3 C dX0_keepOthersOf_92 rfl (by decide) rfl ?_
        refine ga_iinc 4 C dX0_keepOthersOf_93 rfl (nI_inc _) (by decide) rfl ?_
        refine ga_goto 5 C dX0_keepOthersOf_96 (by decide) ?_
        refine ga_lv (lv9 := [(0, .ref q), (1, .int (nI a)), (2, .int (nI o)), (3, .int (nI z2)), (4, .int (nI (i + 1)))]) ⟨rfl, rfl, rfl, rfl, rfl, trivial⟩ ?_
        refine ih (i + 1) (by omega) (by omega) _ z2 hz2 (fun h x hx => ?_) hu2
        obtain ⟨h1, h2⟩ := hz20 h
        rw [← hz0 h1 x hx]
        have e1 := bj_upd (f := u) (a := a) (k := 64 * i) (r := a) (b := x) (v := v) (by omega) hx
        rw [show 64 * i / 64 = i by omega] at e1
        rw [e1]
        by_cases h3 : x / 64 = i
        · rw [if_pos ⟨rfl, h3⟩, h2]
          unfold bj
          rw [h3]
        · rw [if_neg (fun q => h3 q.2)]
      refine ga_iload_n 3 C dX0_keepOthersOf_75 rfl rfl ?_
      refine gn_if_ne 87 C dX0_keepOthersOf_76 (by decide) (by omega) (fun h9 => ?_) (fun h9 => ?_)
      · skip
        refine ga_iconst (v := nI 1) C dX0_keepOthersOf_87 (by decide) ?_
        refine ga_goto 92 C dX0_keepOthersOf_88 (by decide) ?_
        exact ga_lk (tail2 1 ⟨by omega, fun h => by omega⟩) ⟨rfl, rfl, rfl, rfl, rfl, trivial⟩
      · skip
        refine ga_lload 9 C dX0_keepOthersOf_79 rfl ?_
        refine ga_lload 7 C dX0_keepOthersOf_81 rfl ?_
        refine ga_lcmp C dX0_keepOthersOf_83 ?_
        refine ga_if_eq 91 C dX0_keepOthersOf_84 (by decide) (fun h8 => ?_) (fun h8 => ?_)
        · skip
          refine ga_iconst (v := nI 0) C dX0_keepOthersOf_91 (by decide) ?_
          exact ga_lk (tail2 0 ⟨by omega, fun _ => ⟨by omega, (lcmp0 _ _).mp h8⟩⟩) ⟨rfl, rfl, rfl, rfl, rfl, trivial⟩
        · skip
          refine ga_iconst (v := nI 1) C dX0_keepOthersOf_87 (by decide) ?_
          refine ga_goto 92 C dX0_keepOthersOf_88 (by decide) ?_
          exact ga_lk (tail2 1 ⟨by omega, fun h => by omega⟩) ⟨rfl, rfl, rfl, rfl, rfl, trivial⟩
    refine ga_iload_n 1 C dX0_keepOthersOf_11 rfl rfl ?_
    refine ga_bipush (v := nI 6) C dX0_keepOthersOf_12 (by decide) ?_
    refine ga_ishr C dX0_keepOthersOf_14 (sh6 (by omega)) ?_
    refine ga_iload 4 C dX0_keepOthersOf_15 rfl ?_
    refine gn_icmp_ne 27 C dX0_keepOthersOf_17 (by decide) (by omega) (by omega) (fun h8 => ?_) (fun h8 => ?_)
    · skip
      refine ga_lconst (v := 0) C dX0_keepOthersOf_27 (by decide) ?_
      refine ga_lk (tail 0 (fun j hj => ?_)) ⟨rfl, rfl, rfl, rfl, rfl, trivial⟩
      rw [uJ_0, Nat.zero_testBit, decide_eq_false (by omega)]
    · skip
      refine ga_iload_n 1 C dX0_keepOthersOf_20 rfl rfl ?_
      refine ga_call0l C (c_bit l G cI cJ cZ a (by omega)) (va_cwS 1 C.1.2.2.2.2 gX0_keepOthersOf_X0_bit rfl rfl rfl (by decide +kernel) ⟨Nat.le_of_ble_eq_true rfl, Nat.le_of_ble_eq_true rfl⟩) rfl rfl (Nat.le_of_ble_eq_true rfl) dX0_keepOthersOf_21 ⟨Nat.zero_le _, Nat.zero_le _⟩ (fun r hb => ?_)
      refine ga_goto 28 C dX0_keepOthersOf_24 (by decide) ?_
      refine ga_lk (tail r (fun j hj => ?_)) ⟨rfl, rfl, rfl, rfl, rfl, trivial⟩
      rw [hb, Nat.testBit_two_pow]
      exact decide_eq_decide.mpr (by omega)
end
section
/-! flow: ways, dominators, loops -/
def rk (E : Nat → Nat → Prop) (src av : Nat → Prop) : Nat → Nat → Prop
  | 0, b => src b
  | k + 1, b => rk E src av k b ∨ ∃ a, rk E src av k a ∧ E a b ∧ ¬ av b
def rc (E : Nat → Nat → Prop) (src av : Nat → Prop) (b : Nat) : Prop := ∃ k, rk E src av k b
section RC
variable {E : Nat → Nat → Prop} {src av : Nat → Prop}
theorem rc_src {b : Nat} (h : src b) : rc E src av b := ⟨0, h⟩
theorem rc_step {a b : Nat} (h : rc E src av a) (e : E a b) (ha : ¬ av b) : rc E src av b := by
  obtain ⟨k, hk⟩ := h
  exact ⟨k + 1, Or.inr ⟨a, hk, e, ha⟩⟩
theorem rc_ind {P : Nat → Prop} (h0 : ∀ b, src b → P b) (hs : ∀ a b, rc E src av a → P a → E a b → ¬ av b → P b) {b : Nat} (h : rc E src av b) : P b := by
  obtain ⟨k, hk⟩ := h
  induction k generalizing b with
  | zero => exact h0 b hk
  | succ k ih =>
    rcases hk with hk | ⟨a, ha, e, hv⟩
    · exact ih hk
    · exact hs a b ⟨k, ha⟩ (ih ha) e hv
theorem rk_mono {k j b : Nat} (h : k ≤ j) (hk : rk E src av k b) : rk E src av j b := by
  induction j with
  | zero => obtain rfl : k = 0 := by omega
            exact hk
  | succ j ih =>
    by_cases e : k = j + 1
    · subst e; exact hk
    · exact Or.inl (ih (by omega))
theorem rk_lt {n : Nat} (h0 : ∀ b, src b → b < n) (hE : ∀ a b, E a b → b < n) {k b : Nat} (h : rk E src av k b) : b < n := by
  induction k generalizing b with
  | zero => exact h0 b h
  | succ k ih =>
    rcases h with h | ⟨a, _, e, _⟩
    · exact ih h
    · exact hE a b e
theorem rc_short {n : Nat} (h0 : ∀ b, src b → b < n) (hE : ∀ a b, E a b → b < n) {b : Nat} (h : rc E src av b) : rk E src av n b := by
  have hst : ∃ j, j ≤ n ∧ ∀ b, rk E src av (j + 1) b → rk E src av j b := by
    apply Classical.byContradiction
    intro hno
    have hgrow : ∀ j, j ≤ n → ∃ b, rk E src av (j + 1) b ∧ ¬ rk E src av j b := by
      intro j hj
      apply Classical.byContradiction
      intro h2
      exact hno ⟨j, hj, fun b hb => Classical.byContradiction (fun h3 => h2 ⟨b, hb, h3⟩)⟩
    have hc : ∀ j, j ≤ n + 1 → j ≤ cnP (fun b => rk E src av j b) n := by
      intro j
      induction j with
      | zero => intro _; exact Nat.zero_le _
      | succ j ih =>
        intro hj
        obtain ⟨b, hb1, hb2⟩ := hgrow j (by omega)
        have := cnP_lt (P := fun b => rk E src av j b) (Q := fun b => rk E src av (j + 1) b) (a := b) (n := n) (fun k _ hk => Or.inl hk) (rk_lt h0 hE hb1) hb1 hb2
        have := ih (by omega)
        omega
    have h1 := hc (n + 1) (Nat.le_refl _)
    have h2 := cnP_le (P := fun b => rk E src av (n + 1) b) n
    omega
  obtain ⟨j, hj, hs⟩ := hst
  have hall : ∀ k b, rk E src av k b → rk E src av j b := by
    intro k
    induction k with
    | zero => intro b hb; exact rk_mono (Nat.zero_le _) hb
    | succ k ih =>
      intro b hb
      rcases hb with hb | ⟨a, ha, e, hv⟩
      · exact ih b hb
      · exact hs b (Or.inr ⟨a, ih a ha, e, hv⟩)
  obtain ⟨k, hk⟩ := h
  exact rk_mono hj (hall k b hk)
end RC
def eP (E : Nat → Nat → Bool) : Nat → Nat → Prop := fun a b => E a b = true
def eR (E : Nat → Nat → Bool) : Nat → Nat → Prop := fun a b => E b a = true
def rch (E : Nat → Nat → Bool) : Nat → Prop := rc (eP E) (fun b => b = 0) (fun _ => False)
def rav (E : Nat → Nat → Bool) (d : Nat) : Nat → Prop := rc (eP E) (fun b => b = 0 ∧ 0 < d) (fun b => b = d)
def dmn (E : Nat → Nat → Bool) (a b : Nat) : Prop := rch E b ∧ ¬ rav E a b
def gOk (n : Nat) (E : Nat → Nat → Bool) : Prop := 0 < n ∧ n ≤ 200 ∧ ∀ a b, E a b = true → a < n ∧ b < n
section DM
variable {n : Nat} {E : Nat → Nat → Bool}
theorem rch_0 : rch E 0 := rc_src rfl
theorem rch_s {a b : Nat} (h : rch E a) (e : E a b = true) : rch E b := rc_step h e (fun q => q)
theorem rch_lt (hg : gOk n E) {b : Nat} (h : rch E b) : b < n := rc_ind (P := fun b => b < n) (fun b hb => by rw [hb]; exact hg.1) (fun a b _ _ e _ => (hg.2.2 a b e).2) h
theorem rav_ne {d b : Nat} (h : rav E d b) : b ≠ d := rc_ind (P := fun b => b ≠ d) (fun b hb => by omega) (fun a b _ _ _ h => h) h
theorem rav_rch {d b : Nat} (h : rav E d b) : rch E b := rc_ind (P := fun b => rch E b) (fun b hb => by rw [hb.1]; exact rch_0) (fun a b _ h e _ => rch_s h e) h
theorem rav_0 {d : Nat} (h : d ≠ 0) : rav E d 0 := rc_src ⟨rfl, by omega⟩
theorem rav_s {d a b : Nat} (h : rav E d a) (e : E a b = true) (hb : b ≠ d) : rav E d b := rc_step h e hb
/-- reached without d, or d is reached -/
theorem rav_or {d b : Nat} (h : rch E b) : rav E d b ∨ rch E d := rc_ind (P := fun b => rav E d b ∨ rch E d) (fun b hb => by
    by_cases h0 : d = 0
    · exact Or.inr (by rw [h0]; exact rch_0)
    · rw [hb]; exact Or.inl (rav_0 h0)) (fun a b ha h e _ => by
    rcases h with h | h
    · by_cases hb : b = d
      · exact Or.inr (by rw [← hb]; exact rch_s ha e)
      · exact Or.inl (rav_s h e hb)
    · exact Or.inr h) h
theorem dmn_rch {a b : Nat} (h : dmn E a b) : rch E a := (rav_or h.1).resolve_left h.2
theorem dmn_lt (hg : gOk n E) {a b : Nat} (h : dmn E a b) : a < n := rch_lt hg (dmn_rch h)
theorem dmn_rf {b : Nat} (h : rch E b) : dmn E b b := ⟨h, fun q => rav_ne q rfl⟩
theorem dmn_0 {a : Nat} (h : dmn E a 0) : a = 0 := Classical.byContradiction (fun q => h.2 (rav_0 q))
/-- dominators of a block dominate its sources, or are the block -/
theorem dmn_src {a b c : Nat} (h : dmn E a b) (hc : rch E c) (e : E c b = true) : a = b ∨ dmn E a c := by
  by_cases hab : a = b
  · exact Or.inl hab
  · exact Or.inr ⟨hc, fun q => h.2 (rav_s q e (fun z => hab z.symm))⟩
theorem dmn_tr {a b c : Nat} (h1 : dmn E a b) (h2 : dmn E b c) : dmn E a c := by
  refine ⟨h2.1, fun q => h2.2 ?_⟩
  have key : ∀ x, rav E a x → rav E b x := fun x hx => rc_ind (P := fun x => rav E b x) (fun x hx => by
      have hb : b ≠ 0 := fun hb => by
        rw [hb] at h1
        have := dmn_0 h1
        omega
      rw [hx.1]
      exact rav_0 hb) (fun x y hx ih e hy => by
      refine rav_s ih e (fun hyb => ?_)
      exact h1.2 (by rw [← hyb]; exact rav_s hx e hy)) hx
  exact key c q
theorem dmn_as {a b : Nat} (h1 : dmn E a b) (h2 : dmn E b a) : a = b := by
  apply Classical.byContradiction
  intro hab
  have key : ∀ x, rch E x → (rav E a x ∧ rav E b x) ∨ rav E b a ∨ rav E a b := fun x hx => rc_ind (P := fun x => (rav E a x ∧ rav E b x) ∨ rav E b a ∨ rav E a b) (fun x hx => by
      subst hx
      by_cases ha : a = 0
      · right; left
        rw [ha]
        exact rav_0 (fun q => hab (by rw [ha, q]))
      · by_cases hb : b = 0
        · right; right
          rw [hb]
          exact rav_0 ha
        · exact Or.inl ⟨rav_0 ha, rav_0 hb⟩) (fun x y _ ih e _ => by
      rcases ih with ⟨i1, i2⟩ | ih
      · by_cases ya : y = a
        · right; left
          rw [← ya]
          exact rav_s i2 e (fun q => hab (by rw [← ya, q]))
        · by_cases yb : y = b
          · right; right
            rw [← yb]
            exact rav_s i1 e ya
          · exact Or.inl ⟨rav_s i1 e ya, rav_s i2 e yb⟩
      · exact Or.inr ih) hx
  rcases key a (dmn_rch h1) with h | h | h
  · exact rav_ne h.1 rfl
  · exact h2.2 h
  · exact h1.2 h
theorem dmn_to {a b c : Nat} (h1 : dmn E a c) (h2 : dmn E b c) : dmn E a b ∨ dmn E b a := by
  apply Classical.byContradiction
  intro hno
  have ha := dmn_rch h1
  have hb := dmn_rch h2
  have n1 : rav E a b := Classical.byContradiction (fun q => hno (Or.inl ⟨hb, q⟩))
  have n2 : rav E b a := Classical.byContradiction (fun q => hno (Or.inr ⟨ha, q⟩))
  have key : rav E a c ∨ rav E b c := rc_ind (P := fun x => rav E a x ∨ rav E b x) (fun x hx => by
      subst hx
      by_cases ha : a = 0
      · right; rw [← ha]; exact n2
      · left; exact rav_0 ha) (fun x y _ ih e _ => by
      rcases ih with ih | ih
      · by_cases ya : y = a
        · right; rw [ya]; exact n2
        · left; exact rav_s ih e ya
      · by_cases yb : y = b
        · left; rw [yb]; exact n1
        · right; exact rav_s ih e yb) h1.1
  exact key.elim h1.2 h2.2
noncomputable def rnk (n : Nat) (E : Nat → Nat → Bool) (b : Nat) : Nat := cnP (fun a => dmn E a b) n
theorem rnk_lt (hg : gOk n E) {a b : Nat} (h : dmn E a b) (hab : a ≠ b) : rnk n E a < rnk n E b :=
  cnP_lt (a := b) (fun k _ hk => dmn_tr hk h) (rch_lt hg h.1) (dmn_rf h.1) (fun q => hab (dmn_as h q))
theorem mx_ex (P : Nat → Prop) (f : Nat → Nat) : ∀ n, (∃ x, x < n ∧ P x) → ∃ x, x < n ∧ P x ∧ ∀ y, y < n → P y → f y ≤ f x := by
  intro n
  induction n with
  | zero => rintro ⟨x, hx, _⟩; omega
  | succ n ih =>
    intro hex
    by_cases h : ∃ x, x < n ∧ P x
    · obtain ⟨x, hx, hp, hm⟩ := ih h
      by_cases hn : P n ∧ f x < f n
      · refine ⟨n, by omega, hn.1, fun y hy hpy => ?_⟩
        by_cases e : y = n
        · subst e; exact Nat.le_refl _
        · have := hm y (by omega) hpy
          omega
      · refine ⟨x, by omega, hp, fun y hy hpy => ?_⟩
        by_cases e : y = n
        · subst e
          apply Nat.le_of_not_lt
          intro q
          exact hn ⟨hpy, q⟩
        · exact hm y (by omega) hpy
    · obtain ⟨x, hx, hp⟩ := hex
      have e : x = n := Classical.byContradiction (fun q => h ⟨x, by omega, hp⟩)
      subst e
      refine ⟨x, by omega, hp, fun y hy hpy => ?_⟩
      have e : y = x := Classical.byContradiction (fun q => h ⟨y, by omega, hpy⟩)
      rw [e]
      exact Nat.le_refl _
def isId (n : Nat) (E : Nat → Nat → Bool) (b : Nat) (r : Int32) : Prop := (r = -1 ∧ ∀ a, a ≠ b → ¬ dmn E a b) ∨ ∃ x, r = nI x ∧ x ≠ b ∧ dmn E x b ∧ ∀ y, y ≠ b → dmn E y b → rnk n E y ≤ rnk n E x
theorem isId_un (hg : gOk n E) {b : Nat} {r1 r2 : Int32} (h1 : isId n E b r1) (h2 : isId n E b r2) : r1 = r2 := by
  rcases h1 with ⟨e1, h1⟩ | ⟨x, e1, hx, dx, mx⟩ <;> rcases h2 with ⟨e2, h2⟩ | ⟨y, e2, hy, dy, my⟩
  · rw [e1, e2]
  · exact absurd dy (h1 y hy)
  · exact absurd dx (h2 x hx)
  · have h3 := mx y hy dy
    have h4 := my x hx dx
    have e : x = y := by
      apply Classical.byContradiction
      intro q
      rcases dmn_to dx dy with h | h
      · have := rnk_lt hg h q; omega
      · have := rnk_lt hg h (fun z => q z.symm); omega
    rw [e1, e2, e]
theorem isId_some {b d : Nat} (hg : gOk n E) (h : dmn E d b) (hr : rnk n E d + 1 = rnk n E b) : isId n E b (nI d) := by
  refine Or.inr ⟨d, rfl, fun q => by rw [q] at hr; omega, h, fun y hy dy => ?_⟩
  have := rnk_lt hg dy hy
  omega
theorem isId_none {b : Nat} (hg : gOk n E) (h : ∀ d, dmn E d b → rnk n E d + 1 ≠ rnk n E b) : isId n E b (-1) := by
  refine Or.inl ⟨rfl, fun a ha da => ?_⟩
  obtain ⟨x, hx, ⟨hxb, dx⟩, mx⟩ := mx_ex (fun x => x ≠ b ∧ dmn E x b) (rnk n E) n ⟨a, dmn_lt hg da, ha, da⟩
  refine h x dx ?_
  have hq : rnk n E b = rnk n E x + 1 := cnP_add (a := b) (fun k hk => by
    constructor
    · intro dk
      by_cases e : k = b
      · exact Or.inr e
      · left
        rcases dmn_to dk dx with q | q
        · exact q
        · by_cases e2 : x = k
          · rw [← e2]; exact dmn_rf (dmn_rch dx)
          · have h1 := rnk_lt hg q e2
            have h2 := mx k hk ⟨e, dk⟩
            omega
    · rintro (q | q)
      · exact dmn_tr q dx
      · rw [q]; exact dmn_rf dx.1) (rch_lt hg dx.1) (fun q => hxb (dmn_as dx q))
  exact hq.symm
/-! the search for dominators: D b a says that a still stands in b's set -/
def dLow (E : Nat → Nat → Bool) (D : Nat → Nat → Prop) : Prop := ∀ a b, dmn E a b → D b a
def dUp (E : Nat → Nat → Bool) (D : Nat → Nat → Prop) (k : Nat) : Prop := ∀ a b, rk (eP E) (fun b => b = 0 ∧ 0 < a) (fun b => b = a) k b → ¬ D b a
def dCl (E : Nat → Nat → Bool) (D D0 : Nat → Nat → Prop) : Prop := ∀ a b c, b ≠ 0 → rch E c → E c b = true → D b a → a = b ∨ D0 c a
theorem dUp_0 {D : Nat → Nat → Prop} (h0 : ∀ a, D 0 a → a = 0) : dUp E D 0 := fun a b h q => by
  obtain ⟨rfl, h⟩ := h
  have := h0 a q
  omega
theorem dUp_s {D D0 : Nat → Nat → Prop} {k : Nat} (h0 : ∀ a, D 0 a → a = 0) (hs : ∀ a b, D b a → D0 b a) (hc : dCl E D D0) (h : dUp E D0 k) : dUp E D (k + 1) := fun a b hk q => by
  rcases hk with hk | ⟨c, hk, e, hne⟩
  · exact h a b hk (hs a b q)
  · by_cases hb : b = 0
    · subst hb
      exact hne (h0 a q).symm
    · rcases hc a b c hb (rav_rch ⟨k, hk⟩) e q with z | z
      · exact hne z.symm
      · exact h a c hk z
theorem dUp_fin (hg : gOk n E) {D : Nat → Nat → Prop} {k : Nat} (hk : n ≤ k) (h : dUp E D k) : ∀ a b, D b a → ¬ rav E a b := fun a b q z => by
  have h1 := rc_short (n := n) (fun b hb => by rw [hb.1]; exact hg.1) (fun a b e => (hg.2.2 a b e).2) z
  exact h a b (rk_mono hk h1) q
theorem dCl_fin {D : Nat → Nat → Prop} (h0 : ∀ a, D 0 a → a = 0) (hc : dCl E D D) : ∀ a b, D b a → ¬ rav E a b := fun a b q z =>
  rc_ind (P := fun b => ¬ D b a) (fun b hb q => by
    rw [hb.1] at q
    have := h0 a q
    omega) (fun x y hx ih e hne q => by
    by_cases hy : y = 0
    · subst hy
      exact hne (h0 a q).symm
    · rcases hc a y x hy (rav_rch hx) e q with w | w
      · exact hne w.symm
      · exact ih w) z q
/-! loops -/
def hdd (E : Nat → Nat → Bool) (h : Nat) : Prop := ∃ b, dmn E h b ∧ E b h = true
def lbk (E : Nat → Nat → Bool) (h : Nat) : Nat → Prop := rc (eR E) (fun b => b ≠ h ∧ dmn E h b ∧ E b h = true) (fun b => b = h)
def inl (E : Nat → Nat → Bool) (h x : Nat) : Prop := x = h ∨ (rch E x ∧ lbk E h x)
noncomputable def dep (n : Nat) (E : Nat → Nat → Bool) (x : Nat) : Nat := cnP (fun h => hdd E h ∧ inl E h x) n
theorem hdd_rch {h : Nat} (q : hdd E h) : rch E h := by
  obtain ⟨b, hb, _⟩ := q
  exact dmn_rch hb
theorem lbk_ne {h x : Nat} (q : lbk E h x) : x ≠ h := rc_ind (P := fun x => x ≠ h) (fun b hb => hb.1) (fun a b _ _ _ z => z) q
/-- a set of reached blocks that has the latches and is closed backwards (but for h) has all the loop's -/
theorem lbk_all {h : Nat} {C : Nat → Prop} (h0 : ∀ b, dmn E h b → E b h = true → C b) (hs : ∀ b c, C b → b ≠ h → rch E c → E c b = true → C c) {x : Nat} (hx : rch E x) (q : lbk E h x) : C x :=
  rc_ind (P := fun x => rch E x → C x) (fun b hb _ => h0 b hb.2.1 hb.2.2) (fun y c hy ih e hne hc => hs y c (ih (rch_s hc e)) (lbk_ne hy) hc e) q hx
end DM
end
section
/-! what the class's state is -/
def xE (n : Nat) (E : Nat → Nat → Bool) (T S : Nat → Int64) : Prop := gOk n E ∧ (∀ a b, a < 200 → b < 256 → bj T a b = E a b) ∧ (∀ a b, b < 200 → a < 256 → bj S b a = E a b)
def xR (n : Nat) (E : Nat → Nat → Bool) (Re O : Nat → Nat) (os : Nat) : Prop :=
  (∀ b, b < n → Re b < 2 ∧ (Re b = 1 ↔ rch E b)) ∧ os < n ∧ cnP (rch E) n = n - os ∧ O os = 0 ∧
  (∀ i, os ≤ i → i < n → rch E (O i)) ∧ (∀ i j, os ≤ i → i < n → os ≤ j → j < n → O i = O j → i = j) ∧ (∀ b, rch E b → ∃ i, os ≤ i ∧ i < n ∧ O i = b)
def xD (E : Nat → Nat → Bool) (D : Nat → Int64) : Prop := ∀ b a, b < 200 → a < 256 → (bj D b a = true ↔ dmn E a b)
def xH (n : Nat) (E : Nat → Nat → Bool) (P : Nat → Nat) : Prop := ∀ b, b < n → P b = dep n E b
def xI (n : Nat) (E : Nat → Nat → Bool) (T S D : Nat → Int64) (Re O P : Nat → Nat) (bl os kn : Nat) : Prop :=
  xE n E T S ∧ bl = n ∧ kn ≤ 3 ∧ (1 ≤ kn → xR n E Re O os) ∧ (2 ≤ kn → xD E D) ∧ (3 ≤ kn → xH n E P)
abbrev xIu (n : Nat) (E : Nat → Nat → Bool) (u : XS) : Prop := xI n E u.1 u.2.1 u.2.2.1 u.2.2.2.1 u.2.2.2.2.1 u.2.2.2.2.2.2.2.2.1 u.2.2.2.2.2.2.2.2.2.1 u.2.2.2.2.2.2.2.2.2.2.1 u.2.2.2.2.2.2.2.2.2.2.2
/-- an answer yes or no -/
def yn (P : Prop) (r : Int32) : Prop := (P ∧ r = nI 1) ∨ (¬ P ∧ r = nI 0)
theorem yn_un {P : Prop} {r1 r2 : Int32} (h1 : yn P r1) (h2 : yn P r2) : r1 = r2 := by
  rcases h1 with ⟨p1, e1⟩ | ⟨p1, e1⟩ <;> rcases h2 with ⟨p2, e2⟩ | ⟨p2, e2⟩
  · rw [e1, e2]
  · exact absurd p1 p2
  · exact absurd p2 p1
  · rw [e1, e2]
theorem yn_nar {P : Prop} {r : Int32} (h : yn P r) : narrow .boolean (.int r) = .int r := by
  rcases h with ⟨_, e⟩ | ⟨_, e⟩ <;> rw [e] <;> exact nar_z (by omega)
def isB (n : Nat) (x : Int32) (j : Nat) : Prop := j < n ∧ x = nI j
theorem isB_un {n : Nat} {x : Int32} {i j : Nat} (hn : n ≤ 200) (h1 : isB n x i) (h2 : isB n x j) : i = j := by
  have := h1.2.symm.trans h2.2
  exact (nI_eq (by have := h1.1; omega) (by have := h2.1; omega)).mp this
def szP (n : Nat) (E : Nat → Nat → Bool) (x r : Int32) (I : Nat → (Nat → Nat → Bool) → Prop) : Prop := (∃ k, 1 ≤ k ∧ k ≤ 200 ∧ x = nI k ∧ r = nI 1 ∧ I k (fun _ _ => false)) ∨ ((∀ k, 1 ≤ k → k ≤ 200 → x ≠ nI k) ∧ r = nI 0 ∧ I n E)
def upE (E : Nat → Nat → Bool) (a b : Nat) (v : Bool) : Nat → Nat → Bool := fun i j => if i = a ∧ j = b then v else E i j
def edP (n : Nat) (E : Nat → Nat → Bool) (x y : Int32) (i : Nat) (a b : Nat) : Prop := isB n x a ∧ isB n y b ∧ E a b ≠ decide (i = 1)
def egP (n : Nat) (E : Nat → Nat → Bool) (x y : Int32) (i : Nat) (r : Int32) (I : (Nat → Nat → Bool) → Prop) : Prop := (∃ a b, edP n E x y i a b ∧ r = nI 1 ∧ I (upE E a b (decide (i = 1)))) ∨ ((∀ a b, ¬ edP n E x y i a b) ∧ r = nI 0 ∧ I E)
def idP (n : Nat) (E : Nat → Nat → Bool) (x r : Int32) : Prop := (∃ b, isB n x b ∧ isId n E b r) ∨ ((∀ b, ¬ isB n x b) ∧ r = -1)
def dpP (n : Nat) (E : Nat → Nat → Bool) (x r : Int32) : Prop := (∃ b, isB n x b ∧ r = nI (dep n E b)) ∨ ((∀ b, ¬ isB n x b) ∧ r = -1)
theorem gOk_up {n : Nat} {E : Nat → Nat → Bool} {a b : Nat} {v : Bool} (hg : gOk n E) (ha : a < n) (hb : b < n) : gOk n (upE E a b v) := by
  refine ⟨hg.1, hg.2.1, fun i j h => ?_⟩
  by_cases q : i = a ∧ j = b
  · rw [q.1, q.2]; exact ⟨ha, hb⟩
  · unfold upE at h
    rw [if_neg q] at h
    exact hg.2.2 i j h
theorem xE_lt {n : Nat} {E : Nat → Nat → Bool} {T S : Nat → Int64} (h : xE n E T S) : n ≤ 200 := h.1.2.1
/-- the next target or source, read off a set -/
theorem next_lt {g : Nat → Bool} {b x n : Nat} (hn : n ≤ 200) (h : isNext g b x) (hx : x < n) : b ≤ x ∧ g x = true ∧ ∀ j, b ≤ j → j < x → g j = false := by
  rcases h with h | h
  · exact ⟨h.1, h.2.2.1, h.2.2.2⟩
  · omega
theorem next_ge {g : Nat → Bool} {b x n : Nat} (h : isNext g b x) (hx : n ≤ x) : ∀ j, b ≤ j → j < n → j < 256 → g j = false := by
  intro j h1 h2 h3
  rcases h with h | h
  · exact h.2.2.2 j h1 (by omega)
  · exact h.2 j h1 h3
theorem next_b {g : Nat → Bool} {b x : Nat} (h : isNext g b x) : x < 256 := by
  rcases h with h | h
  · exact h.2.1
  · omega
/-! the walk in depth -/
def rI (n : Nat) (E : Nat → Nat → Bool) (Re O N Wt : Nat → Nat) (os top step : Nat) : Prop :=
  (os ≤ n ∧ step + 1 = top + 2 * (n - os) ∧ cnP (fun b => Re b = 1) n = top + (n - os)) ∧
  (∀ b, b < n → Re b < 2 ∧ N b ≤ n ∧ (Re b = 0 → N b = 0)) ∧ (∀ b, b < n → Re b = 1 → rch E b) ∧
  (∀ k, k < top → Wt k < n ∧ Re (Wt k) = 1) ∧ (∀ i, os ≤ i → i < n → O i < n ∧ Re (O i) = 1) ∧
  (∀ b, b < n → Re b = 1 → (∃ k, k < top ∧ Wt k = b) ∨ ∃ i, os ≤ i ∧ i < n ∧ O i = b) ∧
  (∀ k j, k < top → j < top → Wt k = Wt j → k = j) ∧ (∀ i j, os ≤ i → i < n → os ≤ j → j < n → O i = O j → i = j) ∧ (∀ k i, k < top → os ≤ i → i < n → Wt k ≠ O i) ∧
  (∀ b t, b < n → Re b = 1 → t < N b → E b t = true → Re t = 1) ∧ (∀ i t, os ≤ i → i < n → E (O i) t = true → Re t = 1) ∧
  (0 < top → Wt 0 = 0) ∧ (top = 0 → os < n ∧ O os = 0) ∧ Re 0 = 1
/-- what takeUnreachedTarget found -/
def tkA (n : Nat) (E : Nat → Nat → Bool) (Re N N2 : Nat → Nat) (a x : Nat) : Prop := x < n ∧ E a x = true ∧ Re x = 0 ∧ N2 = upN N a (x + 1) ∧ ∀ t, N a ≤ t → t < x → E a t = true → Re t ≠ 0
def tkB (n : Nat) (E : Nat → Nat → Bool) (Re N N2 : Nat → Nat) (a : Nat) : Prop := N2 = upN N a n ∧ ∀ t, N a ≤ t → E a t = true → Re t ≠ 0
theorem rI_init {n : Nat} {E : Nat → Nat → Bool} {Re O N Wt : Nat → Nat} (hn : 0 < n) (hRe : ∀ b, b < n → Re b = 0) (hN : ∀ b, b < n → N b = 0) : rI n E (upN Re 0 1) O N (upN Wt 0 0) n 1 0 := by
  have h1 : ∀ b, b < n → (upN Re 0 1 b = 1 ↔ b = 0) := fun b hb => by
    by_cases h : b = 0
    · rw [h, upN_s]; simp
    · rw [upN_n h, hRe b hb]; simp [h]
  refine ⟨⟨Nat.le_refl _, by omega, ?_⟩, fun b hb => ?_, fun b hb h => ?_, fun k hk => ?_, fun i h1 h2 => by omega, fun b hb h => ?_, fun k j hk hj _ => by omega, fun i j h1 h2 => by omega, fun k i _ h1 h2 => by omega, fun b t hb _ ht => ?_, fun i t h1 h2 => by omega, fun _ => upN_s, fun h => by omega, upN_s⟩
  · have h2 : cnP (fun b => upN Re 0 1 b = 1) n = cnP (fun _ => False) n + 1 := cnP_add (a := 0) (fun k hk => by rw [h1 k hk]; simp) hn (fun q => q)
    have h3 : cnP (fun _ => False) n = 0 := by
      have := cnP_ext (P := fun _ => False) (n := 0) (m := n) (by omega) (fun _ _ _ q => q)
      rw [this]; rfl
    omega
  · refine ⟨?_, by rw [hN b hb]; omega, fun _ => hN b hb⟩
    by_cases h : b = 0
    · rw [h, upN_s]; omega
    · rw [upN_n h, hRe b hb]; omega
  · rw [(h1 b hb).mp h]; exact rch_0
  · obtain rfl : k = 0 := by omega
    rw [upN_s]
    exact ⟨hn, upN_s⟩
  · exact Or.inl ⟨0, by omega, by rw [upN_s]; exact ((h1 b hb).mp h).symm⟩
  · rw [hN b hb] at ht; omega
theorem rI_push {n : Nat} {E : Nat → Nat → Bool} {Re O N N2 Wt : Nat → Nat} {os top step x : Nat} (hg : gOk n E) (h : rI n E Re O N Wt os top step) (ht : 0 < top) (hx : tkA n E Re N N2 (Wt (top - 1)) x) : top < n ∧ rI n E (upN Re x 1) O N2 (upN Wt top x) os (top + 1) (step + 1) := by
  obtain ⟨⟨a1, a2, a3⟩, b1, b2, c1, c2, c3, d1, d2, d3, e1, e2, f1, f2, f3⟩ := h
  obtain ⟨x1, x2, x3, rfl, x5⟩ := hx
  obtain ⟨w1, w2⟩ := c1 (top - 1) (by omega)
  have hm : ∀ b, Re b = 1 → upN Re x 1 b = 1 := fun b hb => by
    by_cases h : b = x
    · rw [h, upN_s]
    · rw [upN_n h]; exact hb
  have hcn : cnP (fun b => upN Re x 1 b = 1) n = cnP (fun b => Re b = 1) n + 1 := cnP_add (a := x) (fun k hk => by
    by_cases h : k = x
    · rw [h, upN_s]; simp
    · rw [upN_n h]; simp [h]) x1 (by omega)
  have hle := cnP_le (P := fun b => upN Re x 1 b = 1) n
  have hxs : ∀ k, k < top → Wt k ≠ x := fun k hk q => by have := (c1 k hk).2; rw [q] at this; omega
  have hxo : ∀ i, os ≤ i → i < n → O i ≠ x := fun i h1 h2 q => by have := (c2 i h1 h2).2; rw [q] at this; omega
  refine ⟨by omega, ⟨a1, by omega, by omega⟩, fun b hb => ⟨?_, ?_, fun h => ?_⟩, fun b hb h => ?_, fun k hk => ?_, fun i h1 h2 => ⟨(c2 i h1 h2).1, hm _ (c2 i h1 h2).2⟩, fun b hb h => ?_, fun k j hk hj hkj => ?_, d2, fun k i hk h1 h2 => ?_, fun b t hb hb1 ht2 he => ?_, fun i t h1 h2 he => hm t (e2 i t h1 h2 he), fun _ => ?_, fun h => by omega, hm 0 f3⟩
  · by_cases h : b = x
    · rw [h, upN_s]; omega
    · rw [upN_n h]; exact (b1 b hb).1
  · by_cases h : b = Wt (top - 1)
    · rw [h, upN_s]; omega
    · rw [upN_n h]; exact (b1 b hb).2.1
  · by_cases hbx : b = x
    · rw [hbx, upN_s] at h; omega
    · rw [upN_n hbx] at h
      rw [upN_n (fun q => by rw [q] at h; omega)]
      exact (b1 b hb).2.2 h
  · by_cases hbx : b = x
    · rw [hbx]; exact rch_s (b2 _ w1 w2) x2
    · rw [upN_n hbx] at h; exact b2 b hb h
  · by_cases hk2 : k = top
    · rw [hk2, upN_s, upN_s]; exact ⟨x1, rfl⟩
    · rw [upN_n hk2]; exact ⟨(c1 k (by omega)).1, hm _ (c1 k (by omega)).2⟩
  · by_cases hbx : b = x
    · exact Or.inl ⟨top, by omega, by rw [upN_s, hbx]⟩
    · rw [upN_n hbx] at h
      rcases c3 b hb h with ⟨k, k1, k2⟩ | q
      · exact Or.inl ⟨k, by omega, by rw [upN_n (by omega)]; exact k2⟩
      · exact Or.inr q
  · by_cases hk2 : k = top
    · by_cases hj2 : j = top
      · omega
      · rw [hk2, upN_s, upN_n hj2] at hkj
        exact absurd hkj.symm (hxs j (by omega))
    · by_cases hj2 : j = top
      · rw [hj2, upN_s, upN_n hk2] at hkj
        exact absurd hkj (hxs k (by omega))
      · rw [upN_n hk2, upN_n hj2] at hkj
        exact d1 k j (by omega) (by omega) hkj
  · by_cases hk2 : k = top
    · rw [hk2, upN_s]; exact fun q => hxo i h1 h2 q.symm
    · rw [upN_n hk2]; exact d3 k i (by omega) h1 h2
  · by_cases hba : b = Wt (top - 1)
    · subst hba
      rw [upN_s] at ht2
      by_cases hN : t < N (Wt (top - 1))
      · exact hm t (e1 _ t w1 w2 hN he)
      · by_cases htx : t = x
        · rw [htx, upN_s]
        · have h5 := x5 t (by omega) (by omega) he
          have h6 := (b1 t (hg.2.2 _ _ he).2).1
          exact hm t (by omega)
    · rw [upN_n hba] at ht2
      by_cases hbx : b = x
      · subst hbx
        rw [(b1 b hb).2.2 x3] at ht2
        omega
      · rw [upN_n hbx] at hb1
        exact hm t (e1 b t hb hb1 ht2 he)
  · rw [upN_n (by omega)]; exact f1 ht
theorem rI_pop {n : Nat} {E : Nat → Nat → Bool} {Re O N N2 Wt : Nat → Nat} {os top step : Nat} (hg : gOk n E) (h : rI n E Re O N Wt os top step) (ht : 0 < top) (hx : tkB n E Re N N2 (Wt (top - 1))) : 0 < os ∧ rI n E Re (upN O (os - 1) (Wt (top - 1))) N2 Wt (os - 1) (top - 1) (step + 1) := by
  obtain ⟨⟨a1, a2, a3⟩, b1, b2, c1, c2, c3, d1, d2, d3, e1, e2, f1, f2, f3⟩ := h
  obtain ⟨rfl, x5⟩ := hx
  obtain ⟨w1, w2⟩ := c1 (top - 1) (by omega)
  have hle := cnP_le (P := fun b => Re b = 1) n
  have hos : 0 < os := by omega
  have hall : ∀ t, E (Wt (top - 1)) t = true → Re t = 1 := fun t he => by
    by_cases hN : t < N (Wt (top - 1))
    · exact e1 _ t w1 w2 hN he
    · have h5 := x5 t (by omega) he
      have h6 := (b1 t (hg.2.2 _ _ he).2).1
      omega
  refine ⟨hos, ⟨by omega, by omega, by omega⟩, fun b hb => ⟨(b1 b hb).1, ?_, fun h => ?_⟩, b2, fun k hk => c1 k (by omega), fun i h1 h2 => ?_, fun b hb h => ?_, fun k j hk hj hkj => d1 k j (by omega) (by omega) hkj, fun i j h1 h2 h3 h4 hij => ?_, fun k i hk h1 h2 => ?_, fun b t hb hb1 ht2 he => ?_, fun i t h1 h2 he => ?_, fun h => f1 (by omega), fun h => ⟨by omega, ?_⟩, f3⟩
  · by_cases h : b = Wt (top - 1)
    · rw [h, upN_s]; omega
    · rw [upN_n h]; exact (b1 b hb).2.1
  · rw [upN_n (fun q => by rw [q] at h; omega)]
    exact (b1 b hb).2.2 h
  · by_cases h : i = os - 1
    · rw [h, upN_s]; exact ⟨w1, w2⟩
    · rw [upN_n h]; exact c2 i (by omega) h2
  · rcases c3 b hb h with ⟨k, k1, k2⟩ | ⟨i, i1, i2, i3⟩
    · by_cases hk : k = top - 1
      · exact Or.inr ⟨os - 1, by omega, by omega, by rw [upN_s, ← hk]; exact k2⟩
      · exact Or.inl ⟨k, by omega, k2⟩
    · exact Or.inr ⟨i, by omega, i2, by rw [upN_n (by omega)]; exact i3⟩
  · by_cases hi : i = os - 1
    · by_cases hj : j = os - 1
      · omega
      · rw [hi, upN_s, upN_n hj] at hij
        exact absurd hij (d3 (top - 1) j (by omega) (by omega) h4)
    · by_cases hj : j = os - 1
      · rw [hj, upN_s, upN_n hi] at hij
        exact absurd hij.symm (d3 (top - 1) i (by omega) (by omega) h2)
      · rw [upN_n hi, upN_n hj] at hij
        exact d2 i j (by omega) h2 (by omega) h4 hij
  · by_cases hi : i = os - 1
    · rw [hi, upN_s]
      intro q
      have := d1 k (top - 1) (by omega) (by omega) q
      omega
    · rw [upN_n hi]; exact d3 k i (by omega) (by omega) h2
  · by_cases hba : b = Wt (top - 1)
    · subst hba; exact hall t he
    · rw [upN_n hba] at ht2
      exact e1 b t hb hb1 ht2 he
  · by_cases hi : i = os - 1
    · rw [hi, upN_s] at he; exact hall t he
    · rw [upN_n hi] at he; exact e2 i t (by omega) h2 he
  · rw [upN_s]
    obtain rfl : top = 1 := by omega
    exact f1 (by omega)
theorem rI_end {n : Nat} {E : Nat → Nat → Bool} {Re O N Wt : Nat → Nat} {os step : Nat} (hg : gOk n E) (h : rI n E Re O N Wt os 0 step) : xR n E Re O os := by
  obtain ⟨⟨a1, a2, a3⟩, b1, b2, c1, c2, c3, d1, d2, d3, e1, e2, f1, f2, f3⟩ := h
  obtain ⟨g1, g2⟩ := f2 rfl
  have hr : ∀ b, rch E b → Re b = 1 := fun b hb => rc_ind (P := fun b => Re b = 1) (fun b hb => by rw [hb]; exact f3) (fun a b ha ih e _ => by
    rcases c3 a (rch_lt hg ha) ih with ⟨k, k1, _⟩ | ⟨i, i1, i2, i3⟩
    · omega
    · exact e2 i b i1 i2 (by rw [i3]; exact e)) hb
  have hiff : ∀ b, b < n → (Re b = 1 ↔ rch E b) := fun b hb => ⟨b2 b hb, hr b⟩
  refine ⟨fun b hb => ⟨(b1 b hb).1, hiff b hb⟩, g1, ?_, g2, fun i h1 h2 => b2 _ (c2 i h1 h2).1 (c2 i h1 h2).2, d2, fun b hb => ?_⟩
  · rw [← cnP_congr hiff]; omega
  · rcases c3 b (rch_lt hg hb) (hr b hb) with ⟨k, k1, _⟩ | q
    · omega
    · exact q
theorem rI_top {n : Nat} {E : Nat → Nat → Bool} {Re O N Wt : Nat → Nat} {os top step : Nat} (h : rI n E Re O N Wt os top step) : top ≤ n ∧ os ≤ n ∧ (0 < top → step < 2 * n ∧ 0 < os ∧ step + 1 ≤ 2 * n) ∧ step + 1 ≤ 2 * n + top ∧ step ≤ 2 * n := by
  obtain ⟨⟨a1, a2, a3⟩, -⟩ := h
  have hle := cnP_le (P := fun b => Re b = 1) n
  refine ⟨by omega, a1, fun h => ⟨by omega, by omega, by omega⟩, by omega, by omega⟩
end
section
section GCG
variable {p : Program} {l : Launch} {e : Env} {R : Room} {s : State} {m : MethodId} {args : Array Value} {below : List Frame} {meth : Method} {c : Code} {G : va_G} {A : Nat → Prop} {nL cells slots : Nat} {Q : State → Prop}
variable {cc : ByteArray} {Ts : List Cond} {own : String} {lv : List (Nat × Value)} {pc index : Nat} {st st0 : List Value} {cI cJ cZ : ClassId}

theorem gx_cg_i {ad : Nat → Nat} {T S D : Nat → Int64} {Re O N Wt : Nat → Nat} {L : Nat → Int32} {P : Nat → Nat} {bl os kn : Nat} {y : MethodName} {wy : List Cond} {bytes : ByteArray} {maxL n : Nat} {ret : Option FieldType} {rm : Room} {As : List Value} {σ : Type} {post : Int32 → σ → Prop} {wR : σ → va_W} (C : gC p s m args c cc nL Ts own G (ty3 cI cJ cZ) A) (hM : ctI l y wy rm G (ty3 cI cJ cZ) (.ref (ad 0) :: As) (wX ad cI cJ cZ T S D Re O N Wt L P bl os kn) post wR) (cw : CallW R s args own RX1 index y bytes maxL ret wy rm 0 0 n) (hlen : As.length = n) (hst : st0 = As.reverse ++ .ref (ad 0) :: st) (hroom : (st.map fun v => v.category).sum ≤ 8) (hd : decode cc pc = .ok (.invokevirtual index, 3)) (hcap : cells ≤ R.cells ∧ slots ≤ R.slots) (k : ∀ (r : Int32) (u : σ), post r u → gG p l e R s m args below meth c G A nL cells slots Q (wR u) (lv) (pc + 3) (.int r :: st)) : gG p l e R s m args below meth c G A nL cells slots Q (wX ad cI cJ cZ T S D Re O N Wt L P bl os kn) (lv) (pc) (st0) := ga_callVi (wr := []) C hM cw [0, 1, 2, 3, 4, 5, 6, 7, 8, 9, 10, 11, 12] [] rfl rfl rfl rfl (by decide) 0 rfl rfl rfl hlen hst hroom hd hcap (fun r u hp => k r u hp)
theorem gx_cg_v {ad : Nat → Nat} {T S D : Nat → Int64} {Re O N Wt : Nat → Nat} {L : Nat → Int32} {P : Nat → Nat} {bl os kn : Nat} {y : MethodName} {wy : List Cond} {bytes : ByteArray} {maxL n : Nat} {ret : Option FieldType} {rm : Room} {As : List Value} {σ : Type} {post : σ → Prop} {wR : σ → va_W} (C : gC p s m args c cc nL Ts own G (ty3 cI cJ cZ) A) (hM : ctV l y wy rm G (ty3 cI cJ cZ) (.ref (ad 0) :: As) (wX ad cI cJ cZ T S D Re O N Wt L P bl os kn) post wR) (cw : CallW R s args own RX1 index y bytes maxL ret wy rm 0 0 n) (hlen : As.length = n) (hst : st0 = As.reverse ++ .ref (ad 0) :: st) (hroom : (st.map fun v => v.category).sum ≤ 8) (hd : decode cc pc = .ok (.invokevirtual index, 3)) (hcap : cells ≤ R.cells ∧ slots ≤ R.slots) (k : ∀ u : σ, post u → gG p l e R s m args below meth c G A nL cells slots Q (wR u) (lv) (pc + 3) (st)) : gG p l e R s m args below meth c G A nL cells slots Q (wX ad cI cJ cZ T S D Re O N Wt L P bl os kn) (lv) (pc) (st0) := ga_callVv (wr := []) C hM cw [0, 1, 2, 3, 4, 5, 6, 7, 8, 9, 10, 11, 12] [] rfl rfl rfl rfl (by decide) 0 rfl rfl rfl hlen hst hroom hd hcap (fun u hp => k u hp)
end GCG
theorem xI_0 {n : Nat} {E : Nat → Nat → Bool} {T S D : Nat → Int64} {Re O P : Nat → Nat} {os : Nat} (h : xE n E T S) : xI n E T S D Re O P n os 0 := ⟨h, rfl, by decide, fun q => absurd q (by decide), fun q => absurd q (by decide), fun q => absurd q (by decide)⟩
theorem xI_1 {n : Nat} {E : Nat → Nat → Bool} {T S D : Nat → Int64} {Re O P : Nat → Nat} {os : Nat} (h : xE n E T S) (h1 : xR n E Re O os) : xI n E T S D Re O P n os 1 := ⟨h, rfl, by decide, fun _ => h1, fun q => absurd q (by decide), fun q => absurd q (by decide)⟩
theorem xI_2 {n : Nat} {E : Nat → Nat → Bool} {T S D : Nat → Int64} {Re O P : Nat → Nat} {os : Nat} (h : xE n E T S) (h1 : xR n E Re O os) (h2 : xD E D) : xI n E T S D Re O P n os 2 := ⟨h, rfl, by decide, fun _ => h1, fun _ => h2, fun q => absurd q (by decide)⟩
theorem xI_3 {n : Nat} {E : Nat → Nat → Bool} {T S D : Nat → Int64} {Re O P : Nat → Nat} {os : Nat} (h : xE n E T S) (h1 : xR n E Re O os) (h2 : xD E D) (h3 : xH n E P) : xI n E T S D Re O P n os 3 := ⟨h, rfl, by decide, fun _ => h1, fun _ => h2, fun _ => h3⟩
theorem i32_neg {x : Int32} (h : ¬ x < nI 1) : ¬ x < 0 := fun q => h (by
  rw [Int32.lt_iff_toInt_lt] at q ⊢
  have h1 : (nI 1).toInt = 1 := by decide
  have h0 : (0 : Int32).toInt = 0 := by decide
  omega)
theorem i32_sz {x : Int32} (h1 : ¬ x < nI 1) (h2 : x ≤ nI 200) : ∃ k, 1 ≤ k ∧ k ≤ 200 ∧ x = nI k := by
  obtain ⟨k, hk, rfl⟩ := nI_of2 (M := nI 200) (n := 200) (by decide) (i32_neg h1) h2
  refine ⟨k, ?_, hk, rfl⟩
  apply Nat.lt_of_not_le
  intro q
  obtain rfl : k = 0 := by omega
  exact h1 (by decide)
theorem bto (b : Bool) {i : Nat} (hi : i < 2) : b.toNat = i ↔ b = decide (i = 1) := by
  rcases (show i = 0 ∨ i = 1 by omega) with rfl | rfl <;> cases b <;> simp
theorem btl (b : Bool) : b.toNat < 2 := by cases b <;> decide

set_option maxHeartbeats 4000000 in
set_option maxRecDepth 100000 in
/-- isBlock -/
theorem c_xB (l : Launch) (G : va_G) (cI cJ cZ : ClassId) (ad : Nat → Nat) (T S D : Nat → Int64) (Re O N Wt : Nat → Nat) (L : Nat → Int32) (P : Nat → Nat) (bl os kn : Nat) (x : Int32) (hbl : bl ≤ 200) : ctI l yX1_isBlock wsX1_isBlock { frames := 0, cells := 0, slots := 0, locals := 0 } G (ty3 cI cJ cZ) [.ref (ad 0), .int x] (wX ad cI cJ cZ T S D Re O N Wt L P bl os kn) (fun r (_ : Unit) => yn (∃ j, isB bl x j) r) (fun _ => wX ad cI cJ cZ T S D Re O N Wt L P bl os kn) := by
  refine metI (cc := cX1_isBlock) (maxL := 2) (ret := (some .boolean)) (by decide) rfl (Nat.le_of_ble_eq_true rfl) ?_
  intro p e s m below meth c C hr hlk
  refine ga_lv (lv9 := [(0, .ref (ad 0)), (1, .int x)]) ⟨rfl, rfl, trivial⟩ ?_
  refine ga_iload_n 1 C dX1_isBlock_0 rfl rfl ?_
  refine ga_if_lt 16 C dX1_isBlock_1 (by decide) (fun h9 => ?_) (fun h9 => ?_)
  · skip
    refine ga_iconst (v := nI 0) C dX1_isBlock_16 (by decide) ?_
    refine ga_iret C hr (nar_z (by omega)) hlk dX1_isBlock_17 () (Or.inr ⟨?_, rfl⟩) rfl
    rintro ⟨j, hj, rfl⟩
    exact nI_pos (by omega) h9
  · skip
    refine ga_iload_n 1 C dX1_isBlock_4 rfl rfl ?_
    refine ga_aload_n 0 C dX1_isBlock_5 rfl rfl ?_
    refine gx_get_bl C in_X1_isBlock (by decide +kernel) dX1_isBlock_6 ?_
    refine ga_icmp_ge 16 C dX1_isBlock_9 (by decide) (fun h8 => ?_) (fun h8 => ?_)
    · skip
      refine ga_iconst (v := nI 0) C dX1_isBlock_16 (by decide) ?_
      refine ga_iret C hr (nar_z (by omega)) hlk dX1_isBlock_17 () (Or.inr ⟨?_, rfl⟩) rfl
      rintro ⟨j, hj, rfl⟩
      exact nI_ge hj (by omega) h8
    · skip
      refine ga_iconst (v := nI 1) C dX1_isBlock_12 (by decide) ?_
      refine ga_goto 17 C dX1_isBlock_13 (by decide) ?_
      obtain ⟨j, hj, ej, -⟩ := pk_mu h9 h8 (by omega)
      exact ga_iret C hr (nar_z (by omega)) hlk dX1_isBlock_17 () (Or.inl ⟨⟨j, hj, ej⟩, rfl⟩) rfl
set_option maxHeartbeats 4000000 in
set_option maxRecDepth 100000 in
/-- size -/
theorem c_xsize (l : Launch) (G : va_G) (cI cJ cZ : ClassId) (ad : Nat → Nat) (T S D : Nat → Int64) (Re O N Wt : Nat → Nat) (L : Nat → Int32) (P : Nat → Nat) (bl os kn : Nat) (n : Nat) (E : Nat → Nat → Bool) (x : Int32) (hI : xI n E T S D Re O P bl os kn) : ctI l yX1_size wsX1_size { frames := 2, cells := 0, slots := 0, locals := 44 } G (ty3 cI cJ cZ) [.ref (ad 0), .int x] (wX ad cI cJ cZ T S D Re O N Wt L P bl os kn) (fun r (u : XS) => szP n E x r (fun k F => xIu k F u)) (wXu ad cI cJ cZ) := by
  refine metI (cc := cX1_size) (maxL := 2) (ret := (some .boolean)) (by decide) rfl (Nat.le_of_ble_eq_true rfl) ?_
  intro p e s m below meth c C hr hlk
  refine ga_lv (lv9 := [(0, .ref (ad 0)), (1, .int x)]) ⟨rfl, rfl, trivial⟩ ?_
  refine ga_iload_n 1 C dX1_size_0 rfl rfl ?_
  refine ga_iconst (v := nI 1) C dX1_size_1 (by decide) ?_
  refine ga_icmp_lt 12 C dX1_size_2 (by decide) (fun h9 => ?_) (fun h9 => ?_)
  · skip
    refine ga_iconst (v := nI 0) C dX1_size_12 (by decide) ?_
    refine ga_iret C hr (nar_z (by omega)) hlk dX1_size_13 (T, S, D, Re, O, N, Wt, L, P, bl, os, kn) (Or.inr ⟨fun k h1 h2 q => ?_, rfl, hI⟩) rfl
    rw [q] at h9
    exact nI_nlt h1 (by omega) h9
  · skip
    refine ga_iload_n 1 C dX1_size_5 rfl rfl ?_
    refine ga_sipush (v := nI 200) C dX1_size_6 (by decide) ?_
    refine ga_icmp_le 14 C dX1_size_9 (by decide) (fun h8 => ?_) (fun h8 => ?_)
    · obtain ⟨k, hk1, hk2, rfl⟩ := i32_sz h9 h8
      refine ga_aload_n 0 C dX1_size_14 rfl rfl ?_
      refine ga_iload_n 1 C dX1_size_15 rfl rfl ?_
      refine gx_put_bl C in_X1_size (by decide +kernel) dX1_size_16 ?_
      refine ga_aload_n 0 C dX1_size_19 rfl rfl ?_
      refine gx_get_T C in_X1_size (by decide +kernel) dX1_size_20 ?_
      refine gx_cv_T C (c_clear l G cI cJ cZ (ad 1) (ad 4) T) (cwV 0 C.1.2.2.2.2 gX1_size_X0_clear rfl rfl rfl (by decide +kernel) ⟨Nat.le_of_ble_eq_true rfl, Nat.le_of_ble_eq_true rfl⟩) rfl rfl (Nat.le_of_ble_eq_true rfl) dX1_size_23 ⟨Nat.zero_le _, Nat.zero_le _⟩ (fun T2 hT2 => ?_)
      refine ga_aload_n 0 C dX1_size_26 rfl rfl ?_
      refine gx_get_S C in_X1_size (by decide +kernel) dX1_size_27 ?_
      refine gx_cv_S C (c_clear l G cI cJ cZ (ad 2) (ad 5) S) (cwV 0 C.1.2.2.2.2 gX1_size_X0_clear rfl rfl rfl (by decide +kernel) ⟨Nat.le_of_ble_eq_true rfl, Nat.le_of_ble_eq_true rfl⟩) rfl rfl (Nat.le_of_ble_eq_true rfl) dX1_size_30 ⟨Nat.zero_le _, Nat.zero_le _⟩ (fun S2 hS2 => ?_)
      refine ga_aload_n 0 C dX1_size_33 rfl rfl ?_
      refine ga_iconst (v := nI 0) C dX1_size_34 (by decide) ?_
      refine gx_put_kn C in_X1_size (by decide +kernel) dX1_size_35 ?_
      refine ga_iconst (v := nI 1) C dX1_size_38 (by decide) ?_
      refine ga_iret C hr (nar_z (by omega)) hlk dX1_size_39 (T2, S2, D, Re, O, N, Wt, L, P, k, os, 0) (Or.inl ⟨k, hk1, hk2, rfl, rfl, ?_⟩) rfl
      exact xI_0 ⟨⟨hk1, hk2, fun a b q => by cases q⟩, hT2, fun a b h1 h2 => hS2 b a h1 h2⟩
    · skip
      refine ga_iconst (v := nI 0) C dX1_size_12 (by decide) ?_
      refine ga_iret C hr (nar_z (by omega)) hlk dX1_size_13 (T, S, D, Re, O, N, Wt, L, P, bl, os, kn) (Or.inr ⟨fun k h1 h2 q => ?_, rfl, hI⟩) rfl
      rw [q] at h8
      exact h8 (nI_le h2 (by omega))
set_option maxHeartbeats 4000000 in
set_option maxRecDepth 100000 in
/-- edge -/
theorem c_xedge (l : Launch) (G : va_G) (cI cJ cZ : ClassId) (ad : Nat → Nat) (T S D : Nat → Int64) (Re O N Wt : Nat → Nat) (L : Nat → Int32) (P : Nat → Nat) (bl os kn : Nat) (n : Nat) (E : Nat → Nat → Bool) (x y : Int32) (i : Nat) (hi : i < 2) (hI : xI n E T S D Re O P bl os kn) : ctI l yX1_edge wsX1_edge { frames := 2, cells := 0, slots := 0, locals := 44 } G (ty3 cI cJ cZ) [.ref (ad 0), .int x, .int y, .int (nI i)] (wX ad cI cJ cZ T S D Re O N Wt L P bl os kn) (fun r (u : XS) => egP n E x y i r (fun F => xIu n F u)) (wXu ad cI cJ cZ) := by
  refine metI (cc := cX1_edge) (maxL := 4) (ret := (some .boolean)) (by decide) rfl (Nat.le_of_ble_eq_true rfl) ?_
  intro p e s m below meth c C hr hlk
  refine ga_lv (lv9 := [(0, .ref (ad 0)), (1, .int x), (2, .int y), (3, .int (nI i))]) ⟨rfl, rfl, rfl, rfl, trivial⟩ ?_
  obtain ⟨hE, rfl, hkn, hR, hDm, hH⟩ := id hI
  have hn2 := xE_lt hE
  refine ga_aload_n 0 C dX1_edge_0 rfl rfl ?_
  refine ga_iload_n 1 C dX1_edge_1 rfl rfl ?_
  refine gx_call_r C (c_xB l G cI cJ cZ ad T S D Re O N Wt L P bl os kn x hn2) (cwV 1 C.1.2.2.2.2 gX1_edge_X1_isBlock rfl rfl rfl (by decide +kernel) ⟨Nat.le_of_ble_eq_true rfl, Nat.le_of_ble_eq_true rfl⟩) rfl rfl (Nat.le_of_ble_eq_true rfl) dX1_edge_2 ⟨Nat.zero_le _, Nat.zero_le _⟩ (fun r hx => ?_)
  rcases hx with ⟨⟨a, ha, rfl⟩, rfl⟩ | ⟨hno, rfl⟩
  rotate_left
  · skip
    refine gn_if_eq 29 C dX1_edge_5 (by decide) (by omega) (fun h9 => ?_) (fun h9 => absurd rfl h9)
    refine ga_iconst (v := nI 0) C dX1_edge_29 (by decide) ?_
    refine ga_iret C hr (nar_z (by omega)) hlk dX1_edge_30 (T, S, D, Re, O, N, Wt, L, P, bl, os, kn) (Or.inr ⟨?_, rfl, hI⟩) rfl
    exact fun a b q => hno ⟨a, q.1⟩
  refine gn_if_eq 29 C dX1_edge_5 (by decide) (by omega) (fun h9 => absurd h9 (by omega)) (fun h9 => ?_)
  refine ga_aload_n 0 C dX1_edge_8 rfl rfl ?_
  refine ga_iload_n 2 C dX1_edge_9 rfl rfl ?_
  refine gx_call_r C (c_xB l G cI cJ cZ ad T S D Re O N Wt L P bl os kn y hn2) (cwV 1 C.1.2.2.2.2 gX1_edge_X1_isBlock rfl rfl rfl (by decide +kernel) ⟨Nat.le_of_ble_eq_true rfl, Nat.le_of_ble_eq_true rfl⟩) rfl rfl (Nat.le_of_ble_eq_true rfl) dX1_edge_10 ⟨Nat.zero_le _, Nat.zero_le _⟩ (fun r hy => ?_)
  rcases hy with ⟨⟨b, hb, rfl⟩, rfl⟩ | ⟨hno, rfl⟩
  rotate_left
  · skip
    refine gn_if_eq 29 C dX1_edge_13 (by decide) (by omega) (fun h9 => ?_) (fun h9 => absurd rfl h9)
    refine ga_iconst (v := nI 0) C dX1_edge_29 (by decide) ?_
    refine ga_iret C hr (nar_z (by omega)) hlk dX1_edge_30 (T, S, D, Re, O, N, Wt, L, P, bl, os, kn) (Or.inr ⟨?_, rfl, hI⟩) rfl
    exact fun a b q => hno ⟨b, q.2.1⟩
  refine gn_if_eq 29 C dX1_edge_13 (by decide) (by omega) (fun h9 => absurd h9 (by omega)) (fun h9 => ?_)
  refine ga_aload_n 0 C dX1_edge_16 rfl rfl ?_
  refine gx_get_T C in_X1_edge (by decide +kernel) dX1_edge_17 ?_
  refine ga_iload_n 1 C dX1_edge_20 rfl rfl ?_
  refine ga_iload_n 2 C dX1_edge_21 rfl rfl ?_
  refine gx_cr_T C (c_holds l G cI cJ cZ (ad 1) (ad 4) T a b (by omega) (by omega)) (cwV 2 C.1.2.2.2.2 gX1_edge_X0_holds rfl rfl rfl (by decide +kernel) ⟨Nat.le_of_ble_eq_true rfl, Nat.le_of_ble_eq_true rfl⟩) rfl rfl (Nat.le_of_ble_eq_true rfl) dX1_edge_22 ⟨Nat.zero_le _, Nat.zero_le _⟩ (fun r hh => ?_)
  subst hh
  have hbl2 := btl (bj T a b)
  have hTe := hE.2.1 a b (by omega) (by omega)
  refine ga_iload_n 3 C dX1_edge_25 rfl rfl ?_
  refine gn_icmp_ne 31 C dX1_edge_26 (by decide) (by omega) (by omega) (fun h9 => ?_) (fun h9 => ?_)
  · skip
    refine ga_aload_n 0 C dX1_edge_31 rfl rfl ?_
    refine gx_get_T C in_X1_edge (by decide +kernel) dX1_edge_32 ?_
    refine ga_iload_n 1 C dX1_edge_35 rfl rfl ?_
    refine ga_iload_n 2 C dX1_edge_36 rfl rfl ?_
    refine ga_iload_n 3 C dX1_edge_37 rfl rfl ?_
    refine gx_cv_T C (c_put l G cI cJ cZ (ad 1) (ad 4) T a b i (by omega) (by omega) hi) (cwV 3 C.1.2.2.2.2 gX1_edge_X0_put rfl rfl rfl (by decide +kernel) ⟨Nat.le_of_ble_eq_true rfl, Nat.le_of_ble_eq_true rfl⟩) rfl rfl (Nat.le_of_ble_eq_true rfl) dX1_edge_38 ⟨Nat.zero_le _, Nat.zero_le _⟩ (fun T2 hT2 => ?_)
    refine ga_aload_n 0 C dX1_edge_41 rfl rfl ?_
    refine gx_get_S C in_X1_edge (by decide +kernel) dX1_edge_42 ?_
    refine ga_iload_n 2 C dX1_edge_45 rfl rfl ?_
    refine ga_iload_n 1 C dX1_edge_46 rfl rfl ?_
    refine ga_iload_n 3 C dX1_edge_47 rfl rfl ?_
    refine gx_cv_S C (c_put l G cI cJ cZ (ad 2) (ad 5) S b a i (by omega) (by omega) hi) (cwV 3 C.1.2.2.2.2 gX1_edge_X0_put rfl rfl rfl (by decide +kernel) ⟨Nat.le_of_ble_eq_true rfl, Nat.le_of_ble_eq_true rfl⟩) rfl rfl (Nat.le_of_ble_eq_true rfl) dX1_edge_48 ⟨Nat.zero_le _, Nat.zero_le _⟩ (fun S2 hS2 => ?_)
    refine ga_aload_n 0 C dX1_edge_51 rfl rfl ?_
    refine ga_iconst (v := nI 0) C dX1_edge_52 (by decide) ?_
    refine gx_put_kn C in_X1_edge (by decide +kernel) dX1_edge_53 ?_
    refine ga_iconst (v := nI 1) C dX1_edge_56 (by decide) ?_
    refine ga_iret C hr (nar_z (by omega)) hlk dX1_edge_57 (T2, S2, D, Re, O, N, Wt, L, P, bl, os, 0) (Or.inl ⟨a, b, ⟨⟨ha, rfl⟩, ⟨hb, rfl⟩, ?_⟩, rfl, ?_⟩) rfl
    · intro q
      rw [← hTe] at q
      exact h9 ((bto _ hi).mpr q)
    · refine xI_0 ⟨gOk_up hE.1 ha hb, fun r c h1 h2 => ?_, fun r c h1 h2 => ?_⟩
      · show bj T2 r c = _
        rw [hT2 r c h1 h2, hE.2.1 r c h1 h2]
        rfl
      · show bj S2 c r = _
        rw [hS2 c r h1 h2, hE.2.2 r c h1 h2]
        unfold upE
        by_cases q : c = b ∧ r = a
        · rw [if_pos q, if_pos ⟨q.2, q.1⟩]
        · rw [if_neg q, if_neg (fun z => q ⟨z.2, z.1⟩)]
  · skip
    refine ga_iconst (v := nI 0) C dX1_edge_29 (by decide) ?_
    refine ga_iret C hr (nar_z (by omega)) hlk dX1_edge_30 (T, S, D, Re, O, N, Wt, L, P, bl, os, kn) (Or.inr ⟨?_, rfl, hI⟩) rfl
    rintro a2 b2 ⟨q1, q2, q3⟩
    obtain rfl := isB_un hn2 q1 ⟨ha, rfl⟩
    obtain rfl := isB_un hn2 q2 ⟨hb, rfl⟩
    exact q3 (by rw [← hTe]; exact (bto _ hi).mp h9)

set_option maxHeartbeats 4000000 in
set_option maxRecDepth 100000 in
/-- has -/
theorem c_xhas (l : Launch) (G : va_G) (cI cJ cZ : ClassId) (ad : Nat → Nat) (T S D : Nat → Int64) (Re O N Wt : Nat → Nat) (L : Nat → Int32) (P : Nat → Nat) (bl os kn : Nat) (n : Nat) (E : Nat → Nat → Bool) (x y : Int32) (hI : xI n E T S D Re O P bl os kn) : ctI l yX1_has wsX1_has { frames := 2, cells := 0, slots := 0, locals := 42 } G (ty3 cI cJ cZ) [.ref (ad 0), .int x, .int y] (wX ad cI cJ cZ T S D Re O N Wt L P bl os kn) (fun r (_ : Unit) => yn (∃ a b, isB n x a ∧ isB n y b ∧ E a b = true) r) (fun _ => wX ad cI cJ cZ T S D Re O N Wt L P bl os kn) := by
  refine metI (cc := cX1_has) (maxL := 3) (ret := (some .boolean)) (by decide) rfl (Nat.le_of_ble_eq_true rfl) ?_
  intro p e s m below meth c C hr hlk
  refine ga_lv (lv9 := [(0, .ref (ad 0)), (1, .int x), (2, .int y)]) ⟨rfl, rfl, rfl, trivial⟩ ?_
  obtain ⟨hE, rfl, hkn, hR, hDm, hH⟩ := id hI
  have hn2 := xE_lt hE
  refine ga_aload_n 0 C dX1_has_0 rfl rfl ?_
  refine ga_iload_n 1 C dX1_has_1 rfl rfl ?_
  refine gx_call_r C (c_xB l G cI cJ cZ ad T S D Re O N Wt L P bl os kn x hn2) (cwV 1 C.1.2.2.2.2 gX1_has_X1_isBlock rfl rfl rfl (by decide +kernel) ⟨Nat.le_of_ble_eq_true rfl, Nat.le_of_ble_eq_true rfl⟩) rfl rfl (Nat.le_of_ble_eq_true rfl) dX1_has_2 ⟨Nat.zero_le _, Nat.zero_le _⟩ (fun r hx => ?_)
  rcases hx with ⟨⟨a, ha, rfl⟩, rfl⟩ | ⟨hno, rfl⟩
  rotate_left
  · skip
    refine gn_if_eq 32 C dX1_has_5 (by decide) (by omega) (fun h9 => ?_) (fun h9 => absurd rfl h9)
    refine ga_iconst (v := nI 0) C dX1_has_32 (by decide) ?_
    refine ga_iret C hr (nar_z (by omega)) hlk dX1_has_33 () (Or.inr ⟨?_, rfl⟩) rfl
    exact fun ⟨a, b, q, _⟩ => hno ⟨a, q⟩
  refine gn_if_eq 32 C dX1_has_5 (by decide) (by omega) (fun h9 => absurd h9 (by omega)) (fun h9 => ?_)
  refine ga_aload_n 0 C dX1_has_8 rfl rfl ?_
  refine ga_iload_n 2 C dX1_has_9 rfl rfl ?_
  refine gx_call_r C (c_xB l G cI cJ cZ ad T S D Re O N Wt L P bl os kn y hn2) (cwV 1 C.1.2.2.2.2 gX1_has_X1_isBlock rfl rfl rfl (by decide +kernel) ⟨Nat.le_of_ble_eq_true rfl, Nat.le_of_ble_eq_true rfl⟩) rfl rfl (Nat.le_of_ble_eq_true rfl) dX1_has_10 ⟨Nat.zero_le _, Nat.zero_le _⟩ (fun r hy => ?_)
  rcases hy with ⟨⟨b, hb, rfl⟩, rfl⟩ | ⟨hno, rfl⟩
  rotate_left
  · skip
    refine gn_if_eq 32 C dX1_has_13 (by decide) (by omega) (fun h9 => ?_) (fun h9 => absurd rfl h9)
    refine ga_iconst (v := nI 0) C dX1_has_32 (by decide) ?_
    refine ga_iret C hr (nar_z (by omega)) hlk dX1_has_33 () (Or.inr ⟨?_, rfl⟩) rfl
    exact fun ⟨a, b, _, q, _⟩ => hno ⟨b, q⟩
  refine gn_if_eq 32 C dX1_has_13 (by decide) (by omega) (fun h9 => absurd h9 (by omega)) (fun h9 => ?_)
  refine ga_aload_n 0 C dX1_has_16 rfl rfl ?_
  refine gx_get_T C in_X1_has (by decide +kernel) dX1_has_17 ?_
  refine ga_iload_n 1 C dX1_has_20 rfl rfl ?_
  refine ga_iload_n 2 C dX1_has_21 rfl rfl ?_
  refine gx_cr_T C (c_holds l G cI cJ cZ (ad 1) (ad 4) T a b (by omega) (by omega)) (cwV 2 C.1.2.2.2.2 gX1_has_X0_holds rfl rfl rfl (by decide +kernel) ⟨Nat.le_of_ble_eq_true rfl, Nat.le_of_ble_eq_true rfl⟩) rfl rfl (Nat.le_of_ble_eq_true rfl) dX1_has_22 ⟨Nat.zero_le _, Nat.zero_le _⟩ (fun r hh => ?_)
  subst hh
  have hbl2 := btl (bj T a b)
  have hTe := hE.2.1 a b (by omega) (by omega)
  refine gn_if_eq 32 C dX1_has_25 (by decide) (by omega) (fun h9 => ?_) (fun h9 => ?_)
  · skip
    refine ga_iconst (v := nI 0) C dX1_has_32 (by decide) ?_
    refine ga_iret C hr (nar_z (by omega)) hlk dX1_has_33 () (Or.inr ⟨?_, rfl⟩) rfl
    rintro ⟨a2, b2, q1, q2, q3⟩
    obtain rfl := isB_un hn2 q1 ⟨ha, rfl⟩
    obtain rfl := isB_un hn2 q2 ⟨hb, rfl⟩
    rw [← hTe] at q3
    rw [q3] at h9
    cases h9
  · skip
    refine ga_iconst (v := nI 1) C dX1_has_28 (by decide) ?_
    refine ga_goto 33 C dX1_has_29 (by decide) ?_
    refine ga_iret C hr (nar_z (by omega)) hlk dX1_has_33 () (Or.inl ⟨⟨a, b, ⟨ha, rfl⟩, ⟨hb, rfl⟩, ?_⟩, rfl⟩) rfl
    rw [← hTe]
    cases hq : bj T a b with
    | true => rfl
    | false => rw [hq] at h9; exact absurd rfl h9
set_option maxHeartbeats 4000000 in
set_option maxRecDepth 100000 in
/-- takeUnreachedTarget -/
theorem c_xtake (l : Launch) (G : va_G) (cI cJ cZ : ClassId) (ad : Nat → Nat) (T S D : Nat → Int64) (Re O N Wt : Nat → Nat) (L : Nat → Int32) (P : Nat → Nat) (bl os kn : Nat) (n : Nat) (E : Nat → Nat → Bool) (a : Nat) (hE : xE n E T S) (hbl : bl = n) (ha : a < n) (hN : N a ≤ n) (hRe : ∀ b, b < n → Re b < 2) : ctI l yX1_takeUnreachedTarget wsX1_takeUnreachedTarget { frames := 2, cells := 0, slots := 0, locals := 50 } G (ty3 cI cJ cZ) [.ref (ad 0), .int (nI a)] (wX ad cI cJ cZ T S D Re O N Wt L P bl os kn) (fun r (N2 : Nat → Nat) => (∃ x, r = nI x ∧ tkA n E Re N N2 a x) ∨ (r = nI 200 ∧ tkB n E Re N N2 a)) (fun N2 => wX ad cI cJ cZ T S D Re O N2 Wt L P bl os kn) := by
  refine metI (cc := cX1_takeUnreachedTarget) (maxL := 3) (ret := (some .int)) (by decide) rfl (Nat.le_of_ble_eq_true rfl) ?_
  intro p e s m below meth c C hr hlk
  refine ga_lv (lv9 := [(0, .ref (ad 0)), (1, .int (nI a))]) ⟨rfl, rfl, trivial⟩ ?_
  subst hbl
  have hn2 := xE_lt hE
  refine ga_aload_n 0 C dX1_takeUnreachedTarget_0 rfl rfl ?_
  refine gx_get_T C in_X1_takeUnreachedTarget (by decide +kernel) dX1_takeUnreachedTarget_1 ?_
  refine ga_iload_n 1 C dX1_takeUnreachedTarget_4 rfl rfl ?_
  refine ga_aload_n 0 C dX1_takeUnreachedTarget_5 rfl rfl ?_
  refine gx_get_N C in_X1_takeUnreachedTarget (by decide +kernel) dX1_takeUnreachedTarget_6 ?_
  refine ga_iload_n 1 C dX1_takeUnreachedTarget_9 rfl rfl ?_
  refine gx_ald_N C (by omega) dX1_takeUnreachedTarget_10 ?_
  refine gx_cr_T C (c_next l G cI cJ cZ (ad 1) (ad 4) T a (N a) (by omega) (by omega)) (cwV 2 C.1.2.2.2.2 gX1_takeUnreachedTarget_X0_next rfl rfl rfl (by decide +kernel) ⟨Nat.le_of_ble_eq_true rfl, Nat.le_of_ble_eq_true rfl⟩) rfl rfl (Nat.le_of_ble_eq_true rfl) dX1_takeUnreachedTarget_11 ⟨Nat.zero_le _, Nat.zero_le _⟩ (fun r hx => ?_)
  obtain ⟨x, rfl, hx⟩ := hx
  refine ga_istore_n 2 C dX1_takeUnreachedTarget_14 rfl (by decide) rfl ?_
  refine ga_lv (lv9 := [(0, .ref (ad 0)), (1, .int (nI a)), (2, .int (nI x))]) ⟨rfl, rfl, rfl, trivial⟩ ?_
  refine up_ind bl (P := fun st => ∀ x, isNext (bj T a) st x → N a ≤ st → (∀ t, N a ≤ t → t < st → E a t = true → Re t ≠ 0) → gG p l e _ s m _ below meth c G _ _ 0 0 _ (wX ad cI cJ cZ T S D Re O N Wt L P bl os kn) [(0, .ref (ad 0)), (1, .int (nI a)), (2, .int (nI x))] 15 []) ?_ (N a) hN x hx (Nat.le_refl _) (fun t h1 h2 => by omega)
  clear hx x
  intro st hst ih x hx hNs hno
  have hxb := next_b hx
  refine ga_iload_n 2 C dX1_takeUnreachedTarget_15 rfl rfl ?_
  refine ga_aload_n 0 C dX1_takeUnreachedTarget_16 rfl rfl ?_
  refine gx_get_bl C in_X1_takeUnreachedTarget (by decide +kernel) dX1_takeUnreachedTarget_17 ?_
  refine gn_icmp_ge 58 C dX1_takeUnreachedTarget_20 (by decide) (by omega) (by omega) (fun h9 => ?_) (fun h9 => ?_)
  · skip
    refine ga_aload_n 0 C dX1_takeUnreachedTarget_58 rfl rfl ?_
    refine gx_get_N C in_X1_takeUnreachedTarget (by decide +kernel) dX1_takeUnreachedTarget_59 ?_
    refine ga_iload_n 1 C dX1_takeUnreachedTarget_62 rfl rfl ?_
    refine ga_aload_n 0 C dX1_takeUnreachedTarget_63 rfl rfl ?_
    refine gx_get_bl C in_X1_takeUnreachedTarget (by decide +kernel) dX1_takeUnreachedTarget_64 ?_
    refine gx_ast_N C (by omega) dX1_takeUnreachedTarget_67 ?_
    refine ga_sipush (v := nI 200) C dX1_takeUnreachedTarget_68 (by decide) ?_
    refine ga_iret C hr rfl hlk dX1_takeUnreachedTarget_71 (upN N a bl) (Or.inr ⟨rfl, rfl, fun t h1 h2 => ?_⟩) rfl
    have h3 := (hE.1.2.2 a t h2).2
    by_cases h4 : t < st
    · exact hno t h1 h4 h2
    · have h5 := next_ge hx h9 t (by omega) h3 (by omega)
      rw [hE.2.1 a t (by omega) (by omega), h2] at h5
      cases h5
  · obtain ⟨hx1, hx2, hx3⟩ := next_lt hn2 hx h9
    rw [hE.2.1 a x (by omega) (by omega)] at hx2
    have hRx := hRe x h9
    have hno2 : ∀ t, N a ≤ t → t < x → E a t = true → Re t ≠ 0 := fun t h1 h2 h3 => by
      by_cases h4 : t < st
      · exact hno t h1 h4 h3
      · have h5 := hx3 t (by omega) h2
        rw [hE.2.1 a t (by omega) (by omega), h3] at h5
        cases h5
    refine ga_aload_n 0 C dX1_takeUnreachedTarget_23 rfl rfl ?_
    refine gx_get_Re C in_X1_takeUnreachedTarget (by decide +kernel) dX1_takeUnreachedTarget_24 ?_
    refine ga_iload_n 2 C dX1_takeUnreachedTarget_27 rfl rfl ?_
    refine gx_ald_Re C (by omega) dX1_takeUnreachedTarget_28 ?_
    refine gn_if_ne 43 C dX1_takeUnreachedTarget_29 (by decide) (by omega) (fun h8 => ?_) (fun h8 => ?_)
    · skip
      refine ga_aload_n 0 C dX1_takeUnreachedTarget_43 rfl rfl ?_
      refine gx_get_T C in_X1_takeUnreachedTarget (by decide +kernel) dX1_takeUnreachedTarget_44 ?_
      refine ga_iload_n 1 C dX1_takeUnreachedTarget_47 rfl rfl ?_
      refine ga_iload_n 2 C dX1_takeUnreachedTarget_48 rfl rfl ?_
      refine ga_iconst (v := nI 1) C dX1_takeUnreachedTarget_49 (by decide) ?_
      refine ga_iadd C dX1_takeUnreachedTarget_50 (nI_add _ _) ?_
      refine gx_cr_T C (c_next l G cI cJ cZ (ad 1) (ad 4) T a (x + 1) (by omega) (by omega)) (cwV 2 C.1.2.2.2.2 gX1_takeUnreachedTarget_X0_next rfl rfl rfl (by decide +kernel) ⟨Nat.le_of_ble_eq_true rfl, Nat.le_of_ble_eq_true rfl⟩) rfl rfl (Nat.le_of_ble_eq_true rfl) dX1_takeUnreachedTarget_51 ⟨Nat.zero_le _, Nat.zero_le _⟩ (fun r hx => ?_)
      obtain ⟨x2, rfl, hx4⟩ := hx
      refine ga_istore_n 2 C dX1_takeUnreachedTarget_54 rfl (by decide) rfl ?_
      refine ga_goto 15 C dX1_takeUnreachedTarget_55 (by decide) ?_
      refine ga_lv (lv9 := [(0, .ref (ad 0)), (1, .int (nI a)), (2, .int (nI x2))]) ⟨rfl, rfl, rfl, trivial⟩ ?_
      refine ih (x + 1) (by omega) (by omega) x2 hx4 (by omega) (fun t h1 h2 h3 => ?_)
      by_cases h4 : t = x
      · rw [h4]; exact h8
      · exact hno2 t h1 (by omega) h3
    · skip
      refine ga_aload_n 0 C dX1_takeUnreachedTarget_32 rfl rfl ?_
      refine gx_get_N C in_X1_takeUnreachedTarget (by decide +kernel) dX1_takeUnreachedTarget_33 ?_
      refine ga_iload_n 1 C dX1_takeUnreachedTarget_36 rfl rfl ?_
      refine ga_iload_n 2 C dX1_takeUnreachedTarget_37 rfl rfl ?_
      refine ga_iconst (v := nI 1) C dX1_takeUnreachedTarget_38 (by decide) ?_
      refine ga_iadd C dX1_takeUnreachedTarget_39 (nI_add _ _) ?_
      refine gx_ast_N C (by omega) dX1_takeUnreachedTarget_40 ?_
      refine ga_iload_n 2 C dX1_takeUnreachedTarget_41 rfl rfl ?_
      exact ga_iret C hr rfl hlk dX1_takeUnreachedTarget_42 (upN N a (x + 1)) (Or.inl ⟨x, rfl, h9, hx2, by omega, rfl, hno2⟩) rfl
set_option maxHeartbeats 4000000 in
set_option maxRecDepth 100000 in
/-- findReached -/
theorem c_xreach (l : Launch) (G : va_G) (cI cJ cZ : ClassId) (ad : Nat → Nat) (T S D : Nat → Int64) (Re O N Wt : Nat → Nat) (L : Nat → Int32) (P : Nat → Nat) (bl os kn : Nat) (n : Nat) (E : Nat → Nat → Bool) (hI : xI n E T S D Re O P bl os kn) : ctV l yX1_findReached wsX1_findReached { frames := 3, cells := 0, slots := 0, locals := 72 } G (ty3 cI cJ cZ) [.ref (ad 0)] (wX ad cI cJ cZ T S D Re O N Wt L P bl os kn) (fun (u : XS) => xIu n E u ∧ 1 ≤ u.2.2.2.2.2.2.2.2.2.2.2) (wXu ad cI cJ cZ) := by
  refine metV (cc := cX1_findReached) (maxL := 5) (ret := none) (by decide) rfl (Nat.le_of_ble_eq_true rfl) ?_
  intro p e s m below meth c C hr hlk
  refine ga_lv (lv9 := [(0, .ref (ad 0))]) ⟨rfl, trivial⟩ ?_
  obtain ⟨hE, rfl, hkn, hR, hDm, hH⟩ := id hI
  have hn2 := xE_lt hE
  refine ga_aload_n 0 C dX1_findReached_0 rfl rfl ?_
  refine gx_get_kn C in_X1_findReached (by decide +kernel) dX1_findReached_1 ?_
  refine ga_iconst (v := nI 1) C dX1_findReached_4 (by decide) ?_
  refine gn_icmp_lt 9 C dX1_findReached_5 (by decide) (by omega) (by omega) (fun h9 => ?_) (fun h9 => ?_)
  rotate_left
  · exact ga_vret C hr hlk dX1_findReached_8 (T, S, D, Re, O, N, Wt, L, P, bl, os, kn) ⟨hI, h9⟩ rfl
  obtain rfl : kn = 0 := by omega
  have hn1 : 0 < bl := hE.1.1
  refine ga_iconst (v := nI 0) C dX1_findReached_9 (by decide) ?_
  refine ga_istore_n 1 C dX1_findReached_10 rfl (by decide) rfl ?_
  refine ga_lv (lv9 := [(0, .ref (ad 0)), (1, .int (nI 0))]) ⟨rfl, rfl, trivial⟩ ?_
  refine up_ind bl (P := fun i => ∀ Re N : Nat → Nat, (∀ b, b < i → Re b = 0 ∧ N b = 0) → gG p l e _ s m _ below meth c G _ _ 0 0 _ (wX ad cI cJ cZ T S D Re O N Wt L P bl os 0) [(0, .ref (ad 0)), (1, .int (nI i))] 11 []) ?_ 0 (by omega) Re N (fun b hb => by omega)
  intro i hi ih Re N hz
  refine ga_iload_n 1 C dX1_findReached_11 rfl rfl ?_
  refine ga_aload_n 0 C dX1_findReached_12 rfl rfl ?_
  refine gx_get_bl C in_X1_findReached (by decide +kernel) dX1_findReached_13 ?_
  refine gn_icmp_ge 39 C dX1_findReached_16 (by decide) (by omega) (by omega) (fun h8 => ?_) (fun h8 => ?_)
  rotate_left
  · skip
    refine ga_aload_n 0 C dX1_findReached_19 rfl rfl ?_
    refine gx_get_Re C in_X1_findReached (by decide +kernel) dX1_findReached_20 ?_
    refine ga_iload_n 1 C dX1_findReached_23 rfl rfl ?_
    refine ga_iconst (v := nI 0) C dX1_findReached_24 (by decide) ?_
    refine gx_ast_Re C (by omega) (by omega) dX1_findReached_25 ?_
    refine ga_aload_n 0 C dX1_findReached_26 rfl rfl ?_
    refine gx_get_N C in_X1_findReached (by decide +kernel) dX1_findReached_27 ?_
    refine ga_iload_n 1 C dX1_findReached_30 rfl rfl ?_
    refine ga_iconst (v := nI 0) C dX1_findReached_31 (by decide) ?_
    refine gx_ast_N C (by omega) dX1_findReached_32 ?_
    refine ga_iinc 1 C dX1_findReached_33 rfl (nI_inc _) (by decide) rfl ?_
    refine ga_goto 11 C dX1_findReached_36 (by decide) ?_
    refine ga_lv (lv9 := [(0, .ref (ad 0)), (1, .int (nI (i + 1)))]) ⟨rfl, rfl, trivial⟩ ?_
    refine ih (i + 1) (by omega) (by omega) (upN Re i 0) (upN N i 0) (fun b hb => ?_)
    by_cases q : b = i
    · rw [q, upN_s, upN_s]; exact ⟨rfl, rfl⟩
    · rw [upN_n q, upN_n q]; exact hz b (by omega)
  refine ga_aload_n 0 C dX1_findReached_39 rfl rfl ?_
  refine gx_get_Re C in_X1_findReached (by decide +kernel) dX1_findReached_40 ?_
  refine ga_iconst (v := nI 0) C dX1_findReached_43 (by decide) ?_
  refine ga_iconst (v := nI 1) C dX1_findReached_44 (by decide) ?_
  refine gx_ast_Re C (by omega) (by omega) dX1_findReached_45 ?_
  refine ga_aload_n 0 C dX1_findReached_46 rfl rfl ?_
  refine gx_get_Wt C in_X1_findReached (by decide +kernel) dX1_findReached_47 ?_
  refine ga_iconst (v := nI 0) C dX1_findReached_50 (by decide) ?_
  refine ga_iconst (v := nI 0) C dX1_findReached_51 (by decide) ?_
  refine gx_ast_Wt C (by omega) dX1_findReached_52 ?_
  refine ga_iconst (v := nI 1) C dX1_findReached_53 (by decide) ?_
  refine ga_istore_n 1 C dX1_findReached_54 rfl (by decide) rfl ?_
  refine ga_aload_n 0 C dX1_findReached_55 rfl rfl ?_
  refine ga_aload_n 0 C dX1_findReached_56 rfl rfl ?_
  refine gx_get_bl C in_X1_findReached (by decide +kernel) dX1_findReached_57 ?_
  refine gx_put_os C in_X1_findReached (by decide +kernel) dX1_findReached_60 ?_
  refine ga_iconst (v := nI 0) C dX1_findReached_63 (by decide) ?_
  refine ga_istore_n 2 C dX1_findReached_64 rfl (by decide) rfl ?_
  refine ga_lv (lv9 := [(0, .ref (ad 0)), (1, .int (nI 1)), (2, .int (nI 0))]) ⟨rfl, rfl, rfl, trivial⟩ ?_
  refine up_ind (2 * bl) (P := fun step => ∀ (Re O N Wt : Nat → Nat) (os top : Nat), rI bl E Re O N Wt os top step → gG p l e _ s m _ below meth c G _ _ 0 0 _ (wX ad cI cJ cZ T S D Re O N Wt L P bl os 0) [(0, .ref (ad 0)), (1, .int (nI top)), (2, .int (nI step))] 65 []) ?_ 0 (by omega) (upN Re 0 1) O N (upN Wt 0 0) bl 1 (rI_init hn1 (fun b hb => (hz b (by omega)).1) (fun b hb => (hz b (by omega)).2))
  clear hz ih h8 hi i hI hR hDm hH
  intro step hst ih Re O N Wt os top hI
  obtain ⟨t1, t2, t3, t4, t5⟩ := rI_top hI
  refine ga_iload_n 2 C dX1_findReached_65 rfl rfl ?_
  refine ga_iconst (v := nI 2) C dX1_findReached_66 (by decide) ?_
  refine ga_aload_n 0 C dX1_findReached_67 rfl rfl ?_
  refine gx_get_bl C in_X1_findReached (by decide +kernel) dX1_findReached_68 ?_
  refine ga_imul C dX1_findReached_71 (pk_mul _ _) ?_
  refine gn_icmp_ge 170 C dX1_findReached_72 (by decide) (by omega) (by omega) (fun h8 => ?_) (fun h8 => ?_)
  · obtain rfl : top = 0 := by
      apply Classical.byContradiction
      intro q
      have := t3 (by omega)
      omega
    refine ga_aload_n 0 C dX1_findReached_170 rfl rfl ?_
    refine ga_iconst (v := nI 1) C dX1_findReached_171 (by decide) ?_
    refine gx_put_kn C in_X1_findReached (by decide +kernel) dX1_findReached_172 ?_
    refine ga_vret C hr hlk dX1_findReached_175 (T, S, D, Re, O, N, Wt, L, P, bl, os, 1) ⟨xI_1 hE (rI_end hE.1 hI), Nat.le_refl _⟩ rfl
  refine ga_iload_n 1 C dX1_findReached_75 rfl rfl ?_
  refine gn_if_le 170 C dX1_findReached_76 (by decide) (by omega) (fun h7 => ?_) (fun h7 => ?_)
  · obtain rfl : top = 0 := by omega
    refine ga_aload_n 0 C dX1_findReached_170 rfl rfl ?_
    refine ga_iconst (v := nI 1) C dX1_findReached_171 (by decide) ?_
    refine gx_put_kn C in_X1_findReached (by decide +kernel) dX1_findReached_172 ?_
    refine ga_vret C hr hlk dX1_findReached_175 (T, S, D, Re, O, N, Wt, L, P, bl, os, 1) ⟨xI_1 hE (rI_end hE.1 hI), Nat.le_refl _⟩ rfl
  obtain ⟨t6, t7, t8⟩ := t3 h7
  refine ga_aload_n 0 C dX1_findReached_79 rfl rfl ?_
  refine gx_get_os C in_X1_findReached (by decide +kernel) dX1_findReached_80 ?_
  refine gn_if_le 170 C dX1_findReached_83 (by decide) (by omega) (fun h6 => absurd h6 (by omega)) (fun h6 => ?_)
  refine ga_aload_n 0 C dX1_findReached_86 rfl rfl ?_
  refine gx_get_Wt C in_X1_findReached (by decide +kernel) dX1_findReached_87 ?_
  refine ga_iload_n 1 C dX1_findReached_90 rfl rfl ?_
  refine ga_iconst (v := nI 1) C dX1_findReached_91 (by decide) ?_
  refine ga_isub C dX1_findReached_92 (pk_sub (by omega)) ?_
  refine gx_ald_Wt C (by omega) dX1_findReached_93 ?_
  refine ga_istore_n 3 C dX1_findReached_94 rfl (by decide) rfl ?_
  refine ga_aload_n 0 C dX1_findReached_95 rfl rfl ?_
  refine ga_iload_n 3 C dX1_findReached_96 rfl rfl ?_
  have hw := hI.2.2.2.1 (top - 1) (by omega)
  refine gx_cg_i C (c_xtake l G cI cJ cZ ad T S D Re O N Wt L P bl os 0 bl E (Wt (top - 1)) hE rfl hw.1 (hI.2.1 _ hw.1).2.1 (fun b hb => (hI.2.1 b hb).1)) (cwV 1 C.1.2.2.2.2 gX1_findReached_X1_takeUnreachedTarget rfl rfl rfl (by decide +kernel) ⟨Nat.le_of_ble_eq_true rfl, Nat.le_of_ble_eq_true rfl⟩) rfl rfl (Nat.le_of_ble_eq_true rfl) dX1_findReached_97 ⟨Nat.zero_le _, Nat.zero_le _⟩ (fun r N2 hN2 => ?_)
  rcases hN2 with ⟨x, rfl, hx⟩ | ⟨rfl, hx⟩
  · obtain ⟨p1, p2⟩ := rI_push hE.1 hI h7 hx
    have hxn := hx.1
    refine ga_istore 4 C dX1_findReached_100 (by decide) rfl ?_
    refine ga_iload 4 C dX1_findReached_102 rfl ?_
    refine ga_aload_n 0 C dX1_findReached_104 rfl rfl ?_
    refine gx_get_bl C in_X1_findReached (by decide +kernel) dX1_findReached_105 ?_
    refine gn_icmp_ge 141 C dX1_findReached_108 (by decide) (by omega) (by omega) (fun h5 => absurd h5 (by omega)) (fun h5 => ?_)
    refine ga_iload_n 1 C dX1_findReached_111 rfl rfl ?_
    refine ga_aload_n 0 C dX1_findReached_112 rfl rfl ?_
    refine gx_get_bl C in_X1_findReached (by decide +kernel) dX1_findReached_113 ?_
    refine gn_icmp_ge 141 C dX1_findReached_116 (by decide) (by omega) (by omega) (fun h4 => absurd h4 (by omega)) (fun h4 => ?_)
    refine ga_aload_n 0 C dX1_findReached_119 rfl rfl ?_
    refine gx_get_Re C in_X1_findReached (by decide +kernel) dX1_findReached_120 ?_
    refine ga_iload 4 C dX1_findReached_123 rfl ?_
    refine ga_iconst (v := nI 1) C dX1_findReached_125 (by decide) ?_
    refine gx_ast_Re C (by omega) (by omega) dX1_findReached_126 ?_
    refine ga_aload_n 0 C dX1_findReached_127 rfl rfl ?_
    refine gx_get_Wt C in_X1_findReached (by decide +kernel) dX1_findReached_128 ?_
    refine ga_iload_n 1 C dX1_findReached_131 rfl rfl ?_
    refine ga_iload 4 C dX1_findReached_132 rfl ?_
    refine gx_ast_Wt C (by omega) dX1_findReached_134 ?_
    refine ga_iinc 1 C dX1_findReached_135 rfl (nI_inc _) (by decide) rfl ?_
    refine ga_goto 164 C dX1_findReached_138 (by decide) ?_
    refine ga_iinc 2 C dX1_findReached_164 rfl (nI_inc _) (by decide) rfl ?_
    refine ga_goto 65 C dX1_findReached_167 (by decide) ?_
    refine ga_lv (lv9 := [(0, .ref (ad 0)), (1, .int (nI (top + 1))), (2, .int (nI (step + 1)))]) ⟨rfl, rfl, rfl, trivial⟩ ?_
    exact ih (step + 1) (by omega) (by omega) _ _ _ _ _ _ p2
  · obtain ⟨p1, p2⟩ := rI_pop hE.1 hI h7 hx
    refine ga_istore 4 C dX1_findReached_100 (by decide) rfl ?_
    refine ga_iload 4 C dX1_findReached_102 rfl ?_
    refine ga_aload_n 0 C dX1_findReached_104 rfl rfl ?_
    refine gx_get_bl C in_X1_findReached (by decide +kernel) dX1_findReached_105 ?_
    refine gn_icmp_ge 141 C dX1_findReached_108 (by decide) (by omega) (by omega) (fun h5 => ?_) (fun h5 => absurd h5 (by omega))
    refine ga_iinc 1 C dX1_findReached_141 rfl (nI_dec (by omega)) (by decide) rfl ?_
    refine ga_aload_n 0 C dX1_findReached_144 rfl rfl ?_
    refine ga_dup C dX1_findReached_145 rfl ?_
    refine gx_get_os C in_X1_findReached (by decide +kernel) dX1_findReached_146 ?_
    refine ga_iconst (v := nI 1) C dX1_findReached_149 (by decide) ?_
    refine ga_isub C dX1_findReached_150 (pk_sub (by omega)) ?_
    refine gx_put_os C in_X1_findReached (by decide +kernel) dX1_findReached_151 ?_
    refine ga_aload_n 0 C dX1_findReached_154 rfl rfl ?_
    refine gx_get_O C in_X1_findReached (by decide +kernel) dX1_findReached_155 ?_
    refine ga_aload_n 0 C dX1_findReached_158 rfl rfl ?_
    refine gx_get_os C in_X1_findReached (by decide +kernel) dX1_findReached_159 ?_
    refine ga_iload_n 3 C dX1_findReached_162 rfl rfl ?_
    refine gx_ast_O C (by omega) dX1_findReached_163 ?_
    refine ga_iinc 2 C dX1_findReached_164 rfl (nI_inc _) (by decide) rfl ?_
    refine ga_goto 65 C dX1_findReached_167 (by decide) ?_
    refine ga_lv (lv9 := [(0, .ref (ad 0)), (1, .int (nI (top - 1))), (2, .int (nI (step + 1)))]) ⟨rfl, rfl, rfl, trivial⟩ ?_
    exact ih (step + 1) (by omega) (by omega) _ _ _ _ _ _ p2
set_option maxHeartbeats 4000000 in
set_option maxRecDepth 100000 in
/-- reached -/
theorem c_xreached (l : Launch) (G : va_G) (cI cJ cZ : ClassId) (ad : Nat → Nat) (T S D : Nat → Int64) (Re O N Wt : Nat → Nat) (L : Nat → Int32) (P : Nat → Nat) (bl os kn : Nat) (n : Nat) (E : Nat → Nat → Bool) (x : Int32) (hI : xI n E T S D Re O P bl os kn) : ctI l yX1_reached wsX1_reached { frames := 4, cells := 0, slots := 0, locals := 96 } G (ty3 cI cJ cZ) [.ref (ad 0), .int x] (wX ad cI cJ cZ T S D Re O N Wt L P bl os kn) (fun r (u : XS) => yn (∃ b, isB n x b ∧ rch E b) r ∧ xIu n E u) (wXu ad cI cJ cZ) := by
  refine metI (cc := cX1_reached) (maxL := 2) (ret := (some .boolean)) (by decide) rfl (Nat.le_of_ble_eq_true rfl) ?_
  intro p e s m below meth c C hr hlk
  refine ga_lv (lv9 := [(0, .ref (ad 0)), (1, .int x)]) ⟨rfl, rfl, trivial⟩ ?_
  obtain ⟨hE, rfl, hkn, hR, hDm, hH⟩ := id hI
  have hn2 := xE_lt hE
  refine ga_aload_n 0 C dX1_reached_0 rfl rfl ?_
  refine ga_iload_n 1 C dX1_reached_1 rfl rfl ?_
  refine gx_call_r C (c_xB l G cI cJ cZ ad T S D Re O N Wt L P bl os kn x hn2) (cwV 1 C.1.2.2.2.2 gX1_reached_X1_isBlock rfl rfl rfl (by decide +kernel) ⟨Nat.le_of_ble_eq_true rfl, Nat.le_of_ble_eq_true rfl⟩) rfl rfl (Nat.le_of_ble_eq_true rfl) dX1_reached_2 ⟨Nat.zero_le _, Nat.zero_le _⟩ (fun r hx => ?_)
  rcases hx with ⟨⟨a, ha, rfl⟩, rfl⟩ | ⟨hno, rfl⟩
  rotate_left
  · skip
    refine gn_if_ne 10 C dX1_reached_5 (by decide) (by omega) (fun h9 => absurd rfl h9) (fun h9 => ?_)
    refine ga_iconst (v := nI 0) C dX1_reached_8 (by decide) ?_
    exact ga_iret C hr (nar_z (by omega)) hlk dX1_reached_9 (T, S, D, Re, O, N, Wt, L, P, bl, os, kn) ⟨Or.inr ⟨fun ⟨b, q, _⟩ => hno ⟨b, q⟩, rfl⟩, hI⟩ rfl
  refine gn_if_ne 10 C dX1_reached_5 (by decide) (by omega) (fun h9 => ?_) (fun h9 => absurd h9 (by omega))
  refine ga_aload_n 0 C dX1_reached_10 rfl rfl ?_
  refine gx_call_v C (c_xreach l G cI cJ cZ ad T S D Re O N Wt L P bl os kn bl E hI) (cwV 0 C.1.2.2.2.2 gX1_reached_X1_findReached rfl rfl rfl (by decide +kernel) ⟨Nat.le_of_ble_eq_true rfl, Nat.le_of_ble_eq_true rfl⟩) rfl rfl (Nat.le_of_ble_eq_true rfl) dX1_reached_11 ⟨Nat.zero_le _, Nat.zero_le _⟩ (fun T S D Re O N Wt L P bl2 os kn hI2 => ?_)
  have hI3 : xI bl E T S D Re O P bl2 os kn := hI2.1
  obtain ⟨hE, hb2, hkn, hR, hDm, hH⟩ := id hI3
  have hR := (hR hI2.2).1 a ha
  refine ga_aload_n 0 C dX1_reached_14 rfl rfl ?_
  refine gx_get_Re C in_X1_reached (by decide +kernel) dX1_reached_15 ?_
  refine ga_iload_n 1 C dX1_reached_18 rfl rfl ?_
  refine gx_ald_Re C (by omega) dX1_reached_19 ?_
  refine ga_iret C hr (nar_z hR.1) hlk dX1_reached_20 (T, S, D, Re, O, N, Wt, L, P, bl2, os, kn) ⟨?_, hI3⟩ rfl
  by_cases q : rch E a
  · rw [hR.2.mpr q]; exact Or.inl ⟨⟨a, ⟨ha, rfl⟩, q⟩, rfl⟩
  · have hz : Re a = 0 := by
      have h1 := hR.1
      have h2 : Re a ≠ 1 := fun z => q (hR.2.mp z)
      omega
    rw [hz]
    refine Or.inr ⟨?_, rfl⟩
    rintro ⟨b, q1, q2⟩
    obtain rfl := isB_un hn2 q1 ⟨ha, rfl⟩
    exact q q2
set_option maxHeartbeats 4000000 in
set_option maxRecDepth 100000 in
/-- reachedOnes -/
theorem c_xones (l : Launch) (G : va_G) (cI cJ cZ : ClassId) (ad : Nat → Nat) (T S D : Nat → Int64) (Re O N Wt : Nat → Nat) (L : Nat → Int32) (P : Nat → Nat) (bl os kn : Nat) (n : Nat) (E : Nat → Nat → Bool) (hI : xI n E T S D Re O P bl os kn) : ctI l yX1_reachedOnes wsX1_reachedOnes { frames := 4, cells := 0, slots := 0, locals := 96 } G (ty3 cI cJ cZ) [.ref (ad 0)] (wX ad cI cJ cZ T S D Re O N Wt L P bl os kn) (fun r (u : XS) => r = nI (cnP (rch E) n) ∧ xIu n E u) (wXu ad cI cJ cZ) := by
  refine metI (cc := cX1_reachedOnes) (maxL := 1) (ret := (some .int)) (by decide) rfl (Nat.le_of_ble_eq_true rfl) ?_
  intro p e s m below meth c C hr hlk
  refine ga_lv (lv9 := [(0, .ref (ad 0))]) ⟨rfl, trivial⟩ ?_
  obtain ⟨hE, rfl, hkn, hR, hDm, hH⟩ := id hI
  have hn2 := xE_lt hE
  refine ga_aload_n 0 C dX1_reachedOnes_0 rfl rfl ?_
  refine gx_call_v C (c_xreach l G cI cJ cZ ad T S D Re O N Wt L P bl os kn bl E hI) (cwV 0 C.1.2.2.2.2 gX1_reachedOnes_X1_findReached rfl rfl rfl (by decide +kernel) ⟨Nat.le_of_ble_eq_true rfl, Nat.le_of_ble_eq_true rfl⟩) rfl rfl (Nat.le_of_ble_eq_true rfl) dX1_reachedOnes_1 ⟨Nat.zero_le _, Nat.zero_le _⟩ (fun T S D Re O N Wt L P bl2 os kn hI2 => ?_)
  have hI3 : xI bl E T S D Re O P bl2 os kn := hI2.1
  obtain ⟨hE, hb2, hkn, hR, hDm, hH⟩ := id hI3
  have hR := hR hI2.2
  have hos := hR.2.1
  refine ga_aload_n 0 C dX1_reachedOnes_4 rfl rfl ?_
  refine gx_get_bl C in_X1_reachedOnes (by decide +kernel) dX1_reachedOnes_5 ?_
  refine ga_aload_n 0 C dX1_reachedOnes_8 rfl rfl ?_
  refine gx_get_os C in_X1_reachedOnes (by decide +kernel) dX1_reachedOnes_9 ?_
  refine ga_isub C dX1_reachedOnes_12 (pk_sub (by omega)) ?_
  refine ga_iret C hr rfl hlk dX1_reachedOnes_13 (T, S, D, Re, O, N, Wt, L, P, bl2, os, kn) ⟨?_, hI3⟩ rfl
  rw [hR.2.2.1, hb2]
end
section
def dj (D : Nat → Int64) : Nat → Nat → Prop := fun b a => b < 200 ∧ a < 256 ∧ bj D b a = true
def sD (E : Nat → Nat → Bool) (D : Nat → Int64) : Prop := (∀ a, dj D 0 a → a = 0) ∧ (∀ b a, dj D b a → rch E b) ∧ dLow E (dj D)
def kI (E : Nat → Nat → Bool) (D0 D : Nat → Int64) (z : Nat) (O : Nat → Nat) (os i : Nat) : Prop := sD E D ∧ (∀ b a, dj D b a → dj D0 b a) ∧ (z = 0 → ∀ b a, dj D0 b a → dj D b a) ∧ ∀ j, os < j → j < i → ∀ c a, rch E c → E c (O j) = true → dj D (O j) a → a = O j ∨ dj D0 c a
def kK (D D2 : Nat → Int64) (b c : Nat) : Prop := ∀ r x, r < 200 → x < 256 → bj D2 r x = if r = b then (bj D b x && (bj D c x || decide (x = b))) else bj D r x
theorem kK_sub {D D2 : Nat → Int64} {b c : Nat} (h : kK D D2 b c) : ∀ r x, dj D2 r x → dj D r x := fun r x ⟨h1, h2, h3⟩ => by
  rw [h r x h1 h2] at h3
  by_cases q : r = b
  · rw [if_pos q, Bool.and_eq_true] at h3
    exact ⟨h1, h2, by rw [q]; exact h3.1⟩
  · rw [if_neg q] at h3; exact ⟨h1, h2, h3⟩
theorem kK_in {D D2 : Nat → Int64} {b c : Nat} (hc : c < 200) (h : kK D D2 b c) : ∀ x, dj D2 b x → x = b ∨ dj D c x := fun x ⟨h1, h2, h3⟩ => by
  rw [h b x h1 h2, if_pos rfl, Bool.and_eq_true, Bool.or_eq_true, decide_eq_true_eq] at h3
  rcases h3.2 with q | q
  · exact Or.inr ⟨hc, h2, q⟩
  · exact Or.inl q
theorem sD_keep {n : Nat} {E : Nat → Nat → Bool} {D D2 : Nat → Int64} {b c : Nat} (hg : gOk n E) (hc : rch E c) (he : E c b = true) (h : kK D D2 b c) (hs : sD E D) : sD E D2 := by
  obtain ⟨h1, h2, h3⟩ := hs
  refine ⟨fun a q => h1 a (kK_sub h 0 a q), fun r a q => h2 r a (kK_sub h r a q), fun a r q => ?_⟩
  have h4 := h3 a r q
  refine ⟨h4.1, h4.2.1, ?_⟩
  rw [h r a h4.1 h4.2.1]
  by_cases e : r = b
  · subst e
    rw [if_pos rfl, Bool.and_eq_true, Bool.or_eq_true, decide_eq_true_eq]
    refine ⟨h4.2.2, ?_⟩
    rcases dmn_src q hc he with z | z
    · exact Or.inr z
    · exact Or.inl (h3 a c z).2.2
  · rw [if_neg e]; exact h4.2.2
theorem kI_keep {n : Nat} {E : Nat → Nat → Bool} {D0 D D2 : Nat → Int64} {z z2 : Nat} {O : Nat → Nat} {os i b c : Nat} (hg : gOk n E) (hc : rch E c) (he : E c b = true) (h : kK D D2 b c) (hz : z2 = 0 → z = 0 ∧ ∀ x, x < 256 → bj D2 b x = bj D b x) (hk : kI E D0 D z O os i) : kI E D0 D2 z2 O os i := by
  obtain ⟨k1, k2, k3, k4⟩ := hk
  refine ⟨sD_keep hg hc he h k1, fun r a q => k2 r a (kK_sub h r a q), fun e r a q => ?_, fun j j1 j2 c2 a hc2 e2 q => k4 j j1 j2 c2 a hc2 e2 (kK_sub h _ a q)⟩
  obtain ⟨e1, e2⟩ := hz e
  have h4 := k3 e1 r a q
  refine ⟨h4.1, h4.2.1, ?_⟩
  by_cases e3 : r = b
  · subst e3; rw [e2 a h4.2.1]; exact h4.2.2
  · rw [h r a h4.1 h4.2.1, if_neg e3]; exact h4.2.2
theorem sD_fin {n : Nat} {E : Nat → Nat → Bool} {D : Nat → Int64} (hs : sD E D) (h : ∀ a b, dj D b a → ¬ rav E a b) : xD E D := fun b a hb ha => ⟨fun q => ⟨hs.2.1 b a ⟨hb, ha, q⟩, h a b ⟨hb, ha, q⟩⟩, fun q => (hs.2.2 a b q).2.2⟩
theorem rnk_256 {n : Nat} {E : Nat → Nat → Bool} {D : Nat → Int64} (hg : gOk n E) (h : xD E D) {b : Nat} (hb : b < 200) : cnP (fun a => bj D b a = true) 256 = rnk n E b := by
  have hn := hg.2.1
  rw [cnP_congr (Q := fun a => dmn E a b) (fun a ha => h b a hb ha)]
  exact cnP_ext (by omega) (fun k h1 _ q => by have := dmn_lt hg q; omega)
theorem due_eq {c r : Nat} (hc : c < 2 ^ 30) (hr : r < 2 ^ 30) : nI c = nI r - nI 1 ↔ c + 1 = r := by
  constructor
  · intro h
    by_cases q : r = 0
    · subst q
      have h1 : nI 0 - nI 1 < 0 := by decide
      rw [← h] at h1
      exact absurd h1 (nI_pos (by omega))
    · rw [pk_sub (by omega)] at h
      have := (nI_eq (by omega) (by omega)).mp h
      omega
  · intro h
    rw [pk_sub (by omega)]
    congr 1
    omega

set_option maxHeartbeats 4000000 in
set_option maxRecDepth 100000 in
/-- startDominators -/
theorem c_xstart (l : Launch) (G : va_G) (cI cJ cZ : ClassId) (ad : Nat → Nat) (T S D : Nat → Int64) (Re O N Wt : Nat → Nat) (L : Nat → Int32) (P : Nat → Nat) (bl os kn : Nat) (n : Nat) (E : Nat → Nat → Bool) (hE : xE n E T S) (hR : xR n E Re O os) (hbl : bl = n) : ctV l yX1_startDominators wsX1_startDominators { frames := 3, cells := 0, slots := 0, locals := 68 } G (ty3 cI cJ cZ) [.ref (ad 0)] (wX ad cI cJ cZ T S D Re O N Wt L P bl os kn) (fun D2 : Nat → Int64 => sD E D2) (fun D2 => wX ad cI cJ cZ T S D2 Re O N Wt L P bl os kn) := by
  refine metV (cc := cX1_startDominators) (maxL := 2) (ret := none) (by decide) rfl (Nat.le_of_ble_eq_true rfl) ?_
  intro p e s m below meth c C hr hlk
  refine ga_lv (lv9 := [(0, .ref (ad 0))]) ⟨rfl, trivial⟩ ?_
  subst hbl
  have hn2 := xE_lt hE
  have hos := hR.2.1
  refine ga_aload_n 0 C dX1_startDominators_0 rfl rfl ?_
  refine gx_get_D C in_X1_startDominators (by decide +kernel) dX1_startDominators_1 ?_
  refine gx_cv_D C (c_clear l G cI cJ cZ (ad 3) (ad 6) D) (cwV 0 C.1.2.2.2.2 gX1_startDominators_X0_clear rfl rfl rfl (by decide +kernel) ⟨Nat.le_of_ble_eq_true rfl, Nat.le_of_ble_eq_true rfl⟩) rfl rfl (Nat.le_of_ble_eq_true rfl) dX1_startDominators_4 ⟨Nat.zero_le _, Nat.zero_le _⟩ (fun D1 hD1 => ?_)
  refine ga_aload_n 0 C dX1_startDominators_7 rfl rfl ?_
  refine gx_get_D C in_X1_startDominators (by decide +kernel) dX1_startDominators_8 ?_
  refine ga_iconst (v := nI 0) C dX1_startDominators_11 (by decide) ?_
  refine ga_iconst (v := nI 0) C dX1_startDominators_12 (by decide) ?_
  refine ga_iconst (v := nI 1) C dX1_startDominators_13 (by decide) ?_
  refine gx_cv_D C (c_put l G cI cJ cZ (ad 3) (ad 6) D1 0 0 1 (by omega) (by omega) (by omega)) (cwV 3 C.1.2.2.2.2 gX1_startDominators_X0_put rfl rfl rfl (by decide +kernel) ⟨Nat.le_of_ble_eq_true rfl, Nat.le_of_ble_eq_true rfl⟩) rfl rfl (Nat.le_of_ble_eq_true rfl) dX1_startDominators_14 ⟨Nat.zero_le _, Nat.zero_le _⟩ (fun D2 hD2 => ?_)
  refine ga_aload_n 0 C dX1_startDominators_17 rfl rfl ?_
  refine gx_get_os C in_X1_startDominators (by decide +kernel) dX1_startDominators_18 ?_
  refine ga_iconst (v := nI 1) C dX1_startDominators_21 (by decide) ?_
  refine ga_iadd C dX1_startDominators_22 (nI_add _ _) ?_
  refine ga_istore_n 1 C dX1_startDominators_23 rfl (by decide) rfl ?_
  refine ga_lv (lv9 := [(0, .ref (ad 0)), (1, .int (nI (os + 1)))]) ⟨rfl, rfl, trivial⟩ ?_
  refine up_ind bl (P := fun i => ∀ D : Nat → Int64, os < i → (∀ b a, b < 200 → a < 256 → (bj D b a = true ↔ (b = 0 ∧ a = 0) ∨ ∃ j, os < j ∧ j < i ∧ O j = b)) → gG p l e _ s m _ below meth c G _ _ 0 0 _ (wX ad cI cJ cZ T S D Re O N Wt L P bl os kn) [(0, .ref (ad 0)), (1, .int (nI i))] 24 []) ?_ (os + 1) (by omega) D2 (by omega) (fun b a hb ha => ?_)
  rotate_left
  · rw [hD2 b a hb ha]
    by_cases q : b = 0 ∧ a = 0
    · rw [if_pos q]; exact ⟨fun _ => Or.inl q, fun _ => rfl⟩
    · rw [if_neg q, hD1 b a hb ha]
      constructor
      · intro z; cases z
      · rintro (z | ⟨j, j1, j2, _⟩)
        · exact absurd z q
        · omega
  intro i hi ih D hoi hD
  refine ga_iload_n 1 C dX1_startDominators_24 rfl rfl ?_
  refine ga_aload_n 0 C dX1_startDominators_25 rfl rfl ?_
  refine gx_get_bl C in_X1_startDominators (by decide +kernel) dX1_startDominators_26 ?_
  refine gn_icmp_ge 51 C dX1_startDominators_29 (by decide) (by omega) (by omega) (fun h9 => ?_) (fun h9 => ?_)
  · obtain rfl : i = bl := by omega
    have hDe : ∀ b a, b < 200 → a < 256 → (bj D b a = true ↔ (b = 0 ∧ a = 0) ∨ (b ≠ 0 ∧ rch E b)) := fun b a hb ha => by
      rw [hD b a hb ha]
      constructor
      · rintro (q | ⟨j, j1, j2, rfl⟩)
        · exact Or.inl q
        · refine Or.inr ⟨fun z => ?_, hR.2.2.2.2.1 j (by omega) j2⟩
          have := hR.2.2.2.2.2.1 j os (by omega) j2 (Nat.le_refl _) hos (z.trans hR.2.2.2.1.symm)
          omega
      · rintro (q | ⟨q1, q2⟩)
        · exact Or.inl q
        · obtain ⟨j, j1, j2, j3⟩ := hR.2.2.2.2.2.2 b q2
          refine Or.inr ⟨j, ?_, j2, j3⟩
          apply Nat.lt_of_not_le
          intro z
          obtain rfl : j = os := by omega
          exact q1 (j3.symm.trans hR.2.2.2.1)
    refine ga_vret C hr hlk dX1_startDominators_51 D ⟨fun a q => ?_, fun b a q => ?_, fun a b q => ?_⟩ rfl
    · rcases (hDe 0 a q.1 q.2.1).mp q.2.2 with z | z
      · exact z.2
      · exact absurd rfl z.1
    · rcases (hDe b a q.1 q.2.1).mp q.2.2 with z | z
      · rw [z.1]; exact rch_0
      · exact z.2
    · have h1 := dmn_lt hE.1 q
      have h2 := rch_lt hE.1 q.1
      refine ⟨by omega, by omega, (hDe b a (by omega) (by omega)).mpr ?_⟩
      by_cases z : b = 0
      · subst z; exact Or.inl ⟨rfl, dmn_0 q⟩
      · exact Or.inr ⟨z, q.1⟩
  · have hOi := rch_lt hE.1 (hR.2.2.2.2.1 i (by omega) h9)
    refine ga_aload_n 0 C dX1_startDominators_32 rfl rfl ?_
    refine gx_get_D C in_X1_startDominators (by decide +kernel) dX1_startDominators_33 ?_
    refine ga_aload_n 0 C dX1_startDominators_36 rfl rfl ?_
    refine gx_get_O C in_X1_startDominators (by decide +kernel) dX1_startDominators_37 ?_
    refine ga_iload_n 1 C dX1_startDominators_40 rfl rfl ?_
    refine gx_ald_O C (by omega) dX1_startDominators_41 ?_
    refine gx_cv_D C (c_fill l G cI cJ cZ (ad 3) (ad 6) D (O i) (by omega)) (cwV 1 C.1.2.2.2.2 gX1_startDominators_X0_fill rfl rfl rfl (by decide +kernel) ⟨Nat.le_of_ble_eq_true rfl, Nat.le_of_ble_eq_true rfl⟩) rfl rfl (Nat.le_of_ble_eq_true rfl) dX1_startDominators_42 ⟨Nat.zero_le _, Nat.zero_le _⟩ (fun D3 hD3 => ?_)
    refine ga_iinc 1 C dX1_startDominators_45 rfl (nI_inc _) (by decide) rfl ?_
    refine ga_goto 24 C dX1_startDominators_48 (by decide) ?_
    refine ga_lv (lv9 := [(0, .ref (ad 0)), (1, .int (nI (i + 1)))]) ⟨rfl, rfl, trivial⟩ ?_
    refine ih (i + 1) (by omega) (by omega) D3 (by omega) (fun b a hb ha => ?_)
    rw [hD3 b a hb ha]
    by_cases q : b = O i
    · rw [if_pos q]
      exact ⟨fun _ => Or.inr ⟨i, hoi, by omega, q.symm⟩, fun _ => rfl⟩
    · rw [if_neg q, hD b a hb ha]
      constructor
      · rintro (z | ⟨j, j1, j2, j3⟩)
        · exact Or.inl z
        · exact Or.inr ⟨j, j1, by omega, j3⟩
      · rintro (z | ⟨j, j1, j2, j3⟩)
        · exact Or.inl z
        · refine Or.inr ⟨j, j1, ?_, j3⟩
          apply Nat.lt_of_not_le
          intro y
          obtain rfl : j = i := by omega
          exact q j3.symm
set_option maxHeartbeats 4000000 in
set_option maxRecDepth 100000 in
/-- strikeOutDominators -/
theorem c_xstrike (l : Launch) (G : va_G) (cI cJ cZ : ClassId) (ad : Nat → Nat) (T S D : Nat → Int64) (Re O N Wt : Nat → Nat) (L : Nat → Int32) (P : Nat → Nat) (bl os kn : Nat) (n : Nat) (E : Nat → Nat → Bool) (hE : xE n E T S) (hR : xR n E Re O os) (hbl : bl = n) (hD : sD E D) : ctI l yX1_strikeOutDominators wsX1_strikeOutDominators { frames := 2, cells := 0, slots := 0, locals := 50 } G (ty3 cI cJ cZ) [.ref (ad 0)] (wX ad cI cJ cZ T S D Re O N Wt L P bl os kn) (fun r (D2 : Nat → Int64) => ∃ z, z < 2 ∧ r = nI z ∧ sD E D2 ∧ (∀ b a, dj D2 b a → dj D b a) ∧ (z = 0 → ∀ b a, dj D b a → dj D2 b a) ∧ dCl E (dj D2) (dj D)) (fun D2 => wX ad cI cJ cZ T S D2 Re O N Wt L P bl os kn) := by
  refine metI (cc := cX1_strikeOutDominators) (maxL := 5) (ret := (some .boolean)) (by decide) rfl (Nat.le_of_ble_eq_true rfl) ?_
  intro p e s m below meth c C hr hlk
  refine ga_lv (lv9 := [(0, .ref (ad 0))]) ⟨rfl, trivial⟩ ?_
  subst hbl
  have hn2 := xE_lt hE
  have hos := hR.2.1
  refine ga_iconst (v := nI 0) C dX1_strikeOutDominators_0 (by decide) ?_
  refine ga_istore_n 1 C dX1_strikeOutDominators_1 rfl (by decide) rfl ?_
  refine ga_aload_n 0 C dX1_strikeOutDominators_2 rfl rfl ?_
  refine gx_get_os C in_X1_strikeOutDominators (by decide +kernel) dX1_strikeOutDominators_3 ?_
  refine ga_iconst (v := nI 1) C dX1_strikeOutDominators_6 (by decide) ?_
  refine ga_iadd C dX1_strikeOutDominators_7 (nI_add _ _) ?_
  refine ga_istore_n 2 C dX1_strikeOutDominators_8 rfl (by decide) rfl ?_
  refine ga_lv (lv9 := [(0, .ref (ad 0)), (1, .int (nI 0)), (2, .int (nI (os + 1)))]) ⟨rfl, rfl, rfl, trivial⟩ ?_
  refine up_ind bl (P := fun i => ∀ (D1 : Nat → Int64) (z : Nat), z < 2 → os < i → kI E D D1 z O os i → gG p l e _ s m _ below meth c G _ _ 0 0 _ (wX ad cI cJ cZ T S D1 Re O N Wt L P bl os kn) [(0, .ref (ad 0)), (1, .int (nI z)), (2, .int (nI i))] 9 []) ?_ (os + 1) (by omega) D 0 (by omega) (by omega) ⟨hD, fun _ _ q => q, fun _ _ _ q => q, fun j j1 j2 => by omega⟩
  intro i hi ih D1 z hz hoi hk
  refine ga_iload_n 2 C dX1_strikeOutDominators_9 rfl rfl ?_
  refine ga_aload_n 0 C dX1_strikeOutDominators_10 rfl rfl ?_
  refine gx_get_bl C in_X1_strikeOutDominators (by decide +kernel) dX1_strikeOutDominators_11 ?_
  refine gn_icmp_ge 92 C dX1_strikeOutDominators_14 (by decide) (by omega) (by omega) (fun h9 => ?_) (fun h9 => ?_)
  · obtain rfl : i = bl := by omega
    refine ga_iload_n 1 C dX1_strikeOutDominators_92 rfl rfl ?_
    refine ga_iret C hr (nar_z hz) hlk dX1_strikeOutDominators_93 D1 ⟨z, hz, rfl, hk.1, hk.2.1, hk.2.2.1, fun a b c hb hc e q => ?_⟩ rfl
    obtain ⟨j, j1, j2, rfl⟩ := hR.2.2.2.2.2.2 b (rch_s hc e)
    refine hk.2.2.2 j ?_ j2 c a hc e q
    apply Nat.lt_of_not_le
    intro y
    obtain rfl : j = os := by omega
    exact hb hR.2.2.2.1
  · have hOr := hR.2.2.2.2.1 i (by omega) h9
    have hOi := rch_lt hE.1 hOr
    refine ga_aload_n 0 C dX1_strikeOutDominators_17 rfl rfl ?_
    refine gx_get_O C in_X1_strikeOutDominators (by decide +kernel) dX1_strikeOutDominators_18 ?_
    refine ga_iload_n 2 C dX1_strikeOutDominators_21 rfl rfl ?_
    refine gx_ald_O C (by omega) dX1_strikeOutDominators_22 ?_
    refine ga_istore_n 3 C dX1_strikeOutDominators_23 rfl (by decide) rfl ?_
    refine ga_aload_n 0 C dX1_strikeOutDominators_24 rfl rfl ?_
    refine gx_get_S C in_X1_strikeOutDominators (by decide +kernel) dX1_strikeOutDominators_25 ?_
    refine ga_iload_n 3 C dX1_strikeOutDominators_28 rfl rfl ?_
    refine ga_iconst (v := nI 0) C dX1_strikeOutDominators_29 (by decide) ?_
    refine gx_cr_S C (c_next l G cI cJ cZ (ad 2) (ad 5) S (O i) 0 (by omega) (by omega)) (cwV 2 C.1.2.2.2.2 gX1_strikeOutDominators_X0_next rfl rfl rfl (by decide +kernel) ⟨Nat.le_of_ble_eq_true rfl, Nat.le_of_ble_eq_true rfl⟩) rfl rfl (Nat.le_of_ble_eq_true rfl) dX1_strikeOutDominators_30 ⟨Nat.zero_le _, Nat.zero_le _⟩ (fun r hx => ?_)
    obtain ⟨x, rfl, hx⟩ := hx
    refine ga_istore 4 C dX1_strikeOutDominators_33 (by decide) rfl ?_
    refine ga_lv (lv9 := [(0, .ref (ad 0)), (1, .int (nI z)), (2, .int (nI i)), (3, .int (nI (O i))), (4, .int (nI x))]) ⟨rfl, rfl, rfl, rfl, rfl, trivial⟩ ?_
    refine up_ind bl (P := fun st => ∀ (D1 : Nat → Int64) (z x : Nat), z < 2 → isNext (bj S (O i)) st x → kI E D D1 z O os i → (∀ c a, c < st → rch E c → E c (O i) = true → dj D1 (O i) a → a = O i ∨ dj D c a) → gG p l e _ s m _ below meth c G _ _ 0 0 _ (wX ad cI cJ cZ T S D1 Re O N Wt L P bl os kn) [(0, .ref (ad 0)), (1, .int (nI z)), (2, .int (nI i)), (3, .int (nI (O i))), (4, .int (nI x))] 35 []) ?_ 0 (by omega) D1 z x hz hx hk (fun c a q => by omega)
    clear hx x hk hz
    intro st hst ih2 D1 z x hz hx hk hp
    have hxb := next_b hx
    refine ga_iload 4 C dX1_strikeOutDominators_35 rfl ?_
    refine ga_aload_n 0 C dX1_strikeOutDominators_37 rfl rfl ?_
    refine gx_get_bl C in_X1_strikeOutDominators (by decide +kernel) dX1_strikeOutDominators_38 ?_
    refine gn_icmp_ge 86 C dX1_strikeOutDominators_41 (by decide) (by omega) (by omega) (fun h8 => ?_) (fun h8 => ?_)
    · skip
      refine ga_iinc 2 C dX1_strikeOutDominators_86 rfl (nI_inc _) (by decide) rfl ?_
      refine ga_goto 9 C dX1_strikeOutDominators_89 (by decide) ?_
      refine ga_lv (lv9 := [(0, .ref (ad 0)), (1, .int (nI z)), (2, .int (nI (i + 1)))]) ⟨rfl, rfl, rfl, trivial⟩ ?_
      refine ih (i + 1) (by omega) (by omega) D1 z hz (by omega) ⟨hk.1, hk.2.1, hk.2.2.1, fun j j1 j2 c a hc e q => ?_⟩
      by_cases hj : j = i
      · subst hj
        have hc2 := (hE.1.2.2 _ _ e).1
        by_cases h7 : c < st
        · exact hp c a h7 hc e q
        · have h6 := next_ge hx h8 c (by omega) hc2 (by omega)
          rw [hE.2.2 c (O j) (by omega) (by omega), e] at h6
          cases h6
      · exact hk.2.2.2 j j1 (by omega) c a hc e q
    · obtain ⟨hx1, hx2, hx3⟩ := next_lt hn2 hx h8
      rw [hE.2.2 x (O i) (by omega) (by omega)] at hx2
      have hRx := hR.1 x h8
      have hsk : ∀ c, st ≤ c → c < x → E c (O i) = true → False := fun c c1 c2 e => by
        have h6 := hx3 c c1 c2
        rw [hE.2.2 c (O i) (by omega) (by omega), e] at h6
        cases h6
      refine ga_tail (α := (Nat → Int64) × Nat) (H := fun q => q.2 < 2 ∧ kI E D q.1 q.2 O os i ∧ (∀ c a, c < x + 1 → rch E c → E c (O i) = true → dj q.1 (O i) a → a = O i ∨ dj D c a)) (w9 := fun q => wX ad cI cJ cZ T S q.1 Re O N Wt L P bl os kn) (lv9 := fun q => [(0, .ref (ad 0)), (1, .int (nI q.2)), (2, .int (nI i)), (3, .int (nI (O i))), (4, .int (nI x))]) (pc9 := 69) (F := fun _ => []) ?_ (fun tail => ?_)
      · rintro ⟨D2, z2⟩ ⟨y1, y2, y3⟩
        refine ga_aload_n 0 C dX1_strikeOutDominators_69 rfl rfl ?_
        refine gx_get_S C in_X1_strikeOutDominators (by decide +kernel) dX1_strikeOutDominators_70 ?_
        refine ga_iload_n 3 C dX1_strikeOutDominators_73 rfl rfl ?_
        refine ga_iload 4 C dX1_strikeOutDominators_74 rfl ?_
        refine ga_iconst (v := nI 1) C dX1_strikeOutDominators_76 (by decide) ?_
        refine ga_iadd C dX1_strikeOutDominators_77 (nI_add _ _) ?_
        refine gx_cr_S C (c_next l G cI cJ cZ (ad 2) (ad 5) S (O i) (x + 1) (by omega) (by omega)) (cwV 2 C.1.2.2.2.2 gX1_strikeOutDominators_X0_next rfl rfl rfl (by decide +kernel) ⟨Nat.le_of_ble_eq_true rfl, Nat.le_of_ble_eq_true rfl⟩) rfl rfl (Nat.le_of_ble_eq_true rfl) dX1_strikeOutDominators_78 ⟨Nat.zero_le _, Nat.zero_le _⟩ (fun r hx4 => ?_)
        obtain ⟨x2, rfl, hx4⟩ := hx4
        refine ga_istore 4 C dX1_strikeOutDominators_81 (by decide) rfl ?_
        refine ga_goto 35 C dX1_strikeOutDominators_83 (by decide) ?_
        refine ga_lv (lv9 := [(0, .ref (ad 0)), (1, .int (nI z2)), (2, .int (nI i)), (3, .int (nI (O i))), (4, .int (nI x2))]) ⟨rfl, rfl, rfl, rfl, rfl, trivial⟩ ?_
        exact ih2 (x + 1) (by omega) (by omega) D2 z2 x2 y1 hx4 y2 y3
      refine ga_aload_n 0 C dX1_strikeOutDominators_44 rfl rfl ?_
      refine gx_get_Re C in_X1_strikeOutDominators (by decide +kernel) dX1_strikeOutDominators_45 ?_
      refine ga_iload 4 C dX1_strikeOutDominators_48 rfl ?_
      refine gx_ald_Re C (by omega) dX1_strikeOutDominators_50 ?_
      refine gn_if_eq 69 C dX1_strikeOutDominators_51 (by decide) (by omega) (fun h7 => ?_) (fun h7 => ?_)
      · refine ga_lk (tail (D1, z) ⟨hz, hk, fun c a c1 hc e q => ?_⟩) ⟨rfl, rfl, rfl, rfl, rfl, trivial⟩
        by_cases c2 : c < st
        · exact hp c a c2 hc e q
        · by_cases c3 : c = x
          · subst c3
            have := hRx.2.mpr hc
            omega
          · exact absurd (hsk c (by omega) (by omega) e) (fun z => z)
      · have hrx : rch E x := hRx.2.mp (by have := hRx.1; omega)
        refine ga_aload_n 0 C dX1_strikeOutDominators_54 rfl rfl ?_
        refine gx_get_D C in_X1_strikeOutDominators (by decide +kernel) dX1_strikeOutDominators_55 ?_
        refine ga_iload_n 3 C dX1_strikeOutDominators_58 rfl rfl ?_
        refine ga_iload 4 C dX1_strikeOutDominators_59 rfl ?_
        refine gx_cw_D C (c_keep l G cI cJ cZ (ad 3) (ad 6) D1 (O i) x (by omega) (by omega)) (cwV 2 C.1.2.2.2.2 gX1_strikeOutDominators_X0_keepOthersOf rfl rfl rfl (by decide +kernel) ⟨Nat.le_of_ble_eq_true rfl, Nat.le_of_ble_eq_true rfl⟩) rfl rfl (Nat.le_of_ble_eq_true rfl) dX1_strikeOutDominators_61 ⟨Nat.zero_le _, Nat.zero_le _⟩ (fun r D2 hD2 => ?_)
        obtain ⟨⟨z2, hz2, rfl, hz20⟩, hkk⟩ := hD2
        have hkk : kK D1 D2 (O i) x := hkk
        have hp2 : ∀ c a, c < x + 1 → rch E c → E c (O i) = true → dj D2 (O i) a → a = O i ∨ dj D c a := fun c a c1 hc e q => by
          by_cases c2 : c < st
          · exact hp c a c2 hc e (kK_sub hkk _ a q)
          · by_cases c3 : c = x
            · subst c3
              rcases kK_in (by omega) hkk a q with y | y
              · exact Or.inl y
              · exact Or.inr (hk.2.1 c a y)
            · exact absurd (hsk c (by omega) (by omega) e) (fun z => z)
        refine gn_if_eq 69 C dX1_strikeOutDominators_64 (by decide) (by omega) (fun h6 => ?_) (fun h6 => ?_)
        · exact ga_lk (tail (D2, z) ⟨hz, kI_keep hE.1 hrx hx2 hkk (fun q => ⟨q, hz20 h6⟩) hk, hp2⟩) ⟨rfl, rfl, rfl, rfl, rfl, trivial⟩
        · skip
          refine ga_iconst (v := nI 1) C dX1_strikeOutDominators_67 (by decide) ?_
          refine ga_istore_n 1 C dX1_strikeOutDominators_68 rfl (by decide) rfl ?_
          exact ga_lk (tail (D2, 1) ⟨by omega, kI_keep (z2 := 1) hE.1 hrx hx2 hkk (fun q => absurd q (by decide)) hk, hp2⟩) ⟨rfl, rfl, rfl, rfl, rfl, trivial⟩

set_option maxHeartbeats 4000000 in
set_option maxRecDepth 100000 in
/-- findDominators -/
theorem c_xdom (l : Launch) (G : va_G) (cI cJ cZ : ClassId) (ad : Nat → Nat) (T S D : Nat → Int64) (Re O N Wt : Nat → Nat) (L : Nat → Int32) (P : Nat → Nat) (bl os kn : Nat) (n : Nat) (E : Nat → Nat → Bool) (hI : xI n E T S D Re O P bl os kn) : ctV l yX1_findDominators wsX1_findDominators { frames := 4, cells := 0, slots := 0, locals := 96 } G (ty3 cI cJ cZ) [.ref (ad 0)] (wX ad cI cJ cZ T S D Re O N Wt L P bl os kn) (fun (u : XS) => xIu n E u ∧ 2 ≤ u.2.2.2.2.2.2.2.2.2.2.2) (wXu ad cI cJ cZ) := by
  refine metV (cc := cX1_findDominators) (maxL := 3) (ret := none) (by decide) rfl (Nat.le_of_ble_eq_true rfl) ?_
  intro p e s m below meth c C hr hlk
  refine ga_lv (lv9 := [(0, .ref (ad 0))]) ⟨rfl, trivial⟩ ?_
  obtain ⟨hE, rfl, hkn, hR, hDm, hH⟩ := id hI
  have hn2 := xE_lt hE
  refine ga_aload_n 0 C dX1_findDominators_0 rfl rfl ?_
  refine gx_get_kn C in_X1_findDominators (by decide +kernel) dX1_findDominators_1 ?_
  refine ga_iconst (v := nI 2) C dX1_findDominators_4 (by decide) ?_
  refine gn_icmp_lt 9 C dX1_findDominators_5 (by decide) (by omega) (by omega) (fun h9 => ?_) (fun h9 => ?_)
  rotate_left
  · exact ga_vret C hr hlk dX1_findDominators_8 (T, S, D, Re, O, N, Wt, L, P, bl, os, kn) ⟨hI, h9⟩ rfl
  refine ga_aload_n 0 C dX1_findDominators_9 rfl rfl ?_
  refine gx_call_v C (c_xreach l G cI cJ cZ ad T S D Re O N Wt L P bl os kn bl E hI) (cwV 0 C.1.2.2.2.2 gX1_findDominators_X1_findReached rfl rfl rfl (by decide +kernel) ⟨Nat.le_of_ble_eq_true rfl, Nat.le_of_ble_eq_true rfl⟩) rfl rfl (Nat.le_of_ble_eq_true rfl) dX1_findDominators_10 ⟨Nat.zero_le _, Nat.zero_le _⟩ (fun T S D Re O N Wt L P bl2 os kn hI2 => ?_)
  have hI3 : xI bl E T S D Re O P bl2 os kn := hI2.1
  have hk1 : 1 ≤ kn := hI2.2
  clear hI hE hR hDm hH hI2
  obtain ⟨hE, rfl, hkn, hR, hDm, hH⟩ := id hI3
  have hR := hR hk1
  refine ga_aload_n 0 C dX1_findDominators_13 rfl rfl ?_
  refine gx_cg_v C (c_xstart l G cI cJ cZ ad T S D Re O N Wt L P bl2 os kn bl2 E hE hR rfl) (cwV 0 C.1.2.2.2.2 gX1_findDominators_X1_startDominators rfl rfl rfl (by decide +kernel) ⟨Nat.le_of_ble_eq_true rfl, Nat.le_of_ble_eq_true rfl⟩) rfl rfl (Nat.le_of_ble_eq_true rfl) dX1_findDominators_14 ⟨Nat.zero_le _, Nat.zero_le _⟩ (fun D hD => ?_)
  refine ga_iconst (v := nI 1) C dX1_findDominators_17 (by decide) ?_
  refine ga_istore_n 1 C dX1_findDominators_18 rfl (by decide) rfl ?_
  refine ga_iconst (v := nI 0) C dX1_findDominators_19 (by decide) ?_
  refine ga_istore_n 2 C dX1_findDominators_20 rfl (by decide) rfl ?_
  have hbb : bl2 * bl2 ≤ 200 * 200 := Nat.mul_le_mul hn2 hn2
  have hb1 : bl2 ≤ bl2 * bl2 := Nat.le_mul_of_pos_left _ hE.1.1
  refine ga_lv (lv9 := [(0, .ref (ad 0)), (1, .int (nI 1)), (2, .int (nI 0))]) ⟨rfl, rfl, rfl, trivial⟩ ?_
  refine up_ind (bl2 * bl2 + 1) (P := fun k => ∀ (D : Nat → Int64) (z : Nat), z < 2 → sD E D → dUp E (dj D) k → (z = 0 → dCl E (dj D) (dj D)) → gG p l e _ s m _ below meth c G _ _ 0 0 _ (wX ad cI cJ cZ T S D Re O N Wt L P bl2 os kn) [(0, .ref (ad 0)), (1, .int (nI z)), (2, .int (nI k))] 21 []) ?_ 0 (by omega) D 1 (by omega) hD (dUp_0 hD.1) (fun q => by omega)
  clear hD D
  intro k hk ih D z hz hs hu hc
  refine ga_iload_n 2 C dX1_findDominators_21 rfl rfl ?_
  refine ga_aload_n 0 C dX1_findDominators_22 rfl rfl ?_
  refine gx_get_bl C in_X1_findDominators (by decide +kernel) dX1_findDominators_23 ?_
  refine ga_aload_n 0 C dX1_findDominators_26 rfl rfl ?_
  refine gx_get_bl C in_X1_findDominators (by decide +kernel) dX1_findDominators_27 ?_
  refine ga_imul C dX1_findDominators_30 (pk_mul _ _) ?_
  refine gn_icmp_gt 49 C dX1_findDominators_31 (by decide) (by omega) (by omega) (fun h8 => ?_) (fun h8 => ?_)
  · skip
    refine ga_aload_n 0 C dX1_findDominators_49 rfl rfl ?_
    refine ga_iconst (v := nI 2) C dX1_findDominators_50 (by decide) ?_
    refine gx_put_kn C in_X1_findDominators (by decide +kernel) dX1_findDominators_51 ?_
    exact ga_vret C hr hlk dX1_findDominators_54 (T, S, D, Re, O, N, Wt, L, P, bl2, os, 2) ⟨xI_2 hE hR (sD_fin (n := bl2) hs (dUp_fin hE.1 (by omega) hu)), Nat.le_refl _⟩ rfl
  refine ga_iload_n 1 C dX1_findDominators_34 rfl rfl ?_
  refine gn_if_eq 49 C dX1_findDominators_35 (by decide) (by omega) (fun h7 => ?_) (fun h7 => ?_)
  · skip
    refine ga_aload_n 0 C dX1_findDominators_49 rfl rfl ?_
    refine ga_iconst (v := nI 2) C dX1_findDominators_50 (by decide) ?_
    refine gx_put_kn C in_X1_findDominators (by decide +kernel) dX1_findDominators_51 ?_
    exact ga_vret C hr hlk dX1_findDominators_54 (T, S, D, Re, O, N, Wt, L, P, bl2, os, 2) ⟨xI_2 hE hR (sD_fin (n := bl2) hs (dCl_fin hs.1 (hc h7))), Nat.le_refl _⟩ rfl
  refine ga_aload_n 0 C dX1_findDominators_38 rfl rfl ?_
  refine gx_cg_i C (c_xstrike l G cI cJ cZ ad T S D Re O N Wt L P bl2 os kn bl2 E hE hR rfl hs) (cwV 0 C.1.2.2.2.2 gX1_findDominators_X1_strikeOutDominators rfl rfl rfl (by decide +kernel) ⟨Nat.le_of_ble_eq_true rfl, Nat.le_of_ble_eq_true rfl⟩) rfl rfl (Nat.le_of_ble_eq_true rfl) dX1_findDominators_39 ⟨Nat.zero_le _, Nat.zero_le _⟩ (fun r D2 hD2 => ?_)
  obtain ⟨z2, hz2, rfl, y1, y2, y3, y4⟩ := hD2
  refine ga_istore_n 1 C dX1_findDominators_42 rfl (by decide) rfl ?_
  refine ga_iinc 2 C dX1_findDominators_43 rfl (nI_inc _) (by decide) rfl ?_
  refine ga_goto 21 C dX1_findDominators_46 (by decide) ?_
  refine ga_lv (lv9 := [(0, .ref (ad 0)), (1, .int (nI z2)), (2, .int (nI (k + 1)))]) ⟨rfl, rfl, rfl, trivial⟩ ?_
  refine ih (k + 1) (by omega) (by omega) D2 z2 hz2 y1 (dUp_s y1.1 (fun a b q => y2 b a q) y4 hu) (fun q a b c hb hcc e w => ?_)
  rcases y4 a b c hb hcc e w with v | v
  · exact Or.inl v
  · exact Or.inr (y3 q c a v)
set_option maxHeartbeats 4000000 in
set_option maxRecDepth 100000 in
/-- dominator -/
theorem c_xdominator (l : Launch) (G : va_G) (cI cJ cZ : ClassId) (ad : Nat → Nat) (T S D : Nat → Int64) (Re O N Wt : Nat → Nat) (L : Nat → Int32) (P : Nat → Nat) (bl os kn : Nat) (n : Nat) (E : Nat → Nat → Bool) (x : Int32) (hI : xI n E T S D Re O P bl os kn) : ctI l yX1_dominator wsX1_dominator { frames := 5, cells := 0, slots := 0, locals := 118 } G (ty3 cI cJ cZ) [.ref (ad 0), .int x] (wX ad cI cJ cZ T S D Re O N Wt L P bl os kn) (fun r (u : XS) => idP n E x r ∧ xIu n E u) (wXu ad cI cJ cZ) := by
  refine metI (cc := cX1_dominator) (maxL := 4) (ret := (some .int)) (by decide) rfl (Nat.le_of_ble_eq_true rfl) ?_
  intro p e s m below meth c C hr hlk
  refine ga_lv (lv9 := [(0, .ref (ad 0)), (1, .int x)]) ⟨rfl, rfl, trivial⟩ ?_
  obtain ⟨hE, rfl, hkn, hR, hDm, hH⟩ := id hI
  have hn2 := xE_lt hE
  refine ga_aload_n 0 C dX1_dominator_0 rfl rfl ?_
  refine ga_iload_n 1 C dX1_dominator_1 rfl rfl ?_
  refine gx_call_r C (c_xB l G cI cJ cZ ad T S D Re O N Wt L P bl os kn x hn2) (cwV 1 C.1.2.2.2.2 gX1_dominator_X1_isBlock rfl rfl rfl (by decide +kernel) ⟨Nat.le_of_ble_eq_true rfl, Nat.le_of_ble_eq_true rfl⟩) rfl rfl (Nat.le_of_ble_eq_true rfl) dX1_dominator_2 ⟨Nat.zero_le _, Nat.zero_le _⟩ (fun r hx => ?_)
  rcases hx with ⟨⟨a, ha, rfl⟩, rfl⟩ | ⟨hno, rfl⟩
  rotate_left
  · skip
    refine gn_if_ne 10 C dX1_dominator_5 (by decide) (by omega) (fun h9 => absurd rfl h9) (fun h9 => ?_)
    refine ga_iconst (v := -1) C dX1_dominator_8 (by decide) ?_
    exact ga_iret C hr rfl hlk dX1_dominator_9 (T, S, D, Re, O, N, Wt, L, P, bl, os, kn) ⟨Or.inr ⟨fun b q => hno ⟨b, q⟩, rfl⟩, hI⟩ rfl
  refine gn_if_ne 10 C dX1_dominator_5 (by decide) (by omega) (fun h9 => ?_) (fun h9 => absurd h9 (by omega))
  refine ga_aload_n 0 C dX1_dominator_10 rfl rfl ?_
  refine gx_call_v C (c_xdom l G cI cJ cZ ad T S D Re O N Wt L P bl os kn bl E hI) (cwV 0 C.1.2.2.2.2 gX1_dominator_X1_findDominators rfl rfl rfl (by decide +kernel) ⟨Nat.le_of_ble_eq_true rfl, Nat.le_of_ble_eq_true rfl⟩) rfl rfl (Nat.le_of_ble_eq_true rfl) dX1_dominator_11 ⟨Nat.zero_le _, Nat.zero_le _⟩ (fun T S D Re O N Wt L P bl2 os kn hI2 => ?_)
  have hI3 : xI bl E T S D Re O P bl2 os kn := hI2.1
  have hk1 : 2 ≤ kn := hI2.2
  clear hI hE hR hDm hH hI2
  obtain ⟨hE, rfl, hkn, hR, hDm, hH⟩ := id hI3
  have hR := hR (by omega)
  have hDm := hDm hk1
  refine ga_aload_n 0 C dX1_dominator_14 rfl rfl ?_
  refine gx_get_D C in_X1_dominator (by decide +kernel) dX1_dominator_15 ?_
  refine ga_iload_n 1 C dX1_dominator_18 rfl rfl ?_
  refine gx_cr_D C (c_count l G cI cJ cZ (ad 3) (ad 6) D a (by omega)) (cwV 1 C.1.2.2.2.2 gX1_dominator_X0_count rfl rfl rfl (by decide +kernel) ⟨Nat.le_of_ble_eq_true rfl, Nat.le_of_ble_eq_true rfl⟩) rfl rfl (Nat.le_of_ble_eq_true rfl) dX1_dominator_19 ⟨Nat.zero_le _, Nat.zero_le _⟩ (fun r hc => ?_)
  rw [rnk_256 hE.1 hDm (by omega)] at hc
  subst hc
  have hra : rnk bl2 E a ≤ bl2 := cnP_le _
  refine ga_iconst (v := nI 1) C dX1_dominator_22 (by decide) ?_
  refine ga_isub C dX1_dominator_23 rfl ?_
  refine ga_istore_n 2 C dX1_dominator_24 rfl (by decide) rfl ?_
  refine ga_aload_n 0 C dX1_dominator_25 rfl rfl ?_
  refine gx_get_D C in_X1_dominator (by decide +kernel) dX1_dominator_26 ?_
  refine ga_iload_n 1 C dX1_dominator_29 rfl rfl ?_
  refine ga_iconst (v := nI 0) C dX1_dominator_30 (by decide) ?_
  refine gx_cr_D C (c_next l G cI cJ cZ (ad 3) (ad 6) D a 0 (by omega) (by omega)) (cwV 2 C.1.2.2.2.2 gX1_dominator_X0_next rfl rfl rfl (by decide +kernel) ⟨Nat.le_of_ble_eq_true rfl, Nat.le_of_ble_eq_true rfl⟩) rfl rfl (Nat.le_of_ble_eq_true rfl) dX1_dominator_31 ⟨Nat.zero_le _, Nat.zero_le _⟩ (fun r hx => ?_)
  obtain ⟨x, rfl, hx⟩ := hx
  refine ga_istore_n 3 C dX1_dominator_34 rfl (by decide) rfl ?_
  refine ga_lv (lv9 := [(0, .ref (ad 0)), (1, .int (nI a)), (2, .int (nI (rnk bl2 E a) - nI 1)), (3, .int (nI x))]) ⟨rfl, rfl, rfl, rfl, trivial⟩ ?_
  refine up_ind bl2 (P := fun st => ∀ x, isNext (bj D a) st x → (∀ d, d < st → dmn E d a → rnk bl2 E d + 1 ≠ rnk bl2 E a) → gG p l e _ s m _ below meth c G _ _ 0 0 _ (wX ad cI cJ cZ T S D Re O N Wt L P bl2 os kn) [(0, .ref (ad 0)), (1, .int (nI a)), (2, .int (nI (rnk bl2 E a) - nI 1)), (3, .int (nI x))] 35 []) ?_ 0 (by omega) x hx (fun d q => by omega)
  clear hx x
  intro st hst ih x hx hno
  have hxb := next_b hx
  refine ga_iload_n 3 C dX1_dominator_35 rfl rfl ?_
  refine ga_aload_n 0 C dX1_dominator_36 rfl rfl ?_
  refine gx_get_bl C in_X1_dominator (by decide +kernel) dX1_dominator_37 ?_
  refine gn_icmp_ge 72 C dX1_dominator_40 (by decide) (by omega) (by omega) (fun h8 => ?_) (fun h8 => ?_)
  · skip
    refine ga_iconst (v := -1) C dX1_dominator_72 (by decide) ?_
    refine ga_iret C hr rfl hlk dX1_dominator_73 (T, S, D, Re, O, N, Wt, L, P, bl2, os, kn) ⟨Or.inl ⟨a, ⟨ha, rfl⟩, isId_none hE.1 (fun d hd => ?_)⟩, hI3⟩ rfl
    by_cases h7 : d < st
    · exact hno d h7 hd
    · have h5 := dmn_lt hE.1 hd
      have h6 := next_ge hx h8 d (by omega) h5 (by omega)
      rw [(hDm a d (by omega) (by omega)).mpr hd] at h6
      cases h6
  · obtain ⟨hx1, hx2, hx3⟩ := next_lt hn2 hx h8
    have hdx := (hDm a x (by omega) (by omega)).mp hx2
    have hrx : rnk bl2 E x ≤ bl2 := cnP_le _
    refine ga_aload_n 0 C dX1_dominator_43 rfl rfl ?_
    refine gx_get_D C in_X1_dominator (by decide +kernel) dX1_dominator_44 ?_
    refine ga_iload_n 3 C dX1_dominator_47 rfl rfl ?_
    refine gx_cr_D C (c_count l G cI cJ cZ (ad 3) (ad 6) D x (by omega)) (cwV 1 C.1.2.2.2.2 gX1_dominator_X0_count rfl rfl rfl (by decide +kernel) ⟨Nat.le_of_ble_eq_true rfl, Nat.le_of_ble_eq_true rfl⟩) rfl rfl (Nat.le_of_ble_eq_true rfl) dX1_dominator_48 ⟨Nat.zero_le _, Nat.zero_le _⟩ (fun r hc => ?_)
    rw [rnk_256 hE.1 hDm (by omega)] at hc
    subst hc
    refine ga_iload_n 2 C dX1_dominator_51 rfl rfl ?_
    refine ga_icmp_ne 57 C dX1_dominator_52 (by decide) (fun h7 => ?_) (fun h7 => ?_)
    · skip
      refine ga_aload_n 0 C dX1_dominator_57 rfl rfl ?_
      refine gx_get_D C in_X1_dominator (by decide +kernel) dX1_dominator_58 ?_
      refine ga_iload_n 1 C dX1_dominator_61 rfl rfl ?_
      refine ga_iload_n 3 C dX1_dominator_62 rfl rfl ?_
      refine ga_iconst (v := nI 1) C dX1_dominator_63 (by decide) ?_
      refine ga_iadd C dX1_dominator_64 (nI_add _ _) ?_
      refine gx_cr_D C (c_next l G cI cJ cZ (ad 3) (ad 6) D a (x + 1) (by omega) (by omega)) (cwV 2 C.1.2.2.2.2 gX1_dominator_X0_next rfl rfl rfl (by decide +kernel) ⟨Nat.le_of_ble_eq_true rfl, Nat.le_of_ble_eq_true rfl⟩) rfl rfl (Nat.le_of_ble_eq_true rfl) dX1_dominator_65 ⟨Nat.zero_le _, Nat.zero_le _⟩ (fun r hx4 => ?_)
      obtain ⟨x2, rfl, hx4⟩ := hx4
      refine ga_istore_n 3 C dX1_dominator_68 rfl (by decide) rfl ?_
      refine ga_goto 35 C dX1_dominator_69 (by decide) ?_
      refine ga_lv (lv9 := [(0, .ref (ad 0)), (1, .int (nI a)), (2, .int (nI (rnk bl2 E a) - nI 1)), (3, .int (nI x2))]) ⟨rfl, rfl, rfl, rfl, trivial⟩ ?_
      refine ih (x + 1) (by omega) (by omega) x2 hx4 (fun d hd1 hd2 => ?_)
      by_cases h6 : d < st
      · exact hno d h6 hd2
      · by_cases h5 : d = x
        · subst h5
          exact fun q => h7 ((due_eq (by omega) (by omega)).mpr q)
        · have h4 := hx3 d (by omega) (by omega)
          rw [(hDm a d (by omega) (by omega)).mpr hd2] at h4
          cases h4
    · skip
      refine ga_iload_n 3 C dX1_dominator_55 rfl rfl ?_
      exact ga_iret C hr rfl hlk dX1_dominator_56 (T, S, D, Re, O, N, Wt, L, P, bl2, os, kn) ⟨Or.inl ⟨a, ⟨ha, rfl⟩, isId_some hE.1 hdx ((due_eq (by omega) (by omega)).mp h7)⟩, hI3⟩ rfl
set_option maxHeartbeats 4000000 in
set_option maxRecDepth 100000 in
/-- dominates -/
theorem c_xdominates (l : Launch) (G : va_G) (cI cJ cZ : ClassId) (ad : Nat → Nat) (T S D : Nat → Int64) (Re O N Wt : Nat → Nat) (L : Nat → Int32) (P : Nat → Nat) (bl os kn : Nat) (n : Nat) (E : Nat → Nat → Bool) (x y : Int32) (hI : xI n E T S D Re O P bl os kn) : ctI l yX1_dominates wsX1_dominates { frames := 5, cells := 0, slots := 0, locals := 118 } G (ty3 cI cJ cZ) [.ref (ad 0), .int x, .int y] (wX ad cI cJ cZ T S D Re O N Wt L P bl os kn) (fun r (u : XS) => yn (∃ a b, isB n x a ∧ isB n y b ∧ dmn E a b) r ∧ xIu n E u) (wXu ad cI cJ cZ) := by
  refine metI (cc := cX1_dominates) (maxL := 3) (ret := (some .boolean)) (by decide) rfl (Nat.le_of_ble_eq_true rfl) ?_
  intro p e s m below meth c C hr hlk
  refine ga_lv (lv9 := [(0, .ref (ad 0)), (1, .int x), (2, .int y)]) ⟨rfl, rfl, rfl, trivial⟩ ?_
  obtain ⟨hE, rfl, hkn, hR, hDm, hH⟩ := id hI
  have hn2 := xE_lt hE
  refine ga_aload_n 0 C dX1_dominates_0 rfl rfl ?_
  refine ga_iload_n 1 C dX1_dominates_1 rfl rfl ?_
  refine gx_call_r C (c_xB l G cI cJ cZ ad T S D Re O N Wt L P bl os kn x hn2) (cwV 1 C.1.2.2.2.2 gX1_dominates_X1_isBlock rfl rfl rfl (by decide +kernel) ⟨Nat.le_of_ble_eq_true rfl, Nat.le_of_ble_eq_true rfl⟩) rfl rfl (Nat.le_of_ble_eq_true rfl) dX1_dominates_2 ⟨Nat.zero_le _, Nat.zero_le _⟩ (fun r hx => ?_)
  rcases hx with ⟨⟨a, ha, rfl⟩, rfl⟩ | ⟨hno, rfl⟩
  rotate_left
  · skip
    refine gn_if_eq 16 C dX1_dominates_5 (by decide) (by omega) (fun h9 => ?_) (fun h9 => absurd rfl h9)
    refine ga_iconst (v := nI 0) C dX1_dominates_16 (by decide) ?_
    exact ga_iret C hr (nar_z (by omega)) hlk dX1_dominates_17 (T, S, D, Re, O, N, Wt, L, P, bl, os, kn) ⟨Or.inr ⟨fun ⟨a, b, q, _⟩ => hno ⟨a, q⟩, rfl⟩, hI⟩ rfl
  refine gn_if_eq 16 C dX1_dominates_5 (by decide) (by omega) (fun h9 => absurd h9 (by omega)) (fun h9 => ?_)
  refine ga_aload_n 0 C dX1_dominates_8 rfl rfl ?_
  refine ga_iload_n 2 C dX1_dominates_9 rfl rfl ?_
  refine gx_call_r C (c_xB l G cI cJ cZ ad T S D Re O N Wt L P bl os kn y hn2) (cwV 1 C.1.2.2.2.2 gX1_dominates_X1_isBlock rfl rfl rfl (by decide +kernel) ⟨Nat.le_of_ble_eq_true rfl, Nat.le_of_ble_eq_true rfl⟩) rfl rfl (Nat.le_of_ble_eq_true rfl) dX1_dominates_10 ⟨Nat.zero_le _, Nat.zero_le _⟩ (fun r hy => ?_)
  rcases hy with ⟨⟨b, hb, rfl⟩, rfl⟩ | ⟨hno, rfl⟩
  rotate_left
  · skip
    refine gn_if_ne 18 C dX1_dominates_13 (by decide) (by omega) (fun h9 => absurd rfl h9) (fun h9 => ?_)
    refine ga_iconst (v := nI 0) C dX1_dominates_16 (by decide) ?_
    exact ga_iret C hr (nar_z (by omega)) hlk dX1_dominates_17 (T, S, D, Re, O, N, Wt, L, P, bl, os, kn) ⟨Or.inr ⟨fun ⟨a, b, _, q, _⟩ => hno ⟨b, q⟩, rfl⟩, hI⟩ rfl
  refine gn_if_ne 18 C dX1_dominates_13 (by decide) (by omega) (fun h9 => ?_) (fun h9 => absurd h9 (by omega))
  refine ga_aload_n 0 C dX1_dominates_18 rfl rfl ?_
  refine gx_call_v C (c_xdom l G cI cJ cZ ad T S D Re O N Wt L P bl os kn bl E hI) (cwV 0 C.1.2.2.2.2 gX1_dominates_X1_findDominators rfl rfl rfl (by decide +kernel) ⟨Nat.le_of_ble_eq_true rfl, Nat.le_of_ble_eq_true rfl⟩) rfl rfl (Nat.le_of_ble_eq_true rfl) dX1_dominates_19 ⟨Nat.zero_le _, Nat.zero_le _⟩ (fun T S D Re O N Wt L P bl2 os kn hI2 => ?_)
  have hI3 : xI bl E T S D Re O P bl2 os kn := hI2.1
  have hk1 : 2 ≤ kn := hI2.2
  clear hI hE hR hDm hH hI2
  obtain ⟨hE, rfl, hkn, hR, hDm, hH⟩ := id hI3
  have hR := hR (by omega)
  have hDm := hDm hk1
  refine ga_aload_n 0 C dX1_dominates_22 rfl rfl ?_
  refine gx_get_D C in_X1_dominates (by decide +kernel) dX1_dominates_23 ?_
  refine ga_iload_n 2 C dX1_dominates_26 rfl rfl ?_
  refine ga_iload_n 1 C dX1_dominates_27 rfl rfl ?_
  refine gx_cr_D C (c_holds l G cI cJ cZ (ad 3) (ad 6) D b a (by omega) (by omega)) (cwV 2 C.1.2.2.2.2 gX1_dominates_X0_holds rfl rfl rfl (by decide +kernel) ⟨Nat.le_of_ble_eq_true rfl, Nat.le_of_ble_eq_true rfl⟩) rfl rfl (Nat.le_of_ble_eq_true rfl) dX1_dominates_28 ⟨Nat.zero_le _, Nat.zero_le _⟩ (fun r hh => ?_)
  subst hh
  refine ga_iret C hr (nar_z (btl _)) hlk dX1_dominates_31 (T, S, D, Re, O, N, Wt, L, P, bl2, os, kn) ⟨?_, hI3⟩ rfl
  have hd := hDm b a (by omega) (by omega)
  cases hq : bj D b a with
  | true => exact Or.inl ⟨⟨a, b, ⟨ha, rfl⟩, ⟨hb, rfl⟩, hd.mp hq⟩, rfl⟩
  | false =>
    refine Or.inr ⟨?_, rfl⟩
    rintro ⟨a2, b2, q1, q2, q3⟩
    obtain rfl := isB_un hn2 q1 ⟨ha, rfl⟩
    obtain rfl := isB_un hn2 q2 ⟨hb, rfl⟩
    rw [hd.mpr q3] at hq
    cases hq
set_option maxHeartbeats 4000000 in
set_option maxRecDepth 100000 in
/-- isHead -/
theorem c_xisHead (l : Launch) (G : va_G) (cI cJ cZ : ClassId) (ad : Nat → Nat) (T S D : Nat → Int64) (Re O N Wt : Nat → Nat) (L : Nat → Int32) (P : Nat → Nat) (bl os kn : Nat) (n : Nat) (E : Nat → Nat → Bool) (h : Nat) (hE : xE n E T S) (hDm : xD E D) (hbl : bl = n) (hh : h < n) : ctI l yX1_isHead wsX1_isHead { frames := 2, cells := 0, slots := 0, locals := 50 } G (ty3 cI cJ cZ) [.ref (ad 0), .int (nI h)] (wX ad cI cJ cZ T S D Re O N Wt L P bl os kn) (fun r (_ : Unit) => yn (hdd E h) r) (fun _ => wX ad cI cJ cZ T S D Re O N Wt L P bl os kn) := by
  refine metI (cc := cX1_isHead) (maxL := 3) (ret := (some .boolean)) (by decide) rfl (Nat.le_of_ble_eq_true rfl) ?_
  intro p e s m below meth c C hr hlk
  refine ga_lv (lv9 := [(0, .ref (ad 0)), (1, .int (nI h))]) ⟨rfl, rfl, trivial⟩ ?_
  subst hbl
  have hn2 := xE_lt hE
  refine ga_aload_n 0 C dX1_isHead_0 rfl rfl ?_
  refine gx_get_S C in_X1_isHead (by decide +kernel) dX1_isHead_1 ?_
  refine ga_iload_n 1 C dX1_isHead_4 rfl rfl ?_
  refine ga_iconst (v := nI 0) C dX1_isHead_5 (by decide) ?_
  refine gx_cr_S C (c_next l G cI cJ cZ (ad 2) (ad 5) S h 0 (by omega) (by omega)) (cwV 2 C.1.2.2.2.2 gX1_isHead_X0_next rfl rfl rfl (by decide +kernel) ⟨Nat.le_of_ble_eq_true rfl, Nat.le_of_ble_eq_true rfl⟩) rfl rfl (Nat.le_of_ble_eq_true rfl) dX1_isHead_6 ⟨Nat.zero_le _, Nat.zero_le _⟩ (fun r hx => ?_)
  obtain ⟨x, rfl, hx⟩ := hx
  refine ga_istore_n 2 C dX1_isHead_9 rfl (by decide) rfl ?_
  refine ga_lv (lv9 := [(0, .ref (ad 0)), (1, .int (nI h)), (2, .int (nI x))]) ⟨rfl, rfl, rfl, trivial⟩ ?_
  refine up_ind bl (P := fun st => ∀ x, isNext (bj S h) st x → (∀ d, d < st → E d h = true → ¬ dmn E h d) → gG p l e _ s m _ below meth c G _ _ 0 0 _ (wX ad cI cJ cZ T S D Re O N Wt L P bl os kn) [(0, .ref (ad 0)), (1, .int (nI h)), (2, .int (nI x))] 10 []) ?_ 0 (by omega) x hx (fun d q => by omega)
  clear hx x
  intro st hst ih x hx hno
  have hxb := next_b hx
  refine ga_iload_n 2 C dX1_isHead_10 rfl rfl ?_
  refine ga_aload_n 0 C dX1_isHead_11 rfl rfl ?_
  refine gx_get_bl C in_X1_isHead (by decide +kernel) dX1_isHead_12 ?_
  refine gn_icmp_ge 47 C dX1_isHead_15 (by decide) (by omega) (by omega) (fun h8 => ?_) (fun h8 => ?_)
  · skip
    refine ga_iconst (v := nI 0) C dX1_isHead_47 (by decide) ?_
    refine ga_iret C hr (nar_z (by omega)) hlk dX1_isHead_48 () (Or.inr ⟨?_, rfl⟩) rfl
    rintro ⟨d, q1, q2⟩
    by_cases h7 : d < st
    · exact hno d h7 q2 q1
    · have h5 := (hE.1.2.2 _ _ q2).1
      have h6 := next_ge hx h8 d (by omega) h5 (by omega)
      rw [hE.2.2 d h (by omega) (by omega), q2] at h6
      cases h6
  · obtain ⟨hx1, hx2, hx3⟩ := next_lt hn2 hx h8
    rw [hE.2.2 x h (by omega) (by omega)] at hx2
    refine ga_aload_n 0 C dX1_isHead_18 rfl rfl ?_
    refine gx_get_D C in_X1_isHead (by decide +kernel) dX1_isHead_19 ?_
    refine ga_iload_n 2 C dX1_isHead_22 rfl rfl ?_
    refine ga_iload_n 1 C dX1_isHead_23 rfl rfl ?_
    refine gx_cr_D C (c_holds l G cI cJ cZ (ad 3) (ad 6) D x h (by omega) (by omega)) (cwV 2 C.1.2.2.2.2 gX1_isHead_X0_holds rfl rfl rfl (by decide +kernel) ⟨Nat.le_of_ble_eq_true rfl, Nat.le_of_ble_eq_true rfl⟩) rfl rfl (Nat.le_of_ble_eq_true rfl) dX1_isHead_24 ⟨Nat.zero_le _, Nat.zero_le _⟩ (fun r hb => ?_)
    subst hb
    have hd := hDm x h (by omega) (by omega)
    have hbl2 := btl (bj D x h)
    refine gn_if_eq 32 C dX1_isHead_27 (by decide) (by omega) (fun h7 => ?_) (fun h7 => ?_)
    · skip
      refine ga_aload_n 0 C dX1_isHead_32 rfl rfl ?_
      refine gx_get_S C in_X1_isHead (by decide +kernel) dX1_isHead_33 ?_
      refine ga_iload_n 1 C dX1_isHead_36 rfl rfl ?_
      refine ga_iload_n 2 C dX1_isHead_37 rfl rfl ?_
      refine ga_iconst (v := nI 1) C dX1_isHead_38 (by decide) ?_
      refine ga_iadd C dX1_isHead_39 (nI_add _ _) ?_
      refine gx_cr_S C (c_next l G cI cJ cZ (ad 2) (ad 5) S h (x + 1) (by omega) (by omega)) (cwV 2 C.1.2.2.2.2 gX1_isHead_X0_next rfl rfl rfl (by decide +kernel) ⟨Nat.le_of_ble_eq_true rfl, Nat.le_of_ble_eq_true rfl⟩) rfl rfl (Nat.le_of_ble_eq_true rfl) dX1_isHead_40 ⟨Nat.zero_le _, Nat.zero_le _⟩ (fun r hx4 => ?_)
      obtain ⟨x2, rfl, hx4⟩ := hx4
      refine ga_istore_n 2 C dX1_isHead_43 rfl (by decide) rfl ?_
      refine ga_goto 10 C dX1_isHead_44 (by decide) ?_
      refine ga_lv (lv9 := [(0, .ref (ad 0)), (1, .int (nI h)), (2, .int (nI x2))]) ⟨rfl, rfl, rfl, trivial⟩ ?_
      refine ih (x + 1) (by omega) (by omega) x2 hx4 (fun d hd1 hd2 => ?_)
      by_cases h6 : d < st
      · exact hno d h6 hd2
      · by_cases h5 : d = x
        · subst h5
          intro q
          rw [hd.mpr q] at h7
          cases h7
        · have h4 := hx3 d (by omega) (by omega)
          rw [hE.2.2 d h (by omega) (by omega), hd2] at h4
          cases h4
    · skip
      refine ga_iconst (v := nI 1) C dX1_isHead_30 (by decide) ?_
      refine ga_iret C hr (nar_z (by omega)) hlk dX1_isHead_31 () (Or.inl ⟨⟨x, hd.mp ?_, hx2⟩, rfl⟩) rfl
      cases hq : bj D x h with
      | true => rfl
      | false => rw [hq] at h7; exact absurd rfl h7
set_option maxHeartbeats 4000000 in
set_option maxRecDepth 100000 in
/-- head -/
theorem c_xhead (l : Launch) (G : va_G) (cI cJ cZ : ClassId) (ad : Nat → Nat) (T S D : Nat → Int64) (Re O N Wt : Nat → Nat) (L : Nat → Int32) (P : Nat → Nat) (bl os kn : Nat) (n : Nat) (E : Nat → Nat → Bool) (x : Int32) (hI : xI n E T S D Re O P bl os kn) : ctI l yX1_head wsX1_head { frames := 5, cells := 0, slots := 0, locals := 118 } G (ty3 cI cJ cZ) [.ref (ad 0), .int x] (wX ad cI cJ cZ T S D Re O N Wt L P bl os kn) (fun r (u : XS) => yn (∃ b, isB n x b ∧ hdd E b) r ∧ xIu n E u) (wXu ad cI cJ cZ) := by
  refine metI (cc := cX1_head) (maxL := 2) (ret := (some .boolean)) (by decide) rfl (Nat.le_of_ble_eq_true rfl) ?_
  intro p e s m below meth c C hr hlk
  refine ga_lv (lv9 := [(0, .ref (ad 0)), (1, .int x)]) ⟨rfl, rfl, trivial⟩ ?_
  obtain ⟨hE, rfl, hkn, hR, hDm, hH⟩ := id hI
  have hn2 := xE_lt hE
  refine ga_aload_n 0 C dX1_head_0 rfl rfl ?_
  refine ga_iload_n 1 C dX1_head_1 rfl rfl ?_
  refine gx_call_r C (c_xB l G cI cJ cZ ad T S D Re O N Wt L P bl os kn x hn2) (cwV 1 C.1.2.2.2.2 gX1_head_X1_isBlock rfl rfl rfl (by decide +kernel) ⟨Nat.le_of_ble_eq_true rfl, Nat.le_of_ble_eq_true rfl⟩) rfl rfl (Nat.le_of_ble_eq_true rfl) dX1_head_2 ⟨Nat.zero_le _, Nat.zero_le _⟩ (fun r hx => ?_)
  rcases hx with ⟨⟨a, ha, rfl⟩, rfl⟩ | ⟨hno, rfl⟩
  rotate_left
  · skip
    refine gn_if_ne 10 C dX1_head_5 (by decide) (by omega) (fun h9 => absurd rfl h9) (fun h9 => ?_)
    refine ga_iconst (v := nI 0) C dX1_head_8 (by decide) ?_
    exact ga_iret C hr (nar_z (by omega)) hlk dX1_head_9 (T, S, D, Re, O, N, Wt, L, P, bl, os, kn) ⟨Or.inr ⟨fun ⟨b, q, _⟩ => hno ⟨b, q⟩, rfl⟩, hI⟩ rfl
  refine gn_if_ne 10 C dX1_head_5 (by decide) (by omega) (fun h9 => ?_) (fun h9 => absurd h9 (by omega))
  refine ga_aload_n 0 C dX1_head_10 rfl rfl ?_
  refine gx_call_v C (c_xdom l G cI cJ cZ ad T S D Re O N Wt L P bl os kn bl E hI) (cwV 0 C.1.2.2.2.2 gX1_head_X1_findDominators rfl rfl rfl (by decide +kernel) ⟨Nat.le_of_ble_eq_true rfl, Nat.le_of_ble_eq_true rfl⟩) rfl rfl (Nat.le_of_ble_eq_true rfl) dX1_head_11 ⟨Nat.zero_le _, Nat.zero_le _⟩ (fun T S D Re O N Wt L P bl2 os kn hI2 => ?_)
  have hI3 : xI bl E T S D Re O P bl2 os kn := hI2.1
  have hk1 : 2 ≤ kn := hI2.2
  clear hI hE hR hDm hH hI2
  obtain ⟨hE, rfl, hkn, hR, hDm, hH⟩ := id hI3
  have hR := hR (by omega)
  have hDm := hDm hk1
  refine ga_aload_n 0 C dX1_head_14 rfl rfl ?_
  refine ga_iload_n 1 C dX1_head_15 rfl rfl ?_
  refine gx_call_r C (c_xisHead l G cI cJ cZ ad T S D Re O N Wt L P bl2 os kn bl2 E a hE hDm rfl ha) (cwV 1 C.1.2.2.2.2 gX1_head_X1_isHead rfl rfl rfl (by decide +kernel) ⟨Nat.le_of_ble_eq_true rfl, Nat.le_of_ble_eq_true rfl⟩) rfl rfl (Nat.le_of_ble_eq_true rfl) dX1_head_16 ⟨Nat.zero_le _, Nat.zero_le _⟩ (fun r hh => ?_)
  refine ga_iret C hr (yn_nar hh) hlk dX1_head_19 (T, S, D, Re, O, N, Wt, L, P, bl2, os, kn) ⟨?_, hI3⟩ rfl
  rcases hh with ⟨q, e⟩ | ⟨q, e⟩
  · exact Or.inl ⟨⟨a, ⟨ha, rfl⟩, q⟩, e⟩
  · refine Or.inr ⟨?_, e⟩
    rintro ⟨b, q1, q2⟩
    obtain rfl := isB_un hn2 q1 ⟨ha, rfl⟩
    exact q q2
end
section
def lpI (n : Nat) (E : Nat → Nat → Bool) (h : Nat) (L0 : Nat → Int32) (P0 Wt : Nat → Nat) (L : Nat → Int32) (P : Nat → Nat) (en : Nat) : Prop :=
  cnP (fun b => L b = nI h) n = en + 1 ∧ (∀ b, b < n → L b = nI h ∨ L b = L0 b) ∧ (∀ b, b < n → (L b = nI h → P b = P0 b + 1) ∧ (L b ≠ nI h → P b = P0 b)) ∧ L h = nI h ∧
  (∀ k, k < en → Wt k < n ∧ Wt k ≠ h ∧ L (Wt k) = nI h) ∧ (∀ b, b < n → L b = nI h → b = h ∨ ∃ k, k < en ∧ Wt k = b) ∧ (∀ b, b < n → L b = nI h → inl E h b)
theorem lpI_init {n : Nat} {E : Nat → Nat → Bool} {h : Nat} {L0 : Nat → Int32} {P0 Wt : Nat → Nat} (hh : h < n) (h0 : ∀ b, b < n → L0 b ≠ nI h) : lpI n E h L0 P0 Wt (upd L0 h (nI h)) (upN P0 h (P0 h + 1)) 0 := by
  have hm : ∀ b, b < n → (upd L0 h (nI h) b = nI h ↔ b = h) := fun b hb => by
    by_cases q : b = h
    · rw [q, pk_us]; simp
    · rw [pk_un q]; exact ⟨fun z => absurd z (h0 b hb), fun z => absurd z q⟩
  refine ⟨?_, fun b hb => ?_, fun b hb => ⟨fun z => ?_, fun z => ?_⟩, pk_us, fun k hk => by omega, fun b hb z => Or.inl ((hm b hb).mp z), fun b hb z => Or.inl ((hm b hb).mp z)⟩
  · have h2 : cnP (fun b => upd L0 h (nI h) b = nI h) n = cnP (fun _ => False) n + 1 := cnP_add (a := h) (fun k hk => by rw [hm k hk]; simp) hh (fun q => q)
    have h3 : cnP (fun _ => False) n = 0 := by
      have := cnP_ext (P := fun _ => False) (n := 0) (m := n) (by omega) (fun _ _ _ q => q)
      rw [this]; rfl
    omega
  · by_cases q : b = h
    · rw [q, pk_us]; exact Or.inl rfl
    · rw [pk_un q]; exact Or.inr rfl
  · rw [(hm b hb).mp z, upN_s]
  · rw [upN_n (fun q => z ((hm b hb).mpr q))]
def jnP (bl : Nat) (Wt : Nat → Nat) (L : Nat → Int32) (P : Nat → Nat) (b h en : Nat) (r : Int32) (u : (Nat → Nat) × (Nat → Int32) × (Nat → Nat)) : Prop :=
  ((L b = nI h ∨ bl ≤ en) ∧ r = nI en ∧ u = (Wt, L, P)) ∨ (L b ≠ nI h ∧ en < bl ∧ r = nI (en + 1) ∧ u = (upN Wt en b, upd L b (nI h), upN P b (P b + 1)))
theorem lpI_join {n : Nat} {E : Nat → Nat → Bool} {h : Nat} {L0 : Nat → Int32} {P0 Wt : Nat → Nat} {L : Nat → Int32} {P : Nat → Nat} {en b : Nat} {r : Int32} {Wt2 : Nat → Nat} {L2 : Nat → Int32} {P2 : Nat → Nat} (h0 : ∀ b, b < n → L0 b ≠ nI h) (hc : lpI n E h L0 P0 Wt L P en) (hb : b < n) (hin : inl E h b) (hj : jnP n Wt L P b h en r (Wt2, L2, P2)) :
    ∃ en2, r = nI en2 ∧ en ≤ en2 ∧ en2 < n ∧ lpI n E h L0 P0 Wt2 L2 P2 en2 ∧ L2 b = nI h ∧ (∀ x, L x = nI h → L2 x = nI h) ∧ ∀ k, k < en → Wt2 k = Wt k := by
  obtain ⟨c1, c2, c3, c4, c5, c6, c7⟩ := id hc
  have hle := cnP_le (P := fun b => L b = nI h) n
  rcases hj with ⟨q, rfl, e⟩ | ⟨q, q2, rfl, e⟩
  · injection e with e1 e2
    injection e2 with e2 e3
    subst e1; subst e2; subst e3
    exact ⟨en, rfl, Nat.le_refl _, by omega, hc, q.resolve_right (by omega), fun _ z => z, fun _ _ => rfl⟩
  · injection e with e1 e2
    injection e2 with e2 e3
    subst e1; subst e2; subst e3
    have hbh : b ≠ h := fun z => q (by rw [z]; exact c4)
    have hm : ∀ x, L x = nI h → upd L b (nI h) x = nI h := fun x z => by
      by_cases y : x = b
      · rw [y, pk_us]
      · rw [pk_un y]; exact z
    have hcn : cnP (fun x => upd L b (nI h) x = nI h) n = cnP (fun x => L x = nI h) n + 1 := cnP_add (a := b) (fun k hk => by
      by_cases y : k = b
      · rw [y, pk_us]; simp
      · rw [pk_un y]; simp [y]) hb q
    have hle2 := cnP_le (P := fun x => upd L b (nI h) x = nI h) n
    refine ⟨en + 1, rfl, by omega, by omega, ⟨by omega, fun x hx => ?_, fun x hx => ⟨fun z => ?_, fun z => ?_⟩, hm h c4, fun k hk => ?_, fun x hx z => ?_, fun x hx z => ?_⟩, pk_us, hm, fun k hk => upN_n (by omega)⟩
    · by_cases y : x = b
      · rw [y, pk_us]; exact Or.inl rfl
      · rw [pk_un y]; exact c2 x hx
    · by_cases y : x = b
      · rw [y, upN_s, (c3 b hb).2 q]
      · rw [pk_un y] at z
        rw [upN_n y]; exact (c3 x hx).1 z
    · by_cases y : x = b
      · rw [y, pk_us] at z; exact absurd rfl z
      · rw [pk_un y] at z
        rw [upN_n y]; exact (c3 x hx).2 z
    · by_cases y : k = en
      · rw [y, upN_s]; exact ⟨hb, hbh, pk_us⟩
      · rw [upN_n y]
        have := c5 k (by omega)
        exact ⟨this.1, this.2.1, hm _ this.2.2⟩
    · by_cases y : x = b
      · exact Or.inr ⟨en, by omega, by rw [upN_s, y]⟩
      · rw [pk_un y] at z
        rcases c6 x hx z with v | ⟨k, k1, k2⟩
        · exact Or.inl v
        · exact Or.inr ⟨k, by omega, by rw [upN_n (by omega)]; exact k2⟩
    · by_cases y : x = b
      · rw [y]; exact hin
      · rw [pk_un y] at z; exact c7 x hx z
theorem inl_latch {E : Nat → Nat → Bool} {h d : Nat} (hd : dmn E h d) (e : E d h = true) : inl E h d := by
  by_cases q : d = h
  · exact Or.inl q
  · exact Or.inr ⟨hd.1, rc_src ⟨q, hd, e⟩⟩
theorem inl_back {E : Nat → Nat → Bool} {h b d : Nat} (hb : inl E h b) (hbh : b ≠ h) (hd : rch E d) (e : E d b = true) : inl E h d := by
  by_cases q : d = h
  · exact Or.inl q
  · exact Or.inr ⟨hd, rc_step (hb.resolve_left hbh).2 e q⟩

set_option maxHeartbeats 4000000 in
set_option maxRecDepth 100000 in
/-- joinLoop -/
theorem c_xjoin (l : Launch) (G : va_G) (cI cJ cZ : ClassId) (ad : Nat → Nat) (T S D : Nat → Int64) (Re O N Wt : Nat → Nat) (L : Nat → Int32) (P : Nat → Nat) (bl os kn : Nat) (b h en : Nat) (hbl : bl ≤ 200) (hb : b < bl) (hh : h < bl) (hen : en ≤ 200) : ctI l yX1_joinLoop wsX1_joinLoop { frames := 0, cells := 0, slots := 0, locals := 0 } G (ty3 cI cJ cZ) [.ref (ad 0), .int (nI b), .int (nI h), .int (nI en)] (wX ad cI cJ cZ T S D Re O N Wt L P bl os kn) (jnP bl Wt L P b h en) (fun u : (Nat → Nat) × (Nat → Int32) × (Nat → Nat) => wX ad cI cJ cZ T S D Re O N u.1 u.2.1 u.2.2 bl os kn) := by
  refine metI (cc := cX1_joinLoop) (maxL := 4) (ret := (some .int)) (by decide) rfl (Nat.le_of_ble_eq_true rfl) ?_
  intro p e s m below meth c C hr hlk
  refine ga_lv (lv9 := [(0, .ref (ad 0)), (1, .int (nI b)), (2, .int (nI h)), (3, .int (nI en))]) ⟨rfl, rfl, rfl, rfl, trivial⟩ ?_
  refine ga_aload_n 0 C dX1_joinLoop_0 rfl rfl ?_
  refine gx_get_L C in_X1_joinLoop (by decide +kernel) dX1_joinLoop_1 ?_
  refine ga_iload_n 1 C dX1_joinLoop_4 rfl rfl ?_
  refine gx_ald_L C (by omega) dX1_joinLoop_5 ?_
  refine ga_iload_n 2 C dX1_joinLoop_6 rfl rfl ?_
  refine ga_icmp_eq 18 C dX1_joinLoop_7 (by decide) (fun h9 => ?_) (fun h9 => ?_)
  · skip
    refine ga_iload_n 3 C dX1_joinLoop_18 rfl rfl ?_
    exact ga_iret C hr rfl hlk dX1_joinLoop_19 (Wt, L, P) (Or.inl ⟨Or.inl h9, rfl, rfl⟩) rfl
  refine ga_iload_n 3 C dX1_joinLoop_10 rfl rfl ?_
  refine ga_aload_n 0 C dX1_joinLoop_11 rfl rfl ?_
  refine gx_get_bl C in_X1_joinLoop (by decide +kernel) dX1_joinLoop_12 ?_
  refine gn_icmp_lt 20 C dX1_joinLoop_15 (by decide) (by omega) (by omega) (fun h8 => ?_) (fun h8 => ?_)
  · skip
    refine ga_aload_n 0 C dX1_joinLoop_20 rfl rfl ?_
    refine gx_get_L C in_X1_joinLoop (by decide +kernel) dX1_joinLoop_21 ?_
    refine ga_iload_n 1 C dX1_joinLoop_24 rfl rfl ?_
    refine ga_iload_n 2 C dX1_joinLoop_25 rfl rfl ?_
    refine gx_ast_L C (by omega) dX1_joinLoop_26 ?_
    refine ga_aload_n 0 C dX1_joinLoop_27 rfl rfl ?_
    refine gx_get_P C in_X1_joinLoop (by decide +kernel) dX1_joinLoop_28 ?_
    refine ga_iload_n 1 C dX1_joinLoop_31 rfl rfl ?_
    refine ga_dup2 C dX1_joinLoop_32 rfl rfl ?_
    refine gx_ald_P C (by omega) dX1_joinLoop_33 ?_
    refine ga_iconst (v := nI 1) C dX1_joinLoop_34 (by decide) ?_
    refine ga_iadd C dX1_joinLoop_35 (nI_add _ _) ?_
    refine gx_ast_P C (by omega) dX1_joinLoop_36 ?_
    refine ga_aload_n 0 C dX1_joinLoop_37 rfl rfl ?_
    refine gx_get_Wt C in_X1_joinLoop (by decide +kernel) dX1_joinLoop_38 ?_
    refine ga_iload_n 3 C dX1_joinLoop_41 rfl rfl ?_
    refine ga_iload_n 1 C dX1_joinLoop_42 rfl rfl ?_
    refine gx_ast_Wt C (by omega) dX1_joinLoop_43 ?_
    refine ga_iload_n 3 C dX1_joinLoop_44 rfl rfl ?_
    refine ga_iconst (v := nI 1) C dX1_joinLoop_45 (by decide) ?_
    refine ga_iadd C dX1_joinLoop_46 (nI_add _ _) ?_
    exact ga_iret C hr rfl hlk dX1_joinLoop_47 (upN Wt en b, upd L b (nI h), upN P b (P b + 1)) (Or.inr ⟨h9, h8, rfl, rfl⟩) rfl
  · skip
    refine ga_iload_n 3 C dX1_joinLoop_18 rfl rfl ?_
    exact ga_iret C hr rfl hlk dX1_joinLoop_19 (Wt, L, P) (Or.inl ⟨Or.inr h8, rfl, rfl⟩) rfl
set_option maxHeartbeats 4000000 in
set_option maxRecDepth 100000 in
/-- countLoop -/
theorem c_xcount (l : Launch) (G : va_G) (cI cJ cZ : ClassId) (ad : Nat → Nat) (T S D : Nat → Int64) (Re O N Wt : Nat → Nat) (L : Nat → Int32) (P : Nat → Nat) (bl os kn : Nat) (n : Nat) (E : Nat → Nat → Bool) (h : Nat) (hE : xE n E T S) (hR : ∀ b, b < n → Re b < 2 ∧ (Re b = 1 ↔ rch E b)) (hDm : xD E D) (hbl : bl = n) (hh : h < n) (h0 : ∀ b, b < n → L b ≠ nI h) : ctV l yX1_countLoop wsX1_countLoop { frames := 2, cells := 0, slots := 0, locals := 50 } G (ty3 cI cJ cZ) [.ref (ad 0), .int (nI h)] (wX ad cI cJ cZ T S D Re O N Wt L P bl os kn) (fun u : (Nat → Nat) × (Nat → Int32) × (Nat → Nat) => (∀ b, b < n → u.2.1 b = nI h ∨ u.2.1 b = L b) ∧ ∀ b, b < n → (inl E h b → u.2.2 b = P b + 1) ∧ (¬ inl E h b → u.2.2 b = P b)) (fun u : (Nat → Nat) × (Nat → Int32) × (Nat → Nat) => wX ad cI cJ cZ T S D Re O N u.1 u.2.1 u.2.2 bl os kn) := by
  refine metV (cc := cX1_countLoop) (maxL := 6) (ret := none) (by decide) rfl (Nat.le_of_ble_eq_true rfl) ?_
  intro p e s m below meth c C hr hlk
  refine ga_lv (lv9 := [(0, .ref (ad 0)), (1, .int (nI h))]) ⟨rfl, rfl, trivial⟩ ?_
  subst hbl
  have hn2 := xE_lt hE
  refine ga_aload_n 0 C dX1_countLoop_0 rfl rfl ?_
  refine gx_get_L C in_X1_countLoop (by decide +kernel) dX1_countLoop_1 ?_
  refine ga_iload_n 1 C dX1_countLoop_4 rfl rfl ?_
  refine ga_iload_n 1 C dX1_countLoop_5 rfl rfl ?_
  refine gx_ast_L C (by omega) dX1_countLoop_6 ?_
  refine ga_aload_n 0 C dX1_countLoop_7 rfl rfl ?_
  refine gx_get_P C in_X1_countLoop (by decide +kernel) dX1_countLoop_8 ?_
  refine ga_iload_n 1 C dX1_countLoop_11 rfl rfl ?_
  refine ga_dup2 C dX1_countLoop_12 rfl rfl ?_
  refine gx_ald_P C (by omega) dX1_countLoop_13 ?_
  refine ga_iconst (v := nI 1) C dX1_countLoop_14 (by decide) ?_
  refine ga_iadd C dX1_countLoop_15 (nI_add _ _) ?_
  refine gx_ast_P C (by omega) dX1_countLoop_16 ?_
  refine ga_iconst (v := nI 0) C dX1_countLoop_17 (by decide) ?_
  refine ga_istore_n 2 C dX1_countLoop_18 rfl (by decide) rfl ?_
  refine ga_aload_n 0 C dX1_countLoop_19 rfl rfl ?_
  refine gx_get_S C in_X1_countLoop (by decide +kernel) dX1_countLoop_20 ?_
  refine ga_iload_n 1 C dX1_countLoop_23 rfl rfl ?_
  refine ga_iconst (v := nI 0) C dX1_countLoop_24 (by decide) ?_
  refine gx_cr_S C (c_next l G cI cJ cZ (ad 2) (ad 5) S h 0 (by omega) (by omega)) (cwV 2 C.1.2.2.2.2 gX1_countLoop_X0_next rfl rfl rfl (by decide +kernel) ⟨Nat.le_of_ble_eq_true rfl, Nat.le_of_ble_eq_true rfl⟩) rfl rfl (Nat.le_of_ble_eq_true rfl) dX1_countLoop_25 ⟨Nat.zero_le _, Nat.zero_le _⟩ (fun r hx => ?_)
  obtain ⟨x, rfl, hx⟩ := hx
  refine ga_istore_n 3 C dX1_countLoop_28 rfl (by decide) rfl ?_
  refine ga_lv (lv9 := [(0, .ref (ad 0)), (1, .int (nI h)), (2, .int (nI 0)), (3, .int (nI x))]) ⟨rfl, rfl, rfl, rfl, trivial⟩ ?_
  refine up_ind bl (P := fun st => ∀ (W1 : Nat → Nat) (L1 : Nat → Int32) (P1 : Nat → Nat) (en x : Nat), isNext (bj S h) st x → en < bl → lpI bl E h L P W1 L1 P1 en → (∀ d, d < st → E d h = true → dmn E h d → L1 d = nI h) → gG p l e _ s m _ below meth c G _ _ 0 0 _ (wX ad cI cJ cZ T S D Re O N W1 L1 P1 bl os kn) [(0, .ref (ad 0)), (1, .int (nI h)), (2, .int (nI en)), (3, .int (nI x))] 29 []) ?_ 0 (by omega) Wt (upd L h (nI h)) (upN P h (P h + 1)) 0 x hx (by omega) (lpI_init hh h0) (fun d q => by omega)
  clear hx x
  intro st hst ih W1 L1 P1 en x hx hen hc hl
  have hxb := next_b hx
  refine ga_iload_n 3 C dX1_countLoop_29 rfl rfl ?_
  refine ga_aload_n 0 C dX1_countLoop_30 rfl rfl ?_
  refine gx_get_bl C in_X1_countLoop (by decide +kernel) dX1_countLoop_31 ?_
  refine gn_icmp_ge 72 C dX1_countLoop_34 (by decide) (by omega) (by omega) (fun h8 => ?_) (fun h8 => ?_)
  rotate_left
  · obtain ⟨hx1, hx2, hx3⟩ := next_lt hn2 hx h8
    rw [hE.2.2 x h (by omega) (by omega)] at hx2
    have hsk : ∀ c, st ≤ c → c < x → E c h = true → False := fun c c1 c2 e => by
      have h6 := hx3 c c1 c2
      rw [hE.2.2 c h (by omega) (by omega), e] at h6
      cases h6
    refine ga_tail (α := (Nat → Nat) × (Nat → Int32) × (Nat → Nat) × Nat) (H := fun q => q.2.2.2 < bl ∧ lpI bl E h L P q.1 q.2.1 q.2.2.1 q.2.2.2 ∧ (∀ d, d < x + 1 → E d h = true → dmn E h d → q.2.1 d = nI h)) (w9 := fun q => wX ad cI cJ cZ T S D Re O N q.1 q.2.1 q.2.2.1 bl os kn) (lv9 := fun q => [(0, .ref (ad 0)), (1, .int (nI h)), (2, .int (nI q.2.2.2)), (3, .int (nI x))]) (pc9 := 57) (F := fun _ => []) ?_ (fun tail => ?_)
    · rintro ⟨W2, L2, P2, en2⟩ ⟨y1, y2, y3⟩
      refine ga_aload_n 0 C dX1_countLoop_57 rfl rfl ?_
      refine gx_get_S C in_X1_countLoop (by decide +kernel) dX1_countLoop_58 ?_
      refine ga_iload_n 1 C dX1_countLoop_61 rfl rfl ?_
      refine ga_iload_n 3 C dX1_countLoop_62 rfl rfl ?_
      refine ga_iconst (v := nI 1) C dX1_countLoop_63 (by decide) ?_
      refine ga_iadd C dX1_countLoop_64 (nI_add _ _) ?_
      refine gx_cr_S C (c_next l G cI cJ cZ (ad 2) (ad 5) S h (x + 1) (by omega) (by omega)) (cwV 2 C.1.2.2.2.2 gX1_countLoop_X0_next rfl rfl rfl (by decide +kernel) ⟨Nat.le_of_ble_eq_true rfl, Nat.le_of_ble_eq_true rfl⟩) rfl rfl (Nat.le_of_ble_eq_true rfl) dX1_countLoop_65 ⟨Nat.zero_le _, Nat.zero_le _⟩ (fun r hx4 => ?_)
      obtain ⟨x2, rfl, hx4⟩ := hx4
      refine ga_istore_n 3 C dX1_countLoop_68 rfl (by decide) rfl ?_
      refine ga_goto 29 C dX1_countLoop_69 (by decide) ?_
      refine ga_lv (lv9 := [(0, .ref (ad 0)), (1, .int (nI h)), (2, .int (nI en2)), (3, .int (nI x2))]) ⟨rfl, rfl, rfl, rfl, trivial⟩ ?_
      exact ih (x + 1) (by omega) (by omega) W2 L2 P2 en2 x2 hx4 y1 y2 y3
    refine ga_aload_n 0 C dX1_countLoop_37 rfl rfl ?_
    refine gx_get_D C in_X1_countLoop (by decide +kernel) dX1_countLoop_38 ?_
    refine ga_iload_n 3 C dX1_countLoop_41 rfl rfl ?_
    refine ga_iload_n 1 C dX1_countLoop_42 rfl rfl ?_
    refine gx_cr_D C (c_holds l G cI cJ cZ (ad 3) (ad 6) D x h (by omega) (by omega)) (cwV 2 C.1.2.2.2.2 gX1_countLoop_X0_holds rfl rfl rfl (by decide +kernel) ⟨Nat.le_of_ble_eq_true rfl, Nat.le_of_ble_eq_true rfl⟩) rfl rfl (Nat.le_of_ble_eq_true rfl) dX1_countLoop_43 ⟨Nat.zero_le _, Nat.zero_le _⟩ (fun r hb => ?_)
    subst hb
    have hd := hDm x h (by omega) (by omega)
    have hbl2 := btl (bj D x h)
    refine gn_if_eq 57 C dX1_countLoop_46 (by decide) (by omega) (fun h7 => ?_) (fun h7 => ?_)
    · refine ga_lk (tail (W1, L1, P1, en) ⟨hen, hc, fun d d1 d2 d3 => ?_⟩) ⟨rfl, rfl, rfl, rfl, trivial⟩
      by_cases c2 : d < st
      · exact hl d c2 d2 d3
      · by_cases c3 : d = x
        · subst c3
          rw [hd.mpr d3] at h7
          cases h7
        · exact absurd (hsk d (by omega) (by omega) d2) (fun z => z)
    · have hdx : dmn E h x := hd.mp (by
        cases hq : bj D x h with
        | true => rfl
        | false => rw [hq] at h7; exact absurd rfl h7)
      refine ga_aload_n 0 C dX1_countLoop_49 rfl rfl ?_
      refine ga_iload_n 3 C dX1_countLoop_50 rfl rfl ?_
      refine ga_iload_n 1 C dX1_countLoop_51 rfl rfl ?_
      refine ga_iload_n 2 C dX1_countLoop_52 rfl rfl ?_
      refine gx_cg_i C (c_xjoin l G cI cJ cZ ad T S D Re O N W1 L1 P1 bl os kn x h en hn2 h8 hh (by omega)) (cwV 3 C.1.2.2.2.2 gX1_countLoop_X1_joinLoop rfl rfl rfl (by decide +kernel) ⟨Nat.le_of_ble_eq_true rfl, Nat.le_of_ble_eq_true rfl⟩) rfl rfl (Nat.le_of_ble_eq_true rfl) dX1_countLoop_53 ⟨Nat.zero_le _, Nat.zero_le _⟩ (fun r u hu => ?_)
      obtain ⟨W2, L2, P2⟩ := u
      obtain ⟨en2, rfl, y1, y2, y3, y4, y5, y6⟩ := lpI_join h0 hc h8 (inl_latch hdx hx2) hu
      refine ga_istore_n 2 C dX1_countLoop_56 rfl (by decide) rfl ?_
      refine ga_lk (tail (W2, L2, P2, en2) ⟨y2, y3, fun d d1 d2 d3 => ?_⟩) ⟨rfl, rfl, rfl, rfl, trivial⟩
      by_cases c2 : d < st
      · exact y5 d (hl d c2 d2 d3)
      · by_cases c3 : d = x
        · rw [c3]; exact y4
        · exact absurd (hsk d (by omega) (by omega) d2) (fun z => z)
  have hlat : (∀ d, E d h = true → dmn E h d → L1 d = nI h) := fun d d1 d2 => by
    by_cases c2 : d < st
    · exact hl d c2 d1 d2
    · have h5 := (hE.1.2.2 _ _ d1).1
      have h6 := next_ge hx h8 d (by omega) h5 (by omega)
      rw [hE.2.2 d h (by omega) (by omega), d1] at h6
      cases h6
  refine ga_iconst (v := nI 0) C dX1_countLoop_72 (by decide) ?_
  refine ga_istore_n 3 C dX1_countLoop_73 rfl (by decide) rfl ?_
  refine ga_lv (lv9 := [(0, .ref (ad 0)), (1, .int (nI h)), (2, .int (nI en)), (3, .int (nI 0))]) ⟨rfl, rfl, rfl, rfl, trivial⟩ ?_
  refine up_ind bl (P := fun i => ∀ (W1 : Nat → Nat) (L1 : Nat → Int32) (P1 : Nat → Nat) (en : Nat), i ≤ en → en < bl → lpI bl E h L P W1 L1 P1 en → (∀ d, E d h = true → dmn E h d → L1 d = nI h) → (∀ k, k < i → ∀ d, rch E d → E d (W1 k) = true → L1 d = nI h) → gG p l e _ s m _ below meth c G _ _ 0 0 _ (wX ad cI cJ cZ T S D Re O N W1 L1 P1 bl os kn) [(0, .ref (ad 0)), (1, .int (nI h)), (2, .int (nI en)), (3, .int (nI i))] 74 []) ?_ 0 (by omega) W1 L1 P1 en (by omega) hen hc hlat (fun k hk => by omega)
  clear hlat hl hc hen hx h8 hxb x en P1 L1 W1 ih hst st
  intro i hi ih W1 L1 P1 en hie hen hc hlat hcl
  refine ga_iload_n 3 C dX1_countLoop_74 rfl rfl ?_
  refine ga_iload_n 2 C dX1_countLoop_75 rfl rfl ?_
  refine gn_icmp_ge 159 C dX1_countLoop_76 (by decide) (by omega) (by omega) (fun h8 => ?_) (fun h8 => ?_)
  · obtain rfl : i = en := by omega
    have hfin : ∀ b, b < bl → (L1 b = nI h ↔ inl E h b) := fun b hb => ⟨hc.2.2.2.2.2.2 b hb, fun q => by
      rcases q with q | ⟨q1, q2⟩
      · rw [q]; exact hc.2.2.2.1
      · exact lbk_all (C := fun x => L1 x = nI h) (fun d d1 d2 => hlat d d2 d1) (fun x d x1 x2 d1 d2 => by
          rcases hc.2.2.2.2.2.1 x ((hE.1.2.2 _ _ d2).2) x1 with v | ⟨k, k1, k2⟩
          · exact absurd v x2
          · exact hcl k k1 d d1 (by rw [k2]; exact d2)) q1 q2⟩
    refine ga_vret C hr hlk dX1_countLoop_159 (W1, L1, P1) ⟨hc.2.1, fun b hb => ⟨fun q => (hc.2.2.1 b hb).1 ((hfin b hb).mpr q), fun q => (hc.2.2.1 b hb).2 (fun z => q ((hfin b hb).mp z))⟩⟩ rfl
  refine ga_iload_n 3 C dX1_countLoop_79 rfl rfl ?_
  refine ga_aload_n 0 C dX1_countLoop_80 rfl rfl ?_
  refine gx_get_bl C in_X1_countLoop (by decide +kernel) dX1_countLoop_81 ?_
  refine gn_icmp_ge 159 C dX1_countLoop_84 (by decide) (by omega) (by omega) (fun h7 => absurd h7 (by omega)) (fun h7 => ?_)
  obtain ⟨wb1, wb2, wb3⟩ := hc.2.2.2.2.1 i h8
  have hib := hc.2.2.2.2.2.2 _ wb1 wb3
  refine ga_aload_n 0 C dX1_countLoop_87 rfl rfl ?_
  refine gx_get_Wt C in_X1_countLoop (by decide +kernel) dX1_countLoop_88 ?_
  refine ga_iload_n 3 C dX1_countLoop_91 rfl rfl ?_
  refine gx_ald_Wt C (by omega) dX1_countLoop_92 ?_
  refine ga_istore 4 C dX1_countLoop_93 (by decide) rfl ?_
  refine ga_aload_n 0 C dX1_countLoop_95 rfl rfl ?_
  refine gx_get_S C in_X1_countLoop (by decide +kernel) dX1_countLoop_96 ?_
  refine ga_iload 4 C dX1_countLoop_99 rfl ?_
  refine ga_iconst (v := nI 0) C dX1_countLoop_101 (by decide) ?_
  refine gx_cr_S C (c_next l G cI cJ cZ (ad 2) (ad 5) S (W1 i) 0 (by omega) (by omega)) (cwV 2 C.1.2.2.2.2 gX1_countLoop_X0_next rfl rfl rfl (by decide +kernel) ⟨Nat.le_of_ble_eq_true rfl, Nat.le_of_ble_eq_true rfl⟩) rfl rfl (Nat.le_of_ble_eq_true rfl) dX1_countLoop_102 ⟨Nat.zero_le _, Nat.zero_le _⟩ (fun r hx => ?_)
  obtain ⟨x, rfl, hx⟩ := hx
  refine ga_istore 5 C dX1_countLoop_105 (by decide) rfl ?_
  obtain ⟨b, hb⟩ : ∃ b, b = W1 i := ⟨_, rfl⟩
  rw [← hb] at hx wb1 wb2 wb3 hib ⊢
  refine ga_lv (lv9 := [(0, .ref (ad 0)), (1, .int (nI h)), (2, .int (nI en)), (3, .int (nI i)), (4, .int (nI b)), (5, .int (nI x))]) ⟨rfl, rfl, rfl, rfl, rfl, rfl, trivial⟩ ?_
  refine up_ind bl (P := fun st => ∀ (W1 : Nat → Nat) (L1 : Nat → Int32) (P1 : Nat → Nat) (en x : Nat), isNext (bj S b) st x → i < en → en < bl → b = W1 i → lpI bl E h L P W1 L1 P1 en → (∀ d, E d h = true → dmn E h d → L1 d = nI h) → (∀ k, k < i → ∀ d, rch E d → E d (W1 k) = true → L1 d = nI h) → (∀ d, d < st → rch E d → E d b = true → L1 d = nI h) → gG p l e _ s m _ below meth c G _ _ 0 0 _ (wX ad cI cJ cZ T S D Re O N W1 L1 P1 bl os kn) [(0, .ref (ad 0)), (1, .int (nI h)), (2, .int (nI en)), (3, .int (nI i)), (4, .int (nI b)), (5, .int (nI x))] 107 []) ?_ 0 (by omega) W1 L1 P1 en x hx h8 hen hb hc hlat hcl (fun d q => by omega)
  clear wb3 hb hx hcl hlat hc hen hie h8 x en P1 L1 W1
  intro st hst ih2 W1 L1 P1 en x hx hie hen hb hc hlat hcl hp
  have hxb := next_b hx
  refine ga_iload 5 C dX1_countLoop_107 rfl ?_
  refine ga_aload_n 0 C dX1_countLoop_109 rfl rfl ?_
  refine gx_get_bl C in_X1_countLoop (by decide +kernel) dX1_countLoop_110 ?_
  refine gn_icmp_ge 153 C dX1_countLoop_113 (by decide) (by omega) (by omega) (fun h8 => ?_) (fun h8 => ?_)
  · skip
    refine ga_iinc 3 C dX1_countLoop_153 rfl (nI_inc _) (by decide) rfl ?_
    refine ga_goto 74 C dX1_countLoop_156 (by decide) ?_
    refine ga_lv (lv9 := [(0, .ref (ad 0)), (1, .int (nI h)), (2, .int (nI en)), (3, .int (nI (i + 1)))]) ⟨rfl, rfl, rfl, rfl, trivial⟩ ?_
    refine ih (i + 1) (by omega) (by omega) W1 L1 P1 en (by omega) hen hc hlat (fun k hk d d1 d2 => ?_)
    by_cases hki : k = i
    · subst hki
      rw [← hb] at d2
      by_cases c2 : d < st
      · exact hp d c2 d1 d2
      · have h5 := (hE.1.2.2 _ _ d2).1
        have h6 := next_ge hx h8 d (by omega) h5 (by omega)
        rw [hE.2.2 d b (by omega) (by omega), d2] at h6
        cases h6
    · exact hcl k (by omega) d d1 d2
  obtain ⟨hx1, hx2, hx3⟩ := next_lt hn2 hx h8
  rw [hE.2.2 x b (by omega) (by omega)] at hx2
  have hRx := hR x h8
  have hsk : ∀ c, st ≤ c → c < x → E c b = true → False := fun c c1 c2 e => by
    have h6 := hx3 c c1 c2
    rw [hE.2.2 c b (by omega) (by omega), e] at h6
    cases h6
  refine ga_tail (α := (Nat → Nat) × (Nat → Int32) × (Nat → Nat) × Nat) (H := fun q => i < q.2.2.2 ∧ q.2.2.2 < bl ∧ b = q.1 i ∧ lpI bl E h L P q.1 q.2.1 q.2.2.1 q.2.2.2 ∧ (∀ d, E d h = true → dmn E h d → q.2.1 d = nI h) ∧ (∀ k, k < i → ∀ d, rch E d → E d (q.1 k) = true → q.2.1 d = nI h) ∧ (∀ d, d < x + 1 → rch E d → E d b = true → q.2.1 d = nI h)) (w9 := fun q => wX ad cI cJ cZ T S D Re O N q.1 q.2.1 q.2.2.1 bl os kn) (lv9 := fun q => [(0, .ref (ad 0)), (1, .int (nI h)), (2, .int (nI q.2.2.2)), (3, .int (nI i)), (4, .int (nI b)), (5, .int (nI x))]) (pc9 := 135) (F := fun _ => []) ?_ (fun tail => ?_)
  · rintro ⟨W2, L2, P2, en2⟩ ⟨y1, y2, y3, y4, y5, y6, y7⟩
    refine ga_aload_n 0 C dX1_countLoop_135 rfl rfl ?_
    refine gx_get_S C in_X1_countLoop (by decide +kernel) dX1_countLoop_136 ?_
    refine ga_iload 4 C dX1_countLoop_139 rfl ?_
    refine ga_iload 5 C dX1_countLoop_141 rfl ?_
    refine ga_iconst (v := nI 1) C dX1_countLoop_143 (by decide) ?_
    refine ga_iadd C dX1_countLoop_144 (nI_add _ _) ?_
    refine gx_cr_S C (c_next l G cI cJ cZ (ad 2) (ad 5) S b (x + 1) (by omega) (by omega)) (cwV 2 C.1.2.2.2.2 gX1_countLoop_X0_next rfl rfl rfl (by decide +kernel) ⟨Nat.le_of_ble_eq_true rfl, Nat.le_of_ble_eq_true rfl⟩) rfl rfl (Nat.le_of_ble_eq_true rfl) dX1_countLoop_145 ⟨Nat.zero_le _, Nat.zero_le _⟩ (fun r hx4 => ?_)
    obtain ⟨x2, rfl, hx4⟩ := hx4
    refine ga_istore 5 C dX1_countLoop_148 (by decide) rfl ?_
    refine ga_goto 107 C dX1_countLoop_150 (by decide) ?_
    refine ga_lv (lv9 := [(0, .ref (ad 0)), (1, .int (nI h)), (2, .int (nI en2)), (3, .int (nI i)), (4, .int (nI b)), (5, .int (nI x2))]) ⟨rfl, rfl, rfl, rfl, rfl, rfl, trivial⟩ ?_
    exact ih2 (x + 1) (by omega) (by omega) W2 L2 P2 en2 x2 hx4 y1 y2 y3 y4 y5 y6 y7
  refine ga_aload_n 0 C dX1_countLoop_116 rfl rfl ?_
  refine gx_get_Re C in_X1_countLoop (by decide +kernel) dX1_countLoop_117 ?_
  refine ga_iload 5 C dX1_countLoop_120 rfl ?_
  refine gx_ald_Re C (by omega) dX1_countLoop_122 ?_
  refine gn_if_eq 135 C dX1_countLoop_123 (by decide) (by omega) (fun h6 => ?_) (fun h6 => ?_)
  · refine ga_lk (tail (W1, L1, P1, en) ⟨hie, hen, hb, hc, hlat, hcl, fun d d1 d2 d3 => ?_⟩) ⟨rfl, rfl, rfl, rfl, rfl, rfl, trivial⟩
    by_cases c2 : d < st
    · exact hp d c2 d2 d3
    · by_cases c3 : d = x
      · subst c3
        have := hRx.2.mpr d2
        omega
      · exact absurd (hsk d (by omega) (by omega) d3) (fun z => z)
  have hrx : rch E x := hRx.2.mp (by have := hRx.1; omega)
  refine ga_aload_n 0 C dX1_countLoop_126 rfl rfl ?_
  refine ga_iload 5 C dX1_countLoop_127 rfl ?_
  refine ga_iload_n 1 C dX1_countLoop_129 rfl rfl ?_
  refine ga_iload_n 2 C dX1_countLoop_130 rfl rfl ?_
  refine gx_cg_i C (c_xjoin l G cI cJ cZ ad T S D Re O N W1 L1 P1 bl os kn x h en hn2 h8 hh (by omega)) (cwV 3 C.1.2.2.2.2 gX1_countLoop_X1_joinLoop rfl rfl rfl (by decide +kernel) ⟨Nat.le_of_ble_eq_true rfl, Nat.le_of_ble_eq_true rfl⟩) rfl rfl (Nat.le_of_ble_eq_true rfl) dX1_countLoop_131 ⟨Nat.zero_le _, Nat.zero_le _⟩ (fun r u hu => ?_)
  obtain ⟨W2, L2, P2⟩ := u
  obtain ⟨en2, rfl, y1, y2, y3, y4, y5, y6⟩ := lpI_join h0 hc h8 (inl_back hib wb2 hrx hx2) hu
  refine ga_istore_n 2 C dX1_countLoop_134 rfl (by decide) rfl ?_
  refine ga_lk (tail (W2, L2, P2, en2) ⟨Nat.lt_of_lt_of_le hie y1, y2, hb.trans (y6 i hie).symm, y3, fun d d1 d2 => y5 d (hlat d d1 d2), fun k hk d d1 d2 => ?_, fun d d1 d2 d3 => ?_⟩) ⟨rfl, rfl, rfl, rfl, rfl, rfl, trivial⟩
  · have d2 : E d (W2 k) = true := d2
    rw [y6 k (by omega)] at d2
    exact y5 d (hcl k hk d d1 d2)
  · by_cases c2 : d < st
    · exact y5 d (hp d c2 d2 d3)
    · by_cases c3 : d = x
      · rw [c3]; exact y4
      · exact absurd (hsk d (by omega) (by omega) d3) (fun z => z)
set_option maxHeartbeats 4000000 in
set_option maxRecDepth 100000 in
/-- findDepths -/
theorem c_xdeps (l : Launch) (G : va_G) (cI cJ cZ : ClassId) (ad : Nat → Nat) (T S D : Nat → Int64) (Re O N Wt : Nat → Nat) (L : Nat → Int32) (P : Nat → Nat) (bl os kn : Nat) (n : Nat) (E : Nat → Nat → Bool) (hI : xI n E T S D Re O P bl os kn) : ctV l yX1_findDepths wsX1_findDepths { frames := 5, cells := 0, slots := 0, locals := 118 } G (ty3 cI cJ cZ) [.ref (ad 0)] (wX ad cI cJ cZ T S D Re O N Wt L P bl os kn) (fun (u : XS) => xIu n E u ∧ 3 ≤ u.2.2.2.2.2.2.2.2.2.2.2) (wXu ad cI cJ cZ) := by
  refine metV (cc := cX1_findDepths) (maxL := 2) (ret := none) (by decide) rfl (Nat.le_of_ble_eq_true rfl) ?_
  intro p e s m below meth c C hr hlk
  refine ga_lv (lv9 := [(0, .ref (ad 0))]) ⟨rfl, trivial⟩ ?_
  obtain ⟨hE, rfl, hkn, hR, hDm, hH⟩ := id hI
  have hn2 := xE_lt hE
  refine ga_aload_n 0 C dX1_findDepths_0 rfl rfl ?_
  refine gx_get_kn C in_X1_findDepths (by decide +kernel) dX1_findDepths_1 ?_
  refine ga_iconst (v := nI 3) C dX1_findDepths_4 (by decide) ?_
  refine gn_icmp_lt 9 C dX1_findDepths_5 (by decide) (by omega) (by omega) (fun h9 => ?_) (fun h9 => ?_)
  rotate_left
  · exact ga_vret C hr hlk dX1_findDepths_8 (T, S, D, Re, O, N, Wt, L, P, bl, os, kn) ⟨hI, h9⟩ rfl
  refine ga_aload_n 0 C dX1_findDepths_9 rfl rfl ?_
  refine gx_call_v C (c_xdom l G cI cJ cZ ad T S D Re O N Wt L P bl os kn bl E hI) (cwV 0 C.1.2.2.2.2 gX1_findDepths_X1_findDominators rfl rfl rfl (by decide +kernel) ⟨Nat.le_of_ble_eq_true rfl, Nat.le_of_ble_eq_true rfl⟩) rfl rfl (Nat.le_of_ble_eq_true rfl) dX1_findDepths_10 ⟨Nat.zero_le _, Nat.zero_le _⟩ (fun T S D Re O N Wt L P bl2 os kn hI2 => ?_)
  have hI3 : xI bl E T S D Re O P bl2 os kn := hI2.1
  have hk1 : 2 ≤ kn := hI2.2
  clear hI hE hR hDm hH hI2
  obtain ⟨hE, rfl, hkn, hR, hDm, hH⟩ := id hI3
  have hR := hR (by omega)
  have hDm := hDm hk1
  have hos := hR.2.1
  refine ga_aload_n 0 C dX1_findDepths_13 rfl rfl ?_
  refine gx_get_P C in_X1_findDepths (by decide +kernel) dX1_findDepths_14 ?_
  refine ga_iconst (v := nI 0) C dX1_findDepths_17 (by decide) ?_
  refine gx_fill_P (As := []) C (c_fillI l G cI cJ cZ (ad 12) (nA P) (nI 0)) (va_cwS 2 C.1.2.2.2.2 gX1_findDepths_J7_fill_53178 rfl rfl rfl (by decide +kernel) ⟨Nat.le_of_ble_eq_true rfl, Nat.le_of_ble_eq_true rfl⟩) rfl (Nat.le_of_ble_eq_true rfl) dX1_findDepths_18 ⟨Nat.zero_le _, Nat.zero_le _⟩ (fun u hu => ?_)
  obtain rfl : u = nA (fun i => if i < 200 then 0 else P i) := funext (fun i => by
    rw [hu i]
    show (if i < 200 then nI 0 else nI (P i)) = nI (if i < 200 then 0 else P i)
    by_cases q : i < 200
    · rw [if_pos q, if_pos q]
    · rw [if_neg q, if_neg q])
  refine ga_ws [0, 1, 2, 3, 4, 5, 6, 7, 8, 9, 10, 11, 12] (w9 := wX ad cI cJ cZ T S D Re O N Wt L (fun i => if i < 200 then 0 else P i) bl2 os kn) rfl rfl ?_
  refine ga_aload_n 0 C dX1_findDepths_21 rfl rfl ?_
  refine gx_get_L C in_X1_findDepths (by decide +kernel) dX1_findDepths_22 ?_
  refine ga_iconst (v := -1) C dX1_findDepths_25 (by decide) ?_
  refine gx_fill_L (As := []) C (c_fillI l G cI cJ cZ (ad 11) L (-1)) (va_cwS 2 C.1.2.2.2.2 gX1_findDepths_J7_fill_53178 rfl rfl rfl (by decide +kernel) ⟨Nat.le_of_ble_eq_true rfl, Nat.le_of_ble_eq_true rfl⟩) rfl (Nat.le_of_ble_eq_true rfl) dX1_findDepths_26 ⟨Nat.zero_le _, Nat.zero_le _⟩ (fun L2 hL2 => ?_)
  refine ga_aload_n 0 C dX1_findDepths_29 rfl rfl ?_
  refine gx_get_os C in_X1_findDepths (by decide +kernel) dX1_findDepths_30 ?_
  refine ga_istore_n 1 C dX1_findDepths_33 rfl (by decide) rfl ?_
  refine ga_lv (lv9 := [(0, .ref (ad 0)), (1, .int (nI os))]) ⟨rfl, rfl, trivial⟩ ?_
  refine up_ind bl2 (P := fun i => ∀ (Wt : Nat → Nat) (L : Nat → Int32) (P : Nat → Nat), os ≤ i → (∀ b, b < bl2 → L b = -1 ∨ ∃ j, os ≤ j ∧ j < i ∧ L b = nI (O j)) → (∀ b, b < bl2 → P b = cnP (fun h => (∃ j, os ≤ j ∧ j < i ∧ O j = h) ∧ hdd E h ∧ inl E h b) bl2) → gG p l e _ s m _ below meth c G _ _ 0 0 _ (wX ad cI cJ cZ T S D Re O N Wt L P bl2 os kn) [(0, .ref (ad 0)), (1, .int (nI i))] 34 []) ?_ os (by omega) Wt L2 (fun i => if i < 200 then 0 else P i) (Nat.le_refl _) (fun b hb => Or.inl (by rw [hL2 b, if_pos (by omega)])) (fun b hb => ?_)
  rotate_left
  · show (if b < 200 then 0 else P b) = _
    rw [if_pos (by omega), cnP_ext (n := 0) (m := bl2) (by omega) (fun k _ _ q => by
      obtain ⟨⟨j, j1, j2, _⟩, _⟩ := q
      omega)]
    rfl
  clear hL2 hu L2 hH hI3
  intro i hi ih Wt L P hoi hL hP
  refine ga_iload_n 1 C dX1_findDepths_34 rfl rfl ?_
  refine ga_aload_n 0 C dX1_findDepths_35 rfl rfl ?_
  refine gx_get_bl C in_X1_findDepths (by decide +kernel) dX1_findDepths_36 ?_
  refine gn_icmp_ge 71 C dX1_findDepths_39 (by decide) (by omega) (by omega) (fun h8 => ?_) (fun h8 => ?_)
  · obtain rfl : i = bl2 := by omega
    refine ga_aload_n 0 C dX1_findDepths_71 rfl rfl ?_
    refine ga_iconst (v := nI 3) C dX1_findDepths_72 (by decide) ?_
    refine gx_put_kn C in_X1_findDepths (by decide +kernel) dX1_findDepths_73 ?_
    refine ga_vret C hr hlk dX1_findDepths_76 (T, S, D, Re, O, N, Wt, L, P, i, os, 3) ⟨xI_3 hE hR hDm (fun b hb => ?_), Nat.le_refl _⟩ rfl
    show P b = dep i E b
    rw [hP b hb]
    apply cnP_congr
    intro h hh
    exact ⟨fun q => q.2, fun q => ⟨hR.2.2.2.2.2.2 h (hdd_rch q.1), q⟩⟩
  have hOi := rch_lt hE.1 (hR.2.2.2.2.1 i hoi h8)
  have hinj : ∀ j, os ≤ j → j < i → O j ≠ O i := fun j j1 j2 q => by
    have := hR.2.2.2.2.2.1 j i j1 (by omega) hoi h8 q
    omega
  refine ga_aload_n 0 C dX1_findDepths_42 rfl rfl ?_
  refine ga_aload_n 0 C dX1_findDepths_43 rfl rfl ?_
  refine gx_get_O C in_X1_findDepths (by decide +kernel) dX1_findDepths_44 ?_
  refine ga_iload_n 1 C dX1_findDepths_47 rfl rfl ?_
  refine gx_ald_O C (by omega) dX1_findDepths_48 ?_
  refine gx_call_r C (c_xisHead l G cI cJ cZ ad T S D Re O N Wt L P bl2 os kn bl2 E (O i) hE hDm rfl hOi) (cwV 1 C.1.2.2.2.2 gX1_findDepths_X1_isHead rfl rfl rfl (by decide +kernel) ⟨Nat.le_of_ble_eq_true rfl, Nat.le_of_ble_eq_true rfl⟩) rfl rfl (Nat.le_of_ble_eq_true rfl) dX1_findDepths_49 ⟨Nat.zero_le _, Nat.zero_le _⟩ (fun r hh => ?_)
  rcases hh with ⟨hh, rfl⟩ | ⟨hh, rfl⟩
  · skip
    refine gn_if_eq 65 C dX1_findDepths_52 (by decide) (by omega) (fun h7 => absurd h7 (by omega)) (fun h7 => ?_)
    refine ga_aload_n 0 C dX1_findDepths_55 rfl rfl ?_
    refine ga_aload_n 0 C dX1_findDepths_56 rfl rfl ?_
    refine gx_get_O C in_X1_findDepths (by decide +kernel) dX1_findDepths_57 ?_
    refine ga_iload_n 1 C dX1_findDepths_60 rfl rfl ?_
    refine gx_ald_O C (by omega) dX1_findDepths_61 ?_
    refine gx_cg_v C (c_xcount l G cI cJ cZ ad T S D Re O N Wt L P bl2 os kn bl2 E (O i) hE hR.1 hDm rfl hOi (fun b hb q => ?_)) (cwV 1 C.1.2.2.2.2 gX1_findDepths_X1_countLoop rfl rfl rfl (by decide +kernel) ⟨Nat.le_of_ble_eq_true rfl, Nat.le_of_ble_eq_true rfl⟩) rfl rfl (Nat.le_of_ble_eq_true rfl) dX1_findDepths_62 ⟨Nat.zero_le _, Nat.zero_le _⟩ (fun u hu => ?_)
    · rcases hL b hb with z | ⟨j, j1, j2, z⟩
      · rw [z] at q
        exact nI_pos (n := O i) (by omega) (by rw [← q]; decide)
      · rw [z] at q
        have h3 := rch_lt hE.1 (hR.2.2.2.2.1 j j1 (by omega))
        exact hinj j j1 j2 ((nI_eq (by omega) (by omega)).mp q)
    obtain ⟨Wt2, L2, P2⟩ := u
    obtain ⟨u1, u2⟩ := hu
    refine ga_iinc 1 C dX1_findDepths_65 rfl (nI_inc _) (by decide) rfl ?_
    refine ga_goto 34 C dX1_findDepths_68 (by decide) ?_
    refine ga_lv (lv9 := [(0, .ref (ad 0)), (1, .int (nI (i + 1)))]) ⟨rfl, rfl, trivial⟩ ?_
    refine ih (i + 1) (by omega) (by omega) Wt2 L2 P2 (by omega) (fun b hb => ?_) (fun b hb => ?_)
    · rcases u1 b hb with z | z
      · exact Or.inr ⟨i, hoi, by omega, z⟩
      · rcases hL b hb with y | ⟨j, j1, j2, y⟩
        · exact Or.inl (z.trans y)
        · exact Or.inr ⟨j, j1, by omega, z.trans y⟩
    · by_cases q : inl E (O i) b
      · have e1 : P2 b = P b + 1 := (u2 b hb).1 q
        rw [e1, hP b hb]
        symm
        apply cnP_add (a := O i)
        · intro k hk
          constructor
          · rintro ⟨⟨j, j1, j2, j3⟩, y⟩
            by_cases y2 : j = i
            · exact Or.inr (by rw [← j3, y2])
            · exact Or.inl ⟨⟨j, j1, by omega, j3⟩, y⟩
          · rintro (⟨⟨j, j1, j2, j3⟩, y⟩ | y)
            · exact ⟨⟨j, j1, by omega, j3⟩, y⟩
            · rw [y]; exact ⟨⟨i, hoi, by omega, rfl⟩, hh, q⟩
        · exact hOi
        · rintro ⟨⟨j, j1, j2, j3⟩, _⟩
          exact hinj j j1 j2 j3
      · have e1 : P2 b = P b := (u2 b hb).2 q
        rw [e1, hP b hb]
        apply cnP_congr
        intro k hk
        constructor
        · rintro ⟨⟨j, j1, j2, j3⟩, y⟩
          exact ⟨⟨j, j1, by omega, j3⟩, y⟩
        · rintro ⟨⟨j, j1, j2, j3⟩, y⟩
          by_cases y2 : j = i
          · rw [← j3, y2] at y; exact absurd y.2 q
          · exact ⟨⟨j, j1, by omega, j3⟩, y⟩
  · skip
    refine gn_if_eq 65 C dX1_findDepths_52 (by decide) (by omega) (fun h7 => ?_) (fun h7 => absurd rfl h7)
    refine ga_iinc 1 C dX1_findDepths_65 rfl (nI_inc _) (by decide) rfl ?_
    refine ga_goto 34 C dX1_findDepths_68 (by decide) ?_
    refine ga_lv (lv9 := [(0, .ref (ad 0)), (1, .int (nI (i + 1)))]) ⟨rfl, rfl, trivial⟩ ?_
    refine ih (i + 1) (by omega) (by omega) Wt L P (by omega) (fun b hb => ?_) (fun b hb => ?_)
    · rcases hL b hb with y | ⟨j, j1, j2, y⟩
      · exact Or.inl y
      · exact Or.inr ⟨j, j1, by omega, y⟩
    · rw [hP b hb]
      apply cnP_congr
      intro k hk
      constructor
      · rintro ⟨⟨j, j1, j2, j3⟩, y⟩
        exact ⟨⟨j, j1, by omega, j3⟩, y⟩
      · rintro ⟨⟨j, j1, j2, j3⟩, y⟩
        by_cases y2 : j = i
        · rw [← j3, y2] at y; exact absurd y.1 hh
        · exact ⟨⟨j, j1, by omega, j3⟩, y⟩
set_option maxHeartbeats 4000000 in
set_option maxRecDepth 100000 in
/-- depth -/
theorem c_xdepth (l : Launch) (G : va_G) (cI cJ cZ : ClassId) (ad : Nat → Nat) (T S D : Nat → Int64) (Re O N Wt : Nat → Nat) (L : Nat → Int32) (P : Nat → Nat) (bl os kn : Nat) (n : Nat) (E : Nat → Nat → Bool) (x : Int32) (hI : xI n E T S D Re O P bl os kn) : ctI l yX1_depth wsX1_depth { frames := 6, cells := 0, slots := 0, locals := 139 } G (ty3 cI cJ cZ) [.ref (ad 0), .int x] (wX ad cI cJ cZ T S D Re O N Wt L P bl os kn) (fun r (u : XS) => dpP n E x r ∧ xIu n E u) (wXu ad cI cJ cZ) := by
  refine metI (cc := cX1_depth) (maxL := 2) (ret := (some .int)) (by decide) rfl (Nat.le_of_ble_eq_true rfl) ?_
  intro p e s m below meth c C hr hlk
  refine ga_lv (lv9 := [(0, .ref (ad 0)), (1, .int x)]) ⟨rfl, rfl, trivial⟩ ?_
  obtain ⟨hE, rfl, hkn, hR, hDm, hH⟩ := id hI
  have hn2 := xE_lt hE
  refine ga_aload_n 0 C dX1_depth_0 rfl rfl ?_
  refine ga_iload_n 1 C dX1_depth_1 rfl rfl ?_
  refine gx_call_r C (c_xB l G cI cJ cZ ad T S D Re O N Wt L P bl os kn x hn2) (cwV 1 C.1.2.2.2.2 gX1_depth_X1_isBlock rfl rfl rfl (by decide +kernel) ⟨Nat.le_of_ble_eq_true rfl, Nat.le_of_ble_eq_true rfl⟩) rfl rfl (Nat.le_of_ble_eq_true rfl) dX1_depth_2 ⟨Nat.zero_le _, Nat.zero_le _⟩ (fun r hx => ?_)
  rcases hx with ⟨⟨a, ha, rfl⟩, rfl⟩ | ⟨hno, rfl⟩
  rotate_left
  · skip
    refine gn_if_ne 10 C dX1_depth_5 (by decide) (by omega) (fun h9 => absurd rfl h9) (fun h9 => ?_)
    refine ga_iconst (v := -1) C dX1_depth_8 (by decide) ?_
    exact ga_iret C hr rfl hlk dX1_depth_9 (T, S, D, Re, O, N, Wt, L, P, bl, os, kn) ⟨Or.inr ⟨fun b q => hno ⟨b, q⟩, rfl⟩, hI⟩ rfl
  refine gn_if_ne 10 C dX1_depth_5 (by decide) (by omega) (fun h9 => ?_) (fun h9 => absurd h9 (by omega))
  refine ga_aload_n 0 C dX1_depth_10 rfl rfl ?_
  refine gx_call_v C (c_xdeps l G cI cJ cZ ad T S D Re O N Wt L P bl os kn bl E hI) (cwV 0 C.1.2.2.2.2 gX1_depth_X1_findDepths rfl rfl rfl (by decide +kernel) ⟨Nat.le_of_ble_eq_true rfl, Nat.le_of_ble_eq_true rfl⟩) rfl rfl (Nat.le_of_ble_eq_true rfl) dX1_depth_11 ⟨Nat.zero_le _, Nat.zero_le _⟩ (fun T S D Re O N Wt L P bl2 os kn hI2 => ?_)
  have hI3 : xI bl E T S D Re O P bl2 os kn := hI2.1
  have hk1 : 3 ≤ kn := hI2.2
  have hPa := hI3.2.2.2.2.2 hk1 a ha
  refine ga_aload_n 0 C dX1_depth_14 rfl rfl ?_
  refine gx_get_P C in_X1_depth (by decide +kernel) dX1_depth_15 ?_
  refine ga_iload_n 1 C dX1_depth_18 rfl rfl ?_
  refine gx_ald_P C (by omega) dX1_depth_19 ?_
  exact ga_iret C hr rfl hlk dX1_depth_20 (T, S, D, Re, O, N, Wt, L, P, bl2, os, kn) ⟨Or.inl ⟨a, ⟨ha, rfl⟩, by rw [hPa]⟩, hI3⟩ rfl
end
section
/-! words of 32 bits -/
def bq (f : Nat → Int32) (o b : Nat) : Bool := (uI (f (o + b / 32))).testBit (b % 32)
theorem s_l32 : ∀ n, n < 32 → ((nI n &&& 31).toBitVec.smod 32).toNat = n := by decide +kernel
theorem uI_tb (x : Int32) (i : Nat) : (uI x).testBit i = x.toBitVec.getLsbD i := rfl
theorem sshr0 (k : Nat) (hk : k < 32) (x : Int32) : (uI (x >>> (nI k &&& 31))).testBit 0 = (uI x).testBit k := by
  rw [uI_tb, uI_tb, Int32.toBitVec_shiftRight]
  show (x.toBitVec.sshiftRight ((nI k &&& 31).toBitVec.smod 32).toNat).getLsbD 0 = _
  rw [s_l32 k hk, BitVec.getLsbD_sshiftRight]
  simp [hk]
theorem and1 (x : Int32) : x &&& nI 1 = nI ((uI x).testBit 0).toNat := by
  have h : x &&& nI 1 = nI (uI x % 2) := pk_and x 1 (by decide)
  rw [h, Nat.testBit_zero]
  rcases Nat.mod_two_eq_zero_or_one (uI x) with q | q <;> rw [q] <;> rfl
theorem isset_eq {x : Int32} {k : Nat} (hk : k < 32) : (x >>> (nI k &&& 31)) &&& nI 1 = nI ((uI x).testBit k).toNat := by
  rw [and1, sshr0 k hk]
theorem ushr1 (x : Int32) : uI ((x.toUInt32 >>> ((nI 1).toUInt32 &&& Int32.toUInt32 31)).toInt32) = uI x / 2 := pk_ushr x (nI 1) 1 (by decide)
theorem not_tb (x : Int32) {i : Nat} (hi : i < 32) : (uI (x ^^^ (-1))).testBit i = !(uI x).testBit i := by
  rw [uI_xor, uI_m1, Nat.testBit_xor, Nat.testBit_two_pow_sub_one, decide_eq_true hi, Bool.xor_true]
theorem bq_or {wa : Nat → Int32} {t b : Nat} {B : Int32} (hB : uI B = 2 ^ (t % 32)) : bq (upd wa (t / 32) (wa (t / 32) ||| B)) 0 b = (bq wa 0 b || decide (b = t)) := by
  unfold bq
  rw [Nat.zero_add]
  by_cases h : b / 32 = t / 32
  · rw [h, pk_us, uI_or, hB, Nat.testBit_or, Nat.testBit_two_pow]
    congr 1
    exact decide_eq_decide.mpr (by omega)
  · rw [pk_un h, decide_eq_false (by omega), Bool.or_false]
theorem bq_x {f : Nat → Int32} {a b r c : Nat} {B : Int32} (hB : uI B = 2 ^ (b % 32)) (hb : b < 224) (hc : c < 224) : bq (upd f (7 * a + b / 32) (f (7 * a + b / 32) ^^^ B)) (7 * r) c = if r = a ∧ c = b then !bq f (7 * a) b else bq f (7 * r) c := by
  unfold bq
  by_cases h : r = a ∧ c / 32 = b / 32
  · rw [h.1, h.2, pk_us, uI_xor, hB, Nat.testBit_xor, Nat.testBit_two_pow]
    by_cases q : c = b
    · rw [if_pos ⟨rfl, q⟩, q]; simp
    · rw [if_neg (fun z => q z.2), decide_eq_false (by omega), Bool.xor_false]
  · rw [pk_un (by omega), if_neg (by omega)]
def spI (n : Nat) (Rl : Nat → Nat → Bool) (src av : Nat → Prop) (wa : Nat → Int32) (le : Nat → Nat) (wt : Nat) (X : Nat → Prop) : Prop :=
  (∀ b, b < 224 → bq wa 0 b = true → b < n ∧ rc (eP Rl) src av b) ∧ (∀ b, src b → b < n ∧ bq wa 0 b = true) ∧ (∀ k, k < wt → le k < n ∧ bq wa 0 (le k) = true) ∧
  (∀ b, b < 224 → bq wa 0 b = true → X b ∨ (∃ k, k < wt ∧ le k = b) ∨ ∀ t, Rl b t = true → ¬ av t → bq wa 0 t = true) ∧ wt ≤ cnP (fun b => bq wa 0 b = true) n
theorem spI_start {n : Nat} {Rl : Nat → Nat → Bool} {src av : Nat → Prop} {wa : Nat → Int32} {le : Nat → Nat} {wt a t : Nat} {B : Int32} (hg : gOk n Rl) (hB : uI B = 2 ^ (t % 32)) (h : spI n Rl src av wa le wt (fun b => b = a)) (ha : a < n) (hwa : bq wa 0 a = true) (e : Rl a t = true) (hv : ¬ av t) (hw : bq wa 0 t = false) :
    wt < n ∧ spI n Rl src av (upd wa (t / 32) (wa (t / 32) ||| B)) (upN le wt t) (wt + 1) (fun b => b = a) ∧ 2 * (n - cnP (fun b => bq (upd wa (t / 32) (wa (t / 32) ||| B)) 0 b = true) n) + (wt + 1) < 2 * (n - cnP (fun b => bq wa 0 b = true) n) + wt := by
  obtain ⟨h1, h2, h3, h4, h5⟩ := h
  have ht := (hg.2.2 a t e).2
  have hn := hg.2.1
  have hm : ∀ b, bq wa 0 b = true → bq (upd wa (t / 32) (wa (t / 32) ||| B)) 0 b = true := fun b hb => by rw [bq_or hB, hb]; rfl
  have hcn : cnP (fun b => bq (upd wa (t / 32) (wa (t / 32) ||| B)) 0 b = true) n = cnP (fun b => bq wa 0 b = true) n + 1 := cnP_add (a := t) (fun k hk => by rw [bq_or hB]; simp) ht (by rw [hw]; simp)
  have hle := cnP_le (P := fun b => bq (upd wa (t / 32) (wa (t / 32) ||| B)) 0 b = true) n
  refine ⟨by omega, ⟨fun b hb q => ?_, fun b q => ⟨(h2 b q).1, hm b (h2 b q).2⟩, fun k hk => ?_, fun b hb q => ?_, by omega⟩, by omega⟩
  · by_cases z : b = t
    · rw [z]; exact ⟨ht, rc_step (h1 a (by omega) hwa).2 e hv⟩
    · rw [bq_or hB, decide_eq_false z, Bool.or_false] at q
      exact h1 b hb q
  · by_cases z : k = wt
    · rw [z, upN_s]; exact ⟨ht, by rw [bq_or hB]; simp⟩
    · rw [upN_n z]
      have := h3 k (by omega)
      exact ⟨this.1, hm _ this.2⟩
  · by_cases z : b = t
    · exact Or.inr (Or.inl ⟨wt, by omega, by rw [upN_s, z]⟩)
    · rw [bq_or hB, decide_eq_false z, Bool.or_false] at q
      rcases h4 b hb q with y | ⟨k, k1, k2⟩ | y
      · exact Or.inl y
      · exact Or.inr (Or.inl ⟨k, by omega, by rw [upN_n (by omega)]; exact k2⟩)
      · exact Or.inr (Or.inr (fun x x1 x2 => hm x (y x x1 x2)))
theorem spI_pop {n : Nat} {Rl : Nat → Nat → Bool} {src av : Nat → Prop} {wa : Nat → Int32} {le : Nat → Nat} {wt : Nat} (h : spI n Rl src av wa le wt (fun _ => False)) : spI n Rl src av wa le (wt - 1) (fun b => b = le (wt - 1)) := by
  obtain ⟨h1, h2, h3, h4, h5⟩ := h
  refine ⟨h1, h2, fun k hk => h3 k (by omega), fun b hb q => ?_, by omega⟩
  rcases h4 b hb q with y | ⟨k, k1, k2⟩ | y
  · exact y.elim
  · by_cases z : k = wt - 1
    · exact Or.inl (by rw [← z]; exact k2.symm)
    · exact Or.inr (Or.inl ⟨k, by omega, k2⟩)
  · exact Or.inr (Or.inr y)
theorem spI_done {n : Nat} {Rl : Nat → Nat → Bool} {src av : Nat → Prop} {wa : Nat → Int32} {le : Nat → Nat} {wt a : Nat} (h : spI n Rl src av wa le wt (fun b => b = a)) (hc : ∀ t, Rl a t = true → ¬ av t → bq wa 0 t = true) : spI n Rl src av wa le wt (fun _ => False) := by
  obtain ⟨h1, h2, h3, h4, h5⟩ := h
  refine ⟨h1, h2, h3, fun b hb q => ?_, h5⟩
  rcases h4 b hb q with y | y | y
  · exact Or.inr (Or.inr (by rw [y]; exact hc))
  · exact Or.inr (Or.inl y)
  · exact Or.inr (Or.inr y)
theorem spI_end {n : Nat} {Rl : Nat → Nat → Bool} {src av : Nat → Prop} {wa : Nat → Int32} {le : Nat → Nat} (hg : gOk n Rl) (h : spI n Rl src av wa le 0 (fun _ => False)) : ∀ b, b < 224 → (bq wa 0 b = true ↔ rc (eP Rl) src av b) := by
  obtain ⟨h1, h2, h3, h4, h5⟩ := h
  have hn := hg.2.1
  refine fun b hb => ⟨fun q => (h1 b hb q).2, fun q => ?_⟩
  have key : b < n ∧ bq wa 0 b = true := rc_ind (P := fun b => b < n ∧ bq wa 0 b = true) (fun b q => h2 b q) (fun x y _ ih e hv => by
    refine ⟨(hg.2.2 x y e).2, ?_⟩
    rcases h4 x (by omega) ih.2 with z | ⟨k, k1, _⟩ | z
    · exact z.elim
    · omega
    · exact z y e hv) q
  exact key.2
theorem ms_ind {P : Nat → Prop} (h : ∀ d, (∀ j, j < d → P j) → P d) : ∀ d, P d := fun d => Nat.strongRecOn d h
theorem m1d32 : (-1 : Int32) / nI 32 = nI 0 := by decide

set_option maxHeartbeats 4000000 in
set_option maxRecDepth 100000 in
/-- isBlock of the reference -/
theorem c_mB (l : Launch) (G : va_G) (cI cJ cZ : ClassId) (am : Nat → Nat) (on ba : Nat → Int32) (ik : Nat) (me un : Nat → Int32) (ra : Nat → Nat) (ne : Nat → Int32) (he de : Nat → Nat) (wa : Nat → Int32) (le : Nat → Nat) (n wt : Nat) (x : Int32) (hbl : n ≤ 200) : ctI l yX2_isBlock wsX2_isBlock { frames := 0, cells := 0, slots := 0, locals := 0 } G (ty3 cI cJ cZ) [.ref (am 0), .int x] (wM am cI cZ on ba ik me un ra ne he de wa le n wt) (fun r (_ : Unit) => yn (∃ j, isB n x j) r) (fun _ => wM am cI cZ on ba ik me un ra ne he de wa le n wt) := by
  refine metI (cc := cX2_isBlock) (maxL := 2) (ret := (some .boolean)) (by decide) rfl (Nat.le_of_ble_eq_true rfl) ?_
  intro p e s m below meth c C hr hlk
  refine ga_lv (lv9 := [(0, .ref (am 0)), (1, .int x)]) ⟨rfl, rfl, trivial⟩ ?_
  refine ga_iload_n 1 C dX2_isBlock_0 rfl rfl ?_
  refine ga_if_lt 16 C dX2_isBlock_1 (by decide) (fun h9 => ?_) (fun h9 => ?_)
  · skip
    refine ga_iconst (v := nI 0) C dX2_isBlock_16 (by decide) ?_
    refine ga_iret C hr (nar_z (by omega)) hlk dX2_isBlock_17 () (Or.inr ⟨?_, rfl⟩) rfl
    rintro ⟨j, hj, rfl⟩
    exact nI_pos (by omega) h9
  · skip
    refine ga_iload_n 1 C dX2_isBlock_4 rfl rfl ?_
    refine ga_aload_n 0 C dX2_isBlock_5 rfl rfl ?_
    refine gm_get_n C in_X2_isBlock (by decide +kernel) dX2_isBlock_6 ?_
    refine ga_icmp_ge 16 C dX2_isBlock_9 (by decide) (fun h8 => ?_) (fun h8 => ?_)
    · skip
      refine ga_iconst (v := nI 0) C dX2_isBlock_16 (by decide) ?_
      refine ga_iret C hr (nar_z (by omega)) hlk dX2_isBlock_17 () (Or.inr ⟨?_, rfl⟩) rfl
      rintro ⟨j, hj, rfl⟩
      exact nI_ge hj (by omega) h8
    · skip
      refine ga_iconst (v := nI 1) C dX2_isBlock_12 (by decide) ?_
      refine ga_goto 17 C dX2_isBlock_13 (by decide) ?_
      obtain ⟨j, hj, ej, -⟩ := pk_mu h9 h8 (by omega)
      exact ga_iret C hr (nar_z (by omega)) hlk dX2_isBlock_17 () (Or.inl ⟨⟨j, hj, ej⟩, rfl⟩) rfl
set_option maxHeartbeats 4000000 in
set_option maxRecDepth 100000 in
/-- isSet -/
theorem c_mset (l : Launch) (G : va_G) (cI cJ cZ : ClassId) (q ln : Nat) (f : Nat → Int32) (o b : Nat) (hln : ln < 2 ^ 31) (ho : o < 2 ^ 20) (hb : b < 2 ^ 20) (hin : o + b / 32 < ln) : ctI l yX2_isSet wsX2_isSet { frames := 0, cells := 0, slots := 0, locals := 0 } G (ty3 cI cJ cZ) [.ref q, .int (nI o), .int (nI b)] ([(q, .inl (cI, ln, .inl f))]) (fun r (_ : Unit) => r = nI (bq f o b).toNat) (fun _ => [(q, .inl (cI, ln, .inl f))]) := by
  refine metI (cc := cX2_isSet) (maxL := 3) (ret := (some .boolean)) (by decide) rfl (Nat.le_of_ble_eq_true rfl) ?_
  intro p e s m below meth c C hr hlk
  refine ga_lv (lv9 := [(0, .ref q), (1, .int (nI o)), (2, .int (nI b))]) ⟨rfl, rfl, rfl, trivial⟩ ?_
  refine ga_aload_n 0 C dX2_isSet_0 rfl rfl ?_
  refine ga_iload_n 1 C dX2_isSet_1 rfl rfl ?_
  refine ga_iload_n 2 C dX2_isSet_2 rfl rfl ?_
  refine ga_bipush (v := nI 32) C dX2_isSet_3 (by decide) ?_
  refine ga_idiv C dX2_isSet_5 n32_ne (dv32 (by omega)) ?_
  refine ga_iadd C dX2_isSet_6 (nI_add _ _) ?_
  refine ga_iald C 0 0 rfl rfl hin hln dX2_isSet_7 ?_
  refine ga_iload_n 2 C dX2_isSet_8 rfl rfl ?_
  refine ga_bipush (v := nI 32) C dX2_isSet_9 (by decide) ?_
  refine ga_irem C dX2_isSet_11 n32_ne (rm32 (by omega)) ?_
  refine ga_ishr C dX2_isSet_12 rfl ?_
  refine ga_iconst (v := nI 1) C dX2_isSet_13 (by decide) ?_
  refine ga_iand C dX2_isSet_14 (isset_eq (Nat.mod_lt _ (by decide))) ?_
  have hbl := btl (bq f o b)
  refine ga_iconst (v := nI 1) C dX2_isSet_15 (by decide) ?_
  refine gn_icmp_ne 23 C dX2_isSet_16 (by decide) (show (bq f o b).toNat < 2 ^ 31 by omega) (by omega) (fun h9 => ?_) (fun h9 => ?_)
  · have h9 : (bq f o b).toNat ≠ 1 := h9
    refine ga_iconst (v := nI 0) C dX2_isSet_23 (by decide) ?_
    refine ga_iret C hr (nar_z (by omega)) hlk dX2_isSet_24 () ?_ rfl
    rw [show (bq f o b).toNat = 0 by omega]
  · have h9 : (bq f o b).toNat = 1 := h9
    refine ga_iconst (v := nI 1) C dX2_isSet_19 (by decide) ?_
    refine ga_goto 24 C dX2_isSet_20 (by decide) ?_
    refine ga_iret C hr (nar_z (by omega)) hlk dX2_isSet_24 () ?_ rfl
    rw [h9]
set_option maxHeartbeats 4000000 in
set_option maxRecDepth 100000 in
/-- turn -/
theorem c_mturn (l : Launch) (G : va_G) (cI cJ cZ : ClassId) (q ln : Nat) (f : Nat → Int32) (o b : Nat) (hln : ln < 2 ^ 31) (ho : o < 2 ^ 20) (hb : b < 2 ^ 20) (hin : o + b / 32 < ln) : ctV l yX2_turn wsX2_turn { frames := 0, cells := 0, slots := 0, locals := 0 } G (ty3 cI cJ cZ) [.ref q, .int (nI o), .int (nI b)] ([(q, .inl (cI, ln, .inl f))]) (fun u : Nat → Int32 => ∃ B : Int32, uI B = 2 ^ (b % 32) ∧ u = upd f (o + b / 32) (f (o + b / 32) ^^^ B)) (fun u => [(q, .inl (cI, ln, .inl u))]) := by
  refine metV (cc := cX2_turn) (maxL := 3) (ret := none) (by decide) rfl (Nat.le_of_ble_eq_true rfl) ?_
  intro p e s m below meth c C hr hlk
  refine ga_lv (lv9 := [(0, .ref q), (1, .int (nI o)), (2, .int (nI b))]) ⟨rfl, rfl, rfl, trivial⟩ ?_
  refine ga_aload_n 0 C dX2_turn_0 rfl rfl ?_
  refine ga_iload_n 1 C dX2_turn_1 rfl rfl ?_
  refine ga_iload_n 2 C dX2_turn_2 rfl rfl ?_
  refine ga_bipush (v := nI 32) C dX2_turn_3 (by decide) ?_
  refine ga_idiv C dX2_turn_5 n32_ne (dv32 (by omega)) ?_
  refine ga_iadd C dX2_turn_6 (nI_add _ _) ?_
  refine ga_dup2 C dX2_turn_7 rfl rfl ?_
  refine ga_iald C 0 0 rfl rfl hin hln dX2_turn_8 ?_
  refine ga_iconst (v := nI 1) C dX2_turn_9 (by decide) ?_
  refine ga_iload_n 2 C dX2_turn_10 rfl rfl ?_
  refine ga_bipush (v := nI 32) C dX2_turn_11 (by decide) ?_
  refine ga_irem C dX2_turn_13 n32_ne (rm32 (by omega)) ?_
  refine ga_ishl C dX2_turn_14 rfl ?_
  refine ga_ixor C dX2_turn_15 rfl ?_
  refine ga_iast C 0 0 rfl rfl hin hln dX2_turn_16 rfl ?_
  exact ga_vret C hr hlk dX2_turn_17 _ ⟨_, uI_bit (b % 32) (Nat.mod_lt _ (by decide)), rfl⟩ rfl
set_option maxHeartbeats 4000000 in
set_option maxRecDepth 100000 in
/-- start -/
theorem c_mstart (l : Launch) (G : va_G) (cI cJ cZ : ClassId) (am : Nat → Nat) (on ba : Nat → Int32) (ik : Nat) (me un : Nat → Int32) (ra : Nat → Nat) (ne : Nat → Int32) (he de : Nat → Nat) (wa : Nat → Int32) (le : Nat → Nat) (n wt : Nat) (b : Nat) (hb : b < 224) (hwt : wt < 200) : ctV l yX2_start wsX2_start { frames := 0, cells := 0, slots := 0, locals := 0 } G (ty3 cI cJ cZ) [.ref (am 0), .int (nI b)] (wM am cI cZ on ba ik me un ra ne he de wa le n wt) (fun _ : Unit => True) (fun _ => wM am cI cZ on ba ik me un ra ne he de (upd wa (b / 32) (wa (b / 32) ||| (nI 1 <<< (nI (b % 32) &&& 31)))) (upN le wt b) n (wt + 1)) := by
  refine metV (cc := cX2_start) (maxL := 2) (ret := none) (by decide) rfl (Nat.le_of_ble_eq_true rfl) ?_
  intro p e s m below meth c C hr hlk
  refine ga_lv (lv9 := [(0, .ref (am 0)), (1, .int (nI b))]) ⟨rfl, rfl, trivial⟩ ?_
  refine ga_aload_n 0 C dX2_start_0 rfl rfl ?_
  refine gm_get_wa C in_X2_start (by decide +kernel) dX2_start_1 ?_
  refine ga_iload_n 1 C dX2_start_4 rfl rfl ?_
  refine ga_bipush (v := nI 32) C dX2_start_5 (by decide) ?_
  refine ga_idiv C dX2_start_7 n32_ne (dv32 (by omega)) ?_
  refine ga_dup2 C dX2_start_8 rfl rfl ?_
  refine gm_ald_wa C (by omega) dX2_start_9 ?_
  refine ga_iconst (v := nI 1) C dX2_start_10 (by decide) ?_
  refine ga_iload_n 1 C dX2_start_11 rfl rfl ?_
  refine ga_bipush (v := nI 32) C dX2_start_12 (by decide) ?_
  refine ga_irem C dX2_start_14 n32_ne (rm32 (by omega)) ?_
  refine ga_ishl C dX2_start_15 rfl ?_
  refine ga_ior C dX2_start_16 rfl ?_
  refine gm_ast_wa C (by omega) dX2_start_17 ?_
  refine ga_aload_n 0 C dX2_start_18 rfl rfl ?_
  refine gm_get_le C in_X2_start (by decide +kernel) dX2_start_19 ?_
  refine ga_aload_n 0 C dX2_start_22 rfl rfl ?_
  refine gm_get_wt C in_X2_start (by decide +kernel) dX2_start_23 ?_
  refine ga_iload_n 1 C dX2_start_26 rfl rfl ?_
  refine gm_ast_le C (by omega) dX2_start_27 ?_
  refine ga_aload_n 0 C dX2_start_28 rfl rfl ?_
  refine ga_dup C dX2_start_29 rfl ?_
  refine gm_get_wt C in_X2_start (by decide +kernel) dX2_start_30 ?_
  refine ga_iconst (v := nI 1) C dX2_start_33 (by decide) ?_
  refine ga_iadd C dX2_start_34 (nI_add _ _) ?_
  refine gm_put_wt C in_X2_start (by decide +kernel) dX2_start_35 ?_
  exact ga_vret C hr hlk dX2_start_38 () trivial rfl
set_option maxHeartbeats 4000000 in
set_option maxRecDepth 100000 in
/-- clear -/
theorem c_mclear (l : Launch) (G : va_G) (cI cJ cZ : ClassId) (am : Nat → Nat) (on ba : Nat → Int32) (ik : Nat) (me un : Nat → Int32) (ra : Nat → Nat) (ne : Nat → Int32) (he de : Nat → Nat) (wa : Nat → Int32) (le : Nat → Nat) (n wt : Nat) : ctV l yX2_clear wsX2_clear { frames := 0, cells := 0, slots := 0, locals := 0 } G (ty3 cI cJ cZ) [.ref (am 0)] (wM am cI cZ on ba ik me un ra ne he de wa le n wt) (fun u : Nat → Int32 => ∀ b, b < 224 → bq u 0 b = false) (fun u => wM am cI cZ on ba ik me un ra ne he de u le n 0) := by
  refine metV (cc := cX2_clear) (maxL := 2) (ret := none) (by decide) rfl (Nat.le_of_ble_eq_true rfl) ?_
  intro p e s m below meth c C hr hlk
  refine ga_lv (lv9 := [(0, .ref (am 0))]) ⟨rfl, trivial⟩ ?_
  refine ga_aload_n 0 C dX2_clear_0 rfl rfl ?_
  refine ga_iconst (v := nI 0) C dX2_clear_1 (by decide) ?_
  refine gm_put_wt C in_X2_clear (by decide +kernel) dX2_clear_2 ?_
  refine ga_iconst (v := nI 0) C dX2_clear_5 (by decide) ?_
  refine ga_istore_n 1 C dX2_clear_6 rfl (by decide) rfl ?_
  refine ga_lv (lv9 := [(0, .ref (am 0)), (1, .int (nI 0))]) ⟨rfl, rfl, trivial⟩ ?_
  refine up_ind 7 (P := fun i => ∀ wa : Nat → Int32, (∀ j, j < i → wa j = nI 0) → gG p l e _ s m _ below meth c G _ _ 0 0 _ (wM am cI cZ on ba ik me un ra ne he de wa le n 0) [(0, .ref (am 0)), (1, .int (nI i))] 7 []) ?_ 0 (by omega) wa (fun j hj => by omega)
  intro i hi ih wa hw
  refine ga_iload_n 1 C dX2_clear_7 rfl rfl ?_
  refine ga_bipush (v := nI 7) C dX2_clear_8 (by decide) ?_
  refine gn_icmp_ge 26 C dX2_clear_10 (by decide) (by omega) (by omega) (fun h9 => ?_) (fun h9 => ?_)
  · refine ga_vret C hr hlk dX2_clear_26 wa (fun b hb => ?_) rfl
    unfold bq
    rw [Nat.zero_add, hw _ (by omega)]
    exact Nat.zero_testBit _
  · skip
    refine ga_aload_n 0 C dX2_clear_13 rfl rfl ?_
    refine gm_get_wa C in_X2_clear (by decide +kernel) dX2_clear_14 ?_
    refine ga_iload_n 1 C dX2_clear_17 rfl rfl ?_
    refine ga_iconst (v := nI 0) C dX2_clear_18 (by decide) ?_
    refine gm_ast_wa C (by omega) dX2_clear_19 ?_
    refine ga_iinc 1 C dX2_clear_20 rfl (nI_inc _) (by decide) rfl ?_
    refine ga_goto 7 C dX2_clear_23 (by decide) ?_
    refine ga_lv (lv9 := [(0, .ref (am 0)), (1, .int (nI (i + 1)))]) ⟨rfl, rfl, trivial⟩ ?_
    refine ih (i + 1) (by omega) (by omega) _ (fun j hj => ?_)
    by_cases q : j = i
    · rw [q, pk_us]
    · rw [pk_un q]; exact hw j (by omega)
section GCM
variable {p : Program} {l : Launch} {e : Env} {R : Room} {s : State} {m : MethodId} {args : Array Value} {below : List Frame} {meth : Method} {c : Code} {G : va_G} {A : Nat → Prop} {nL cells slots : Nat} {Q : State → Prop}
variable {cc : ByteArray} {Ts : List Cond} {own : String} {lv : List (Nat × Value)} {pc index : Nat} {st st0 : List Value} {cI cJ cZ : ClassId}
theorem gm_cg_i {am : Nat → Nat} {on ba : Nat → Int32} {ik : Nat} {me un : Nat → Int32} {ra : Nat → Nat} {ne : Nat → Int32} {he de : Nat → Nat} {wa : Nat → Int32} {le : Nat → Nat} {n wt : Nat} {y : MethodName} {wy : List Cond} {bytes : ByteArray} {maxL nn : Nat} {ret : Option FieldType} {rm : Room} {As : List Value} {σ : Type} {post : Int32 → σ → Prop} {wR : σ → va_W} (C : gC p s m args c cc nL Ts own G (ty3 cI cJ cZ) A) (hM : ctI l y wy rm G (ty3 cI cJ cZ) (.ref (am 0) :: As) (wM am cI cZ on ba ik me un ra ne he de wa le n wt) post wR) (cw : CallW R s args own RX2 index y bytes maxL ret wy rm 0 0 nn) (hlen : As.length = nn) (hst : st0 = As.reverse ++ .ref (am 0) :: st) (hroom : (st.map fun v => v.category).sum ≤ 8) (hd : decode cc pc = .ok (.invokevirtual index, 3)) (hcap : cells ≤ R.cells ∧ slots ≤ R.slots) (k : ∀ (r : Int32) (u : σ), post r u → gG p l e R s m args below meth c G A nL cells slots Q (wR u) (lv) (pc + 3) (.int r :: st)) : gG p l e R s m args below meth c G A nL cells slots Q (wM am cI cZ on ba ik me un ra ne he de wa le n wt) (lv) (pc) (st0) := ga_callVi (wr := []) C hM cw [0, 1, 2, 3, 4, 5, 6, 7, 8, 9, 10] [] rfl rfl rfl rfl (by decide) 0 rfl rfl rfl hlen hst hroom hd hcap (fun r u hp => k r u hp)
theorem gm_cg_v {am : Nat → Nat} {on ba : Nat → Int32} {ik : Nat} {me un : Nat → Int32} {ra : Nat → Nat} {ne : Nat → Int32} {he de : Nat → Nat} {wa : Nat → Int32} {le : Nat → Nat} {n wt : Nat} {y : MethodName} {wy : List Cond} {bytes : ByteArray} {maxL nn : Nat} {ret : Option FieldType} {rm : Room} {As : List Value} {σ : Type} {post : σ → Prop} {wR : σ → va_W} (C : gC p s m args c cc nL Ts own G (ty3 cI cJ cZ) A) (hM : ctV l y wy rm G (ty3 cI cJ cZ) (.ref (am 0) :: As) (wM am cI cZ on ba ik me un ra ne he de wa le n wt) post wR) (cw : CallW R s args own RX2 index y bytes maxL ret wy rm 0 0 nn) (hlen : As.length = nn) (hst : st0 = As.reverse ++ .ref (am 0) :: st) (hroom : (st.map fun v => v.category).sum ≤ 8) (hd : decode cc pc = .ok (.invokevirtual index, 3)) (hcap : cells ≤ R.cells ∧ slots ≤ R.slots) (k : ∀ u : σ, post u → gG p l e R s m args below meth c G A nL cells slots Q (wR u) (lv) (pc + 3) (st)) : gG p l e R s m args below meth c G A nL cells slots Q (wM am cI cZ on ba ik me un ra ne he de wa le n wt) (lv) (pc) (st0) := ga_callVv (wr := []) C hM cw [0, 1, 2, 3, 4, 5, 6, 7, 8, 9, 10] [] rfl rfl rfl rfl (by decide) 0 rfl rfl rfl hlen hst hroom hd hcap (fun u hp => k u hp)
end GCM
set_option maxHeartbeats 4000000 in
set_option maxRecDepth 100000 in
/-- spread -/
theorem c_mspread_on (l : Launch) (G : va_G) (cI cJ cZ : ClassId) (am : Nat → Nat) (on ba : Nat → Int32) (ik : Nat) (me un : Nat → Int32) (ra : Nat → Nat) (ne : Nat → Int32) (he de : Nat → Nat) (wa : Nat → Int32) (le : Nat → Nat) (n wt : Nat) (wv : Int32) (Rl : Nat → Nat → Bool) (src av : Nat → Prop) (hg : gOk n Rl) (hrl : ∀ a b, a < 200 → b < 224 → bq on (7 * a) b = Rl a b) (hwv : (wv = -1 ∧ ∀ t, ¬ av t) ∨ ∃ d, d < n ∧ wv = nI d ∧ ∀ t, (av t ↔ t = d)) (h0 : spI n Rl src av wa le wt (fun _ => False)) : ctV l yX2_spread wsX2_spread { frames := 1, cells := 0, slots := 0, locals := 21 } G (ty3 cI cJ cZ) [.ref (am 0), .ref (am 1), .int wv] (wM am cI cZ on ba ik me un ra ne he de wa le n wt) (fun u : (Nat → Int32) × (Nat → Nat) => ∀ b, b < 224 → (bq u.1 0 b = true ↔ rc (eP Rl) src av b)) (fun u : (Nat → Int32) × (Nat → Nat) => wM am cI cZ on ba ik me un ra ne he de u.1 u.2 n 0) := by
  refine metV (cc := cX2_spread) (maxL := 7) (ret := none) (by decide) rfl (Nat.le_of_ble_eq_true rfl) ?_
  intro p e s m below meth c C hr hlk
  refine ga_lv (lv9 := [(0, .ref (am 0)), (1, .ref (am 1)), (2, .int wv)]) ⟨rfl, rfl, rfl, trivial⟩ ?_
  have hn := hg.2.1
  obtain ⟨d0, hd0⟩ : ∃ d, d = 2 * (n - cnP (fun b => bq wa 0 b = true) n) + wt := ⟨_, rfl⟩
  refine ms_ind (P := fun d => ∀ (wa : Nat → Int32) (le : Nat → Nat) (wt : Nat), spI n Rl src av wa le wt (fun _ => False) → d = 2 * (n - cnP (fun b => bq wa 0 b = true) n) + wt → gG p l e _ s m _ below meth c G _ _ 0 0 _ (wM am cI cZ on ba ik me un ra ne he de wa le n wt) [(0, .ref (am 0)), (1, .ref (am 1)), (2, .int wv)] 0 []) ?_ d0 wa le wt h0 hd0
  clear hd0 d0 h0
  intro d0 ih wa le wt h0 hd0
  have hwt : wt ≤ 200 := by
    have h1 := h0.2.2.2.2
    have h2 := cnP_le (P := fun b => bq wa 0 b = true) n
    omega
  refine ga_aload_n 0 C dX2_spread_0 rfl rfl ?_
  refine gm_get_wt C in_X2_spread (by decide +kernel) dX2_spread_1 ?_
  refine gn_if_le 131 C dX2_spread_4 (by decide) (by omega) (fun h9 => ?_) (fun h9 => ?_)
  · obtain rfl : wt = 0 := by omega
    exact ga_vret C hr hlk dX2_spread_131 (wa, le) (spI_end hg h0) rfl
  obtain ⟨ha1, ha2⟩ := h0.2.2.1 (wt - 1) (by omega)
  refine ga_aload_n 0 C dX2_spread_7 rfl rfl ?_
  refine ga_dup C dX2_spread_8 rfl ?_
  refine gm_get_wt C in_X2_spread (by decide +kernel) dX2_spread_9 ?_
  refine ga_iconst (v := nI 1) C dX2_spread_12 (by decide) ?_
  refine ga_isub C dX2_spread_13 (pk_sub (by omega)) ?_
  refine gm_put_wt C in_X2_spread (by decide +kernel) dX2_spread_14 ?_
  refine ga_aload_n 0 C dX2_spread_17 rfl rfl ?_
  refine gm_get_le C in_X2_spread (by decide +kernel) dX2_spread_18 ?_
  refine ga_aload_n 0 C dX2_spread_21 rfl rfl ?_
  refine gm_get_wt C in_X2_spread (by decide +kernel) dX2_spread_22 ?_
  refine gm_ald_le C (by omega) dX2_spread_25 ?_
  refine ga_istore_n 3 C dX2_spread_26 rfl (by decide) rfl ?_
  refine ga_iconst (v := nI 0) C dX2_spread_27 (by decide) ?_
  refine ga_istore 4 C dX2_spread_28 (by decide) rfl ?_
  have hp := spI_pop h0
  obtain ⟨a, hae⟩ : ∃ a, a = le (wt - 1) := ⟨_, rfl⟩
  rw [← hae] at ha1 ha2 hp ⊢
  have hmu : 2 * (n - cnP (fun b => bq wa 0 b = true) n) + (wt - 1) < d0 := by omega
  refine ga_lv (lv9 := [(0, .ref (am 0)), (1, .ref (am 1)), (2, .int wv), (3, .int (nI a)), (4, .int (nI 0))]) ⟨rfl, rfl, rfl, rfl, rfl, trivial⟩ ?_
  refine up_ind 7 (P := fun k => ∀ (wa : Nat → Int32) (le : Nat → Nat) (wt : Nat), spI n Rl src av wa le wt (fun b => b = a) → bq wa 0 a = true → 2 * (n - cnP (fun b => bq wa 0 b = true) n) + wt < d0 → (∀ t, t < 32 * k → Rl a t = true → ¬ av t → bq wa 0 t = true) → gG p l e _ s m _ below meth c G _ _ 0 0 _ (wM am cI cZ on ba ik me un ra ne he de wa le n wt) [(0, .ref (am 0)), (1, .ref (am 1)), (2, .int wv), (3, .int (nI a)), (4, .int (nI k))] 30 []) ?_ 0 (by omega) wa le (wt - 1) hp ha2 hmu (fun t q => by omega)
  clear hmu hp hae ha2 h9 hwt hd0 h0 wt le wa
  intro k hk ih2 wa le wt hp ha2 hmu hcl
  refine ga_iload 4 C dX2_spread_30 rfl ?_
  refine ga_bipush (v := nI 7) C dX2_spread_32 (by decide) ?_
  refine gn_icmp_ge 128 C dX2_spread_34 (by decide) (by omega) (by omega) (fun h9 => ?_) (fun h9 => ?_)
  · skip
    refine ga_goto 0 C dX2_spread_128 (by decide) ?_
    refine ga_lv (lv9 := [(0, .ref (am 0)), (1, .ref (am 1)), (2, .int wv)]) ⟨rfl, rfl, rfl, trivial⟩ ?_
    exact ih _ hmu wa le wt (spI_done hp (fun t t1 t2 => hcl t (by have := (hg.2.2 _ _ t1).2; omega) t1 t2)) rfl
  refine ga_aload_n 1 C dX2_spread_37 rfl rfl ?_
  refine ga_bipush (v := nI 7) C dX2_spread_38 (by decide) ?_
  refine ga_iload_n 3 C dX2_spread_40 rfl rfl ?_
  refine ga_imul C dX2_spread_41 (pk_mul _ _) ?_
  refine ga_iload 4 C dX2_spread_42 rfl ?_
  refine ga_iadd C dX2_spread_44 (nI_add _ _) ?_
  refine gm_ald_on C (by omega) dX2_spread_45 ?_
  refine ga_aload_n 0 C dX2_spread_46 rfl rfl ?_
  refine gm_get_wa C in_X2_spread (by decide +kernel) dX2_spread_47 ?_
  refine ga_iload 4 C dX2_spread_50 rfl ?_
  refine gm_ald_wa C (by omega) dX2_spread_52 ?_
  refine ga_iconst (v := -1) C dX2_spread_53 (by decide) ?_
  refine ga_ixor C dX2_spread_54 rfl ?_
  refine ga_iand C dX2_spread_55 rfl ?_
  refine ga_istore 5 C dX2_spread_56 (by decide) rfl ?_
  refine ga_tail (α := Int32) (H := fun M => ∀ j, j < 32 → ((uI M).testBit j = true ↔ (Rl a (32 * k + j) = true ∧ bq wa 0 (32 * k + j) = false ∧ ¬ av (32 * k + j)))) (w9 := fun _ => wM am cI cZ on ba ik me un ra ne he de wa le n wt) (lv9 := fun M => [(0, .ref (am 0)), (1, .ref (am 1)), (2, .int wv), (3, .int (nI a)), (4, .int (nI k)), (5, .int M)]) (pc9 := 84) (F := fun _ => []) ?_ (fun tail => ?_)
  · intro M hM
    refine ga_bipush (v := nI 32) C dX2_spread_84 (by decide) ?_
    refine ga_iload 4 C dX2_spread_86 rfl ?_
    refine ga_imul C dX2_spread_88 (pk_mul _ _) ?_
    refine ga_istore 6 C dX2_spread_89 (by decide) rfl ?_
    refine ga_lv (lv9 := [(0, .ref (am 0)), (1, .ref (am 1)), (2, .int wv), (3, .int (nI a)), (4, .int (nI k)), (5, .int M), (6, .int (nI (32 * k + 0)))]) ⟨rfl, rfl, rfl, rfl, rfl, rfl, rfl, trivial⟩ ?_
    refine up_ind 32 (P := fun j => ∀ (wa1 : Nat → Int32) (le : Nat → Nat) (wt : Nat) (M1 : Int32), uI M1 = uI M / 2 ^ j → (∀ b, bq wa 0 b = true → bq wa1 0 b = true) → (∀ i, j ≤ i → i < 32 → bq wa1 0 (32 * k + i) = bq wa 0 (32 * k + i)) → (∀ i, i < j → Rl a (32 * k + i) = true → ¬ av (32 * k + i) → bq wa1 0 (32 * k + i) = true) → spI n Rl src av wa1 le wt (fun b => b = a) → 2 * (n - cnP (fun b => bq wa1 0 b = true) n) + wt < d0 → gG p l e _ s m _ below meth c G _ _ 0 0 _ (wM am cI cZ on ba ik me un ra ne he de wa1 le n wt) [(0, .ref (am 0)), (1, .ref (am 1)), (2, .int wv), (3, .int (nI a)), (4, .int (nI k)), (5, .int M1), (6, .int (nI (32 * k + j)))] 91 []) ?_ 0 (by omega) wa le wt M (by simp) (fun _ q => q) (fun _ _ _ => rfl) (fun i q => by omega) hp hmu
    clear hmu hp wt le
    intro j hj ih3 wa1 le wt M1 hM1 hm1 hm2 hm3 hp hmu
    refine ga_iload 5 C dX2_spread_91 rfl ?_
    refine ga_if_eq 122 C dX2_spread_93 (by decide) (fun h8 => ?_) (fun h8 => ?_)
    · skip
      refine ga_iinc 4 C dX2_spread_122 rfl (nI_inc _) (by decide) rfl ?_
      refine ga_goto 30 C dX2_spread_125 (by decide) ?_
      refine ga_lv (lv9 := [(0, .ref (am 0)), (1, .ref (am 1)), (2, .int wv), (3, .int (nI a)), (4, .int (nI (k + 1)))]) ⟨rfl, rfl, rfl, rfl, rfl, trivial⟩ ?_
      refine ih2 (k + 1) (by omega) (by omega) wa1 le wt hp (hm1 a ha2) hmu (fun t t1 t2 t3 => ?_)
      by_cases q : t < 32 * k
      · exact hm1 t (hcl t q t2 t3)
      · obtain ⟨i, rfl⟩ : ∃ i, t = 32 * k + i := ⟨t - 32 * k, by omega⟩
        by_cases q2 : i < j
        · exact hm3 i q2 t2 t3
        · have hz : (uI M).testBit i = false := by
            have h1 : (uI M1).testBit (i - j) = false := by rw [h8, uI_0, Nat.zero_testBit]
            rw [hM1, Nat.testBit_div_two_pow, show i - j + j = i by omega] at h1
            exact h1
          rw [hm2 i (by omega) (by omega)]
          cases hq : bq wa 0 (32 * k + i) with
          | true => rfl
          | false => rw [(hM i (by omega)).mpr ⟨t2, hq, t3⟩] at hz; cases hz
    have hj2 : j < 32 := by
      apply Nat.lt_of_not_le
      intro q
      apply h8
      apply uI_inj
      rw [hM1, uI_0]
      apply Nat.div_eq_of_lt
      have h1 := uI_lt M
      have h2 : (2 : Nat) ^ 32 ≤ 2 ^ j := Nat.pow_le_pow_right (by decide) q
      omega
    have hM1b : (uI M1).testBit 0 = (uI M).testBit j := by rw [hM1, Nat.testBit_div_two_pow, Nat.zero_add]
    have hbl := btl ((uI M1).testBit 0)
    refine ga_tail (α := (Nat → Int32) × (Nat → Nat) × Nat) (H := fun q => (∀ b, bq wa 0 b = true → bq q.1 0 b = true) ∧ (∀ i, j + 1 ≤ i → i < 32 → bq q.1 0 (32 * k + i) = bq wa 0 (32 * k + i)) ∧ (∀ i, i < j + 1 → Rl a (32 * k + i) = true → ¬ av (32 * k + i) → bq q.1 0 (32 * k + i) = true) ∧ spI n Rl src av q.1 q.2.1 q.2.2 (fun b => b = a) ∧ 2 * (n - cnP (fun b => bq q.1 0 b = true) n) + q.2.2 < d0) (w9 := fun q => wM am cI cZ on ba ik me un ra ne he de q.1 q.2.1 n q.2.2) (lv9 := fun _ => [(0, .ref (am 0)), (1, .ref (am 1)), (2, .int wv), (3, .int (nI a)), (4, .int (nI k)), (5, .int M1), (6, .int (nI (32 * k + j)))]) (pc9 := 110) (F := fun _ => []) ?_ (fun tail2 => ?_)
    · rintro ⟨wa2, le2, wt2⟩ ⟨y1, y2, y3, y4, y5⟩
      refine ga_iload 5 C dX2_spread_110 rfl ?_
      refine ga_iconst (v := nI 1) C dX2_spread_112 (by decide) ?_
      refine ga_iushr C dX2_spread_113 rfl ?_
      refine ga_istore 5 C dX2_spread_114 (by decide) rfl ?_
      refine ga_iinc 6 C dX2_spread_116 rfl (nI_inc _) (by decide) rfl ?_
      refine ga_goto 91 C dX2_spread_119 (by decide) ?_
      refine ga_lv (lv9 := [(0, .ref (am 0)), (1, .ref (am 1)), (2, .int wv), (3, .int (nI a)), (4, .int (nI k)), (5, .int _), (6, .int (nI (32 * k + (j + 1))))]) ⟨rfl, rfl, rfl, rfl, rfl, rfl, rfl, trivial⟩ ?_
      refine ih3 (j + 1) (by omega) (by omega) wa2 le2 wt2 _ ?_ y1 y2 y3 y4 y5
      rw [ushr1, hM1, Nat.div_div_eq_div_mul, ← Nat.pow_succ]
    refine ga_iload 5 C dX2_spread_96 rfl ?_
    refine ga_iconst (v := nI 1) C dX2_spread_98 (by decide) ?_
    refine ga_iand C dX2_spread_99 (and1 _) ?_
    refine ga_iconst (v := nI 1) C dX2_spread_100 (by decide) ?_
    refine gn_icmp_ne 110 C dX2_spread_101 (by decide) (show ((uI M1).testBit 0).toNat < 2 ^ 31 by omega) (by omega) (fun h7 => ?_) (fun h7 => ?_)
    · refine ga_lk (tail2 (wa1, le, wt) ⟨hm1, fun i i1 i2 => hm2 i (by omega) i2, fun i i1 i2 i3 => ?_, hp, hmu⟩) ⟨rfl, rfl, rfl, rfl, rfl, rfl, rfl, trivial⟩
      by_cases q : i < j
      · exact hm3 i q i2 i3
      · obtain rfl : i = j := by omega
        show bq wa1 0 (32 * k + i) = true
        rw [hm2 i (by omega) hj2]
        cases hq : bq wa 0 (32 * k + i) with
        | true => rfl
        | false =>
          rw [hM1b, (hM i hj2).mpr ⟨i2, hq, i3⟩] at h7
          exact absurd rfl h7
    · have hbt : (uI M).testBit j = true := by
        rw [← hM1b]
        cases hq : (uI M1).testBit 0 with
        | true => rfl
        | false => rw [hq] at h7; cases h7
      obtain ⟨x1, x2, x3⟩ := (hM j hj2).mp hbt
      have hB : uI (nI 1 <<< (nI ((32 * k + j) % 32) &&& 31)) = 2 ^ ((32 * k + j) % 32) := uI_bit _ (Nat.mod_lt _ (by decide))
      obtain ⟨z1, z2, z3⟩ := spI_start hg hB hp ha1 (hm1 a ha2) x1 x3 (by rw [hm2 j (Nat.le_refl _) hj2]; exact x2)
      refine ga_aload_n 0 C dX2_spread_104 rfl rfl ?_
      refine ga_iload 6 C dX2_spread_105 rfl ?_
      refine gm_cg_v C (c_mstart l G cI cJ cZ am on ba ik me un ra ne he de wa1 le n wt (32 * k + j) (by omega) (by omega)) (cwV 1 C.1.2.2.2.2 gX2_spread_X2_start rfl rfl rfl (by decide +kernel) ⟨Nat.le_of_ble_eq_true rfl, Nat.le_of_ble_eq_true rfl⟩) rfl rfl (Nat.le_of_ble_eq_true rfl) dX2_spread_107 ⟨Nat.zero_le _, Nat.zero_le _⟩ (fun u hu => ?_)
      refine ga_lk (tail2 (upd wa1 ((32 * k + j) / 32) (wa1 ((32 * k + j) / 32) ||| (nI 1 <<< (nI ((32 * k + j) % 32) &&& 31))), upN le wt (32 * k + j), wt + 1) ⟨fun b q => ?_, fun i i1 i2 => ?_, fun i i1 i2 i3 => ?_, z2, Nat.lt_trans z3 hmu⟩) ⟨rfl, rfl, rfl, rfl, rfl, rfl, rfl, trivial⟩
      · show bq (upd wa1 _ _) 0 b = true
        rw [bq_or hB, hm1 b q]; rfl
      · show bq (upd wa1 _ _) 0 (32 * k + i) = _
        rw [bq_or hB, decide_eq_false (by omega), Bool.or_false]; exact hm2 i (by omega) i2
      · show bq (upd wa1 _ _) 0 (32 * k + i) = true
        rw [bq_or hB]
        by_cases q : i < j
        · rw [hm3 i q i2 i3]; rfl
        · obtain rfl : i = j := by omega
          simp
  have hM0 : ∀ j, j < 32 → ((uI (on (7 * a + k) &&& (wa k ^^^ (-1)))).testBit j = true ↔ (Rl a (32 * k + j) = true ∧ bq wa 0 (32 * k + j) = false)) := fun j hj => by
    rw [uI_and, Nat.testBit_and, not_tb _ hj, Bool.and_eq_true, Bool.not_eq_true', ← hrl a (32 * k + j) (by omega) (by omega)]
    unfold bq
    rw [show (32 * k + j) / 32 = k by omega, show (32 * k + j) % 32 = j by omega, Nat.zero_add]
  rcases hwv with ⟨rfl, hno⟩ | ⟨d, hd, rfl, hav⟩
  · refine ga_iload_n 2 C dX2_spread_58 rfl rfl ?_
    refine ga_bipush (v := nI 32) C dX2_spread_59 (by decide) ?_
    refine ga_idiv C dX2_spread_61 n32_ne m1d32 ?_
    refine ga_iload 4 C dX2_spread_62 rfl ?_
    refine gn_icmp_ne 84 C dX2_spread_64 (by decide) (by omega) (by omega) (fun h7 => ?_) (fun h7 => ?_)
    · exact ga_lk (tail _ (fun j hj => by rw [hM0 j hj]; exact ⟨fun q => ⟨q.1, q.2, hno _⟩, fun q => ⟨q.1, q.2.1⟩⟩)) ⟨rfl, rfl, rfl, rfl, rfl, rfl, trivial⟩
    · skip
      refine ga_iload_n 2 C dX2_spread_67 rfl rfl ?_
      refine ga_if_lt 84 C dX2_spread_68 (by decide) (fun h6 => ?_) (fun h6 => absurd (by decide) h6)
      exact ga_lk (tail _ (fun j hj => by rw [hM0 j hj]; exact ⟨fun q => ⟨q.1, q.2, hno _⟩, fun q => ⟨q.1, q.2.1⟩⟩)) ⟨rfl, rfl, rfl, rfl, rfl, rfl, trivial⟩
  · skip
    refine ga_iload_n 2 C dX2_spread_58 rfl rfl ?_
    refine ga_bipush (v := nI 32) C dX2_spread_59 (by decide) ?_
    refine ga_idiv C dX2_spread_61 n32_ne (dv32 (by omega)) ?_
    refine ga_iload 4 C dX2_spread_62 rfl ?_
    refine gn_icmp_ne 84 C dX2_spread_64 (by decide) (by omega) (by omega) (fun h7 => ?_) (fun h7 => ?_)
    · refine ga_lk (tail _ (fun j hj => ?_)) ⟨rfl, rfl, rfl, rfl, rfl, rfl, trivial⟩
      rw [hM0 j hj]
      exact ⟨fun q => ⟨q.1, q.2, fun z => by have := (hav _).mp z; omega⟩, fun q => ⟨q.1, q.2.1⟩⟩
    · skip
      refine ga_iload_n 2 C dX2_spread_67 rfl rfl ?_
      refine gn_if_lt 84 C dX2_spread_68 (by decide) (by omega) (fun h6 => absurd h6 (by omega)) (fun h6 => ?_)
      refine ga_iload 5 C dX2_spread_71 rfl ?_
      refine ga_iconst (v := nI 1) C dX2_spread_73 (by decide) ?_
      refine ga_iload_n 2 C dX2_spread_74 rfl rfl ?_
      refine ga_bipush (v := nI 32) C dX2_spread_75 (by decide) ?_
      refine ga_irem C dX2_spread_77 n32_ne (rm32 (by omega)) ?_
      refine ga_ishl C dX2_spread_78 rfl ?_
      refine ga_iconst (v := -1) C dX2_spread_79 (by decide) ?_
      refine ga_ixor C dX2_spread_80 rfl ?_
      refine ga_iand C dX2_spread_81 rfl ?_
      refine ga_istore 5 C dX2_spread_82 (by decide) rfl ?_
      refine ga_lk (tail _ (fun j hj => ?_)) ⟨rfl, rfl, rfl, rfl, rfl, rfl, trivial⟩
      rw [uI_and, Nat.testBit_and, Bool.and_eq_true, hM0 j hj, not_tb _ hj, uI_bit _ (Nat.mod_lt _ (by decide)), Nat.testBit_two_pow, Bool.not_eq_true', decide_eq_false_iff_not]
      constructor
      · rintro ⟨⟨q1, q2⟩, q3⟩
        exact ⟨q1, q2, fun z => by have := (hav _).mp z; omega⟩
      · rintro ⟨q1, q2, q3⟩
        exact ⟨⟨q1, q2⟩, fun z => q3 ((hav _).mpr (by omega))⟩
set_option maxHeartbeats 4000000 in
set_option maxRecDepth 100000 in
/-- spread -/
theorem c_mspread_ba (l : Launch) (G : va_G) (cI cJ cZ : ClassId) (am : Nat → Nat) (on ba : Nat → Int32) (ik : Nat) (me un : Nat → Int32) (ra : Nat → Nat) (ne : Nat → Int32) (he de : Nat → Nat) (wa : Nat → Int32) (le : Nat → Nat) (n wt : Nat) (wv : Int32) (Rl : Nat → Nat → Bool) (src av : Nat → Prop) (hg : gOk n Rl) (hrl : ∀ a b, a < 200 → b < 224 → bq ba (7 * a) b = Rl a b) (hwv : (wv = -1 ∧ ∀ t, ¬ av t) ∨ ∃ d, d < n ∧ wv = nI d ∧ ∀ t, (av t ↔ t = d)) (h0 : spI n Rl src av wa le wt (fun _ => False)) : ctV l yX2_spread wsX2_spread { frames := 1, cells := 0, slots := 0, locals := 21 } G (ty3 cI cJ cZ) [.ref (am 0), .ref (am 2), .int wv] (wM am cI cZ on ba ik me un ra ne he de wa le n wt) (fun u : (Nat → Int32) × (Nat → Nat) => ∀ b, b < 224 → (bq u.1 0 b = true ↔ rc (eP Rl) src av b)) (fun u : (Nat → Int32) × (Nat → Nat) => wM am cI cZ on ba ik me un ra ne he de u.1 u.2 n 0) := by
  refine metV (cc := cX2_spread) (maxL := 7) (ret := none) (by decide) rfl (Nat.le_of_ble_eq_true rfl) ?_
  intro p e s m below meth c C hr hlk
  refine ga_lv (lv9 := [(0, .ref (am 0)), (1, .ref (am 2)), (2, .int wv)]) ⟨rfl, rfl, rfl, trivial⟩ ?_
  have hn := hg.2.1
  obtain ⟨d0, hd0⟩ : ∃ d, d = 2 * (n - cnP (fun b => bq wa 0 b = true) n) + wt := ⟨_, rfl⟩
  refine ms_ind (P := fun d => ∀ (wa : Nat → Int32) (le : Nat → Nat) (wt : Nat), spI n Rl src av wa le wt (fun _ => False) → d = 2 * (n - cnP (fun b => bq wa 0 b = true) n) + wt → gG p l e _ s m _ below meth c G _ _ 0 0 _ (wM am cI cZ on ba ik me un ra ne he de wa le n wt) [(0, .ref (am 0)), (1, .ref (am 2)), (2, .int wv)] 0 []) ?_ d0 wa le wt h0 hd0
  clear hd0 d0 h0
  intro d0 ih wa le wt h0 hd0
  have hwt : wt ≤ 200 := by
    have h1 := h0.2.2.2.2
    have h2 := cnP_le (P := fun b => bq wa 0 b = true) n
    omega
  refine ga_aload_n 0 C dX2_spread_0 rfl rfl ?_
  refine gm_get_wt C in_X2_spread (by decide +kernel) dX2_spread_1 ?_
  refine gn_if_le 131 C dX2_spread_4 (by decide) (by omega) (fun h9 => ?_) (fun h9 => ?_)
  · obtain rfl : wt = 0 := by omega
    exact ga_vret C hr hlk dX2_spread_131 (wa, le) (spI_end hg h0) rfl
  obtain ⟨ha1, ha2⟩ := h0.2.2.1 (wt - 1) (by omega)
  refine ga_aload_n 0 C dX2_spread_7 rfl rfl ?_
  refine ga_dup C dX2_spread_8 rfl ?_
  refine gm_get_wt C in_X2_spread (by decide +kernel) dX2_spread_9 ?_
  refine ga_iconst (v := nI 1) C dX2_spread_12 (by decide) ?_
  refine ga_isub C dX2_spread_13 (pk_sub (by omega)) ?_
  refine gm_put_wt C in_X2_spread (by decide +kernel) dX2_spread_14 ?_
  refine ga_aload_n 0 C dX2_spread_17 rfl rfl ?_
  refine gm_get_le C in_X2_spread (by decide +kernel) dX2_spread_18 ?_
  refine ga_aload_n 0 C dX2_spread_21 rfl rfl ?_
  refine gm_get_wt C in_X2_spread (by decide +kernel) dX2_spread_22 ?_
  refine gm_ald_le C (by omega) dX2_spread_25 ?_
  refine ga_istore_n 3 C dX2_spread_26 rfl (by decide) rfl ?_
  refine ga_iconst (v := nI 0) C dX2_spread_27 (by decide) ?_
  refine ga_istore 4 C dX2_spread_28 (by decide) rfl ?_
  have hp := spI_pop h0
  obtain ⟨a, hae⟩ : ∃ a, a = le (wt - 1) := ⟨_, rfl⟩
  rw [← hae] at ha1 ha2 hp ⊢
  have hmu : 2 * (n - cnP (fun b => bq wa 0 b = true) n) + (wt - 1) < d0 := by omega
  refine ga_lv (lv9 := [(0, .ref (am 0)), (1, .ref (am 2)), (2, .int wv), (3, .int (nI a)), (4, .int (nI 0))]) ⟨rfl, rfl, rfl, rfl, rfl, trivial⟩ ?_
  refine up_ind 7 (P := fun k => ∀ (wa : Nat → Int32) (le : Nat → Nat) (wt : Nat), spI n Rl src av wa le wt (fun b => b = a) → bq wa 0 a = true → 2 * (n - cnP (fun b => bq wa 0 b = true) n) + wt < d0 → (∀ t, t < 32 * k → Rl a t = true → ¬ av t → bq wa 0 t = true) → gG p l e _ s m _ below meth c G _ _ 0 0 _ (wM am cI cZ on ba ik me un ra ne he de wa le n wt) [(0, .ref (am 0)), (1, .ref (am 2)), (2, .int wv), (3, .int (nI a)), (4, .int (nI k))] 30 []) ?_ 0 (by omega) wa le (wt - 1) hp ha2 hmu (fun t q => by omega)
  clear hmu hp hae ha2 h9 hwt hd0 h0 wt le wa
  intro k hk ih2 wa le wt hp ha2 hmu hcl
  refine ga_iload 4 C dX2_spread_30 rfl ?_
  refine ga_bipush (v := nI 7) C dX2_spread_32 (by decide) ?_
  refine gn_icmp_ge 128 C dX2_spread_34 (by decide) (by omega) (by omega) (fun h9 => ?_) (fun h9 => ?_)
  · skip
    refine ga_goto 0 C dX2_spread_128 (by decide) ?_
    refine ga_lv (lv9 := [(0, .ref (am 0)), (1, .ref (am 2)), (2, .int wv)]) ⟨rfl, rfl, rfl, trivial⟩ ?_
    exact ih _ hmu wa le wt (spI_done hp (fun t t1 t2 => hcl t (by have := (hg.2.2 _ _ t1).2; omega) t1 t2)) rfl
  refine ga_aload_n 1 C dX2_spread_37 rfl rfl ?_
  refine ga_bipush (v := nI 7) C dX2_spread_38 (by decide) ?_
  refine ga_iload_n 3 C dX2_spread_40 rfl rfl ?_
  refine ga_imul C dX2_spread_41 (pk_mul _ _) ?_
  refine ga_iload 4 C dX2_spread_42 rfl ?_
  refine ga_iadd C dX2_spread_44 (nI_add _ _) ?_
  refine gm_ald_ba C (by omega) dX2_spread_45 ?_
  refine ga_aload_n 0 C dX2_spread_46 rfl rfl ?_
  refine gm_get_wa C in_X2_spread (by decide +kernel) dX2_spread_47 ?_
  refine ga_iload 4 C dX2_spread_50 rfl ?_
  refine gm_ald_wa C (by omega) dX2_spread_52 ?_
  refine ga_iconst (v := -1) C dX2_spread_53 (by decide) ?_
  refine ga_ixor C dX2_spread_54 rfl ?_
  refine ga_iand C dX2_spread_55 rfl ?_
  refine ga_istore 5 C dX2_spread_56 (by decide) rfl ?_
  refine ga_tail (α := Int32) (H := fun M => ∀ j, j < 32 → ((uI M).testBit j = true ↔ (Rl a (32 * k + j) = true ∧ bq wa 0 (32 * k + j) = false ∧ ¬ av (32 * k + j)))) (w9 := fun _ => wM am cI cZ on ba ik me un ra ne he de wa le n wt) (lv9 := fun M => [(0, .ref (am 0)), (1, .ref (am 2)), (2, .int wv), (3, .int (nI a)), (4, .int (nI k)), (5, .int M)]) (pc9 := 84) (F := fun _ => []) ?_ (fun tail => ?_)
  · intro M hM
    refine ga_bipush (v := nI 32) C dX2_spread_84 (by decide) ?_
    refine ga_iload 4 C dX2_spread_86 rfl ?_
    refine ga_imul C dX2_spread_88 (pk_mul _ _) ?_
    refine ga_istore 6 C dX2_spread_89 (by decide) rfl ?_
    refine ga_lv (lv9 := [(0, .ref (am 0)), (1, .ref (am 2)), (2, .int wv), (3, .int (nI a)), (4, .int (nI k)), (5, .int M), (6, .int (nI (32 * k + 0)))]) ⟨rfl, rfl, rfl, rfl, rfl, rfl, rfl, trivial⟩ ?_
    refine up_ind 32 (P := fun j => ∀ (wa1 : Nat → Int32) (le : Nat → Nat) (wt : Nat) (M1 : Int32), uI M1 = uI M / 2 ^ j → (∀ b, bq wa 0 b = true → bq wa1 0 b = true) → (∀ i, j ≤ i → i < 32 → bq wa1 0 (32 * k + i) = bq wa 0 (32 * k + i)) → (∀ i, i < j → Rl a (32 * k + i) = true → ¬ av (32 * k + i) → bq wa1 0 (32 * k + i) = true) → spI n Rl src av wa1 le wt (fun b => b = a) → 2 * (n - cnP (fun b => bq wa1 0 b = true) n) + wt < d0 → gG p l e _ s m _ below meth c G _ _ 0 0 _ (wM am cI cZ on ba ik me un ra ne he de wa1 le n wt) [(0, .ref (am 0)), (1, .ref (am 2)), (2, .int wv), (3, .int (nI a)), (4, .int (nI k)), (5, .int M1), (6, .int (nI (32 * k + j)))] 91 []) ?_ 0 (by omega) wa le wt M (by simp) (fun _ q => q) (fun _ _ _ => rfl) (fun i q => by omega) hp hmu
    clear hmu hp wt le
    intro j hj ih3 wa1 le wt M1 hM1 hm1 hm2 hm3 hp hmu
    refine ga_iload 5 C dX2_spread_91 rfl ?_
    refine ga_if_eq 122 C dX2_spread_93 (by decide) (fun h8 => ?_) (fun h8 => ?_)
    · skip
      refine ga_iinc 4 C dX2_spread_122 rfl (nI_inc _) (by decide) rfl ?_
      refine ga_goto 30 C dX2_spread_125 (by decide) ?_
      refine ga_lv (lv9 := [(0, .ref (am 0)), (1, .ref (am 2)), (2, .int wv), (3, .int (nI a)), (4, .int (nI (k + 1)))]) ⟨rfl, rfl, rfl, rfl, rfl, trivial⟩ ?_
      refine ih2 (k + 1) (by omega) (by omega) wa1 le wt hp (hm1 a ha2) hmu (fun t t1 t2 t3 => ?_)
      by_cases q : t < 32 * k
      · exact hm1 t (hcl t q t2 t3)
      · obtain ⟨i, rfl⟩ : ∃ i, t = 32 * k + i := ⟨t - 32 * k, by omega⟩
        by_cases q2 : i < j
        · exact hm3 i q2 t2 t3
        · have hz : (uI M).testBit i = false := by
            have h1 : (uI M1).testBit (i - j) = false := by rw [h8, uI_0, Nat.zero_testBit]
            rw [hM1, Nat.testBit_div_two_pow, show i - j + j = i by omega] at h1
            exact h1
          rw [hm2 i (by omega) (by omega)]
          cases hq : bq wa 0 (32 * k + i) with
          | true => rfl
          | false => rw [(hM i (by omega)).mpr ⟨t2, hq, t3⟩] at hz; cases hz
    have hj2 : j < 32 := by
      apply Nat.lt_of_not_le
      intro q
      apply h8
      apply uI_inj
      rw [hM1, uI_0]
      apply Nat.div_eq_of_lt
      have h1 := uI_lt M
      have h2 : (2 : Nat) ^ 32 ≤ 2 ^ j := Nat.pow_le_pow_right (by decide) q
      omega
    have hM1b : (uI M1).testBit 0 = (uI M).testBit j := by rw [hM1, Nat.testBit_div_two_pow, Nat.zero_add]
    have hbl := btl ((uI M1).testBit 0)
    refine ga_tail (α := (Nat → Int32) × (Nat → Nat) × Nat) (H := fun q => (∀ b, bq wa 0 b = true → bq q.1 0 b = true) ∧ (∀ i, j + 1 ≤ i → i < 32 → bq q.1 0 (32 * k + i) = bq wa 0 (32 * k + i)) ∧ (∀ i, i < j + 1 → Rl a (32 * k + i) = true → ¬ av (32 * k + i) → bq q.1 0 (32 * k + i) = true) ∧ spI n Rl src av q.1 q.2.1 q.2.2 (fun b => b = a) ∧ 2 * (n - cnP (fun b => bq q.1 0 b = true) n) + q.2.2 < d0) (w9 := fun q => wM am cI cZ on ba ik me un ra ne he de q.1 q.2.1 n q.2.2) (lv9 := fun _ => [(0, .ref (am 0)), (1, .ref (am 2)), (2, .int wv), (3, .int (nI a)), (4, .int (nI k)), (5, .int M1), (6, .int (nI (32 * k + j)))]) (pc9 := 110) (F := fun _ => []) ?_ (fun tail2 => ?_)
    · rintro ⟨wa2, le2, wt2⟩ ⟨y1, y2, y3, y4, y5⟩
      refine ga_iload 5 C dX2_spread_110 rfl ?_
      refine ga_iconst (v := nI 1) C dX2_spread_112 (by decide) ?_
      refine ga_iushr C dX2_spread_113 rfl ?_
      refine ga_istore 5 C dX2_spread_114 (by decide) rfl ?_
      refine ga_iinc 6 C dX2_spread_116 rfl (nI_inc _) (by decide) rfl ?_
      refine ga_goto 91 C dX2_spread_119 (by decide) ?_
      refine ga_lv (lv9 := [(0, .ref (am 0)), (1, .ref (am 2)), (2, .int wv), (3, .int (nI a)), (4, .int (nI k)), (5, .int _), (6, .int (nI (32 * k + (j + 1))))]) ⟨rfl, rfl, rfl, rfl, rfl, rfl, rfl, trivial⟩ ?_
      refine ih3 (j + 1) (by omega) (by omega) wa2 le2 wt2 _ ?_ y1 y2 y3 y4 y5
      rw [ushr1, hM1, Nat.div_div_eq_div_mul, ← Nat.pow_succ]
    refine ga_iload 5 C dX2_spread_96 rfl ?_
    refine ga_iconst (v := nI 1) C dX2_spread_98 (by decide) ?_
    refine ga_iand C dX2_spread_99 (and1 _) ?_
    refine ga_iconst (v := nI 1) C dX2_spread_100 (by decide) ?_
    refine gn_icmp_ne 110 C dX2_spread_101 (by decide) (show ((uI M1).testBit 0).toNat < 2 ^ 31 by omega) (by omega) (fun h7 => ?_) (fun h7 => ?_)
    · refine ga_lk (tail2 (wa1, le, wt) ⟨hm1, fun i i1 i2 => hm2 i (by omega) i2, fun i i1 i2 i3 => ?_, hp, hmu⟩) ⟨rfl, rfl, rfl, rfl, rfl, rfl, rfl, trivial⟩
      by_cases q : i < j
      · exact hm3 i q i2 i3
      · obtain rfl : i = j := by omega
        show bq wa1 0 (32 * k + i) = true
        rw [hm2 i (by omega) hj2]
        cases hq : bq wa 0 (32 * k + i) with
        | true => rfl
        | false =>
          rw [hM1b, (hM i hj2).mpr ⟨i2, hq, i3⟩] at h7
          exact absurd rfl h7
    · have hbt : (uI M).testBit j = true := by
        rw [← hM1b]
        cases hq : (uI M1).testBit 0 with
        | true => rfl
        | false => rw [hq] at h7; cases h7
      obtain ⟨x1, x2, x3⟩ := (hM j hj2).mp hbt
      have hB : uI (nI 1 <<< (nI ((32 * k + j) % 32) &&& 31)) = 2 ^ ((32 * k + j) % 32) := uI_bit _ (Nat.mod_lt _ (by decide))
      obtain ⟨z1, z2, z3⟩ := spI_start hg hB hp ha1 (hm1 a ha2) x1 x3 (by rw [hm2 j (Nat.le_refl _) hj2]; exact x2)
      refine ga_aload_n 0 C dX2_spread_104 rfl rfl ?_
      refine ga_iload 6 C dX2_spread_105 rfl ?_
      refine gm_cg_v C (c_mstart l G cI cJ cZ am on ba ik me un ra ne he de wa1 le n wt (32 * k + j) (by omega) (by omega)) (cwV 1 C.1.2.2.2.2 gX2_spread_X2_start rfl rfl rfl (by decide +kernel) ⟨Nat.le_of_ble_eq_true rfl, Nat.le_of_ble_eq_true rfl⟩) rfl rfl (Nat.le_of_ble_eq_true rfl) dX2_spread_107 ⟨Nat.zero_le _, Nat.zero_le _⟩ (fun u hu => ?_)
      refine ga_lk (tail2 (upd wa1 ((32 * k + j) / 32) (wa1 ((32 * k + j) / 32) ||| (nI 1 <<< (nI ((32 * k + j) % 32) &&& 31))), upN le wt (32 * k + j), wt + 1) ⟨fun b q => ?_, fun i i1 i2 => ?_, fun i i1 i2 i3 => ?_, z2, Nat.lt_trans z3 hmu⟩) ⟨rfl, rfl, rfl, rfl, rfl, rfl, rfl, trivial⟩
      · show bq (upd wa1 _ _) 0 b = true
        rw [bq_or hB, hm1 b q]; rfl
      · show bq (upd wa1 _ _) 0 (32 * k + i) = _
        rw [bq_or hB, decide_eq_false (by omega), Bool.or_false]; exact hm2 i (by omega) i2
      · show bq (upd wa1 _ _) 0 (32 * k + i) = true
        rw [bq_or hB]
        by_cases q : i < j
        · rw [hm3 i q i2 i3]; rfl
        · obtain rfl : i = j := by omega
          simp
  have hM0 : ∀ j, j < 32 → ((uI (ba (7 * a + k) &&& (wa k ^^^ (-1)))).testBit j = true ↔ (Rl a (32 * k + j) = true ∧ bq wa 0 (32 * k + j) = false)) := fun j hj => by
    rw [uI_and, Nat.testBit_and, not_tb _ hj, Bool.and_eq_true, Bool.not_eq_true', ← hrl a (32 * k + j) (by omega) (by omega)]
    unfold bq
    rw [show (32 * k + j) / 32 = k by omega, show (32 * k + j) % 32 = j by omega, Nat.zero_add]
  rcases hwv with ⟨rfl, hno⟩ | ⟨d, hd, rfl, hav⟩
  · refine ga_iload_n 2 C dX2_spread_58 rfl rfl ?_
    refine ga_bipush (v := nI 32) C dX2_spread_59 (by decide) ?_
    refine ga_idiv C dX2_spread_61 n32_ne m1d32 ?_
    refine ga_iload 4 C dX2_spread_62 rfl ?_
    refine gn_icmp_ne 84 C dX2_spread_64 (by decide) (by omega) (by omega) (fun h7 => ?_) (fun h7 => ?_)
    · exact ga_lk (tail _ (fun j hj => by rw [hM0 j hj]; exact ⟨fun q => ⟨q.1, q.2, hno _⟩, fun q => ⟨q.1, q.2.1⟩⟩)) ⟨rfl, rfl, rfl, rfl, rfl, rfl, trivial⟩
    · skip
      refine ga_iload_n 2 C dX2_spread_67 rfl rfl ?_
      refine ga_if_lt 84 C dX2_spread_68 (by decide) (fun h6 => ?_) (fun h6 => absurd (by decide) h6)
      exact ga_lk (tail _ (fun j hj => by rw [hM0 j hj]; exact ⟨fun q => ⟨q.1, q.2, hno _⟩, fun q => ⟨q.1, q.2.1⟩⟩)) ⟨rfl, rfl, rfl, rfl, rfl, rfl, trivial⟩
  · skip
    refine ga_iload_n 2 C dX2_spread_58 rfl rfl ?_
    refine ga_bipush (v := nI 32) C dX2_spread_59 (by decide) ?_
    refine ga_idiv C dX2_spread_61 n32_ne (dv32 (by omega)) ?_
    refine ga_iload 4 C dX2_spread_62 rfl ?_
    refine gn_icmp_ne 84 C dX2_spread_64 (by decide) (by omega) (by omega) (fun h7 => ?_) (fun h7 => ?_)
    · refine ga_lk (tail _ (fun j hj => ?_)) ⟨rfl, rfl, rfl, rfl, rfl, rfl, trivial⟩
      rw [hM0 j hj]
      exact ⟨fun q => ⟨q.1, q.2, fun z => by have := (hav _).mp z; omega⟩, fun q => ⟨q.1, q.2.1⟩⟩
    · skip
      refine ga_iload_n 2 C dX2_spread_67 rfl rfl ?_
      refine gn_if_lt 84 C dX2_spread_68 (by decide) (by omega) (fun h6 => absurd h6 (by omega)) (fun h6 => ?_)
      refine ga_iload 5 C dX2_spread_71 rfl ?_
      refine ga_iconst (v := nI 1) C dX2_spread_73 (by decide) ?_
      refine ga_iload_n 2 C dX2_spread_74 rfl rfl ?_
      refine ga_bipush (v := nI 32) C dX2_spread_75 (by decide) ?_
      refine ga_irem C dX2_spread_77 n32_ne (rm32 (by omega)) ?_
      refine ga_ishl C dX2_spread_78 rfl ?_
      refine ga_iconst (v := -1) C dX2_spread_79 (by decide) ?_
      refine ga_ixor C dX2_spread_80 rfl ?_
      refine ga_iand C dX2_spread_81 rfl ?_
      refine ga_istore 5 C dX2_spread_82 (by decide) rfl ?_
      refine ga_lk (tail _ (fun j hj => ?_)) ⟨rfl, rfl, rfl, rfl, rfl, rfl, trivial⟩
      rw [uI_and, Nat.testBit_and, Bool.and_eq_true, hM0 j hj, not_tb _ hj, uI_bit _ (Nat.mod_lt _ (by decide)), Nat.testBit_two_pow, Bool.not_eq_true', decide_eq_false_iff_not]
      constructor
      · rintro ⟨⟨q1, q2⟩, q3⟩
        exact ⟨q1, q2, fun z => by have := (hav _).mp z; omega⟩
      · rintro ⟨q1, q2, q3⟩
        exact ⟨⟨q1, q2⟩, fun z => q3 ((hav _).mpr (by omega))⟩
end
section
def mE (n : Nat) (E : Nat → Nat → Bool) (on ba : Nat → Int32) : Prop := gOk n E ∧ (∀ a b, a < 200 → b < 224 → bq on (7 * a) b = E a b) ∧ (∀ a b, a < 200 → b < 224 → bq ba (7 * a) b = E b a)
def mT (E : Nat → Nat → Bool) (me : Nat → Int32) : Prop := ∀ b, b < 224 → (bq me 0 b = true ↔ rch E b)
def mU (n : Nat) (E : Nat → Nat → Bool) (un : Nat → Int32) : Prop := ∀ d b, d < n → b < 224 → (bq un (7 * d) b = true ↔ dmn E d b)
def mN (n : Nat) (E : Nat → Nat → Bool) (ne : Nat → Int32) : Prop := ∀ b, b < n → isId n E b (ne b)
def mHd (n : Nat) (E : Nat → Nat → Bool) (he : Nat → Nat) : Prop := ∀ h, h < n → he h < 2 ∧ (he h = 1 ↔ hdd E h)
def mDp (n : Nat) (E : Nat → Nat → Bool) (de : Nat → Nat) : Prop := ∀ b, b < n → de b = dep n E b
def mK (n : Nat) (E : Nat → Nat → Bool) (me un ne : Nat → Int32) (he de : Nat → Nat) : Prop := mT E me ∧ mU n E un ∧ mN n E ne ∧ mHd n E he ∧ mDp n E de
def mI (n : Nat) (E : Nat → Nat → Bool) (on ba : Nat → Int32) (ik : Nat) (me un ne : Nat → Int32) (he de : Nat → Nat) (nn : Nat) : Prop := mE n E on ba ∧ nn = n ∧ ik < 2 ∧ (ik = 1 → mK n E me un ne he de)
abbrev mIu (n : Nat) (E : Nat → Nat → Bool) (u : MS) : Prop := mI n E u.1 u.2.1 u.2.2.1 u.2.2.2.1 u.2.2.2.2.1 u.2.2.2.2.2.2.1 u.2.2.2.2.2.2.2.1 u.2.2.2.2.2.2.2.2.1 u.2.2.2.2.2.2.2.2.2.2.2.1
theorem mI_0 {n : Nat} {E : Nat → Nat → Bool} {on ba : Nat → Int32} {me un ne : Nat → Int32} {he de : Nat → Nat} (h : mE n E on ba) : mI n E on ba 0 me un ne he de n := ⟨h, rfl, by decide, fun q => absurd q (by decide)⟩
theorem mI_1 {n : Nat} {E : Nat → Nat → Bool} {on ba : Nat → Int32} {me un ne : Nat → Int32} {he de : Nat → Nat} (h : mE n E on ba) (hk : mK n E me un ne he de) : mI n E on ba 1 me un ne he de n := ⟨h, rfl, by decide, fun _ => hk⟩
theorem gOk_R {n : Nat} {E : Nat → Nat → Bool} (h : gOk n E) : gOk n (fun a b => E b a) := ⟨h.1, h.2.1, fun a b q => ⟨(h.2.2 b a q).2, (h.2.2 b a q).1⟩⟩
theorem rc_mono {E : Nat → Nat → Prop} {src src2 av : Nat → Prop} (h : ∀ b, src b → src2 b) {b : Nat} (q : rc E src av b) : rc E src2 av b := rc_ind (P := fun b => rc E src2 av b) (fun b hb => rc_src (h b hb)) (fun a b _ ih e hv => rc_step ih e hv) q
theorem spI_0 {n : Nat} {Rl : Nat → Nat → Bool} {av : Nat → Prop} {wa : Nat → Int32} {le : Nat → Nat} (h : ∀ b, b < 224 → bq wa 0 b = false) : spI n Rl (fun _ => False) av wa le 0 (fun _ => False) :=
  ⟨fun b hb q => (by rw [h b hb] at q; cases q), fun b q => q.elim, fun k hk => (by omega), fun b hb q => (by rw [h b hb] at q; cases q), Nat.zero_le _⟩
theorem spI_src {n : Nat} {Rl : Nat → Nat → Bool} {src src2 av : Nat → Prop} {wa : Nat → Int32} {le : Nat → Nat} {wt t : Nat} {B : Int32} (hn : n ≤ 200) (ht : t < n) (hB : uI B = 2 ^ (t % 32)) (hw : bq wa 0 t = false) (hs : ∀ b, src2 b ↔ src b ∨ b = t) (h : spI n Rl src av wa le wt (fun _ => False)) :
    wt < n ∧ spI n Rl src2 av (upd wa (t / 32) (wa (t / 32) ||| B)) (upN le wt t) (wt + 1) (fun _ => False) := by
  obtain ⟨h1, h2, h3, h4, h5⟩ := h
  have hm : ∀ b, bq wa 0 b = true → bq (upd wa (t / 32) (wa (t / 32) ||| B)) 0 b = true := fun b hb => by rw [bq_or hB, hb]; rfl
  have hcn : cnP (fun b => bq (upd wa (t / 32) (wa (t / 32) ||| B)) 0 b = true) n = cnP (fun b => bq wa 0 b = true) n + 1 := cnP_add (a := t) (fun k hk => by rw [bq_or hB]; simp) ht (by rw [hw]; simp)
  have hle := cnP_le (P := fun b => bq (upd wa (t / 32) (wa (t / 32) ||| B)) 0 b = true) n
  refine ⟨by omega, fun b hb q => ?_, fun b q => ?_, fun k hk => ?_, fun b hb q => ?_, by omega⟩
  · by_cases z : b = t
    · rw [z]; exact ⟨ht, rc_src ((hs t).mpr (Or.inr rfl))⟩
    · rw [bq_or hB, decide_eq_false z, Bool.or_false] at q
      exact ⟨(h1 b hb q).1, rc_mono (fun x hx => (hs x).mpr (Or.inl hx)) (h1 b hb q).2⟩
  · rcases (hs b).mp q with z | z
    · exact ⟨(h2 b z).1, hm b (h2 b z).2⟩
    · rw [z]; exact ⟨ht, by rw [bq_or hB]; simp⟩
  · by_cases z : k = wt
    · rw [z, upN_s]; exact ⟨ht, by rw [bq_or hB]; simp⟩
    · rw [upN_n z]
      have := h3 k (by omega)
      exact ⟨this.1, hm _ this.2⟩
  · by_cases z : b = t
    · exact Or.inr (Or.inl ⟨wt, by omega, by rw [upN_s, z]⟩)
    · rw [bq_or hB, decide_eq_false z, Bool.or_false] at q
      rcases h4 b hb q with y | ⟨k, k1, k2⟩ | y
      · exact y.elim
      · exact Or.inr (Or.inl ⟨k, by omega, by rw [upN_n (by omega)]; exact k2⟩)
      · exact Or.inr (Or.inr (fun x x1 x2 => hm x (y x x1 x2)))
theorem spI_cg {n : Nat} {Rl : Nat → Nat → Bool} {src src2 av : Nat → Prop} {wa : Nat → Int32} {le : Nat → Nat} {wt : Nat} (hs : ∀ b, src b ↔ src2 b) (h : spI n Rl src av wa le wt (fun _ => False)) : spI n Rl src2 av wa le wt (fun _ => False) := by
  have e : src = src2 := funext (fun b => propext (hs b))
  rw [← e]; exact h
theorem bq_set {f : Nat → Int32} {a k r c : Nat} {v : Int32} (hk : k < 7) (hc : c < 224) : bq (upd f (7 * a + k) v) (7 * r) c = if r = a ∧ c / 32 = k then (uI v).testBit (c % 32) else bq f (7 * r) c := by
  unfold bq
  by_cases h : r = a ∧ c / 32 = k
  · rw [if_pos h, h.1, h.2, pk_us]
  · rw [if_neg h, pk_un (by omega)]

set_option maxHeartbeats 4000000 in
set_option maxRecDepth 100000 in
/-- rank -/
theorem c_mrank (l : Launch) (G : va_G) (cI cJ cZ : ClassId) (am : Nat → Nat) (on ba : Nat → Int32) (ik : Nat) (me un : Nat → Int32) (ra : Nat → Nat) (ne : Nat → Int32) (he de : Nat → Nat) (wa : Nat → Int32) (le : Nat → Nat) (n wt : Nat) (E : Nat → Nat → Bool) (hg : gOk n E) (hU : mU n E un) : ctV l yX2_rank wsX2_rank { frames := 1, cells := 0, slots := 0, locals := 22 } G (ty3 cI cJ cZ) [.ref (am 0)] (wM am cI cZ on ba ik me un ra ne he de wa le n wt) (fun u : (Nat → Nat) × (Nat → Int32) => mN n E u.2) (fun u : (Nat → Nat) × (Nat → Int32) => wM am cI cZ on ba ik me un u.1 u.2 he de wa le n wt) := by
  refine metV (cc := cX2_rank) (maxL := 3) (ret := none) (by decide) rfl (Nat.le_of_ble_eq_true rfl) ?_
  intro p e s m below meth c C hr hlk
  refine ga_lv (lv9 := [(0, .ref (am 0))]) ⟨rfl, trivial⟩ ?_
  have hn := hg.2.1
  refine ga_iconst (v := nI 0) C dX2_rank_0 (by decide) ?_
  refine ga_istore_n 1 C dX2_rank_1 rfl (by decide) rfl ?_
  refine ga_lv (lv9 := [(0, .ref (am 0)), (1, .int (nI 0))]) ⟨rfl, rfl, trivial⟩ ?_
  refine up_ind n (P := fun i => ∀ ra : Nat → Nat, (∀ b, b < i → ra b = rnk n E b) → gG p l e _ s m _ below meth c G _ _ 0 0 _ (wM am cI cZ on ba ik me un ra ne he de wa le n wt) [(0, .ref (am 0)), (1, .int (nI i))] 2 []) ?_ 0 (by omega) ra (fun b q => by omega)
  intro b hb ih ra hra
  refine ga_iload_n 1 C dX2_rank_2 rfl rfl ?_
  refine ga_aload_n 0 C dX2_rank_3 rfl rfl ?_
  refine gm_get_n C in_X2_rank (by decide +kernel) dX2_rank_4 ?_
  refine gn_icmp_ge 64 C dX2_rank_7 (by decide) (by omega) (by omega) (fun h9 => ?_) (fun h9 => ?_)
  rotate_left
  · skip
    refine ga_aload_n 0 C dX2_rank_10 rfl rfl ?_
    refine gm_get_ra C in_X2_rank (by decide +kernel) dX2_rank_11 ?_
    refine ga_iload_n 1 C dX2_rank_14 rfl rfl ?_
    refine ga_iconst (v := nI 0) C dX2_rank_15 (by decide) ?_
    refine gm_ast_ra C (by omega) dX2_rank_16 ?_
    refine ga_iconst (v := nI 0) C dX2_rank_17 (by decide) ?_
    refine ga_istore_n 2 C dX2_rank_18 rfl (by decide) rfl ?_
    refine ga_lv (lv9 := [(0, .ref (am 0)), (1, .int (nI b)), (2, .int (nI 0))]) ⟨rfl, rfl, rfl, trivial⟩ ?_
    refine up_ind n (P := fun d => ∀ ra : Nat → Nat, (∀ x, x < b → ra x = rnk n E x) → ra b = cnP (fun a => dmn E a b) d → gG p l e _ s m _ below meth c G _ _ 0 0 _ (wM am cI cZ on ba ik me un ra ne he de wa le n wt) [(0, .ref (am 0)), (1, .int (nI b)), (2, .int (nI d))] 19 []) ?_ 0 (by omega) (upN ra b 0) (fun x hx => by rw [upN_n (by omega)]; exact hra x hx) upN_s
    clear hra ra
    intro d hd ih2 ra hra hrb
    refine ga_iload_n 2 C dX2_rank_19 rfl rfl ?_
    refine ga_aload_n 0 C dX2_rank_20 rfl rfl ?_
    refine gm_get_n C in_X2_rank (by decide +kernel) dX2_rank_21 ?_
    refine gn_icmp_ge 58 C dX2_rank_24 (by decide) (by omega) (by omega) (fun h8 => ?_) (fun h8 => ?_)
    · obtain rfl : d = n := by omega
      refine ga_iinc 1 C dX2_rank_58 rfl (nI_inc _) (by decide) rfl ?_
      refine ga_goto 2 C dX2_rank_61 (by decide) ?_
      refine ga_lv (lv9 := [(0, .ref (am 0)), (1, .int (nI (b + 1)))]) ⟨rfl, rfl, trivial⟩ ?_
      refine ih (b + 1) (by omega) (by omega) ra (fun x hx => ?_)
      by_cases q : x = b
      · rw [q]; exact hrb
      · exact hra x (by omega)
    refine ga_aload_n 0 C dX2_rank_27 rfl rfl ?_
    refine gm_get_un C in_X2_rank (by decide +kernel) dX2_rank_28 ?_
    refine ga_bipush (v := nI 7) C dX2_rank_31 (by decide) ?_
    refine ga_iload_n 2 C dX2_rank_33 rfl rfl ?_
    refine ga_imul C dX2_rank_34 (pk_mul _ _) ?_
    refine ga_iload_n 1 C dX2_rank_35 rfl rfl ?_
    refine gm_isSet_un C (c_mset l G cI cJ cZ (am 4) 1400 un (7 * d) b (by decide) (by omega) (by omega) (by omega)) (va_cwS 3 C.1.2.2.2.2 gX2_rank_X2_isSet rfl rfl rfl (by decide +kernel) ⟨Nat.le_of_ble_eq_true rfl, Nat.le_of_ble_eq_true rfl⟩) rfl rfl (Nat.le_of_ble_eq_true rfl) dX2_rank_36 ⟨Nat.zero_le _, Nat.zero_le _⟩ (fun r hs => ?_)
    subst hs
    have hbl := btl (bq un (7 * d) b)
    have hdb := hU d b h8 (by omega)
    refine gn_if_eq 52 C dX2_rank_39 (by decide) (by omega) (fun h7 => ?_) (fun h7 => ?_)
    · skip
      refine ga_iinc 2 C dX2_rank_52 rfl (nI_inc _) (by decide) rfl ?_
      refine ga_goto 19 C dX2_rank_55 (by decide) ?_
      refine ga_lv (lv9 := [(0, .ref (am 0)), (1, .int (nI b)), (2, .int (nI (d + 1)))]) ⟨rfl, rfl, rfl, trivial⟩ ?_
      refine ih2 (d + 1) (by omega) (by omega) ra hra ?_
      rw [hrb, cnP_f]
      intro q
      rw [hdb.mpr q] at h7
      cases h7
    · skip
      refine ga_aload_n 0 C dX2_rank_42 rfl rfl ?_
      refine gm_get_ra C in_X2_rank (by decide +kernel) dX2_rank_43 ?_
      refine ga_iload_n 1 C dX2_rank_46 rfl rfl ?_
      refine ga_dup2 C dX2_rank_47 rfl rfl ?_
      refine gm_ald_ra C (by omega) dX2_rank_48 ?_
      refine ga_iconst (v := nI 1) C dX2_rank_49 (by decide) ?_
      refine ga_iadd C dX2_rank_50 (nI_add _ _) ?_
      refine gm_ast_ra C (by omega) dX2_rank_51 ?_
      refine ga_iinc 2 C dX2_rank_52 rfl (nI_inc _) (by decide) rfl ?_
      refine ga_goto 19 C dX2_rank_55 (by decide) ?_
      refine ga_lv (lv9 := [(0, .ref (am 0)), (1, .int (nI b)), (2, .int (nI (d + 1)))]) ⟨rfl, rfl, rfl, trivial⟩ ?_
      refine ih2 (d + 1) (by omega) (by omega) _ (fun x hx => by rw [upN_n (by omega)]; exact hra x hx) ?_
      have hq : bq un (7 * d) b = true := by
        cases hq : bq un (7 * d) b with
        | true => rfl
        | false => rw [hq] at h7; exact absurd rfl h7
      rw [upN_s, hrb, cnP_t (P := fun a => dmn E a b) (hdb.mp hq)]
  have hra : ∀ b, b < n → ra b = rnk n E b := fun x hx => hra x (by omega)
  refine ga_iconst (v := nI 0) C dX2_rank_64 (by decide) ?_
  refine ga_istore_n 1 C dX2_rank_65 rfl (by decide) rfl ?_
  refine ga_lv (lv9 := [(0, .ref (am 0)), (1, .int (nI 0))]) ⟨rfl, rfl, trivial⟩ ?_
  refine up_ind n (P := fun i => ∀ ne : Nat → Int32, (∀ b, b < i → isId n E b (ne b)) → gG p l e _ s m _ below meth c G _ _ 0 0 _ (wM am cI cZ on ba ik me un ra ne he de wa le n wt) [(0, .ref (am 0)), (1, .int (nI i))] 66 []) ?_ 0 (by omega) ne (fun b q => by omega)
  clear h9 ih
  intro b hb ih ne hne
  refine ga_iload_n 1 C dX2_rank_66 rfl rfl ?_
  refine ga_aload_n 0 C dX2_rank_67 rfl rfl ?_
  refine gm_get_n C in_X2_rank (by decide +kernel) dX2_rank_68 ?_
  refine gn_icmp_ge 162 C dX2_rank_71 (by decide) (by omega) (by omega) (fun h9 => ?_) (fun h9 => ?_)
  · exact ga_vret C hr hlk dX2_rank_162 (ra, ne) (fun x hx => hne x (by omega)) rfl
  refine ga_aload_n 0 C dX2_rank_74 rfl rfl ?_
  refine gm_get_ne C in_X2_rank (by decide +kernel) dX2_rank_75 ?_
  refine ga_iload_n 1 C dX2_rank_78 rfl rfl ?_
  refine ga_iconst (v := -1) C dX2_rank_79 (by decide) ?_
  refine gm_ast_ne C (by omega) dX2_rank_80 ?_
  refine ga_iconst (v := nI 0) C dX2_rank_81 (by decide) ?_
  refine ga_istore_n 2 C dX2_rank_82 rfl (by decide) rfl ?_
  refine ga_lv (lv9 := [(0, .ref (am 0)), (1, .int (nI b)), (2, .int (nI 0))]) ⟨rfl, rfl, rfl, trivial⟩ ?_
  refine up_ind n (P := fun d => ∀ ne : Nat → Int32, (∀ x, x < b → isId n E x (ne x)) → ((ne b = -1 ∧ ∀ y, y < d → y ≠ b → ¬ dmn E y b) ∨ ∃ x, x < n ∧ ne b = nI x ∧ x ≠ b ∧ dmn E x b ∧ ∀ y, y < d → y ≠ b → dmn E y b → rnk n E y ≤ rnk n E x) → gG p l e _ s m _ below meth c G _ _ 0 0 _ (wM am cI cZ on ba ik me un ra ne he de wa le n wt) [(0, .ref (am 0)), (1, .int (nI b)), (2, .int (nI d))] 83 []) ?_ 0 (by omega) (upd ne b (-1)) (fun x hx => by rw [pk_un (by omega)]; exact hne x hx) (Or.inl ⟨pk_us, fun y q => by omega⟩)
  clear hne
  intro d hd ih2 ne hne hnb
  refine ga_iload_n 2 C dX2_rank_83 rfl rfl ?_
  refine ga_aload_n 0 C dX2_rank_84 rfl rfl ?_
  refine gm_get_n C in_X2_rank (by decide +kernel) dX2_rank_85 ?_
  refine gn_icmp_ge 156 C dX2_rank_88 (by decide) (by omega) (by omega) (fun h8 => ?_) (fun h8 => ?_)
  · obtain rfl : d = n := by omega
    refine ga_iinc 1 C dX2_rank_156 rfl (nI_inc _) (by decide) rfl ?_
    refine ga_goto 66 C dX2_rank_159 (by decide) ?_
    refine ga_lv (lv9 := [(0, .ref (am 0)), (1, .int (nI (b + 1)))]) ⟨rfl, rfl, trivial⟩ ?_
    refine ih (b + 1) (by omega) (by omega) ne (fun x hx => ?_)
    by_cases q : x = b
    · rw [q]
      rcases hnb with ⟨e1, e2⟩ | ⟨y, y1, y2, y3, y4, y5⟩
      · exact Or.inl ⟨e1, fun a ha da => e2 a (dmn_lt hg da) ha da⟩
      · exact Or.inr ⟨y, y2, y3, y4, fun z z1 z2 => y5 z (dmn_lt hg z2) z1 z2⟩
    · exact hne x (by omega)
  refine ga_tail (α := Nat → Int32) (H := fun ne => (∀ x, x < b → isId n E x (ne x)) ∧ ((ne b = -1 ∧ ∀ y, y < (d + 1) → y ≠ b → ¬ dmn E y b) ∨ ∃ x, x < n ∧ ne b = nI x ∧ x ≠ b ∧ dmn E x b ∧ ∀ y, y < (d + 1) → y ≠ b → dmn E y b → rnk n E y ≤ rnk n E x)) (w9 := fun ne => wM am cI cZ on ba ik me un ra ne he de wa le n wt) (lv9 := fun _ => [(0, .ref (am 0)), (1, .int (nI b)), (2, .int (nI d))]) (pc9 := 150) (F := fun _ => []) ?_ (fun tail => ?_)
  · rintro ne2 ⟨y1, y2⟩
    refine ga_iinc 2 C dX2_rank_150 rfl (nI_inc _) (by decide) rfl ?_
    refine ga_goto 83 C dX2_rank_153 (by decide) ?_
    refine ga_lv (lv9 := [(0, .ref (am 0)), (1, .int (nI b)), (2, .int (nI (d + 1)))]) ⟨rfl, rfl, rfl, trivial⟩ ?_
    exact ih2 (d + 1) (by omega) (by omega) ne2 y1 y2
  refine ga_iload_n 2 C dX2_rank_91 rfl rfl ?_
  refine ga_iload_n 1 C dX2_rank_92 rfl rfl ?_
  refine gn_icmp_eq 150 C dX2_rank_93 (by decide) (by omega) (by omega) (fun h7 => ?_) (fun h7 => ?_)
  · refine ga_lk (tail ne ⟨hne, ?_⟩) ⟨rfl, rfl, rfl, trivial⟩
    rcases hnb with ⟨e1, e2⟩ | ⟨y, y1, y2, y3, y4, y5⟩
    · exact Or.inl ⟨e1, fun a ha hab => by
        by_cases q : a = d
        · exact absurd (q.trans h7) hab
        · exact e2 a (by omega) hab⟩
    · exact Or.inr ⟨y, y1, y2, y3, y4, fun a ha hab da => by
        by_cases q : a = d
        · exact absurd (q.trans h7) hab
        · exact y5 a (by omega) hab da⟩
  refine ga_aload_n 0 C dX2_rank_96 rfl rfl ?_
  refine gm_get_un C in_X2_rank (by decide +kernel) dX2_rank_97 ?_
  refine ga_bipush (v := nI 7) C dX2_rank_100 (by decide) ?_
  refine ga_iload_n 2 C dX2_rank_102 rfl rfl ?_
  refine ga_imul C dX2_rank_103 (pk_mul _ _) ?_
  refine ga_iload_n 1 C dX2_rank_104 rfl rfl ?_
  refine gm_isSet_un C (c_mset l G cI cJ cZ (am 4) 1400 un (7 * d) b (by decide) (by omega) (by omega) (by omega)) (va_cwS 3 C.1.2.2.2.2 gX2_rank_X2_isSet rfl rfl rfl (by decide +kernel) ⟨Nat.le_of_ble_eq_true rfl, Nat.le_of_ble_eq_true rfl⟩) rfl rfl (Nat.le_of_ble_eq_true rfl) dX2_rank_105 ⟨Nat.zero_le _, Nat.zero_le _⟩ (fun r hs => ?_)
  subst hs
  have hbl := btl (bq un (7 * d) b)
  have hdb := hU d b h8 (by omega)
  refine gn_if_ne 114 C dX2_rank_108 (by decide) (by omega) (fun h6 => ?_) (fun h6 => ?_)
  rotate_left
  · skip
    refine ga_goto 150 C dX2_rank_111 (by decide) ?_
    have hnd : ¬ dmn E d b := fun q => by rw [hdb.mpr q] at h6; cases h6
    refine ga_lk (tail ne ⟨hne, ?_⟩) ⟨rfl, rfl, rfl, trivial⟩
    rcases hnb with ⟨e1, e2⟩ | ⟨y, y1, y2, y3, y4, y5⟩
    · exact Or.inl ⟨e1, fun a ha hab => by
        by_cases q : a = d
        · rw [q]; exact hnd
        · exact e2 a (by omega) hab⟩
    · exact Or.inr ⟨y, y1, y2, y3, y4, fun a ha hab da => by
        by_cases q : a = d
        · rw [q] at da; exact absurd da hnd
        · exact y5 a (by omega) hab da⟩
  have hdd : dmn E d b := hdb.mp (by
    cases hq : bq un (7 * d) b with
    | true => rfl
    | false => rw [hq] at h6; exact absurd rfl h6)
  have hrd : ra d ≤ n := by rw [hra d h8]; exact cnP_le _
  refine ga_aload_n 0 C dX2_rank_114 rfl rfl ?_
  refine gm_get_ne C in_X2_rank (by decide +kernel) dX2_rank_115 ?_
  refine ga_iload_n 1 C dX2_rank_118 rfl rfl ?_
  refine gm_ald_ne C (by omega) dX2_rank_119 ?_
  rcases hnb with ⟨e1, e2⟩ | ⟨y, y1, y2, y3, y4, y5⟩
  · refine ga_eqi e1 ?_
    refine ga_if_lt 143 C dX2_rank_120 (by decide) (fun h5 => ?_) (fun h5 => absurd (by decide) h5)
    refine ga_aload_n 0 C dX2_rank_143 rfl rfl ?_
    refine gm_get_ne C in_X2_rank (by decide +kernel) dX2_rank_144 ?_
    refine ga_iload_n 1 C dX2_rank_147 rfl rfl ?_
    refine ga_iload_n 2 C dX2_rank_148 rfl rfl ?_
    refine gm_ast_ne C (by omega) dX2_rank_149 ?_
    refine ga_lk (tail _ ⟨fun x hx => by rw [pk_un (by omega)]; exact hne x hx, Or.inr ⟨d, h8, pk_us, h7, hdd, fun a ha hab da => ?_⟩⟩) ⟨rfl, rfl, rfl, trivial⟩
    by_cases q : a = d
    · rw [q]; exact Nat.le_refl _
    · exact absurd da (e2 a (by omega) hab)
  · have hry : ra y ≤ n := by rw [hra y y1]; exact cnP_le _
    refine ga_eqi y2 ?_
    refine gn_if_lt 143 C dX2_rank_120 (by decide) (by omega) (fun h5 => absurd h5 (by omega)) (fun h5 => ?_)
    refine ga_aload_n 0 C dX2_rank_123 rfl rfl ?_
    refine gm_get_ra C in_X2_rank (by decide +kernel) dX2_rank_124 ?_
    refine ga_iload_n 2 C dX2_rank_127 rfl rfl ?_
    refine gm_ald_ra C (by omega) dX2_rank_128 ?_
    refine ga_aload_n 0 C dX2_rank_129 rfl rfl ?_
    refine gm_get_ra C in_X2_rank (by decide +kernel) dX2_rank_130 ?_
    refine ga_aload_n 0 C dX2_rank_133 rfl rfl ?_
    refine gm_get_ne C in_X2_rank (by decide +kernel) dX2_rank_134 ?_
    refine ga_iload_n 1 C dX2_rank_137 rfl rfl ?_
    refine gm_ald_ne C (by omega) dX2_rank_138 ?_
    refine ga_eqi y2 ?_
    refine gm_ald_ra C (by omega) dX2_rank_139 ?_
    refine gn_icmp_le 150 C dX2_rank_140 (by decide) (by omega) (by omega) (fun h4 => ?_) (fun h4 => ?_)
    · rw [hra d h8, hra y y1] at h4
      refine ga_lk (tail ne ⟨hne, Or.inr ⟨y, y1, y2, y3, y4, fun a ha hab da => ?_⟩⟩) ⟨rfl, rfl, rfl, trivial⟩
      by_cases q : a = d
      · rw [q]; exact h4
      · exact y5 a (by omega) hab da
    · rw [hra d h8, hra y y1] at h4
      refine ga_aload_n 0 C dX2_rank_143 rfl rfl ?_
      refine gm_get_ne C in_X2_rank (by decide +kernel) dX2_rank_144 ?_
      refine ga_iload_n 1 C dX2_rank_147 rfl rfl ?_
      refine ga_iload_n 2 C dX2_rank_148 rfl rfl ?_
      refine gm_ast_ne C (by omega) dX2_rank_149 ?_
      refine ga_lk (tail _ ⟨fun x hx => by rw [pk_un (by omega)]; exact hne x hx, Or.inr ⟨d, h8, pk_us, h7, hdd, fun a ha hab da => ?_⟩⟩) ⟨rfl, rfl, rfl, trivial⟩
      by_cases q : a = d
      · rw [q]; exact Nat.le_refl _
      · have := y5 a (by omega) hab da
        omega
set_option maxHeartbeats 4000000 in
set_option maxRecDepth 100000 in
/-- loops -/
theorem c_mloops (l : Launch) (G : va_G) (cI cJ cZ : ClassId) (am : Nat → Nat) (on ba : Nat → Int32) (ik : Nat) (me un : Nat → Int32) (ra : Nat → Nat) (ne : Nat → Int32) (he de : Nat → Nat) (wa : Nat → Int32) (le : Nat → Nat) (n wt : Nat) (E : Nat → Nat → Bool) (hE : mE n E on ba) (hT : mT E me) (hU : mU n E un) : ctV l yX2_loops wsX2_loops { frames := 2, cells := 0, slots := 0, locals := 47 } G (ty3 cI cJ cZ) [.ref (am 0)] (wM am cI cZ on ba ik me un ra ne he de wa le n wt) (fun u : (Nat → Nat) × (Nat → Nat) × (Nat → Int32) × (Nat → Nat) × Nat => mHd n E u.1 ∧ mDp n E u.2.1) (fun u : (Nat → Nat) × (Nat → Nat) × (Nat → Int32) × (Nat → Nat) × Nat => wM am cI cZ on ba ik me un ra ne u.1 u.2.1 u.2.2.1 u.2.2.2.1 n u.2.2.2.2) := by
  refine metV (cc := cX2_loops) (maxL := 3) (ret := none) (by decide) rfl (Nat.le_of_ble_eq_true rfl) ?_
  intro p e s m below meth c C hr hlk
  refine ga_lv (lv9 := [(0, .ref (am 0))]) ⟨rfl, trivial⟩ ?_
  have hg := hE.1
  have hn := hg.2.1
  refine ga_iconst (v := nI 0) C dX2_loops_0 (by decide) ?_
  refine ga_istore_n 1 C dX2_loops_1 rfl (by decide) rfl ?_
  refine ga_lv (lv9 := [(0, .ref (am 0)), (1, .int (nI 0))]) ⟨rfl, rfl, trivial⟩ ?_
  refine up_ind n (P := fun i => ∀ de : Nat → Nat, (∀ b, b < i → de b = 0) → gG p l e _ s m _ below meth c G _ _ 0 0 _ (wM am cI cZ on ba ik me un ra ne he de wa le n wt) [(0, .ref (am 0)), (1, .int (nI i))] 2 []) ?_ 0 (by omega) de (fun b q => by omega)
  intro i hi ih de hde
  refine ga_iload_n 1 C dX2_loops_2 rfl rfl ?_
  refine ga_aload_n 0 C dX2_loops_3 rfl rfl ?_
  refine gm_get_n C in_X2_loops (by decide +kernel) dX2_loops_4 ?_
  refine gn_icmp_ge 23 C dX2_loops_7 (by decide) (by omega) (by omega) (fun h9 => ?_) (fun h9 => ?_)
  rotate_left
  · skip
    refine ga_aload_n 0 C dX2_loops_10 rfl rfl ?_
    refine gm_get_de C in_X2_loops (by decide +kernel) dX2_loops_11 ?_
    refine ga_iload_n 1 C dX2_loops_14 rfl rfl ?_
    refine ga_iconst (v := nI 0) C dX2_loops_15 (by decide) ?_
    refine gm_ast_de C (by omega) dX2_loops_16 ?_
    refine ga_iinc 1 C dX2_loops_17 rfl (nI_inc _) (by decide) rfl ?_
    refine ga_goto 2 C dX2_loops_20 (by decide) ?_
    refine ga_lv (lv9 := [(0, .ref (am 0)), (1, .int (nI (i + 1)))]) ⟨rfl, rfl, trivial⟩ ?_
    refine ih (i + 1) (by omega) (by omega) _ (fun b hb => ?_)
    by_cases q : b = i
    · rw [q, upN_s]
    · rw [upN_n q]; exact hde b (by omega)
  refine ga_iconst (v := nI 0) C dX2_loops_23 (by decide) ?_
  refine ga_istore_n 1 C dX2_loops_24 rfl (by decide) rfl ?_
  refine ga_lv (lv9 := [(0, .ref (am 0)), (1, .int (nI 0))]) ⟨rfl, rfl, trivial⟩ ?_
  refine up_ind n (P := fun h => ∀ (he de : Nat → Nat) (wa : Nat → Int32) (le : Nat → Nat) (wt : Nat), (∀ x, x < h → he x < 2 ∧ (he x = 1 ↔ hdd E x)) → (∀ b, b < n → de b = cnP (fun x => hdd E x ∧ inl E x b) h) → gG p l e _ s m _ below meth c G _ _ 0 0 _ (wM am cI cZ on ba ik me un ra ne he de wa le n wt) [(0, .ref (am 0)), (1, .int (nI h))] 25 []) ?_ 0 (by omega) he de wa le wt (fun x q => by omega) (fun b hb => hde b (by omega))
  clear h9 hde ih
  intro h hh ih he de wa le wt hhe hde
  refine ga_iload_n 1 C dX2_loops_25 rfl rfl ?_
  refine ga_aload_n 0 C dX2_loops_26 rfl rfl ?_
  refine gm_get_n C in_X2_loops (by decide +kernel) dX2_loops_27 ?_
  refine gn_icmp_ge 197 C dX2_loops_30 (by decide) (by omega) (by omega) (fun h9 => ?_) (fun h9 => ?_)
  · obtain rfl : h = n := by omega
    exact ga_vret C hr hlk dX2_loops_197 (he, de, wa, le, wt) ⟨hhe, hde⟩ rfl
  refine ga_aload_n 0 C dX2_loops_33 rfl rfl ?_
  refine gm_cg_v C (c_mclear l G cI cJ cZ am on ba ik me un ra ne he de wa le n wt) (cwV 0 C.1.2.2.2.2 gX2_loops_X2_clear rfl rfl rfl (by decide +kernel) ⟨Nat.le_of_ble_eq_true rfl, Nat.le_of_ble_eq_true rfl⟩) rfl rfl (Nat.le_of_ble_eq_true rfl) dX2_loops_34 ⟨Nat.zero_le _, Nat.zero_le _⟩ (fun wa hwa => ?_)
  refine ga_aload_n 0 C dX2_loops_37 rfl rfl ?_
  refine gm_get_he C in_X2_loops (by decide +kernel) dX2_loops_38 ?_
  refine ga_iload_n 1 C dX2_loops_41 rfl rfl ?_
  refine ga_iconst (v := nI 0) C dX2_loops_42 (by decide) ?_
  refine gm_ast_he C (by omega) (by omega) dX2_loops_43 ?_
  refine ga_iconst (v := nI 0) C dX2_loops_44 (by decide) ?_
  refine ga_istore_n 2 C dX2_loops_45 rfl (by decide) rfl ?_
  refine ga_lv (lv9 := [(0, .ref (am 0)), (1, .int (nI h)), (2, .int (nI 0))]) ⟨rfl, rfl, rfl, trivial⟩ ?_
  refine up_ind n (P := fun b => ∀ (he : Nat → Nat) (wa : Nat → Int32) (le : Nat → Nat) (wt : Nat), (∀ x, x < h → he x < 2 ∧ (he x = 1 ↔ hdd E x)) → (he h < 2 ∧ (he h = 1 ↔ ∃ x, x < b ∧ dmn E h x ∧ E x h = true)) → spI n (fun a b => E b a) (fun x => x < b ∧ x ≠ h ∧ dmn E h x ∧ E x h = true) (fun x => x = h) wa le wt (fun _ => False) → (∀ x, x < 224 → (bq wa 0 x = true → x < b)) → gG p l e _ s m _ below meth c G _ _ 0 0 _ (wM am cI cZ on ba ik me un ra ne he de wa le n wt) [(0, .ref (am 0)), (1, .int (nI h)), (2, .int (nI b))] 46 []) ?_ 0 (by omega) (upN he h 0) wa le 0 (fun x hx => by rw [upN_n (by omega)]; exact hhe x hx) ⟨by rw [upN_s]; omega, by rw [upN_s]; exact ⟨fun q => absurd q (by decide), fun ⟨x, q, _⟩ => by omega⟩⟩ (spI_cg (fun b => ⟨fun q => q.elim, fun q => by omega⟩) (spI_0 hwa)) (fun x hx q => by rw [hwa x hx] at q; cases q)
  clear hhe hwa
  intro b hb ih2 he wa le wt hhe heh hsp hwv
  refine ga_iload_n 2 C dX2_loops_46 rfl rfl ?_
  refine ga_aload_n 0 C dX2_loops_47 rfl rfl ?_
  refine gm_get_n C in_X2_loops (by decide +kernel) dX2_loops_48 ?_
  refine gn_icmp_ge 110 C dX2_loops_51 (by decide) (by omega) (by omega) (fun h8 => ?_) (fun h8 => ?_)
  rotate_left
  · refine ga_tail (α := (Nat → Nat) × (Nat → Int32) × (Nat → Nat) × Nat) (H := fun q => (∀ x, x < h → q.1 x < 2 ∧ (q.1 x = 1 ↔ hdd E x)) ∧ (q.1 h < 2 ∧ (q.1 h = 1 ↔ ∃ x, x < b + 1 ∧ dmn E h x ∧ E x h = true)) ∧ spI n (fun a b => E b a) (fun x => x < b + 1 ∧ x ≠ h ∧ dmn E h x ∧ E x h = true) (fun x => x = h) q.2.1 q.2.2.1 q.2.2.2 (fun _ => False) ∧ (∀ x, x < 224 → (bq q.2.1 0 x = true → x < b + 1))) (w9 := fun q => wM am cI cZ on ba ik me un ra ne q.1 de q.2.1 q.2.2.1 n q.2.2.2) (lv9 := fun _ => [(0, .ref (am 0)), (1, .int (nI h)), (2, .int (nI b))]) (pc9 := 104) (F := fun _ => []) ?_ (fun tail => ?_)
    · rintro ⟨he2, wa2, le2, wt2⟩ ⟨y1, y2, y3, y4⟩
      refine ga_iinc 2 C dX2_loops_104 rfl (nI_inc _) (by decide) rfl ?_
      refine ga_goto 46 C dX2_loops_107 (by decide) ?_
      refine ga_lv (lv9 := [(0, .ref (am 0)), (1, .int (nI h)), (2, .int (nI (b + 1)))]) ⟨rfl, rfl, rfl, trivial⟩ ?_
      exact ih2 (b + 1) (by omega) (by omega) he2 wa2 le2 wt2 y1 y2 y3 y4
    refine ga_aload_n 0 C dX2_loops_54 rfl rfl ?_
    refine gm_get_un C in_X2_loops (by decide +kernel) dX2_loops_55 ?_
    refine ga_bipush (v := nI 7) C dX2_loops_58 (by decide) ?_
    refine ga_iload_n 1 C dX2_loops_60 rfl rfl ?_
    refine ga_imul C dX2_loops_61 (pk_mul _ _) ?_
    refine ga_iload_n 2 C dX2_loops_62 rfl rfl ?_
    refine gm_isSet_un C (c_mset l G cI cJ cZ (am 4) 1400 un (7 * h) b (by decide) (by omega) (by omega) (by omega)) (va_cwS 3 C.1.2.2.2.2 gX2_loops_X2_isSet rfl rfl rfl (by decide +kernel) ⟨Nat.le_of_ble_eq_true rfl, Nat.le_of_ble_eq_true rfl⟩) rfl rfl (Nat.le_of_ble_eq_true rfl) dX2_loops_63 ⟨Nat.zero_le _, Nat.zero_le _⟩ (fun r hs => ?_)
    subst hs
    have hbl := btl (bq un (7 * h) b)
    have hdb := hU h b h9 (by omega)
    refine gn_if_eq 104 C dX2_loops_66 (by decide) (by omega) (fun h7 => ?_) (fun h7 => ?_)
    · skip
      have hnot : ¬ (dmn E h b ∧ E b h = true) := fun q => by rw [hdb.mpr q.1] at h7; cases h7
      refine ga_lk (tail (he, wa, le, wt) ⟨hhe, ⟨heh.1, heh.2.trans ⟨fun ⟨x, q1, q2⟩ => ⟨x, by omega, q2⟩, fun ⟨x, q1, q2⟩ => ⟨x, ?_, q2⟩⟩⟩, spI_cg (fun x => ⟨fun q => ⟨by omega, q.2⟩, fun q => ⟨?_, q.2⟩⟩) hsp, fun x hx q => Nat.lt_succ_of_lt (hwv x hx q)⟩) ⟨rfl, rfl, rfl, trivial⟩
      · apply Nat.lt_of_not_le
        intro z
        obtain rfl : x = b := by omega
        exact hnot q2
      · apply Nat.lt_of_not_le
        intro z
        have hxb : x = b := by omega
        rw [hxb] at q
        exact hnot q.2.2
    have hdm : dmn E h b := hdb.mp (by
      cases hq : bq un (7 * h) b with
      | true => rfl
      | false => rw [hq] at h7; exact absurd rfl h7)
    clear hbl
    refine ga_aload_n 0 C dX2_loops_69 rfl rfl ?_
    refine gm_get_on C in_X2_loops (by decide +kernel) dX2_loops_70 ?_
    refine ga_bipush (v := nI 7) C dX2_loops_73 (by decide) ?_
    refine ga_iload_n 2 C dX2_loops_75 rfl rfl ?_
    refine ga_imul C dX2_loops_76 (pk_mul _ _) ?_
    refine ga_iload_n 1 C dX2_loops_77 rfl rfl ?_
    refine gm_isSet_on C (c_mset l G cI cJ cZ (am 1) 1400 on (7 * b) h (by decide) (by omega) (by omega) (by omega)) (va_cwS 3 C.1.2.2.2.2 gX2_loops_X2_isSet rfl rfl rfl (by decide +kernel) ⟨Nat.le_of_ble_eq_true rfl, Nat.le_of_ble_eq_true rfl⟩) rfl rfl (Nat.le_of_ble_eq_true rfl) dX2_loops_78 ⟨Nat.zero_le _, Nat.zero_le _⟩ (fun r hs => ?_)
    subst hs
    have hbl := btl (bq on (7 * b) h)
    have heb := hE.2.1 b h (by omega) (by omega)
    refine gn_if_ne 87 C dX2_loops_81 (by decide) (by omega) (fun h6 => ?_) (fun h6 => ?_)
    rotate_left
    · skip
      refine ga_goto 104 C dX2_loops_84 (by decide) ?_
      have hnot : ¬ (dmn E h b ∧ E b h = true) := fun q => by rw [heb, q.2] at h6; cases h6
      refine ga_lk (tail (he, wa, le, wt) ⟨hhe, ⟨heh.1, heh.2.trans ⟨fun ⟨x, q1, q2⟩ => ⟨x, by omega, q2⟩, fun ⟨x, q1, q2⟩ => ⟨x, ?_, q2⟩⟩⟩, spI_cg (fun x => ⟨fun q => ⟨by omega, q.2⟩, fun q => ⟨?_, q.2⟩⟩) hsp, fun x hx q => Nat.lt_succ_of_lt (hwv x hx q)⟩) ⟨rfl, rfl, rfl, trivial⟩
      · apply Nat.lt_of_not_le
        intro z
        obtain rfl : x = b := by omega
        exact hnot q2
      · apply Nat.lt_of_not_le
        intro z
        have hxb : x = b := by omega
        rw [hxb] at q
        exact hnot q.2.2
    have hed : E b h = true := by
      rw [← heb]
      cases hq : bq on (7 * b) h with
      | true => rfl
      | false => rw [hq] at h6; exact absurd rfl h6
    have heh2 : (upN he h 1) h < 2 ∧ ((upN he h 1) h = 1 ↔ ∃ x, x < b + 1 ∧ dmn E h x ∧ E x h = true) := by
      rw [upN_s]
      exact ⟨by omega, fun _ => ⟨b, by omega, hdm, hed⟩, fun _ => rfl⟩
    have hhe2 : ∀ x, x < h → (upN he h 1) x < 2 ∧ ((upN he h 1) x = 1 ↔ hdd E x) := fun x hx => by rw [upN_n (by omega)]; exact hhe x hx
    refine ga_aload_n 0 C dX2_loops_87 rfl rfl ?_
    refine gm_get_he C in_X2_loops (by decide +kernel) dX2_loops_88 ?_
    refine ga_iload_n 1 C dX2_loops_91 rfl rfl ?_
    refine ga_iconst (v := nI 1) C dX2_loops_92 (by decide) ?_
    refine gm_ast_he C (by omega) (by omega) dX2_loops_93 ?_
    refine ga_iload_n 2 C dX2_loops_94 rfl rfl ?_
    refine ga_iload_n 1 C dX2_loops_95 rfl rfl ?_
    refine gn_icmp_eq 104 C dX2_loops_96 (by decide) (by omega) (by omega) (fun h5 => ?_) (fun h5 => ?_)
    · refine ga_lk (tail (upN he h 1, wa, le, wt) ⟨hhe2, heh2, spI_cg (fun x => ⟨fun q => ⟨by omega, q.2⟩, fun q => ⟨?_, q.2⟩⟩) hsp, fun x hx q => Nat.lt_succ_of_lt (hwv x hx q)⟩) ⟨rfl, rfl, rfl, trivial⟩
      have := q.2.1
      omega
    · have hB : uI (nI 1 <<< (nI (b % 32) &&& 31)) = 2 ^ (b % 32) := uI_bit _ (Nat.mod_lt _ (by decide))
      have hwb : bq wa 0 b = false := by
        cases hq : bq wa 0 b with
        | false => rfl
        | true => exact absurd (hwv b (by omega) hq) (by omega)
      have hsrc : ∀ y, ((fun x => x < b + 1 ∧ x ≠ h ∧ dmn E h x ∧ E x h = true) y ↔ (fun x => x < b ∧ x ≠ h ∧ dmn E h x ∧ E x h = true) y ∨ y = b) := fun y => by
        constructor
        · intro q
          by_cases z : y = b
          · exact Or.inr z
          · exact Or.inl ⟨by have := q.1; omega, q.2⟩
        · rintro (q | q)
          · exact ⟨by have := q.1; omega, q.2⟩
          · rw [q]; exact ⟨by omega, h5, hdm, hed⟩
      obtain ⟨z1, z2⟩ := spI_src (src2 := (fun x => x < b + 1 ∧ x ≠ h ∧ dmn E h x ∧ E x h = true)) hn h8 hB hwb hsrc hsp
      refine ga_aload_n 0 C dX2_loops_99 rfl rfl ?_
      refine ga_iload_n 2 C dX2_loops_100 rfl rfl ?_
      refine gm_cg_v C (c_mstart l G cI cJ cZ am on ba ik me un ra ne (upN he h 1) de wa le n wt b (by omega) (by omega)) (cwV 1 C.1.2.2.2.2 gX2_loops_X2_start rfl rfl rfl (by decide +kernel) ⟨Nat.le_of_ble_eq_true rfl, Nat.le_of_ble_eq_true rfl⟩) rfl rfl (Nat.le_of_ble_eq_true rfl) dX2_loops_101 ⟨Nat.zero_le _, Nat.zero_le _⟩ (fun u hu => ?_)
      refine ga_lk (tail (upN he h 1, upd wa (b / 32) (wa (b / 32) ||| (nI 1 <<< (nI (b % 32) &&& 31))), upN le wt b, wt + 1) ⟨hhe2, heh2, z2, fun x hx q => ?_⟩) ⟨rfl, rfl, rfl, trivial⟩
      have q : bq (upd wa (b / 32) (wa (b / 32) ||| (nI 1 <<< (nI (b % 32) &&& 31)))) 0 x = true := q
      rw [bq_or hB, Bool.or_eq_true, decide_eq_true_eq] at q
      rcases q with q | q
      · exact Nat.lt_succ_of_lt (hwv x hx q)
      · omega
  have hhead : he h < 2 ∧ (he h = 1 ↔ hdd E h) := ⟨heh.1, heh.2.trans ⟨fun ⟨x, _, q⟩ => ⟨x, q⟩, fun ⟨x, q1, q2⟩ => ⟨x, by have := rch_lt hg q1.1; omega, q1, q2⟩⟩⟩
  have hhe3 : ∀ x, x < h + 1 → he x < 2 ∧ (he x = 1 ↔ hdd E x) := fun x hx => by
    by_cases q : x = h
    · rw [q]; exact hhead
    · exact hhe x (by omega)
  have hhl := hhead.1
  refine ga_aload_n 0 C dX2_loops_110 rfl rfl ?_
  refine gm_get_he C in_X2_loops (by decide +kernel) dX2_loops_111 ?_
  refine ga_iload_n 1 C dX2_loops_114 rfl rfl ?_
  refine gm_ald_he C (by omega) dX2_loops_115 ?_
  refine gn_if_ne 122 C dX2_loops_116 (by decide) (by omega) (fun h7 => ?_) (fun h7 => ?_)
  rotate_left
  · skip
    refine ga_goto 191 C dX2_loops_119 (by decide) ?_
    refine ga_iinc 1 C dX2_loops_191 rfl (nI_inc _) (by decide) rfl ?_
    refine ga_goto 25 C dX2_loops_194 (by decide) ?_
    refine ga_lv (lv9 := [(0, .ref (am 0)), (1, .int (nI (h + 1)))]) ⟨rfl, rfl, trivial⟩ ?_
    refine ih (h + 1) (by omega) (by omega) he de wa le wt hhe3 (fun x hx => ?_)
    rw [hde x hx, cnP_f]
    intro q
    have := hhead.2.mpr q.1
    omega
  have hhd : hdd E h := hhead.2.mp (by omega)
  refine ga_aload_n 0 C dX2_loops_122 rfl rfl ?_
  refine ga_aload_n 0 C dX2_loops_123 rfl rfl ?_
  refine gm_get_ba C in_X2_loops (by decide +kernel) dX2_loops_124 ?_
  refine ga_iload_n 1 C dX2_loops_127 rfl rfl ?_
  refine gm_cg_v C (c_mspread_ba l G cI cJ cZ am on ba ik me un ra ne he de wa le n wt (nI h) (fun a b => E b a) (fun x => x ≠ h ∧ dmn E h x ∧ E x h = true) (fun x => x = h) (gOk_R hg) hE.2.2 (Or.inr ⟨h, h9, rfl, fun _ => Iff.rfl⟩) (spI_cg (fun x => ⟨fun q => q.2, fun q => ⟨by have := rch_lt hg q.2.1.1; omega, q⟩⟩) hsp)) (cwV 2 C.1.2.2.2.2 gX2_loops_X2_spread rfl rfl rfl (by decide +kernel) ⟨Nat.le_of_ble_eq_true rfl, Nat.le_of_ble_eq_true rfl⟩) rfl rfl (Nat.le_of_ble_eq_true rfl) dX2_loops_128 ⟨Nat.zero_le _, Nat.zero_le _⟩ (fun u hu => ?_)
  obtain ⟨wa2, le2⟩ := u
  have hu : ∀ b, b < 224 → (bq wa2 0 b = true ↔ lbk E h b) := hu
  refine ga_aload_n 0 C dX2_loops_131 rfl rfl ?_
  refine gm_get_de C in_X2_loops (by decide +kernel) dX2_loops_132 ?_
  refine ga_iload_n 1 C dX2_loops_135 rfl rfl ?_
  refine ga_dup2 C dX2_loops_136 rfl rfl ?_
  refine gm_ald_de C (by omega) dX2_loops_137 ?_
  refine ga_iconst (v := nI 1) C dX2_loops_138 (by decide) ?_
  refine ga_iadd C dX2_loops_139 (nI_add _ _) ?_
  refine gm_ast_de C (by omega) dX2_loops_140 ?_
  refine ga_iconst (v := nI 0) C dX2_loops_141 (by decide) ?_
  refine ga_istore_n 2 C dX2_loops_142 rfl (by decide) rfl ?_
  refine ga_lv (lv9 := [(0, .ref (am 0)), (1, .int (nI h)), (2, .int (nI 0))]) ⟨rfl, rfl, rfl, trivial⟩ ?_
  refine up_ind n (P := fun b => ∀ dx : Nat → Nat, (∀ x, x < n → ((x < b ∨ x = h) → inl E h x → dx x = de x + 1) ∧ ((x < b ∨ x = h) → ¬ inl E h x → dx x = de x) ∧ (b ≤ x → x ≠ h → dx x = de x)) → gG p l e _ s m _ below meth c G _ _ 0 0 _ (wM am cI cZ on ba ik me un ra ne he dx wa2 le2 n 0) [(0, .ref (am 0)), (1, .int (nI h)), (2, .int (nI b))] 143 []) ?_ 0 (by omega) (upN de h (de h + 1)) (fun x hx => ⟨fun q1 q2 => ?_, fun q1 q2 => ?_, fun q1 q2 => upN_n q2⟩)
  rotate_left
  · have e : x = h := by omega
    rw [e, upN_s]
  · have e : x = h := by omega
    exact absurd (Or.inl e) q2
  intro b hb ih3 dx hdx
  refine ga_iload_n 2 C dX2_loops_143 rfl rfl ?_
  refine ga_aload_n 0 C dX2_loops_144 rfl rfl ?_
  refine gm_get_n C in_X2_loops (by decide +kernel) dX2_loops_145 ?_
  refine gn_icmp_ge 191 C dX2_loops_148 (by decide) (by omega) (by omega) (fun h6 => ?_) (fun h6 => ?_)
  · skip
    refine ga_iinc 1 C dX2_loops_191 rfl (nI_inc _) (by decide) rfl ?_
    refine ga_goto 25 C dX2_loops_194 (by decide) ?_
    refine ga_lv (lv9 := [(0, .ref (am 0)), (1, .int (nI (h + 1)))]) ⟨rfl, rfl, trivial⟩ ?_
    refine ih (h + 1) (by omega) (by omega) he dx wa2 le2 0 hhe3 (fun x hx => ?_)
    by_cases q : inl E h x
    · rw [(hdx x hx).1 (Or.inl (by omega)) q, hde x hx, cnP_t (P := fun y => hdd E y ∧ inl E y x) ⟨hhd, q⟩]
    · rw [(hdx x hx).2.1 (Or.inl (by omega)) q, hde x hx, cnP_f (P := fun y => hdd E y ∧ inl E y x) (fun z => q z.2)]
  have hub := hu b (by omega)
  have hTb := hT b (by omega)
  refine ga_tail (α := Nat → Nat) (H := fun dx => (∀ x, x < n → ((x < b + 1 ∨ x = h) → inl E h x → dx x = de x + 1) ∧ ((x < b + 1 ∨ x = h) → ¬ inl E h x → dx x = de x) ∧ (b + 1 ≤ x → x ≠ h → dx x = de x))) (w9 := fun dx => wM am cI cZ on ba ik me un ra ne he dx wa2 le2 n 0) (lv9 := fun _ => [(0, .ref (am 0)), (1, .int (nI h)), (2, .int (nI b))]) (pc9 := 185) (F := fun _ => []) ?_ (fun tail => ?_)
  · intro dx2 y1
    refine ga_iinc 2 C dX2_loops_185 rfl (nI_inc _) (by decide) rfl ?_
    refine ga_goto 143 C dX2_loops_188 (by decide) ?_
    refine ga_lv (lv9 := [(0, .ref (am 0)), (1, .int (nI h)), (2, .int (nI (b + 1)))]) ⟨rfl, rfl, rfl, trivial⟩ ?_
    exact ih3 (b + 1) (by omega) (by omega) dx2 y1
  refine ga_aload_n 0 C dX2_loops_151 rfl rfl ?_
  refine gm_get_wa C in_X2_loops (by decide +kernel) dX2_loops_152 ?_
  refine ga_iconst (v := nI 0) C dX2_loops_155 (by decide) ?_
  refine ga_iload_n 2 C dX2_loops_156 rfl rfl ?_
  refine gm_isSet_wa C (c_mset l G cI cJ cZ (am 9) 7 wa2 0 b (by decide) (by omega) (by omega) (by omega)) (va_cwS 3 C.1.2.2.2.2 gX2_loops_X2_isSet rfl rfl rfl (by decide +kernel) ⟨Nat.le_of_ble_eq_true rfl, Nat.le_of_ble_eq_true rfl⟩) rfl rfl (Nat.le_of_ble_eq_true rfl) dX2_loops_157 ⟨Nat.zero_le _, Nat.zero_le _⟩ (fun r hs => ?_)
  subst hs
  have hbl := btl (bq wa2 0 b)
  refine gn_if_eq 185 C dX2_loops_160 (by decide) (by omega) (fun h5 => ?_) (fun h5 => ?_)
  · skip
    have hnb : ¬ (rch E b ∧ lbk E h b) := fun q => by rw [hub.mpr q.2] at h5; cases h5
    refine ga_lk (tail dx (fun x hx => ⟨fun q1 q2 => ?_, fun q1 q2 => ?_, fun q1 q2 => (hdx x hx).2.2 (by omega) q2⟩)) ⟨rfl, rfl, rfl, trivial⟩
    · by_cases z : x = b ∧ x ≠ h
      · rw [z.1] at q2
        exact absurd (q2.resolve_left (by rw [← z.1]; exact z.2)) hnb
      · exact (hdx x hx).1 (by omega) q2
    · by_cases z : x = b ∧ x ≠ h
      · exact (hdx x hx).2.2 (by omega) z.2
      · exact (hdx x hx).2.1 (by omega) q2
  have hlb : lbk E h b := hub.mp (by
    cases hq : bq wa2 0 b with
    | true => rfl
    | false => rw [hq] at h5; exact absurd rfl h5)
  clear hbl
  refine ga_aload_n 0 C dX2_loops_163 rfl rfl ?_
  refine gm_get_me C in_X2_loops (by decide +kernel) dX2_loops_164 ?_
  refine ga_iconst (v := nI 0) C dX2_loops_167 (by decide) ?_
  refine ga_iload_n 2 C dX2_loops_168 rfl rfl ?_
  refine gm_isSet_me C (c_mset l G cI cJ cZ (am 3) 7 me 0 b (by decide) (by omega) (by omega) (by omega)) (va_cwS 3 C.1.2.2.2.2 gX2_loops_X2_isSet rfl rfl rfl (by decide +kernel) ⟨Nat.le_of_ble_eq_true rfl, Nat.le_of_ble_eq_true rfl⟩) rfl rfl (Nat.le_of_ble_eq_true rfl) dX2_loops_169 ⟨Nat.zero_le _, Nat.zero_le _⟩ (fun r hs => ?_)
  subst hs
  have hbl := btl (bq me 0 b)
  refine gn_if_eq 185 C dX2_loops_172 (by decide) (by omega) (fun h4 => ?_) (fun h4 => ?_)
  · skip
    have hnb : ¬ (rch E b ∧ lbk E h b) := fun q => by rw [hTb.mpr q.1] at h4; cases h4
    refine ga_lk (tail dx (fun x hx => ⟨fun q1 q2 => ?_, fun q1 q2 => ?_, fun q1 q2 => (hdx x hx).2.2 (by omega) q2⟩)) ⟨rfl, rfl, rfl, trivial⟩
    · by_cases z : x = b ∧ x ≠ h
      · rw [z.1] at q2
        exact absurd (q2.resolve_left (by rw [← z.1]; exact z.2)) hnb
      · exact (hdx x hx).1 (by omega) q2
    · by_cases z : x = b ∧ x ≠ h
      · exact (hdx x hx).2.2 (by omega) z.2
      · exact (hdx x hx).2.1 (by omega) q2
  have hrb : rch E b := hTb.mp (by
    cases hq : bq me 0 b with
    | true => rfl
    | false => rw [hq] at h4; exact absurd rfl h4)
  have hbh := lbk_ne hlb
  refine ga_aload_n 0 C dX2_loops_175 rfl rfl ?_
  refine gm_get_de C in_X2_loops (by decide +kernel) dX2_loops_176 ?_
  refine ga_iload_n 2 C dX2_loops_179 rfl rfl ?_
  refine ga_dup2 C dX2_loops_180 rfl rfl ?_
  refine gm_ald_de C (by omega) dX2_loops_181 ?_
  refine ga_iconst (v := nI 1) C dX2_loops_182 (by decide) ?_
  refine ga_iadd C dX2_loops_183 (nI_add _ _) ?_
  refine gm_ast_de C (by omega) dX2_loops_184 ?_
  refine ga_lk (tail (upN dx b (dx b + 1)) (fun x hx => ⟨fun q1 q2 => ?_, fun q1 q2 => ?_, fun q1 q2 => ?_⟩)) ⟨rfl, rfl, rfl, trivial⟩
  · by_cases z : x = b
    · rw [z, upN_s, (hdx b h6).2.2 (Nat.le_refl _) hbh]
    · rw [upN_n z]; exact (hdx x hx).1 (by omega) q2
  · by_cases z : x = b
    · rw [z] at q2; exact absurd (Or.inr ⟨hrb, hlb⟩) q2
    · rw [upN_n z]; exact (hdx x hx).2.1 (by omega) q2
  · rw [upN_n (by omega)]; exact (hdx x hx).2.2 (by omega) q2
end
section
theorem rav_eq {E : Nat → Nat → Bool} {d b : Nat} : rc (eP E) (fun b => b = 0 ∧ 0 < d) (fun b => b = d) b ↔ rav E d b := Iff.rfl

set_option maxHeartbeats 4000000 in
set_option maxRecDepth 100000 in
/-- know -/
theorem c_mknow (l : Launch) (G : va_G) (cI cJ cZ : ClassId) (am : Nat → Nat) (on ba : Nat → Int32) (ik : Nat) (me un : Nat → Int32) (ra : Nat → Nat) (ne : Nat → Int32) (he de : Nat → Nat) (wa : Nat → Int32) (le : Nat → Nat) (n wt : Nat) (nn : Nat) (E : Nat → Nat → Bool) (hI : mI nn E on ba ik me un ne he de n) : ctV l yX2_know wsX2_know { frames := 3, cells := 0, slots := 0, locals := 69 } G (ty3 cI cJ cZ) [.ref (am 0)] (wM am cI cZ on ba ik me un ra ne he de wa le n wt) (fun u : MS => mIu nn E u ∧ u.2.2.1 = 1) (wMu am cI cZ) := by
  refine metV (cc := cX2_know) (maxL := 3) (ret := none) (by decide) rfl (Nat.le_of_ble_eq_true rfl) ?_
  intro p e s m below meth c C hr hlk
  refine ga_lv (lv9 := [(0, .ref (am 0))]) ⟨rfl, trivial⟩ ?_
  obtain ⟨hE, rfl, hik, hK⟩ := id hI
  have hg := hE.1
  have hn := hg.2.1
  refine ga_aload_n 0 C dX2_know_0 rfl rfl ?_
  refine gm_get_ik C in_X2_know (by decide +kernel) dX2_know_1 ?_
  refine gn_if_eq 8 C dX2_know_4 (by decide) (by omega) (fun h9 => ?_) (fun h9 => ?_)
  rotate_left
  · obtain rfl : ik = 1 := by omega
    exact ga_vret C hr hlk dX2_know_7 (on, ba, 1, me, un, ra, ne, he, de, wa, le, n, wt) ⟨hI, rfl⟩ rfl
  refine ga_aload_n 0 C dX2_know_8 rfl rfl ?_
  refine ga_iconst (v := nI 1) C dX2_know_9 (by decide) ?_
  refine gm_put_ik C in_X2_know (by decide +kernel) (by omega) dX2_know_10 ?_
  refine ga_aload_n 0 C dX2_know_13 rfl rfl ?_
  refine gm_cg_v C (c_mclear l G cI cJ cZ am on ba 1 me un ra ne he de wa le n wt) (cwV 0 C.1.2.2.2.2 gX2_know_X2_clear rfl rfl rfl (by decide +kernel) ⟨Nat.le_of_ble_eq_true rfl, Nat.le_of_ble_eq_true rfl⟩) rfl rfl (Nat.le_of_ble_eq_true rfl) dX2_know_14 ⟨Nat.zero_le _, Nat.zero_le _⟩ (fun wa hwa => ?_)
  refine ga_aload_n 0 C dX2_know_17 rfl rfl ?_
  refine ga_iconst (v := nI 0) C dX2_know_18 (by decide) ?_
  refine gm_cg_v C (c_mstart l G cI cJ cZ am on ba 1 me un ra ne he de wa le n 0 0 (by omega) (by omega)) (cwV 1 C.1.2.2.2.2 gX2_know_X2_start rfl rfl rfl (by decide +kernel) ⟨Nat.le_of_ble_eq_true rfl, Nat.le_of_ble_eq_true rfl⟩) rfl rfl (Nat.le_of_ble_eq_true rfl) dX2_know_19 ⟨Nat.zero_le _, Nat.zero_le _⟩ (fun u0 hu0 => ?_)
  have hB : uI (nI 1 <<< (nI (0 % 32) &&& 31)) = 2 ^ (0 % 32) := uI_bit _ (by decide)
  obtain ⟨-, hsp⟩ := spI_src (n := n) (Rl := E) (src := fun _ => False) (src2 := fun b => b = 0) (av := fun _ => False) (le := le) (wt := 0) hn hg.1 hB (hwa 0 (by omega)) (fun b => ⟨fun q => Or.inr q, fun q => q.resolve_left (fun z => z)⟩) (spI_0 hwa)
  refine ga_aload_n 0 C dX2_know_22 rfl rfl ?_
  refine ga_aload_n 0 C dX2_know_23 rfl rfl ?_
  refine gm_get_on C in_X2_know (by decide +kernel) dX2_know_24 ?_
  refine ga_iconst (v := -1) C dX2_know_27 (by decide) ?_
  refine gm_cg_v C (c_mspread_on l G cI cJ cZ am on ba 1 me un ra ne he de (upd wa (0 / 32) (wa (0 / 32) ||| (nI 1 <<< (nI (0 % 32) &&& 31)))) (upN le 0 0) n (0 + 1) (-1) E (fun b => b = 0) (fun _ => False) hg hE.2.1 (Or.inl ⟨rfl, fun _ q => q⟩) hsp) (cwV 2 C.1.2.2.2.2 gX2_know_X2_spread rfl rfl rfl (by decide +kernel) ⟨Nat.le_of_ble_eq_true rfl, Nat.le_of_ble_eq_true rfl⟩) rfl rfl (Nat.le_of_ble_eq_true rfl) dX2_know_28 ⟨Nat.zero_le _, Nat.zero_le _⟩ (fun u hu => ?_)
  obtain ⟨wa2, le2⟩ := u
  have hu : ∀ b, b < 224 → (bq wa2 0 b = true ↔ rch E b) := hu
  refine ga_iconst (v := nI 0) C dX2_know_31 (by decide) ?_
  refine ga_istore_n 1 C dX2_know_32 rfl (by decide) rfl ?_
  refine ga_lv (lv9 := [(0, .ref (am 0)), (1, .int (nI 0))]) ⟨rfl, rfl, trivial⟩ ?_
  refine up_ind 7 (P := fun i => ∀ me : Nat → Int32, (∀ j, j < i → me j = wa2 j) → gG p l e _ s m _ below meth c G _ _ 0 0 _ (wM am cI cZ on ba 1 me un ra ne he de wa2 le2 n 0) [(0, .ref (am 0)), (1, .int (nI i))] 33 []) ?_ 0 (by omega) me (fun j q => by omega)
  intro i hi ih me hme
  refine ga_iload_n 1 C dX2_know_33 rfl rfl ?_
  refine ga_bipush (v := nI 7) C dX2_know_34 (by decide) ?_
  refine gn_icmp_ge 57 C dX2_know_36 (by decide) (by omega) (by omega) (fun h8 => ?_) (fun h8 => ?_)
  rotate_left
  · skip
    refine ga_aload_n 0 C dX2_know_39 rfl rfl ?_
    refine gm_get_me C in_X2_know (by decide +kernel) dX2_know_40 ?_
    refine ga_iload_n 1 C dX2_know_43 rfl rfl ?_
    refine ga_aload_n 0 C dX2_know_44 rfl rfl ?_
    refine gm_get_wa C in_X2_know (by decide +kernel) dX2_know_45 ?_
    refine ga_iload_n 1 C dX2_know_48 rfl rfl ?_
    refine gm_ald_wa C (by omega) dX2_know_49 ?_
    refine gm_ast_me C (by omega) dX2_know_50 ?_
    refine ga_iinc 1 C dX2_know_51 rfl (nI_inc _) (by decide) rfl ?_
    refine ga_goto 33 C dX2_know_54 (by decide) ?_
    refine ga_lv (lv9 := [(0, .ref (am 0)), (1, .int (nI (i + 1)))]) ⟨rfl, rfl, trivial⟩ ?_
    refine ih (i + 1) (by omega) (by omega) _ (fun j hj => ?_)
    by_cases q : j = i
    · rw [q, pk_us]
    · rw [pk_un q]; exact hme j (by omega)
  have hT : mT E me := fun b hb => by
    rw [← hu b hb]
    unfold bq
    rw [Nat.zero_add, hme _ (by omega)]
  clear hme hu ih hsp hwa
  refine ga_iconst (v := nI 0) C dX2_know_57 (by decide) ?_
  refine ga_istore_n 1 C dX2_know_58 rfl (by decide) rfl ?_
  refine ga_lv (lv9 := [(0, .ref (am 0)), (1, .int (nI 0))]) ⟨rfl, rfl, trivial⟩ ?_
  refine up_ind n (P := fun d => ∀ (un wa : Nat → Int32) (le : Nat → Nat) (wt : Nat), (∀ r c, r < d → c < 224 → (bq un (7 * r) c = true ↔ dmn E r c)) → gG p l e _ s m _ below meth c G _ _ 0 0 _ (wM am cI cZ on ba 1 me un ra ne he de wa le n wt) [(0, .ref (am 0)), (1, .int (nI d))] 59 []) ?_ 0 (by omega) un wa2 le2 0 (fun r c q => by omega)
  clear h8
  intro d hd ih un wa le wt hun
  refine ga_iload_n 1 C dX2_know_59 rfl rfl ?_
  refine ga_aload_n 0 C dX2_know_60 rfl rfl ?_
  refine gm_get_n C in_X2_know (by decide +kernel) dX2_know_61 ?_
  refine gn_icmp_ge 151 C dX2_know_64 (by decide) (by omega) (by omega) (fun h8 => ?_) (fun h8 => ?_)
  · have hU : mU n E un := fun r c h1 h2 => hun r c (by omega) h2
    refine ga_aload_n 0 C dX2_know_151 rfl rfl ?_
    refine gm_cg_v C (c_mrank l G cI cJ cZ am on ba 1 me un ra ne he de wa le n wt E hg hU) (cwV 0 C.1.2.2.2.2 gX2_know_X2_rank rfl rfl rfl (by decide +kernel) ⟨Nat.le_of_ble_eq_true rfl, Nat.le_of_ble_eq_true rfl⟩) rfl rfl (Nat.le_of_ble_eq_true rfl) dX2_know_152 ⟨Nat.zero_le _, Nat.zero_le _⟩ (fun u hN => ?_)
    obtain ⟨ra2, ne2⟩ := u
    have hN : mN n E ne2 := hN
    refine ga_aload_n 0 C dX2_know_155 rfl rfl ?_
    refine gm_cg_v C (c_mloops l G cI cJ cZ am on ba 1 me un ra2 ne2 he de wa le n wt E hE hT hU) (cwV 0 C.1.2.2.2.2 gX2_know_X2_loops rfl rfl rfl (by decide +kernel) ⟨Nat.le_of_ble_eq_true rfl, Nat.le_of_ble_eq_true rfl⟩) rfl rfl (Nat.le_of_ble_eq_true rfl) dX2_know_156 ⟨Nat.zero_le _, Nat.zero_le _⟩ (fun u hL => ?_)
    obtain ⟨he2, de2, wa3, le3, wt3⟩ := u
    exact ga_vret C hr hlk dX2_know_159 (on, ba, 1, me, un, ra2, ne2, he2, de2, wa3, le3, n, wt3) ⟨mI_1 hE ⟨hT, hU, hN, hL.1, hL.2⟩, rfl⟩ rfl
  refine ga_aload_n 0 C dX2_know_67 rfl rfl ?_
  refine gm_cg_v C (c_mclear l G cI cJ cZ am on ba 1 me un ra ne he de wa le n wt) (cwV 0 C.1.2.2.2.2 gX2_know_X2_clear rfl rfl rfl (by decide +kernel) ⟨Nat.le_of_ble_eq_true rfl, Nat.le_of_ble_eq_true rfl⟩) rfl rfl (Nat.le_of_ble_eq_true rfl) dX2_know_68 ⟨Nat.zero_le _, Nat.zero_le _⟩ (fun wa hwa => ?_)
  refine ga_tail (α := (Nat → Int32) × (Nat → Nat) × Nat) (H := fun q => spI n E (fun b => b = 0 ∧ 0 < d) (fun b => b = d) q.1 q.2.1 q.2.2 (fun _ => False)) (w9 := fun q => wM am cI cZ on ba 1 me un ra ne he de q.1 q.2.1 n q.2.2) (lv9 := fun _ => [(0, .ref (am 0)), (1, .int (nI d))]) (pc9 := 80) (F := fun _ => []) ?_ (fun tail => ?_)
  · rintro ⟨wa1, le1, wt1⟩ hsp
    refine ga_aload_n 0 C dX2_know_80 rfl rfl ?_
    refine ga_aload_n 0 C dX2_know_81 rfl rfl ?_
    refine gm_get_on C in_X2_know (by decide +kernel) dX2_know_82 ?_
    refine ga_iload_n 1 C dX2_know_85 rfl rfl ?_
    refine gm_cg_v C (c_mspread_on l G cI cJ cZ am on ba 1 me un ra ne he de wa1 le1 n wt1 (nI d) E (fun b => b = 0 ∧ 0 < d) (fun b => b = d) hg hE.2.1 (Or.inr ⟨d, h8, rfl, fun _ => Iff.rfl⟩) hsp) (cwV 2 C.1.2.2.2.2 gX2_know_X2_spread rfl rfl rfl (by decide +kernel) ⟨Nat.le_of_ble_eq_true rfl, Nat.le_of_ble_eq_true rfl⟩) rfl rfl (Nat.le_of_ble_eq_true rfl) dX2_know_86 ⟨Nat.zero_le _, Nat.zero_le _⟩ (fun u hu => ?_)
    obtain ⟨wa2, le2⟩ := u
    have hu : ∀ b, b < 224 → (bq wa2 0 b = true ↔ rav E d b) := hu
    refine ga_iconst (v := nI 0) C dX2_know_89 (by decide) ?_
    refine ga_istore_n 2 C dX2_know_90 rfl (by decide) rfl ?_
    refine ga_lv (lv9 := [(0, .ref (am 0)), (1, .int (nI d)), (2, .int (nI 0))]) ⟨rfl, rfl, rfl, trivial⟩ ?_
    refine up_ind 7 (P := fun k => ∀ u : Nat → Int32, (∀ r c, r < 200 → c < 224 → bq u (7 * r) c = if r = d ∧ c < 32 * k then (bq me 0 d && (bq me 0 c && !bq wa2 0 c)) else bq un (7 * r) c) → gG p l e _ s m _ below meth c G _ _ 0 0 _ (wM am cI cZ on ba 1 me u ra ne he de wa2 le2 n 0) [(0, .ref (am 0)), (1, .int (nI d)), (2, .int (nI k))] 91 []) ?_ 0 (by omega) un (fun r c h1 h2 => by rw [if_neg (by omega)])
    intro k hk ih2 u hui
    refine ga_iload_n 2 C dX2_know_91 rfl rfl ?_
    refine ga_bipush (v := nI 7) C dX2_know_92 (by decide) ?_
    refine gn_icmp_ge 145 C dX2_know_94 (by decide) (by omega) (by omega) (fun h7 => ?_) (fun h7 => ?_)
    · skip
      refine ga_iinc 1 C dX2_know_145 rfl (nI_inc _) (by decide) rfl ?_
      refine ga_goto 59 C dX2_know_148 (by decide) ?_
      refine ga_lv (lv9 := [(0, .ref (am 0)), (1, .int (nI (d + 1)))]) ⟨rfl, rfl, trivial⟩ ?_
      refine ih (d + 1) (by omega) (by omega) u wa2 le2 0 (fun r c h1 h2 => ?_)
      rw [hui r c (by omega) h2]
      by_cases q : r = d
      · rw [if_pos ⟨q, by omega⟩, q, Bool.and_eq_true, Bool.and_eq_true, hT d (by omega), hT c h2, Bool.not_eq_true']
        constructor
        · rintro ⟨z1, z2, z3⟩
          exact ⟨z2, fun y => by rw [(hu c h2).mpr y] at z3; cases z3⟩
        · intro z
          refine ⟨dmn_rch z, z.1, ?_⟩
          cases hq : bq wa2 0 c with
          | false => rfl
          | true => exact absurd ((hu c h2).mp hq) z.2
      · rw [if_neg (fun z => q z.1)]; exact hun r c (by omega) h2
    refine ga_tail (α := Int32) (H := fun v => ∀ c, c < 224 → c / 32 = k → (uI v).testBit (c % 32) = (bq me 0 d && (bq me 0 c && !bq wa2 0 c))) (w9 := fun _ => wM am cI cZ on ba 1 me u ra ne he de wa2 le2 n 0) (lv9 := fun _ => [(0, .ref (am 0)), (1, .int (nI d)), (2, .int (nI k))]) (pc9 := 138) (F := fun v => [.int v, .int (nI (7 * d + k)), .ref (am 4)]) ?_ (fun tail2 => ?_)
    · intro v hv
      refine gm_ast_un C (by omega) dX2_know_138 ?_
      refine ga_iinc 2 C dX2_know_139 rfl (nI_inc _) (by decide) rfl ?_
      refine ga_goto 91 C dX2_know_142 (by decide) ?_
      refine ga_lv (lv9 := [(0, .ref (am 0)), (1, .int (nI d)), (2, .int (nI (k + 1)))]) ⟨rfl, rfl, rfl, trivial⟩ ?_
      refine ih2 (k + 1) (by omega) (by omega) _ (fun r c h1 h2 => ?_)
      rw [bq_set (by omega) h2]
      by_cases q : r = d ∧ c / 32 = k
      · rw [if_pos q, if_pos (by omega), hv c h2 q.2]
      · rw [if_neg q, hui r c h1 h2]
        by_cases z : r = d ∧ c < 32 * k
        · rw [if_pos z, if_pos (by omega)]
        · rw [if_neg z, if_neg (by omega)]
    refine ga_aload_n 0 C dX2_know_97 rfl rfl ?_
    refine gm_get_un C in_X2_know (by decide +kernel) dX2_know_98 ?_
    refine ga_bipush (v := nI 7) C dX2_know_101 (by decide) ?_
    refine ga_iload_n 1 C dX2_know_103 rfl rfl ?_
    refine ga_imul C dX2_know_104 (pk_mul _ _) ?_
    refine ga_iload_n 2 C dX2_know_105 rfl rfl ?_
    refine ga_iadd C dX2_know_106 (nI_add _ _) ?_
    refine ga_aload_n 0 C dX2_know_107 rfl rfl ?_
    refine gm_get_me C in_X2_know (by decide +kernel) dX2_know_108 ?_
    refine ga_iconst (v := nI 0) C dX2_know_111 (by decide) ?_
    refine ga_iload_n 1 C dX2_know_112 rfl rfl ?_
    refine gm_isSet_me C (c_mset l G cI cJ cZ (am 3) 7 me 0 d (by decide) (by omega) (by omega) (by omega)) (va_cwS 3 C.1.2.2.2.2 gX2_know_X2_isSet rfl rfl rfl (by decide +kernel) ⟨Nat.le_of_ble_eq_true rfl, Nat.le_of_ble_eq_true rfl⟩) rfl rfl (Nat.le_of_ble_eq_true rfl) dX2_know_113 ⟨Nat.zero_le _, Nat.zero_le _⟩ (fun r hs => ?_)
    subst hs
    have hbl := btl (bq me 0 d)
    refine gn_if_eq 137 C dX2_know_116 (by decide) (by omega) (fun h6 => ?_) (fun h6 => ?_)
    · skip
      refine ga_iconst (v := nI 0) C dX2_know_137 (by decide) ?_
      refine ga_lk (tail2 (nI 0) (fun c h1 h2 => ?_)) ⟨rfl, rfl, rfl, trivial⟩
      have hz : bq me 0 d = false := by
        cases hq : bq me 0 d with
        | false => rfl
        | true => rw [hq] at h6; cases h6
      rw [hz]
      exact Nat.zero_testBit _
    · skip
      refine ga_aload_n 0 C dX2_know_119 rfl rfl ?_
      refine gm_get_me C in_X2_know (by decide +kernel) dX2_know_120 ?_
      refine ga_iload_n 2 C dX2_know_123 rfl rfl ?_
      refine gm_ald_me C (by omega) dX2_know_124 ?_
      refine ga_aload_n 0 C dX2_know_125 rfl rfl ?_
      refine gm_get_wa C in_X2_know (by decide +kernel) dX2_know_126 ?_
      refine ga_iload_n 2 C dX2_know_129 rfl rfl ?_
      refine gm_ald_wa C (by omega) dX2_know_130 ?_
      refine ga_iconst (v := -1) C dX2_know_131 (by decide) ?_
      refine ga_ixor C dX2_know_132 rfl ?_
      refine ga_iand C dX2_know_133 rfl ?_
      refine ga_goto 138 C dX2_know_134 (by decide) ?_
      refine ga_lk (tail2 _ (fun c h1 h2 => ?_)) ⟨rfl, rfl, rfl, trivial⟩
      have hz : bq me 0 d = true := by
        cases hq : bq me 0 d with
        | true => rfl
        | false => rw [hq] at h6; exact absurd rfl h6
      rw [uI_and, Nat.testBit_and, not_tb _ (Nat.mod_lt _ (by decide)), hz, Bool.true_and]
      unfold bq
      rw [Nat.zero_add, h2]
  refine ga_iload_n 1 C dX2_know_71 rfl rfl ?_
  refine gn_if_le 80 C dX2_know_72 (by decide) (by omega) (fun h7 => ?_) (fun h7 => ?_)
  · exact ga_lk (tail (wa, le, 0) (spI_cg (fun b => ⟨fun q => q.elim, fun q => absurd q.2 (by omega)⟩) (spI_0 hwa))) ⟨rfl, rfl, trivial⟩
  refine ga_aload_n 0 C dX2_know_75 rfl rfl ?_
  refine ga_iconst (v := nI 0) C dX2_know_76 (by decide) ?_
  refine gm_cg_v C (c_mstart l G cI cJ cZ am on ba 1 me un ra ne he de wa le n 0 0 (by omega) (by omega)) (cwV 1 C.1.2.2.2.2 gX2_know_X2_start rfl rfl rfl (by decide +kernel) ⟨Nat.le_of_ble_eq_true rfl, Nat.le_of_ble_eq_true rfl⟩) rfl rfl (Nat.le_of_ble_eq_true rfl) dX2_know_77 ⟨Nat.zero_le _, Nat.zero_le _⟩ (fun u0 hu0 => ?_)
  obtain ⟨-, hsp⟩ := spI_src (n := n) (Rl := E) (src := fun _ => False) (src2 := (fun b => b = 0 ∧ 0 < d)) (av := fun b => b = d) (le := le) (wt := 0) hn hg.1 hB (hwa 0 (by omega)) (fun b => ⟨fun q => Or.inr q.1, fun q => ⟨q.resolve_left (fun z => z), h7⟩⟩) (spI_0 hwa)
  exact ga_lk (tail (upd wa (0 / 32) (wa (0 / 32) ||| (nI 1 <<< (nI (0 % 32) &&& 31))), upN le 0 0, 0 + 1) hsp) ⟨rfl, rfl, trivial⟩
set_option maxHeartbeats 4000000 in
set_option maxRecDepth 100000 in
/-- size of the reference -/
theorem c_msize (l : Launch) (G : va_G) (cI cJ cZ : ClassId) (am : Nat → Nat) (on ba : Nat → Int32) (ik : Nat) (me un : Nat → Int32) (ra : Nat → Nat) (ne : Nat → Int32) (he de : Nat → Nat) (wa : Nat → Int32) (le : Nat → Nat) (n wt : Nat) (nn : Nat) (E : Nat → Nat → Bool) (x : Int32) (hI : mI nn E on ba ik me un ne he de n) : ctI l yX2_size wsX2_size { frames := 0, cells := 0, slots := 0, locals := 0 } G (ty3 cI cJ cZ) [.ref (am 0), .int x] (wM am cI cZ on ba ik me un ra ne he de wa le n wt) (fun r (u : MS) => szP nn E x r (fun k F => mIu k F u)) (wMu am cI cZ) := by
  refine metI (cc := cX2_size) (maxL := 3) (ret := (some .boolean)) (by decide) rfl (Nat.le_of_ble_eq_true rfl) ?_
  intro p e s m below meth c C hr hlk
  refine ga_lv (lv9 := [(0, .ref (am 0)), (1, .int x)]) ⟨rfl, rfl, trivial⟩ ?_
  refine ga_iload_n 1 C dX2_size_0 rfl rfl ?_
  refine ga_iconst (v := nI 1) C dX2_size_1 (by decide) ?_
  refine ga_icmp_lt 12 C dX2_size_2 (by decide) (fun h9 => ?_) (fun h9 => ?_)
  · skip
    refine ga_iconst (v := nI 0) C dX2_size_12 (by decide) ?_
    refine ga_iret C hr (nar_z (by omega)) hlk dX2_size_13 (on, ba, ik, me, un, ra, ne, he, de, wa, le, n, wt) (Or.inr ⟨fun k h1 h2 q => ?_, rfl, hI⟩) rfl
    rw [q] at h9
    exact nI_nlt h1 (by omega) h9
  refine ga_iload_n 1 C dX2_size_5 rfl rfl ?_
  refine ga_sipush (v := nI 200) C dX2_size_6 (by decide) ?_
  refine ga_icmp_le 14 C dX2_size_9 (by decide) (fun h8 => ?_) (fun h8 => ?_)
  rotate_left
  · skip
    refine ga_iconst (v := nI 0) C dX2_size_12 (by decide) ?_
    refine ga_iret C hr (nar_z (by omega)) hlk dX2_size_13 (on, ba, ik, me, un, ra, ne, he, de, wa, le, n, wt) (Or.inr ⟨fun k h1 h2 q => ?_, rfl, hI⟩) rfl
    rw [q] at h8
    exact h8 (nI_le h2 (by omega))
  obtain ⟨k, hk1, hk2, rfl⟩ := i32_sz h9 h8
  refine ga_aload_n 0 C dX2_size_14 rfl rfl ?_
  refine ga_iload_n 1 C dX2_size_15 rfl rfl ?_
  refine gm_put_n C in_X2_size (by decide +kernel) dX2_size_16 ?_
  refine ga_iconst (v := nI 0) C dX2_size_19 (by decide) ?_
  refine ga_istore_n 2 C dX2_size_20 rfl (by decide) rfl ?_
  refine ga_lv (lv9 := [(0, .ref (am 0)), (1, .int (nI k)), (2, .int (nI 0))]) ⟨rfl, rfl, rfl, trivial⟩ ?_
  refine up_ind 1400 (P := fun i => ∀ on ba : Nat → Int32, (∀ j, j < i → on j = nI 0 ∧ ba j = nI 0) → gG p l e _ s m _ below meth c G _ _ 0 0 _ (wM am cI cZ on ba ik me un ra ne he de wa le k wt) [(0, .ref (am 0)), (1, .int (nI k)), (2, .int (nI i))] 21 []) ?_ 0 (by omega) on ba (fun j q => by omega)
  intro i hi ih on ba hz
  refine ga_iload_n 2 C dX2_size_21 rfl rfl ?_
  refine ga_sipush (v := nI 1400) C dX2_size_22 (by decide) ?_
  refine gn_icmp_ge 48 C dX2_size_25 (by decide) (by omega) (by omega) (fun h7 => ?_) (fun h7 => ?_)
  · have hzz : ∀ a b, a < 200 → b < 224 → bq on (7 * a) b = false ∧ bq ba (7 * a) b = false := fun a b h1 h2 => by
      unfold bq
      rw [(hz (7 * a + b / 32) (by omega)).1, (hz (7 * a + b / 32) (by omega)).2]
      exact ⟨Nat.zero_testBit _, Nat.zero_testBit _⟩
    refine ga_aload_n 0 C dX2_size_48 rfl rfl ?_
    refine ga_iconst (v := nI 0) C dX2_size_49 (by decide) ?_
    refine gm_put_ik C in_X2_size (by decide +kernel) (by omega) dX2_size_50 ?_
    refine ga_iconst (v := nI 1) C dX2_size_53 (by decide) ?_
    refine ga_iret C hr (nar_z (by omega)) hlk dX2_size_54 (on, ba, 0, me, un, ra, ne, he, de, wa, le, k, wt) (Or.inl ⟨k, hk1, hk2, rfl, rfl, ?_⟩) rfl
    exact mI_0 ⟨⟨hk1, hk2, fun a b q => by cases q⟩, fun a b h1 h2 => (hzz a b h1 h2).1, fun a b h1 h2 => (hzz a b h1 h2).2⟩
  · skip
    refine ga_aload_n 0 C dX2_size_28 rfl rfl ?_
    refine gm_get_on C in_X2_size (by decide +kernel) dX2_size_29 ?_
    refine ga_iload_n 2 C dX2_size_32 rfl rfl ?_
    refine ga_iconst (v := nI 0) C dX2_size_33 (by decide) ?_
    refine gm_ast_on C (by omega) dX2_size_34 ?_
    refine ga_aload_n 0 C dX2_size_35 rfl rfl ?_
    refine gm_get_ba C in_X2_size (by decide +kernel) dX2_size_36 ?_
    refine ga_iload_n 2 C dX2_size_39 rfl rfl ?_
    refine ga_iconst (v := nI 0) C dX2_size_40 (by decide) ?_
    refine gm_ast_ba C (by omega) dX2_size_41 ?_
    refine ga_iinc 2 C dX2_size_42 rfl (nI_inc _) (by decide) rfl ?_
    refine ga_goto 21 C dX2_size_45 (by decide) ?_
    refine ga_lv (lv9 := [(0, .ref (am 0)), (1, .int (nI k)), (2, .int (nI (i + 1)))]) ⟨rfl, rfl, rfl, trivial⟩ ?_
    refine ih (i + 1) (by omega) (by omega) _ _ (fun j hj => ?_)
    by_cases q : j = i
    · rw [q, pk_us, pk_us]; exact ⟨rfl, rfl⟩
    · rw [pk_un q, pk_un q]; exact hz j (by omega)
set_option maxHeartbeats 4000000 in
set_option maxRecDepth 100000 in
/-- has of the reference -/
theorem c_mhas (l : Launch) (G : va_G) (cI cJ cZ : ClassId) (am : Nat → Nat) (on ba : Nat → Int32) (ik : Nat) (me un : Nat → Int32) (ra : Nat → Nat) (ne : Nat → Int32) (he de : Nat → Nat) (wa : Nat → Int32) (le : Nat → Nat) (n wt : Nat) (nn : Nat) (E : Nat → Nat → Bool) (x y : Int32) (hI : mI nn E on ba ik me un ne he de n) : ctI l yX2_has wsX2_has { frames := 1, cells := 0, slots := 0, locals := 22 } G (ty3 cI cJ cZ) [.ref (am 0), .int x, .int y] (wM am cI cZ on ba ik me un ra ne he de wa le n wt) (fun r (_ : Unit) => yn (∃ a b, isB nn x a ∧ isB nn y b ∧ E a b = true) r) (fun _ => wM am cI cZ on ba ik me un ra ne he de wa le n wt) := by
  refine metI (cc := cX2_has) (maxL := 3) (ret := (some .boolean)) (by decide) rfl (Nat.le_of_ble_eq_true rfl) ?_
  intro p e s m below meth c C hr hlk
  refine ga_lv (lv9 := [(0, .ref (am 0)), (1, .int x), (2, .int y)]) ⟨rfl, rfl, rfl, trivial⟩ ?_
  obtain ⟨hE, rfl, hik, hK⟩ := id hI
  have hg := hE.1
  have hn := hg.2.1
  refine ga_aload_n 0 C dX2_has_0 rfl rfl ?_
  refine ga_iload_n 1 C dX2_has_1 rfl rfl ?_
  refine gm_call_r C (c_mB l G cI cJ cZ am on ba ik me un ra ne he de wa le n wt x hn) (cwV 1 C.1.2.2.2.2 gX2_has_X2_isBlock rfl rfl rfl (by decide +kernel) ⟨Nat.le_of_ble_eq_true rfl, Nat.le_of_ble_eq_true rfl⟩) rfl rfl (Nat.le_of_ble_eq_true rfl) dX2_has_2 ⟨Nat.zero_le _, Nat.zero_le _⟩ (fun r hx => ?_)
  rcases hx with ⟨⟨a, ha, rfl⟩, rfl⟩ | ⟨hno, rfl⟩
  rotate_left
  · skip
    refine gn_if_eq 35 C dX2_has_5 (by decide) (by omega) (fun h9 => ?_) (fun h9 => absurd rfl h9)
    refine ga_iconst (v := nI 0) C dX2_has_35 (by decide) ?_
    refine ga_iret C hr (nar_z (by omega)) hlk dX2_has_36 () (Or.inr ⟨?_, rfl⟩) rfl
    exact fun ⟨a, b, q, _⟩ => hno ⟨a, q⟩
  refine gn_if_eq 35 C dX2_has_5 (by decide) (by omega) (fun h9 => absurd h9 (by omega)) (fun h9 => ?_)
  refine ga_aload_n 0 C dX2_has_8 rfl rfl ?_
  refine ga_iload_n 2 C dX2_has_9 rfl rfl ?_
  refine gm_call_r C (c_mB l G cI cJ cZ am on ba ik me un ra ne he de wa le n wt y hn) (cwV 1 C.1.2.2.2.2 gX2_has_X2_isBlock rfl rfl rfl (by decide +kernel) ⟨Nat.le_of_ble_eq_true rfl, Nat.le_of_ble_eq_true rfl⟩) rfl rfl (Nat.le_of_ble_eq_true rfl) dX2_has_10 ⟨Nat.zero_le _, Nat.zero_le _⟩ (fun r hy => ?_)
  rcases hy with ⟨⟨b, hb, rfl⟩, rfl⟩ | ⟨hno, rfl⟩
  rotate_left
  · skip
    refine gn_if_eq 35 C dX2_has_13 (by decide) (by omega) (fun h9 => ?_) (fun h9 => absurd rfl h9)
    refine ga_iconst (v := nI 0) C dX2_has_35 (by decide) ?_
    refine ga_iret C hr (nar_z (by omega)) hlk dX2_has_36 () (Or.inr ⟨?_, rfl⟩) rfl
    exact fun ⟨a, b, _, q, _⟩ => hno ⟨b, q⟩
  refine gn_if_eq 35 C dX2_has_13 (by decide) (by omega) (fun h9 => absurd h9 (by omega)) (fun h9 => ?_)
  refine ga_aload_n 0 C dX2_has_16 rfl rfl ?_
  refine gm_get_on C in_X2_has (by decide +kernel) dX2_has_17 ?_
  refine ga_bipush (v := nI 7) C dX2_has_20 (by decide) ?_
  refine ga_iload_n 1 C dX2_has_22 rfl rfl ?_
  refine ga_imul C dX2_has_23 (pk_mul _ _) ?_
  refine ga_iload_n 2 C dX2_has_24 rfl rfl ?_
  refine gm_isSet_on C (c_mset l G cI cJ cZ (am 1) 1400 on (7 * a) b (by decide) (by omega) (by omega) (by omega)) (va_cwS 3 C.1.2.2.2.2 gX2_has_X2_isSet rfl rfl rfl (by decide +kernel) ⟨Nat.le_of_ble_eq_true rfl, Nat.le_of_ble_eq_true rfl⟩) rfl rfl (Nat.le_of_ble_eq_true rfl) dX2_has_25 ⟨Nat.zero_le _, Nat.zero_le _⟩ (fun r hs => ?_)
  subst hs
  have hbl := btl (bq on (7 * a) b)
  have hTe := hE.2.1 a b (by omega) (by omega)
  refine gn_if_eq 35 C dX2_has_28 (by decide) (by omega) (fun h9 => ?_) (fun h9 => ?_)
  · skip
    refine ga_iconst (v := nI 0) C dX2_has_35 (by decide) ?_
    refine ga_iret C hr (nar_z (by omega)) hlk dX2_has_36 () (Or.inr ⟨?_, rfl⟩) rfl
    rintro ⟨a2, b2, q1, q2, q3⟩
    obtain rfl := isB_un hn q1 ⟨ha, rfl⟩
    obtain rfl := isB_un hn q2 ⟨hb, rfl⟩
    rw [← hTe] at q3
    rw [q3] at h9
    cases h9
  · skip
    refine ga_iconst (v := nI 1) C dX2_has_31 (by decide) ?_
    refine ga_goto 36 C dX2_has_32 (by decide) ?_
    refine ga_iret C hr (nar_z (by omega)) hlk dX2_has_36 () (Or.inl ⟨⟨a, b, ⟨ha, rfl⟩, ⟨hb, rfl⟩, ?_⟩, rfl⟩) rfl
    rw [← hTe]
    cases hq : bq on (7 * a) b with
    | true => rfl
    | false => rw [hq] at h9; exact absurd rfl h9
set_option maxHeartbeats 4000000 in
set_option maxRecDepth 100000 in
/-- edge of the reference -/
theorem c_medge (l : Launch) (G : va_G) (cI cJ cZ : ClassId) (am : Nat → Nat) (on ba : Nat → Int32) (ik : Nat) (me un : Nat → Int32) (ra : Nat → Nat) (ne : Nat → Int32) (he de : Nat → Nat) (wa : Nat → Int32) (le : Nat → Nat) (n wt : Nat) (nn : Nat) (E : Nat → Nat → Bool) (x y : Int32) (i : Nat) (hi : i < 2) (hI : mI nn E on ba ik me un ne he de n) : ctI l yX2_edge wsX2_edge { frames := 2, cells := 0, slots := 0, locals := 44 } G (ty3 cI cJ cZ) [.ref (am 0), .int x, .int y, .int (nI i)] (wM am cI cZ on ba ik me un ra ne he de wa le n wt) (fun r (u : MS) => egP nn E x y i r (fun F => mIu nn F u)) (wMu am cI cZ) := by
  refine metI (cc := cX2_edge) (maxL := 4) (ret := (some .boolean)) (by decide) rfl (Nat.le_of_ble_eq_true rfl) ?_
  intro p e s m below meth c C hr hlk
  refine ga_lv (lv9 := [(0, .ref (am 0)), (1, .int x), (2, .int y), (3, .int (nI i))]) ⟨rfl, rfl, rfl, rfl, trivial⟩ ?_
  obtain ⟨hE, rfl, hik, hK⟩ := id hI
  have hg := hE.1
  have hn := hg.2.1
  refine ga_aload_n 0 C dX2_edge_0 rfl rfl ?_
  refine ga_iload_n 1 C dX2_edge_1 rfl rfl ?_
  refine gm_call_r C (c_mB l G cI cJ cZ am on ba ik me un ra ne he de wa le n wt x hn) (cwV 1 C.1.2.2.2.2 gX2_edge_X2_isBlock rfl rfl rfl (by decide +kernel) ⟨Nat.le_of_ble_eq_true rfl, Nat.le_of_ble_eq_true rfl⟩) rfl rfl (Nat.le_of_ble_eq_true rfl) dX2_edge_2 ⟨Nat.zero_le _, Nat.zero_le _⟩ (fun r hx => ?_)
  rcases hx with ⟨⟨a, ha, rfl⟩, rfl⟩ | ⟨hno, rfl⟩
  rotate_left
  · skip
    refine gn_if_eq 26 C dX2_edge_5 (by decide) (by omega) (fun h9 => ?_) (fun h9 => absurd rfl h9)
    refine ga_iconst (v := nI 0) C dX2_edge_26 (by decide) ?_
    refine ga_iret C hr (nar_z (by omega)) hlk dX2_edge_27 (on, ba, ik, me, un, ra, ne, he, de, wa, le, n, wt) (Or.inr ⟨?_, rfl, hI⟩) rfl
    exact fun a b q => hno ⟨a, q.1⟩
  refine gn_if_eq 26 C dX2_edge_5 (by decide) (by omega) (fun h9 => absurd h9 (by omega)) (fun h9 => ?_)
  refine ga_aload_n 0 C dX2_edge_8 rfl rfl ?_
  refine ga_iload_n 2 C dX2_edge_9 rfl rfl ?_
  refine gm_call_r C (c_mB l G cI cJ cZ am on ba ik me un ra ne he de wa le n wt y hn) (cwV 1 C.1.2.2.2.2 gX2_edge_X2_isBlock rfl rfl rfl (by decide +kernel) ⟨Nat.le_of_ble_eq_true rfl, Nat.le_of_ble_eq_true rfl⟩) rfl rfl (Nat.le_of_ble_eq_true rfl) dX2_edge_10 ⟨Nat.zero_le _, Nat.zero_le _⟩ (fun r hy => ?_)
  rcases hy with ⟨⟨b, hb, rfl⟩, rfl⟩ | ⟨hno, rfl⟩
  rotate_left
  · skip
    refine gn_if_eq 26 C dX2_edge_13 (by decide) (by omega) (fun h9 => ?_) (fun h9 => absurd rfl h9)
    refine ga_iconst (v := nI 0) C dX2_edge_26 (by decide) ?_
    refine ga_iret C hr (nar_z (by omega)) hlk dX2_edge_27 (on, ba, ik, me, un, ra, ne, he, de, wa, le, n, wt) (Or.inr ⟨?_, rfl, hI⟩) rfl
    exact fun a b q => hno ⟨b, q.2.1⟩
  refine gn_if_eq 26 C dX2_edge_13 (by decide) (by omega) (fun h9 => absurd h9 (by omega)) (fun h9 => ?_)
  refine ga_aload_n 0 C dX2_edge_16 rfl rfl ?_
  refine ga_iload_n 1 C dX2_edge_17 rfl rfl ?_
  refine ga_iload_n 2 C dX2_edge_18 rfl rfl ?_
  refine gm_call_r C (c_mhas l G cI cJ cZ am on ba ik me un ra ne he de wa le n wt n E (nI a) (nI b) hI) (cwV 2 C.1.2.2.2.2 gX2_edge_X2_has rfl rfl rfl (by decide +kernel) ⟨Nat.le_of_ble_eq_true rfl, Nat.le_of_ble_eq_true rfl⟩) rfl rfl (Nat.le_of_ble_eq_true rfl) dX2_edge_19 ⟨Nat.zero_le _, Nat.zero_le _⟩ (fun r hh => ?_)
  have hr2 : r = nI (E a b).toNat := by
    rcases hh with ⟨⟨a2, b2, q1, q2, q3⟩, e1⟩ | ⟨q, e1⟩
    · obtain rfl := isB_un hn q1 ⟨ha, rfl⟩
      obtain rfl := isB_un hn q2 ⟨hb, rfl⟩
      rw [e1, q3]; rfl
    · cases hq : E a b with
      | true => exact absurd ⟨a, b, ⟨ha, rfl⟩, ⟨hb, rfl⟩, hq⟩ q
      | false => rw [e1]; rfl
  subst hr2
  have hbl := btl (E a b)
  have hTe := hE.2.1 a b (by omega) (by omega)
  refine ga_iload_n 3 C dX2_edge_22 rfl rfl ?_
  refine gn_icmp_ne 28 C dX2_edge_23 (by decide) (by omega) (by omega) (fun h9 => ?_) (fun h9 => ?_)
  · skip
    refine ga_aload_n 0 C dX2_edge_28 rfl rfl ?_
    refine gm_get_on C in_X2_edge (by decide +kernel) dX2_edge_29 ?_
    refine ga_bipush (v := nI 7) C dX2_edge_32 (by decide) ?_
    refine ga_iload_n 1 C dX2_edge_34 rfl rfl ?_
    refine ga_imul C dX2_edge_35 (pk_mul _ _) ?_
    refine ga_iload_n 2 C dX2_edge_36 rfl rfl ?_
    refine gm_turn_on C (c_mturn l G cI cJ cZ (am 1) 1400 on (7 * a) b (by decide) (by omega) (by omega) (by omega)) (va_cwS 3 C.1.2.2.2.2 gX2_edge_X2_turn rfl rfl rfl (by decide +kernel) ⟨Nat.le_of_ble_eq_true rfl, Nat.le_of_ble_eq_true rfl⟩) rfl rfl (Nat.le_of_ble_eq_true rfl) dX2_edge_37 ⟨Nat.zero_le _, Nat.zero_le _⟩ (fun on2 h2 => ?_)
    refine ga_aload_n 0 C dX2_edge_40 rfl rfl ?_
    refine gm_get_ba C in_X2_edge (by decide +kernel) dX2_edge_41 ?_
    refine ga_bipush (v := nI 7) C dX2_edge_44 (by decide) ?_
    refine ga_iload_n 2 C dX2_edge_46 rfl rfl ?_
    refine ga_imul C dX2_edge_47 (pk_mul _ _) ?_
    refine ga_iload_n 1 C dX2_edge_48 rfl rfl ?_
    refine gm_turn_ba C (c_mturn l G cI cJ cZ (am 2) 1400 ba (7 * b) a (by decide) (by omega) (by omega) (by omega)) (va_cwS 3 C.1.2.2.2.2 gX2_edge_X2_turn rfl rfl rfl (by decide +kernel) ⟨Nat.le_of_ble_eq_true rfl, Nat.le_of_ble_eq_true rfl⟩) rfl rfl (Nat.le_of_ble_eq_true rfl) dX2_edge_49 ⟨Nat.zero_le _, Nat.zero_le _⟩ (fun ba2 h3 => ?_)
    refine ga_aload_n 0 C dX2_edge_52 rfl rfl ?_
    refine ga_iconst (v := nI 0) C dX2_edge_53 (by decide) ?_
    refine gm_put_ik C in_X2_edge (by decide +kernel) (by omega) dX2_edge_54 ?_
    refine ga_iconst (v := nI 1) C dX2_edge_57 (by decide) ?_
    obtain ⟨B1, hB1, e1⟩ := h2
    obtain ⟨B2, hB2, e2⟩ := h3
    have hne : (!E a b) = decide (i = 1) := by
      have := mt (bto (E a b) hi).mpr h9
      cases hq : E a b <;> rw [hq] at this <;> cases hd : decide (i = 1) <;> rw [hd] at this <;> first | rfl | exact absurd rfl this
    have hSe := hE.2.2 b a (by omega) (by omega)
    refine ga_iret C hr (nar_z (by omega)) hlk dX2_edge_58 (on2, ba2, 0, me, un, ra, ne, he, de, wa, le, n, wt) (Or.inl ⟨a, b, ⟨⟨ha, rfl⟩, ⟨hb, rfl⟩, fun q => h9 ((bto _ hi).mpr q)⟩, rfl, mI_0 ⟨gOk_up hg ha hb, fun r c h1 h2 => ?_, fun r c h1 h2 => ?_⟩⟩) rfl
    · show bq on2 (7 * r) c = _
      rw [e1, bq_x hB1 (by omega) h2, hTe, hne, hE.2.1 r c h1 h2]
      rfl
    · show bq ba2 (7 * r) c = _
      rw [e2, bq_x hB2 (by omega) h2, hSe, hne, hE.2.2 r c h1 h2]
      unfold upE
      by_cases q : r = b ∧ c = a
      · rw [if_pos q, if_pos ⟨q.2, q.1⟩]
      · rw [if_neg q, if_neg (fun z => q ⟨z.2, z.1⟩)]
  · skip
    refine ga_iconst (v := nI 0) C dX2_edge_26 (by decide) ?_
    refine ga_iret C hr (nar_z (by omega)) hlk dX2_edge_27 (on, ba, ik, me, un, ra, ne, he, de, wa, le, n, wt) (Or.inr ⟨?_, rfl, hI⟩) rfl
    rintro a2 b2 ⟨q1, q2, q3⟩
    obtain rfl := isB_un hn q1 ⟨ha, rfl⟩
    obtain rfl := isB_un hn q2 ⟨hb, rfl⟩
    exact q3 ((bto _ hi).mp h9)

set_option maxHeartbeats 4000000 in
set_option maxRecDepth 100000 in
/-- reached of the reference -/
theorem c_mreached (l : Launch) (G : va_G) (cI cJ cZ : ClassId) (am : Nat → Nat) (on ba : Nat → Int32) (ik : Nat) (me un : Nat → Int32) (ra : Nat → Nat) (ne : Nat → Int32) (he de : Nat → Nat) (wa : Nat → Int32) (le : Nat → Nat) (n wt : Nat) (nn : Nat) (E : Nat → Nat → Bool) (x : Int32) (hI : mI nn E on ba ik me un ne he de n) : ctI l yX2_reached wsX2_reached { frames := 4, cells := 0, slots := 0, locals := 91 } G (ty3 cI cJ cZ) [.ref (am 0), .int x] (wM am cI cZ on ba ik me un ra ne he de wa le n wt) (fun r (u : MS) => yn (∃ b, isB nn x b ∧ rch E b) r ∧ mIu nn E u) (wMu am cI cZ) := by
  refine metI (cc := cX2_reached) (maxL := 2) (ret := (some .boolean)) (by decide) rfl (Nat.le_of_ble_eq_true rfl) ?_
  intro p e s m below meth c C hr hlk
  refine ga_lv (lv9 := [(0, .ref (am 0)), (1, .int x)]) ⟨rfl, rfl, trivial⟩ ?_
  obtain ⟨hE, rfl, hik, hK⟩ := id hI
  have hg := hE.1
  have hn := hg.2.1
  refine ga_aload_n 0 C dX2_reached_0 rfl rfl ?_
  refine gm_call_v C (c_mknow l G cI cJ cZ am on ba ik me un ra ne he de wa le n wt n E hI) (cwV 0 C.1.2.2.2.2 gX2_reached_X2_know rfl rfl rfl (by decide +kernel) ⟨Nat.le_of_ble_eq_true rfl, Nat.le_of_ble_eq_true rfl⟩) rfl rfl (Nat.le_of_ble_eq_true rfl) dX2_reached_1 ⟨Nat.zero_le _, Nat.zero_le _⟩ (fun on ba ik me un ra ne he de wa le n2 wt hI2 => ?_)
  have hI3 : mI n E on ba ik me un ne he de n2 := hI2.1
  have hk1 : ik = 1 := hI2.2
  clear hI hE hK hg hI2
  obtain ⟨hE, rfl, hik, hK⟩ := id hI3
  have hg := hE.1
  obtain ⟨hT, hU, hN, hH, hP⟩ := hK hk1
  refine ga_aload_n 0 C dX2_reached_4 rfl rfl ?_
  refine ga_iload_n 1 C dX2_reached_5 rfl rfl ?_
  refine gm_call_r C (c_mB l G cI cJ cZ am on ba ik me un ra ne he de wa le n2 wt x hn) (cwV 1 C.1.2.2.2.2 gX2_reached_X2_isBlock rfl rfl rfl (by decide +kernel) ⟨Nat.le_of_ble_eq_true rfl, Nat.le_of_ble_eq_true rfl⟩) rfl rfl (Nat.le_of_ble_eq_true rfl) dX2_reached_6 ⟨Nat.zero_le _, Nat.zero_le _⟩ (fun r hx => ?_)
  rcases hx with ⟨⟨a, ha, rfl⟩, rfl⟩ | ⟨hno, rfl⟩
  rotate_left
  · skip
    refine gn_if_eq 28 C dX2_reached_9 (by decide) (by omega) (fun h9 => ?_) (fun h9 => absurd rfl h9)
    refine ga_iconst (v := nI 0) C dX2_reached_28 (by decide) ?_
    exact ga_iret C hr (nar_z (by omega)) hlk dX2_reached_29 (on, ba, ik, me, un, ra, ne, he, de, wa, le, n2, wt) ⟨Or.inr ⟨fun ⟨b, q, _⟩ => hno ⟨b, q⟩, rfl⟩, hI3⟩ rfl
  refine gn_if_eq 28 C dX2_reached_9 (by decide) (by omega) (fun h9 => absurd h9 (by omega)) (fun h9 => ?_)
  refine ga_aload_n 0 C dX2_reached_12 rfl rfl ?_
  refine gm_get_me C in_X2_reached (by decide +kernel) dX2_reached_13 ?_
  refine ga_iconst (v := nI 0) C dX2_reached_16 (by decide) ?_
  refine ga_iload_n 1 C dX2_reached_17 rfl rfl ?_
  refine gm_isSet_me C (c_mset l G cI cJ cZ (am 3) 7 me 0 a (by decide) (by omega) (by omega) (by omega)) (va_cwS 3 C.1.2.2.2.2 gX2_reached_X2_isSet rfl rfl rfl (by decide +kernel) ⟨Nat.le_of_ble_eq_true rfl, Nat.le_of_ble_eq_true rfl⟩) rfl rfl (Nat.le_of_ble_eq_true rfl) dX2_reached_18 ⟨Nat.zero_le _, Nat.zero_le _⟩ (fun r hs => ?_)
  subst hs
  have hbl := btl (bq me 0 a)
  have hTa := hT a (by omega)
  refine gn_if_eq 28 C dX2_reached_21 (by decide) (by omega) (fun h8 => ?_) (fun h8 => ?_)
  · skip
    refine ga_iconst (v := nI 0) C dX2_reached_28 (by decide) ?_
    refine ga_iret C hr (nar_z (by omega)) hlk dX2_reached_29 (on, ba, ik, me, un, ra, ne, he, de, wa, le, n2, wt) ⟨Or.inr ⟨?_, rfl⟩, hI3⟩ rfl
    rintro ⟨b, q1, q2⟩
    obtain rfl := isB_un hn q1 ⟨ha, rfl⟩
    rw [hTa.mpr q2] at h8
    cases h8
  · skip
    refine ga_iconst (v := nI 1) C dX2_reached_24 (by decide) ?_
    refine ga_goto 29 C dX2_reached_25 (by decide) ?_
    refine ga_iret C hr (nar_z (by omega)) hlk dX2_reached_29 (on, ba, ik, me, un, ra, ne, he, de, wa, le, n2, wt) ⟨Or.inl ⟨⟨a, ⟨ha, rfl⟩, hTa.mp ?_⟩, rfl⟩, hI3⟩ rfl
    cases hq : bq me 0 a with
    | true => rfl
    | false => rw [hq] at h8; exact absurd rfl h8
set_option maxHeartbeats 4000000 in
set_option maxRecDepth 100000 in
/-- reachedOnes of the reference -/
theorem c_mones (l : Launch) (G : va_G) (cI cJ cZ : ClassId) (am : Nat → Nat) (on ba : Nat → Int32) (ik : Nat) (me un : Nat → Int32) (ra : Nat → Nat) (ne : Nat → Int32) (he de : Nat → Nat) (wa : Nat → Int32) (le : Nat → Nat) (n wt : Nat) (nn : Nat) (E : Nat → Nat → Bool) (hI : mI nn E on ba ik me un ne he de n) : ctI l yX2_reachedOnes wsX2_reachedOnes { frames := 5, cells := 0, slots := 0, locals := 112 } G (ty3 cI cJ cZ) [.ref (am 0)] (wM am cI cZ on ba ik me un ra ne he de wa le n wt) (fun r (u : MS) => r = nI (cnP (rch E) nn) ∧ mIu nn E u) (wMu am cI cZ) := by
  refine metI (cc := cX2_reachedOnes) (maxL := 3) (ret := (some .int)) (by decide) rfl (Nat.le_of_ble_eq_true rfl) ?_
  intro p e s m below meth c C hr hlk
  refine ga_lv (lv9 := [(0, .ref (am 0))]) ⟨rfl, trivial⟩ ?_
  obtain ⟨hE, rfl, hik, hK⟩ := id hI
  have hg := hE.1
  have hn := hg.2.1
  refine ga_iconst (v := nI 0) C dX2_reachedOnes_0 (by decide) ?_
  refine ga_istore_n 1 C dX2_reachedOnes_1 rfl (by decide) rfl ?_
  refine ga_iconst (v := nI 0) C dX2_reachedOnes_2 (by decide) ?_
  refine ga_istore_n 2 C dX2_reachedOnes_3 rfl (by decide) rfl ?_
  refine ga_lv (lv9 := [(0, .ref (am 0)), (1, .int (nI (cnP (rch E) 0))), (2, .int (nI 0))]) ⟨rfl, rfl, rfl, trivial⟩ ?_
  refine up_ind n (P := fun b => ∀ (on ba : Nat → Int32) (ik : Nat) (me un : Nat → Int32) (ra : Nat → Nat) (ne : Nat → Int32) (he de : Nat → Nat) (wa : Nat → Int32) (le : Nat → Nat) (wt : Nat), mI n E on ba ik me un ne he de n → gG p l e _ s m _ below meth c G _ _ 0 0 _ (wM am cI cZ on ba ik me un ra ne he de wa le n wt) [(0, .ref (am 0)), (1, .int (nI (cnP (rch E) b))), (2, .int (nI b))] 4 []) ?_ 0 (by omega) on ba ik me un ra ne he de wa le wt hI
  clear hI hE hK hg hik
  intro b hb ih on ba ik me un ra ne he de wa le wt hI
  have hcb := cnP_le (P := rch E) b
  refine ga_iload_n 2 C dX2_reachedOnes_4 rfl rfl ?_
  refine ga_aload_n 0 C dX2_reachedOnes_5 rfl rfl ?_
  refine gm_get_n C in_X2_reachedOnes (by decide +kernel) dX2_reachedOnes_6 ?_
  refine gn_icmp_ge 29 C dX2_reachedOnes_9 (by decide) (by omega) (by omega) (fun h9 => ?_) (fun h9 => ?_)
  · obtain rfl : b = n := by omega
    refine ga_iload_n 1 C dX2_reachedOnes_29 rfl rfl ?_
    exact ga_iret C hr rfl hlk dX2_reachedOnes_30 (on, ba, ik, me, un, ra, ne, he, de, wa, le, b, wt) ⟨rfl, hI⟩ rfl
  refine ga_aload_n 0 C dX2_reachedOnes_12 rfl rfl ?_
  refine ga_iload_n 2 C dX2_reachedOnes_13 rfl rfl ?_
  refine gm_call_i C (c_mreached l G cI cJ cZ am on ba ik me un ra ne he de wa le n wt n E (nI b) hI) (cwV 1 C.1.2.2.2.2 gX2_reachedOnes_X2_reached rfl rfl rfl (by decide +kernel) ⟨Nat.le_of_ble_eq_true rfl, Nat.le_of_ble_eq_true rfl⟩) rfl rfl (Nat.le_of_ble_eq_true rfl) dX2_reachedOnes_14 ⟨Nat.zero_le _, Nat.zero_le _⟩ (fun r on ba ik me un ra ne he de wa le n2 wt hq => ?_)
  have hI3 : mI n E on ba ik me un ne he de n2 := hq.2
  have hq := hq.1
  obtain rfl : n2 = n := hI3.2.1
  rcases hq with ⟨⟨a, ⟨qa, qe⟩, q⟩, rfl⟩ | ⟨q, rfl⟩
  · obtain rfl : b = a := (nI_eq (by omega) (by omega)).mp qe
    refine gn_if_eq 23 C dX2_reachedOnes_17 (by decide) (by omega) (fun h8 => absurd h8 (by omega)) (fun h8 => ?_)
    refine ga_iinc 1 C dX2_reachedOnes_20 rfl (nI_inc _) (by decide) rfl ?_
    refine ga_iinc 2 C dX2_reachedOnes_23 rfl (nI_inc _) (by decide) rfl ?_
    refine ga_goto 4 C dX2_reachedOnes_26 (by decide) ?_
    refine ga_lv (lv9 := [(0, .ref (am 0)), (1, .int (nI (cnP (rch E) (b + 1)))), (2, .int (nI (b + 1)))]) ⟨rfl, by rw [cnP_t q]; rfl, rfl, trivial⟩ ?_
    exact ih (b + 1) (by omega) (by omega) _ _ _ _ _ _ _ _ _ _ _ _ hI3
  · have q2 : ¬ rch E b := fun z => q ⟨b, ⟨by omega, rfl⟩, z⟩
    refine gn_if_eq 23 C dX2_reachedOnes_17 (by decide) (by omega) (fun h8 => ?_) (fun h8 => absurd rfl h8)
    refine ga_iinc 2 C dX2_reachedOnes_23 rfl (nI_inc _) (by decide) rfl ?_
    refine ga_goto 4 C dX2_reachedOnes_26 (by decide) ?_
    refine ga_lv (lv9 := [(0, .ref (am 0)), (1, .int (nI (cnP (rch E) (b + 1)))), (2, .int (nI (b + 1)))]) ⟨rfl, by rw [cnP_f q2]; rfl, rfl, trivial⟩ ?_
    exact ih (b + 1) (by omega) (by omega) _ _ _ _ _ _ _ _ _ _ _ _ hI3
set_option maxHeartbeats 4000000 in
set_option maxRecDepth 100000 in
/-- dominator of the reference -/
theorem c_mdominator (l : Launch) (G : va_G) (cI cJ cZ : ClassId) (am : Nat → Nat) (on ba : Nat → Int32) (ik : Nat) (me un : Nat → Int32) (ra : Nat → Nat) (ne : Nat → Int32) (he de : Nat → Nat) (wa : Nat → Int32) (le : Nat → Nat) (n wt : Nat) (nn : Nat) (E : Nat → Nat → Bool) (x : Int32) (hI : mI nn E on ba ik me un ne he de n) : ctI l yX2_dominator wsX2_dominator { frames := 4, cells := 0, slots := 0, locals := 91 } G (ty3 cI cJ cZ) [.ref (am 0), .int x] (wM am cI cZ on ba ik me un ra ne he de wa le n wt) (fun r (u : MS) => idP nn E x r ∧ mIu nn E u) (wMu am cI cZ) := by
  refine metI (cc := cX2_dominator) (maxL := 2) (ret := (some .int)) (by decide) rfl (Nat.le_of_ble_eq_true rfl) ?_
  intro p e s m below meth c C hr hlk
  refine ga_lv (lv9 := [(0, .ref (am 0)), (1, .int x)]) ⟨rfl, rfl, trivial⟩ ?_
  obtain ⟨hE, rfl, hik, hK⟩ := id hI
  have hg := hE.1
  have hn := hg.2.1
  refine ga_aload_n 0 C dX2_dominator_0 rfl rfl ?_
  refine gm_call_v C (c_mknow l G cI cJ cZ am on ba ik me un ra ne he de wa le n wt n E hI) (cwV 0 C.1.2.2.2.2 gX2_dominator_X2_know rfl rfl rfl (by decide +kernel) ⟨Nat.le_of_ble_eq_true rfl, Nat.le_of_ble_eq_true rfl⟩) rfl rfl (Nat.le_of_ble_eq_true rfl) dX2_dominator_1 ⟨Nat.zero_le _, Nat.zero_le _⟩ (fun on ba ik me un ra ne he de wa le n2 wt hI2 => ?_)
  have hI3 : mI n E on ba ik me un ne he de n2 := hI2.1
  have hk1 : ik = 1 := hI2.2
  clear hI hE hK hg hI2
  obtain ⟨hE, rfl, hik, hK⟩ := id hI3
  have hg := hE.1
  obtain ⟨hT, hU, hN, hH, hP⟩ := hK hk1
  refine ga_aload_n 0 C dX2_dominator_4 rfl rfl ?_
  refine ga_iload_n 1 C dX2_dominator_5 rfl rfl ?_
  refine gm_call_r C (c_mB l G cI cJ cZ am on ba ik me un ra ne he de wa le n2 wt x hn) (cwV 1 C.1.2.2.2.2 gX2_dominator_X2_isBlock rfl rfl rfl (by decide +kernel) ⟨Nat.le_of_ble_eq_true rfl, Nat.le_of_ble_eq_true rfl⟩) rfl rfl (Nat.le_of_ble_eq_true rfl) dX2_dominator_6 ⟨Nat.zero_le _, Nat.zero_le _⟩ (fun r hx => ?_)
  rcases hx with ⟨⟨a, ha, rfl⟩, rfl⟩ | ⟨hno, rfl⟩
  rotate_left
  · skip
    refine gn_if_eq 21 C dX2_dominator_9 (by decide) (by omega) (fun h9 => ?_) (fun h9 => absurd rfl h9)
    refine ga_iconst (v := -1) C dX2_dominator_21 (by decide) ?_
    exact ga_iret C hr rfl hlk dX2_dominator_22 (on, ba, ik, me, un, ra, ne, he, de, wa, le, n2, wt) ⟨Or.inr ⟨fun b q => hno ⟨b, q⟩, rfl⟩, hI3⟩ rfl
  refine gn_if_eq 21 C dX2_dominator_9 (by decide) (by omega) (fun h9 => absurd h9 (by omega)) (fun h9 => ?_)
  refine ga_aload_n 0 C dX2_dominator_12 rfl rfl ?_
  refine gm_get_ne C in_X2_dominator (by decide +kernel) dX2_dominator_13 ?_
  refine ga_iload_n 1 C dX2_dominator_16 rfl rfl ?_
  refine gm_ald_ne C (by omega) dX2_dominator_17 ?_
  refine ga_goto 22 C dX2_dominator_18 (by decide) ?_
  exact ga_iret C hr rfl hlk dX2_dominator_22 (on, ba, ik, me, un, ra, ne, he, de, wa, le, n2, wt) ⟨Or.inl ⟨a, ⟨ha, rfl⟩, hN a ha⟩, hI3⟩ rfl
set_option maxHeartbeats 4000000 in
set_option maxRecDepth 100000 in
/-- depth of the reference -/
theorem c_mdepth (l : Launch) (G : va_G) (cI cJ cZ : ClassId) (am : Nat → Nat) (on ba : Nat → Int32) (ik : Nat) (me un : Nat → Int32) (ra : Nat → Nat) (ne : Nat → Int32) (he de : Nat → Nat) (wa : Nat → Int32) (le : Nat → Nat) (n wt : Nat) (nn : Nat) (E : Nat → Nat → Bool) (x : Int32) (hI : mI nn E on ba ik me un ne he de n) : ctI l yX2_depth wsX2_depth { frames := 4, cells := 0, slots := 0, locals := 91 } G (ty3 cI cJ cZ) [.ref (am 0), .int x] (wM am cI cZ on ba ik me un ra ne he de wa le n wt) (fun r (u : MS) => dpP nn E x r ∧ mIu nn E u) (wMu am cI cZ) := by
  refine metI (cc := cX2_depth) (maxL := 2) (ret := (some .int)) (by decide) rfl (Nat.le_of_ble_eq_true rfl) ?_
  intro p e s m below meth c C hr hlk
  refine ga_lv (lv9 := [(0, .ref (am 0)), (1, .int x)]) ⟨rfl, rfl, trivial⟩ ?_
  obtain ⟨hE, rfl, hik, hK⟩ := id hI
  have hg := hE.1
  have hn := hg.2.1
  refine ga_aload_n 0 C dX2_depth_0 rfl rfl ?_
  refine gm_call_v C (c_mknow l G cI cJ cZ am on ba ik me un ra ne he de wa le n wt n E hI) (cwV 0 C.1.2.2.2.2 gX2_depth_X2_know rfl rfl rfl (by decide +kernel) ⟨Nat.le_of_ble_eq_true rfl, Nat.le_of_ble_eq_true rfl⟩) rfl rfl (Nat.le_of_ble_eq_true rfl) dX2_depth_1 ⟨Nat.zero_le _, Nat.zero_le _⟩ (fun on ba ik me un ra ne he de wa le n2 wt hI2 => ?_)
  have hI3 : mI n E on ba ik me un ne he de n2 := hI2.1
  have hk1 : ik = 1 := hI2.2
  clear hI hE hK hg hI2
  obtain ⟨hE, rfl, hik, hK⟩ := id hI3
  have hg := hE.1
  obtain ⟨hT, hU, hN, hH, hP⟩ := hK hk1
  refine ga_aload_n 0 C dX2_depth_4 rfl rfl ?_
  refine ga_iload_n 1 C dX2_depth_5 rfl rfl ?_
  refine gm_call_r C (c_mB l G cI cJ cZ am on ba ik me un ra ne he de wa le n2 wt x hn) (cwV 1 C.1.2.2.2.2 gX2_depth_X2_isBlock rfl rfl rfl (by decide +kernel) ⟨Nat.le_of_ble_eq_true rfl, Nat.le_of_ble_eq_true rfl⟩) rfl rfl (Nat.le_of_ble_eq_true rfl) dX2_depth_6 ⟨Nat.zero_le _, Nat.zero_le _⟩ (fun r hx => ?_)
  rcases hx with ⟨⟨a, ha, rfl⟩, rfl⟩ | ⟨hno, rfl⟩
  rotate_left
  · skip
    refine gn_if_eq 21 C dX2_depth_9 (by decide) (by omega) (fun h9 => ?_) (fun h9 => absurd rfl h9)
    refine ga_iconst (v := -1) C dX2_depth_21 (by decide) ?_
    exact ga_iret C hr rfl hlk dX2_depth_22 (on, ba, ik, me, un, ra, ne, he, de, wa, le, n2, wt) ⟨Or.inr ⟨fun b q => hno ⟨b, q⟩, rfl⟩, hI3⟩ rfl
  refine gn_if_eq 21 C dX2_depth_9 (by decide) (by omega) (fun h9 => absurd h9 (by omega)) (fun h9 => ?_)
  refine ga_aload_n 0 C dX2_depth_12 rfl rfl ?_
  refine gm_get_de C in_X2_depth (by decide +kernel) dX2_depth_13 ?_
  refine ga_iload_n 1 C dX2_depth_16 rfl rfl ?_
  refine gm_ald_de C (by omega) dX2_depth_17 ?_
  refine ga_goto 22 C dX2_depth_18 (by decide) ?_
  exact ga_iret C hr rfl hlk dX2_depth_22 (on, ba, ik, me, un, ra, ne, he, de, wa, le, n2, wt) ⟨Or.inl ⟨a, ⟨ha, rfl⟩, by rw [hP a ha]⟩, hI3⟩ rfl
set_option maxHeartbeats 4000000 in
set_option maxRecDepth 100000 in
/-- dominates of the reference -/
theorem c_mdominates (l : Launch) (G : va_G) (cI cJ cZ : ClassId) (am : Nat → Nat) (on ba : Nat → Int32) (ik : Nat) (me un : Nat → Int32) (ra : Nat → Nat) (ne : Nat → Int32) (he de : Nat → Nat) (wa : Nat → Int32) (le : Nat → Nat) (n wt : Nat) (nn : Nat) (E : Nat → Nat → Bool) (x y : Int32) (hI : mI nn E on ba ik me un ne he de n) : ctI l yX2_dominates wsX2_dominates { frames := 4, cells := 0, slots := 0, locals := 91 } G (ty3 cI cJ cZ) [.ref (am 0), .int x, .int y] (wM am cI cZ on ba ik me un ra ne he de wa le n wt) (fun r (u : MS) => yn (∃ a b, isB nn x a ∧ isB nn y b ∧ dmn E a b) r ∧ mIu nn E u) (wMu am cI cZ) := by
  refine metI (cc := cX2_dominates) (maxL := 3) (ret := (some .boolean)) (by decide) rfl (Nat.le_of_ble_eq_true rfl) ?_
  intro p e s m below meth c C hr hlk
  refine ga_lv (lv9 := [(0, .ref (am 0)), (1, .int x), (2, .int y)]) ⟨rfl, rfl, rfl, trivial⟩ ?_
  obtain ⟨hE, rfl, hik, hK⟩ := id hI
  have hg := hE.1
  have hn := hg.2.1
  refine ga_aload_n 0 C dX2_dominates_0 rfl rfl ?_
  refine gm_call_v C (c_mknow l G cI cJ cZ am on ba ik me un ra ne he de wa le n wt n E hI) (cwV 0 C.1.2.2.2.2 gX2_dominates_X2_know rfl rfl rfl (by decide +kernel) ⟨Nat.le_of_ble_eq_true rfl, Nat.le_of_ble_eq_true rfl⟩) rfl rfl (Nat.le_of_ble_eq_true rfl) dX2_dominates_1 ⟨Nat.zero_le _, Nat.zero_le _⟩ (fun on ba ik me un ra ne he de wa le n2 wt hI2 => ?_)
  have hI3 : mI n E on ba ik me un ne he de n2 := hI2.1
  have hk1 : ik = 1 := hI2.2
  clear hI hE hK hg hI2
  obtain ⟨hE, rfl, hik, hK⟩ := id hI3
  have hg := hE.1
  obtain ⟨hT, hU, hN, hH, hP⟩ := hK hk1
  refine ga_aload_n 0 C dX2_dominates_4 rfl rfl ?_
  refine ga_iload_n 1 C dX2_dominates_5 rfl rfl ?_
  refine gm_call_r C (c_mB l G cI cJ cZ am on ba ik me un ra ne he de wa le n2 wt x hn) (cwV 1 C.1.2.2.2.2 gX2_dominates_X2_isBlock rfl rfl rfl (by decide +kernel) ⟨Nat.le_of_ble_eq_true rfl, Nat.le_of_ble_eq_true rfl⟩) rfl rfl (Nat.le_of_ble_eq_true rfl) dX2_dominates_6 ⟨Nat.zero_le _, Nat.zero_le _⟩ (fun r hx => ?_)
  rcases hx with ⟨⟨a, ha, rfl⟩, rfl⟩ | ⟨hno, rfl⟩
  rotate_left
  · skip
    refine gn_if_eq 39 C dX2_dominates_9 (by decide) (by omega) (fun h9 => ?_) (fun h9 => absurd rfl h9)
    refine ga_iconst (v := nI 0) C dX2_dominates_39 (by decide) ?_
    exact ga_iret C hr (nar_z (by omega)) hlk dX2_dominates_40 (on, ba, ik, me, un, ra, ne, he, de, wa, le, n2, wt) ⟨Or.inr ⟨fun ⟨a, b, q, _⟩ => hno ⟨a, q⟩, rfl⟩, hI3⟩ rfl
  refine gn_if_eq 39 C dX2_dominates_9 (by decide) (by omega) (fun h9 => absurd h9 (by omega)) (fun h9 => ?_)
  refine ga_aload_n 0 C dX2_dominates_12 rfl rfl ?_
  refine ga_iload_n 2 C dX2_dominates_13 rfl rfl ?_
  refine gm_call_r C (c_mB l G cI cJ cZ am on ba ik me un ra ne he de wa le n2 wt y hn) (cwV 1 C.1.2.2.2.2 gX2_dominates_X2_isBlock rfl rfl rfl (by decide +kernel) ⟨Nat.le_of_ble_eq_true rfl, Nat.le_of_ble_eq_true rfl⟩) rfl rfl (Nat.le_of_ble_eq_true rfl) dX2_dominates_14 ⟨Nat.zero_le _, Nat.zero_le _⟩ (fun r hy => ?_)
  rcases hy with ⟨⟨b, hb, rfl⟩, rfl⟩ | ⟨hno, rfl⟩
  rotate_left
  · skip
    refine gn_if_eq 39 C dX2_dominates_17 (by decide) (by omega) (fun h9 => ?_) (fun h9 => absurd rfl h9)
    refine ga_iconst (v := nI 0) C dX2_dominates_39 (by decide) ?_
    exact ga_iret C hr (nar_z (by omega)) hlk dX2_dominates_40 (on, ba, ik, me, un, ra, ne, he, de, wa, le, n2, wt) ⟨Or.inr ⟨fun ⟨a, b, _, q, _⟩ => hno ⟨b, q⟩, rfl⟩, hI3⟩ rfl
  refine gn_if_eq 39 C dX2_dominates_17 (by decide) (by omega) (fun h9 => absurd h9 (by omega)) (fun h9 => ?_)
  refine ga_aload_n 0 C dX2_dominates_20 rfl rfl ?_
  refine gm_get_un C in_X2_dominates (by decide +kernel) dX2_dominates_21 ?_
  refine ga_bipush (v := nI 7) C dX2_dominates_24 (by decide) ?_
  refine ga_iload_n 1 C dX2_dominates_26 rfl rfl ?_
  refine ga_imul C dX2_dominates_27 (pk_mul _ _) ?_
  refine ga_iload_n 2 C dX2_dominates_28 rfl rfl ?_
  refine gm_isSet_un C (c_mset l G cI cJ cZ (am 4) 1400 un (7 * a) b (by decide) (by omega) (by omega) (by omega)) (va_cwS 3 C.1.2.2.2.2 gX2_dominates_X2_isSet rfl rfl rfl (by decide +kernel) ⟨Nat.le_of_ble_eq_true rfl, Nat.le_of_ble_eq_true rfl⟩) rfl rfl (Nat.le_of_ble_eq_true rfl) dX2_dominates_29 ⟨Nat.zero_le _, Nat.zero_le _⟩ (fun r hs => ?_)
  subst hs
  have hbl := btl (bq un (7 * a) b)
  have hd := hU a b ha (by omega)
  refine gn_if_eq 39 C dX2_dominates_32 (by decide) (by omega) (fun h8 => ?_) (fun h8 => ?_)
  · skip
    refine ga_iconst (v := nI 0) C dX2_dominates_39 (by decide) ?_
    refine ga_iret C hr (nar_z (by omega)) hlk dX2_dominates_40 (on, ba, ik, me, un, ra, ne, he, de, wa, le, n2, wt) ⟨Or.inr ⟨?_, rfl⟩, hI3⟩ rfl
    rintro ⟨a2, b2, q1, q2, q3⟩
    obtain rfl := isB_un hn q1 ⟨ha, rfl⟩
    obtain rfl := isB_un hn q2 ⟨hb, rfl⟩
    rw [hd.mpr q3] at h8
    cases h8
  · skip
    refine ga_iconst (v := nI 1) C dX2_dominates_35 (by decide) ?_
    refine ga_goto 40 C dX2_dominates_36 (by decide) ?_
    refine ga_iret C hr (nar_z (by omega)) hlk dX2_dominates_40 (on, ba, ik, me, un, ra, ne, he, de, wa, le, n2, wt) ⟨Or.inl ⟨⟨a, b, ⟨ha, rfl⟩, ⟨hb, rfl⟩, hd.mp ?_⟩, rfl⟩, hI3⟩ rfl
    cases hq : bq un (7 * a) b with
    | true => rfl
    | false => rw [hq] at h8; exact absurd rfl h8
set_option maxHeartbeats 4000000 in
set_option maxRecDepth 100000 in
/-- head of the reference -/
theorem c_mhead (l : Launch) (G : va_G) (cI cJ cZ : ClassId) (am : Nat → Nat) (on ba : Nat → Int32) (ik : Nat) (me un : Nat → Int32) (ra : Nat → Nat) (ne : Nat → Int32) (he de : Nat → Nat) (wa : Nat → Int32) (le : Nat → Nat) (n wt : Nat) (nn : Nat) (E : Nat → Nat → Bool) (x : Int32) (hI : mI nn E on ba ik me un ne he de n) : ctI l yX2_head wsX2_head { frames := 4, cells := 0, slots := 0, locals := 91 } G (ty3 cI cJ cZ) [.ref (am 0), .int x] (wM am cI cZ on ba ik me un ra ne he de wa le n wt) (fun r (u : MS) => yn (∃ b, isB nn x b ∧ hdd E b) r ∧ mIu nn E u) (wMu am cI cZ) := by
  refine metI (cc := cX2_head) (maxL := 2) (ret := (some .boolean)) (by decide) rfl (Nat.le_of_ble_eq_true rfl) ?_
  intro p e s m below meth c C hr hlk
  refine ga_lv (lv9 := [(0, .ref (am 0)), (1, .int x)]) ⟨rfl, rfl, trivial⟩ ?_
  obtain ⟨hE, rfl, hik, hK⟩ := id hI
  have hg := hE.1
  have hn := hg.2.1
  refine ga_aload_n 0 C dX2_head_0 rfl rfl ?_
  refine gm_call_v C (c_mknow l G cI cJ cZ am on ba ik me un ra ne he de wa le n wt n E hI) (cwV 0 C.1.2.2.2.2 gX2_head_X2_know rfl rfl rfl (by decide +kernel) ⟨Nat.le_of_ble_eq_true rfl, Nat.le_of_ble_eq_true rfl⟩) rfl rfl (Nat.le_of_ble_eq_true rfl) dX2_head_1 ⟨Nat.zero_le _, Nat.zero_le _⟩ (fun on ba ik me un ra ne he de wa le n2 wt hI2 => ?_)
  have hI3 : mI n E on ba ik me un ne he de n2 := hI2.1
  have hk1 : ik = 1 := hI2.2
  clear hI hE hK hg hI2
  obtain ⟨hE, rfl, hik, hK⟩ := id hI3
  have hg := hE.1
  obtain ⟨hT, hU, hN, hH, hP⟩ := hK hk1
  refine ga_aload_n 0 C dX2_head_4 rfl rfl ?_
  refine ga_iload_n 1 C dX2_head_5 rfl rfl ?_
  refine gm_call_r C (c_mB l G cI cJ cZ am on ba ik me un ra ne he de wa le n2 wt x hn) (cwV 1 C.1.2.2.2.2 gX2_head_X2_isBlock rfl rfl rfl (by decide +kernel) ⟨Nat.le_of_ble_eq_true rfl, Nat.le_of_ble_eq_true rfl⟩) rfl rfl (Nat.le_of_ble_eq_true rfl) dX2_head_6 ⟨Nat.zero_le _, Nat.zero_le _⟩ (fun r hx => ?_)
  rcases hx with ⟨⟨a, ha, rfl⟩, rfl⟩ | ⟨hno, rfl⟩
  rotate_left
  · skip
    refine gn_if_eq 25 C dX2_head_9 (by decide) (by omega) (fun h9 => ?_) (fun h9 => absurd rfl h9)
    refine ga_iconst (v := nI 0) C dX2_head_25 (by decide) ?_
    exact ga_iret C hr (nar_z (by omega)) hlk dX2_head_26 (on, ba, ik, me, un, ra, ne, he, de, wa, le, n2, wt) ⟨Or.inr ⟨fun ⟨b, q, _⟩ => hno ⟨b, q⟩, rfl⟩, hI3⟩ rfl
  refine gn_if_eq 25 C dX2_head_9 (by decide) (by omega) (fun h9 => absurd h9 (by omega)) (fun h9 => ?_)
  have hHa := hH a ha
  have hHl := hHa.1
  refine ga_aload_n 0 C dX2_head_12 rfl rfl ?_
  refine gm_get_he C in_X2_head (by decide +kernel) dX2_head_13 ?_
  refine ga_iload_n 1 C dX2_head_16 rfl rfl ?_
  refine gm_ald_he C (by omega) dX2_head_17 ?_
  refine gn_if_eq 25 C dX2_head_18 (by decide) (by omega) (fun h8 => ?_) (fun h8 => ?_)
  · skip
    refine ga_iconst (v := nI 0) C dX2_head_25 (by decide) ?_
    refine ga_iret C hr (nar_z (by omega)) hlk dX2_head_26 (on, ba, ik, me, un, ra, ne, he, de, wa, le, n2, wt) ⟨Or.inr ⟨?_, rfl⟩, hI3⟩ rfl
    rintro ⟨b, q1, q2⟩
    obtain rfl := isB_un hn q1 ⟨ha, rfl⟩
    have := hHa.2.mpr q2
    omega
  · skip
    refine ga_iconst (v := nI 1) C dX2_head_21 (by decide) ?_
    refine ga_goto 26 C dX2_head_22 (by decide) ?_
    exact ga_iret C hr (nar_z (by omega)) hlk dX2_head_26 (on, ba, ik, me, un, ra, ne, he, de, wa, le, n2, wt) ⟨Or.inl ⟨⟨a, ⟨ha, rfl⟩, hHa.2.mp (by omega)⟩, rfl⟩, hI3⟩ rfl
end
section
section GA
variable {p : Program} {l : Launch} {e : Env} {R : Room} {s : State} {m : MethodId} {args : Array Value} {below : List Frame} {meth : Method} {c : Code} {D : va_G} {A : Nat → Prop} {nL cells slots : Nat} {Q : State → Prop}
variable {cc : ByteArray} {Ts : List Cond} {own : String} {tys : List (ClassId × FieldType)} {ws : va_W} {lv : List (Nat × Value)} {pc : Nat} {st : List Value}
theorem ga_objInit (C : gC p s m args c cc nL Ts own D tys A) {idx a : Nat} (hl0 : Cond.methodLink own idx objectInit ∈ Ts) (hi0 : Cond.instanceMethod objectInit ∈ Ts) (hc0 : Cond.code objectInit ⟨#[0xb1]⟩ 1 none ∈ Ts) (hd : decode cc pc = .ok (.invokespecial idx, 3)) (hfr : 1 ≤ R.frames) (hlo : (st.map fun v => v.category).sum + 12 ≤ R.locals) (k : gG p l e R s m args below meth c D A nL (cells) (slots) Q (ws) (lv) (pc + 3) (st)) : gG p l e R s m args below meth c D A nL (cells) (slots) Q (ws) (lv) (pc) (.ref a :: st) := fun H lo ls hl hP hD hS => W.objInit C.1.1 C.1.2.1 C.1.2.2.2.1 (C.1.2.2.2.2 _ hl0) (C.1.2.2.2.2 _ hi0) (C.1.2.2.2.2 _ hc0) rfl (by rw [C.1.2.2.1]; exact hl.1) rfl hd hfr (by show 2 * 0 + _ + 12 ≤ _; omega) (k H lo ls hl hP hD hS)
theorem ga_putF (C : gC p s m args c cc nL Ts own D tys A) {Cn : String} {T : u_T} {N ci index a : Nat} (hin : ∀ w ∈ u_ws Cn T N, w ∈ Ts) (ty0 : Nat → FieldType) (hty : ∀ k, k < N → parseFieldDescriptor (T k).2.2.1 = some (ty0 k)) (hnm : ∀ a, a < N → ∀ b, b < N → a ≠ b → (T a).2.1 ≠ (T b).2.1) (hmn : meth.name = "<init>") (q0 : Nat) {fs : List Value} (he : ws[q0]? = some (a, .inr (ci, fs))) (hc : vwCl[ci]? = some (Cn, T, N)) (j : Nat) (hk : j < N) (hlink : Cond.fieldLink own index (T j).1 (T j).2.1 (T j).2.2.1 ∈ Ts) (hfin : (T j).2.2.2 = true) (hdecl : (T j).1 = own) {ty : FieldType} {v : Value} (hdt : parseFieldDescriptor (T j).2.2.1 = some ty) (hn : narrow ty v = v) (hfit : fits ty v = true) (hl0 : j < fs.length) (hd : decode cc pc = .ok (.putfield index, 3)) {w9 : va_W} (hw : ws.set q0 (a, .inr (ci, fs.set j v)) = w9) (k : gG p l e R s m args below meth c D A nL (cells) (slots) Q (w9) (lv) (pc + 3) (st)) : gG p l e R s m args below meth c D A nL (cells) (slots) Q (ws) (lv) (pc) (v :: .ref a :: st) := by subst hw; exact fun H lo ls hl hP hD hS => va_putF C.1.1 C.1.2.1 C.1.2.2.2.2 hin ty0 hty hnm C.1.2.2.2.1 C.2.1 hP hD hS q0 he hc j hk (C.1.2.2.2.2 _ hlink) (fun _ h => h) hfin hmn hdecl hdt hn hfit hl0 hd (fun H1 lo1 hP1 hD1 hS1 => k H1 lo1 ls hl hP1 hD1 hS1)
theorem ga_new (C : gC p s m args c cc nL Ts own D tys A) {Cn : String} {T : u_T} {N ci index : Nat} (hin : ∀ w ∈ u_ws Cn T N, w ∈ Ts) (ty0 : Nat → FieldType) (hty : ∀ k, k < N → parseFieldDescriptor (T k).2.2.1 = some (ty0 k)) (hcl : Cond.classLink own index Cn ∈ Ts) (hinst : Cond.instantiable Cn N ∈ Ts) (hini : Cond.initialized Cn ∈ Ts) (hc : vwCl[ci]? = some (Cn, T, N)) {fs : List Value} (hfs : ∀ j, j < N → defaultValue (ty0 j) = vp_V fs j) (hce : cells + 1 ≤ R.cells) (hsl : slots + N ≤ R.slots) (hd : decode cc pc = .ok (.new index, 3)) (k : ∀ q : Nat, gG p l e R s m args below meth c D A nL (cells + 1) (slots + N) Q (ws ++ [(q, .inr (ci, fs))]) (lv) (pc + 3) (.ref q :: st)) : gG p l e R s m args below meth c D A nL (cells) (slots) Q (ws) (lv) (pc) (st) := fun H lo ls hl hP hD hS => va_new C.1.1 C.1.2.1 C.1.2.2.2.2 hin ty0 hty C.1.2.2.2.1 (C.1.2.2.2.2 _ hcl) (C.1.2.2.2.2 _ hinst) (C.1.2.2.2.2 _ hini) C.2.1 hP hD hS C.2.2 hc hfs hce hsl hd (fun q H1 hP1 hD1 hS1 => k q H1 lo ls hl hP1 hD1 hS1)
theorem ga_newa (C : gC p s m args c cc nL Ts own D tys A) {atype : ArrayType} {ty : FieldType} {cT : ClassId} (t0 : Nat) (ht : tys[t0]? = some (cT, ty)) (hra : ∀ (U : State) (cA : ClassId), va_RA U cA ty → U.vm.findClass ("[" ++ ty.toString) = some cA) (harr : Cond.arrayClass (newarray.typeOf atype) ∈ Ts) (hty : newarray.typeOf atype = ty) {n : Int32} {N' : Nat} {a0 : vp_A} (ha : ∀ cA : ClassId, vp_cell cA a0 = arrV cA N' (fun _ => defaultValue ty)) (hn : ¬ n < 0) (hN : n.toNatClampNeg = N') (hbytes : N' * componentBytes ty ≤ 536870912) (hce : cells + 1 ≤ R.cells) (hsl : slots + N' ≤ R.slots) (hd : decode cc pc = .ok (.newarray atype, 2)) (k : ∀ q : Nat, gG p l e R s m args below meth c D A nL (cells + 1) (slots + N') Q (ws ++ [(q, .inl (cT, a0))]) (lv) (pc + 2) (.ref q :: st)) : gG p l e R s m args below meth c D A nL (cells) (slots) Q (ws) (lv) (pc) (.int n :: st) := fun H lo ls hl hP hD hS => va_newa C.1.1 C.1.2.1 (C.1.2.2.2.2 _ harr) hty C.2.1 hP hD hS C.2.2 ha hn hN hbytes hce hsl hd (fun q cA H1 hK1 hP1 hD1 hS1 => by
    have h1 := hra s cA (hK1.2 tys.length (cA, ty) (by simp)).2
    have h2 := hra s cT (C.2.1.2 t0 (cT, ty) ht).2
    obtain rfl : cA = cT := Option.some.inj (h1.symm.trans h2)
    exact k q H1 lo ls hl hP1 hD1 hS1)
end GA
def ctA (l : Launch) (y : MethodName) (wy : List Cond) (rm : Room) (D : va_G) (tys : List (ClassId × FieldType)) (av : List Value) (ws : va_W) (X : State → Prop) {S : Type} (post : S → Prop) (wR : S → va_W) (mc ms : Nat) : Prop := ∀ sz, Met l y wy rm (va_Pc av (fun U => cB D tys ws sz U ∧ X U)) (va_Qv post (cE D tys ws sz wR) (va_A ws sz)) mc ms (va_A ws sz)
theorem cA_blind (D : va_G) (tys : List (ClassId × FieldType)) (ws : va_W) (sz : Nat) (av : List Value) (X : State → Prop) (hX : ∀ (U : State) (g : JFrame) (mk : MethodId) (a : Array Value), X U → X (U.calling g mk a)) : FrameBlind (va_Pc av (fun U => cB D tys ws sz U ∧ X U)) := fun a U g mk q => by
  obtain ⟨q0, q1, q2⟩ := q
  exact ⟨q0, (cB_blind D tys ws sz av a U g mk ⟨q0, q1⟩).2, hX U g mk a q2⟩
theorem metA {l : Launch} {y : MethodName} {wy wy' : List Cond} {rm : Room} {D : va_G} {tys : List (ClassId × FieldType)} {av : List Value} {ws : va_W} {X : State → Prop} {cc : ByteArray} {maxL : Nat} {S : Type} {post : S → Prop} {wR : S → va_W} {mc ms : Nat} (hy : plainName y.cls = true) (hyn : y.name = "<init>") (hw : wy = Cond.code y cc maxL none :: wy') (hav : (lg_sl av).length ≤ maxL) (h : ∀ (p : Program) (e : Env) (s : State) (m : MethodId) (below : List Frame) (meth : Method) (c : Code), gC p s m av.toArray c cc maxL wy y.cls D tys (va_A ws s.heap.size) → meth.sig.returnType = none → meth.locks = false → meth.name = "<init>" → X s → gG p l e rm s m av.toArray below meth c D (va_A ws s.heap.size) maxL 0 0 (MQ below (va_Qv post (cE D tys ws s.heap.size wR) (va_A ws s.heap.size)) av.toArray s mc ms (va_A ws s.heap.size)) ws (lv_args 0 av) 0 []) : ctA l y wy rm D tys av ws X post wR mc ms := by
  intro sz
  refine Met.ofW (cc := cc) (maxL := maxL) (ret := none) hy hw ?_
  intro p e s m args below meth c s₁ B hml hv
  obtain ⟨rfl, ⟨hsz, hP, hK, hD0⟩, hX⟩ := hv
  subst hsz
  have hts := atoms_spec (ws := wy) B.pre
  have hown : s.vm.findClass y.cls = some m.cls := findClass_of_methodNamed B.named
  have hl := lv_entry av (n := maxL) hav
  rw [lg_entry_eq]
  exact h p e s m below meth c ⟨⟨B.exec, B.bytes, hml, hown, hts⟩, hK, fun q h => Or.inr h⟩ B.returns B.notSynchronized (by rw [← hyn]; exact (name_of_methodNamed B.named B.method).1) hX s.heap [] _ (lf_of hl) hP (hD0.self (sz := s.heap.size)) va_S.rf
theorem ga_vretA {p : Program} {l : Launch} {e : Env} {R : Room} {s : State} {m : MethodId} {below : List Frame} {meth : Method} {c : Code} {D : va_G} {nL cells slots : Nat} {cc : ByteArray} {Ts : List Cond} {own : String} {tys : List (ClassId × FieldType)} {ws w0 : va_W} {lv : List (Nat × Value)} {pc : Nat} {av : List Value} {S : Type} {post : S → Prop} {wR : S → va_W} (C : gC p s m av.toArray c cc nL Ts own D tys (va_A w0 s.heap.size)) (hr : meth.sig.returnType = none) (hlk : meth.locks = false) (hd : decode cc pc = .ok (.return_, 1)) (u : S) (hp : post u) (hw : ws = wR u) : gG p l e R s m av.toArray below meth c D (va_A w0 s.heap.size) nL cells slots (MQ below (va_Qv post (cE D tys w0 s.heap.size wR) (va_A w0 s.heap.size)) av.toArray s cells slots (va_A w0 s.heap.size)) ws lv pc [] := fun H lo ls hl hP hD hS => W.vret C.1.1 C.1.2.1 hr (fun t ht hW => ⟨⟨u, rfl, hp, by rw [ht, ← hw]; exact hP, va_K.moved hW.alike C.2.1, by rw [← hw]; exact hD⟩, hS.F ht⟩) hS.2.2 hd
section GCI
variable {p : Program} {l : Launch} {e : Env} {R : Room} {s : State} {m : MethodId} {args : Array Value} {below : List Frame} {meth : Method} {c : Code} {D : va_G} {A : Nat → Prop} {nL cells slots : Nat} {Q : State → Prop}
variable {cc : ByteArray} {Ts : List Cond} {own : String} {tys : List (ClassId × FieldType)} {ws : va_W} {lv : List (Nat × Value)} {pc : Nat} {st st0 : List Value}
variable {y : MethodName} {wy : List Cond} {bytes : ByteArray} {maxL index n mc ms : Nat} {rm : Room} {S : Type} {wR : S → va_W} {wc wr : va_W} {As : List Value} {X : State → Prop} {b : Addr} {host : String}

theorem ga_callIv (C : gC p s m args c cc nL Ts own D tys A) {post : S → Prop} (hM : ctA l y wy rm D tys (.ref b :: As) wc X post wR mc ms) (hXb : ∀ (U : State) (g : JFrame) (mk : MethodId) (a : Array Value), X U → X (U.calling g mk a)) (hX : ∀ U : State, s.WarmedH U.vm → X U) (cw : CallB R s args own index y bytes maxL none wy rm mc ms n ∧ y.name = "<init>" ∧ (Cond.instanceMethod y).before args s = true) (isC isR : List Nat) (hC : isC.map (fun i => ws[i]?) = wc.map some) (hnC : va_nd isC = true) (hR : isR.map (fun i => ws[i]?) = wr.map some) (hn : va_nd isR = true) (hdis : ∀ i ∈ isR, i ∉ isC) (hlen : As.length = n) (hst : st0 = As.reverse ++ .ref b :: st) (hroom : (st.map fun v => v.category).sum ≤ 8) (hd : decode cc pc = .ok (.invokespecial index, 3)) (hcap : cells + mc ≤ R.cells ∧ slots + ms ≤ R.slots)
    (k : ∀ u : S, post u → gG p l e R s m args below meth c D A nL (cells + mc) (slots + ms) Q (wr ++ wR u) (lv) (pc + 3) (st)) : gG p l e R s m args below meth c D A nL (cells) (slots) Q (ws) (lv) (pc) (st0) := fun H lo ls hl hP hD hS => by
  have hPc : va_P D vwCl wc H := hP.sub isC (is_sub ws wc isC hC)
  have hDc : va_D A wc := hD.sub isC hnC hC
  have hFc := va_free (wc := wc) hD hS C.2.2 isC hC
  have hpre : ∀ U : State, U.heap = H → s.WarmedH U.vm → va_Pc (.ref b :: As) (fun U => cB D tys wc H.size U ∧ X U) (.ref b :: As).toArray U := fun U hU hW => ⟨rfl, ⟨by rw [hU], by rw [hU]; exact hPc, va_K.moved hW.alike C.2.1, hDc.weaken (fun _ _ _ _ => trivial)⟩, hX U hW⟩
  refine va_callv (va_runI (As := As) (rest := st) C.1 (hM H.size) cw ⟨cA_blind D tys wc H.size (.ref b :: As) X hXb, hpre⟩ rfl hlen hl.1 hst (lv_room hroom) hd hcap) hS (fun q _ h => hFc q h) hFc ?_
  intro u t H1 locs ht hvm hp hB hz1 hk1 hS1
  obtain ⟨hP1, hK1, hD1⟩ := hB
  rw [ht] at hP1
  obtain ⟨hP2, hD2⟩ := va_join hP hD isC isR hC hR hn hdis hk1 hFc hP1 hD1
  exact k u hp H1 locs ls hl hP2 hD2 hS1
theorem ga_callNv (C : gC p s m args c cc nL Ts own D tys A) {post : S → Prop} (hM : ctA l y wy rm D tys (.ref b :: As) wc X post wR mc ms) (hXb : ∀ (U : State) (g : JFrame) (mk : MethodId) (a : Array Value), X U → X (U.calling g mk a)) (hX : ∀ U : State, s.WarmedH U.vm → X U) (cw : va_CN R s args own index y host bytes maxL none wy rm mc ms n ∧ y.name = "<init>" ∧ (Cond.instanceMethod y).before args s = true) (isC isR : List Nat) (hC : isC.map (fun i => ws[i]?) = wc.map some) (hnC : va_nd isC = true) (hR : isR.map (fun i => ws[i]?) = wr.map some) (hn : va_nd isR = true) (hdis : ∀ i ∈ isR, i ∉ isC) (hlen : As.length = n) (hst : st0 = As.reverse ++ .ref b :: st) (hroom : (st.map fun v => v.category).sum ≤ 8) (hd : decode cc pc = .ok (.invokespecial index, 3)) (hcap : cells + mc ≤ R.cells ∧ slots + ms ≤ R.slots)
    (k : ∀ u : S, post u → gG p l e R s m args below meth c D A nL (cells + mc) (slots + ms) Q (wr ++ wR u) (lv) (pc + 3) (st)) : gG p l e R s m args below meth c D A nL (cells) (slots) Q (ws) (lv) (pc) (st0) := fun H lo ls hl hP hD hS => by
  have hPc : va_P D vwCl wc H := hP.sub isC (is_sub ws wc isC hC)
  have hDc : va_D A wc := hD.sub isC hnC hC
  have hFc := va_free (wc := wc) hD hS C.2.2 isC hC
  have hpre : ∀ U : State, U.heap = H → s.WarmedH U.vm → va_Pc (.ref b :: As) (fun U => cB D tys wc H.size U ∧ X U) (.ref b :: As).toArray U := fun U hU hW => ⟨rfl, ⟨by rw [hU], by rw [hU]; exact hPc, va_K.moved hW.alike C.2.1, hDc.weaken (fun _ _ _ _ => trivial)⟩, hX U hW⟩
  refine va_callv (va_runIN (As := As) (rest := st) C.1 (hM H.size) cw ⟨cA_blind D tys wc H.size (.ref b :: As) X hXb, hpre⟩ rfl hlen hl.1 hst (lv_room hroom) hd hcap) hS (fun q _ h => hFc q h) hFc ?_
  intro u t H1 locs ht hvm hp hB hz1 hk1 hS1
  obtain ⟨hP1, hK1, hD1⟩ := hB
  rw [ht] at hP1
  obtain ⟨hP2, hD2⟩ := va_join hP hD isC isR hC hR hn hdis hk1 hFc hP1 hD1
  exact k u hp H1 locs ls hl hP2 hD2 hS1
end GCI
theorem ra_I (U : State) (cA : ClassId) (h : va_RA U cA .int) : U.vm.findClass ("[" ++ FieldType.int.toString) = some cA := h
theorem ra_J (U : State) (cA : ClassId) (h : va_RA U cA .long) : U.vm.findClass ("[" ++ FieldType.long.toString) = some cA := h
theorem ra_Z (U : State) (cA : ClassId) (h : va_RA U cA .boolean) : U.vm.findClass ("[" ++ FieldType.boolean.toString) = some cA := h
theorem dv_n (cA : ClassId) (N : Nat) : vp_cell cA (N, .inl (nA (fun _ => 0))) = arrV cA N (fun _ => defaultValue .int) := by rw [← nA_0]; rfl
theorem dv_z (cA : ClassId) (N : Nat) : vp_cell cA (N, .inl (nA (fun _ => 0))) = arrV cA N (fun _ => defaultValue .boolean) := by rw [← nA_0]; rfl
theorem dv_i (cA : ClassId) (N : Nat) : vp_cell cA (N, .inl (fun _ => 0)) = arrV cA N (fun _ => defaultValue .int) := rfl
theorem dv_j (cA : ClassId) (N : Nat) : vp_cell cA (N, .inr (.inl (fun _ => 0))) = arrV cA N (fun _ => defaultValue .long) := rfl
abbrev nestX : State → Prop := va_Nw (.methodLinkNest RX1 9 yX0_init RX1)
theorem nestX_b (U : State) (g : JFrame) (mk : MethodId) (a : Array Value) (h : nestX U) : nestX (U.calling g mk a) := va_Nw.same rfl rfl h

set_option maxHeartbeats 4000000 in
set_option maxRecDepth 100000 in
/-- BlockSets(): a row of 800 longs -/
theorem c_binit (l : Launch) (G : va_G) (cI cJ cZ : ClassId) (q : Nat) : ctA l yX0_init wsX0_init { frames := 1, cells := 1, slots := 800, locals := 12 } G (ty3 cI cJ cZ) [.ref q] [(q, .inr (0, [.null]))] (fun _ => True) (fun _ : Nat => True) (fun w => wB q w cJ (fun _ => 0)) 1 800 := by
  refine metA (cc := cX0_init) (maxL := 1) (by decide) rfl rfl (Nat.le_of_ble_eq_true rfl) ?_
  intro p e s m below meth c C hr hlk hmn hX
  refine ga_lv (lv9 := [(0, .ref q)]) ⟨rfl, trivial⟩ ?_
  refine ga_aload_n 0 C dX0_init_0 rfl rfl ?_
  refine ga_objInit C (by decide +kernel) (by decide +kernel) (by decide +kernel) dX0_init_1 (Nat.le_of_ble_eq_true rfl) (Nat.le_of_ble_eq_true rfl) ?_
  refine ga_aload_n 0 C dX0_init_4 rfl rfl ?_
  refine ga_sipush (v := nI 800) C dX0_init_5 (by decide) ?_
  refine ga_newa (a0 := (800, .inr (.inl (fun _ => 0)))) C 1 rfl ra_J (by decide +kernel) rfl (fun cA => dv_j cA 800) (by decide) (by decide) (by decide) (Nat.le_of_ble_eq_true rfl) (Nat.le_of_ble_eq_true rfl) dX0_init_8 (fun w => ?_)
  refine ga_putF C in_X0_init tyX0 tyX0_ok nmX0 hmn 0 rfl rfl 0 (by decide) (by decide +kernel) rfl rfl (ty := .array .long) (by decide +kernel) rfl rfl (Nat.le_of_ble_eq_true rfl) dX0_init_10 (w9 := wB q w cJ (fun _ => 0)) rfl ?_
  exact ga_vretA C hr hlk dX0_init_13 w trivial rfl
set_option maxHeartbeats 4000000 in
set_option maxRecDepth 100000 in
/-- FlowShape(): three sets, six rows; one block, no edges, nothing known -/
theorem c_xinit (l : Launch) (G : va_G) (cI cJ cZ : ClassId) (a : Nat) : ctA l yX1_init wsX1_init { frames := 2, cells := 12, slots := 3603, locals := 32 } G (ty3 cI cJ cZ) [.ref a] [(a, .inr (1, [.null, .null, .null, .null, .null, .null, .null, .null, .null, .int 0, .int 0, .int 0]))] nestX (fun ad : Nat → Nat => ad 0 = a) (fun ad => wX ad cI cJ cZ (fun _ => 0) (fun _ => 0) (fun _ => 0) (fun _ => 0) (fun _ => 0) (fun _ => 0) (fun _ => 0) (fun _ => 0) (fun _ => 0) 1 0 0) 12 3603 := by
  refine metA (cc := cX1_init) (maxL := 1) (by decide) rfl rfl (Nat.le_of_ble_eq_true rfl) ?_
  intro p e s m below meth c C hr hlk hmn hX
  refine ga_lv (lv9 := [(0, .ref a)]) ⟨rfl, trivial⟩ ?_
  refine ga_aload_n 0 C dX1_init_0 rfl rfl ?_
  refine ga_objInit C (by decide +kernel) (by decide +kernel) (by decide +kernel) dX1_init_1 (Nat.le_of_ble_eq_true rfl) (Nat.le_of_ble_eq_true rfl) ?_
  refine ga_aload_n 0 C dX1_init_4 rfl rfl ?_
  refine ga_new (ci := 0) (fs := [.null]) C (T := TX0) (by decide +kernel) tyX0 tyX0_ok (by decide +kernel) (by decide +kernel) (by decide +kernel) rfl (fun j hj => by obtain rfl : j = 0 := (by omega); rfl) (Nat.le_of_ble_eq_true rfl) (Nat.le_of_ble_eq_true rfl) dX1_init_5 (fun b0 => ?_)
  refine ga_ws [0, 1] (w9 := [(a, .inr (1, [.null, .null, .null, .null, .null, .null, .null, .null, .null, .int 0, .int 0, .int 0])), (b0, .inr (0, [.null]))]) rfl rfl ?_
  refine ga_dup C dX1_init_8 rfl ?_
  refine ga_callNv (wr := [(a, .inr (1, [.null, .null, .null, .null, .null, .null, .null, .null, .null, .int 0, .int 0, .int 0]))]) C (c_binit l G cI cJ cZ b0) (fun _ _ _ _ h => h) (fun _ _ => trivial) ⟨va_cnB 0 C.1.2.2.2.2 gX1_init_X0_init_n9 rfl rfl rfl hX (C.1.2.2.2.2 _ (by decide +kernel)) (by decide +kernel) ⟨Nat.le_of_ble_eq_true rfl, Nat.le_of_ble_eq_true rfl⟩, rfl, C.1.2.2.2.2 _ (by decide +kernel)⟩ [1] [0] rfl rfl rfl rfl (by decide) rfl rfl (Nat.le_of_ble_eq_true rfl) dX1_init_9 ⟨(Nat.le_of_ble_eq_true rfl), (Nat.le_of_ble_eq_true rfl)⟩ (fun v0 _ => ?_)
  refine ga_ws [0, 1, 2] (w9 := [(a, .inr (1, [.null, .null, .null, .null, .null, .null, .null, .null, .null, .int 0, .int 0, .int 0])), (b0, .inr (0, [.ref v0])), (v0, .inl (cJ, 800, .inr (.inl (fun _ => 0))))]) rfl rfl ?_
  refine ga_putF C in_X1_init tyX1 tyX1_ok nmX1 hmn 0 rfl rfl 0 (by decide) (by decide +kernel) rfl rfl (ty := .object "FlowShape$BlockSets") (by decide +kernel) rfl rfl (Nat.le_of_ble_eq_true rfl) dX1_init_12 (w9 := [(a, .inr (1, [.ref b0, .null, .null, .null, .null, .null, .null, .null, .null, .int 0, .int 0, .int 0])), (b0, .inr (0, [.ref v0])), (v0, .inl (cJ, 800, .inr (.inl (fun _ => 0))))]) rfl ?_
  refine ga_aload_n 0 C dX1_init_15 rfl rfl ?_
  refine ga_new (ci := 0) (fs := [.null]) C (T := TX0) (by decide +kernel) tyX0 tyX0_ok (by decide +kernel) (by decide +kernel) (by decide +kernel) rfl (fun j hj => by obtain rfl : j = 0 := (by omega); rfl) (Nat.le_of_ble_eq_true rfl) (Nat.le_of_ble_eq_true rfl) dX1_init_16 (fun b1 => ?_)
  refine ga_ws [0, 1, 2, 3] (w9 := [(a, .inr (1, [.ref b0, .null, .null, .null, .null, .null, .null, .null, .null, .int 0, .int 0, .int 0])), (b0, .inr (0, [.ref v0])), (v0, .inl (cJ, 800, .inr (.inl (fun _ => 0)))), (b1, .inr (0, [.null]))]) rfl rfl ?_
  refine ga_dup C dX1_init_19 rfl ?_
  refine ga_callNv (wr := [(a, .inr (1, [.ref b0, .null, .null, .null, .null, .null, .null, .null, .null, .int 0, .int 0, .int 0])), (b0, .inr (0, [.ref v0])), (v0, .inl (cJ, 800, .inr (.inl (fun _ => 0))))]) C (c_binit l G cI cJ cZ b1) (fun _ _ _ _ h => h) (fun _ _ => trivial) ⟨va_cnB 0 C.1.2.2.2.2 gX1_init_X0_init_n9 rfl rfl rfl hX (C.1.2.2.2.2 _ (by decide +kernel)) (by decide +kernel) ⟨Nat.le_of_ble_eq_true rfl, Nat.le_of_ble_eq_true rfl⟩, rfl, C.1.2.2.2.2 _ (by decide +kernel)⟩ [3] [0, 1, 2] rfl rfl rfl rfl (by decide) rfl rfl (Nat.le_of_ble_eq_true rfl) dX1_init_20 ⟨(Nat.le_of_ble_eq_true rfl), (Nat.le_of_ble_eq_true rfl)⟩ (fun v1 _ => ?_)
  refine ga_ws [0, 1, 2, 3, 4] (w9 := [(a, .inr (1, [.ref b0, .null, .null, .null, .null, .null, .null, .null, .null, .int 0, .int 0, .int 0])), (b0, .inr (0, [.ref v0])), (v0, .inl (cJ, 800, .inr (.inl (fun _ => 0)))), (b1, .inr (0, [.ref v1])), (v1, .inl (cJ, 800, .inr (.inl (fun _ => 0))))]) rfl rfl ?_
  refine ga_putF C in_X1_init tyX1 tyX1_ok nmX1 hmn 0 rfl rfl 1 (by decide) (by decide +kernel) rfl rfl (ty := .object "FlowShape$BlockSets") (by decide +kernel) rfl rfl (Nat.le_of_ble_eq_true rfl) dX1_init_23 (w9 := [(a, .inr (1, [.ref b0, .ref b1, .null, .null, .null, .null, .null, .null, .null, .int 0, .int 0, .int 0])), (b0, .inr (0, [.ref v0])), (v0, .inl (cJ, 800, .inr (.inl (fun _ => 0)))), (b1, .inr (0, [.ref v1])), (v1, .inl (cJ, 800, .inr (.inl (fun _ => 0))))]) rfl ?_
  refine ga_aload_n 0 C dX1_init_26 rfl rfl ?_
  refine ga_new (ci := 0) (fs := [.null]) C (T := TX0) (by decide +kernel) tyX0 tyX0_ok (by decide +kernel) (by decide +kernel) (by decide +kernel) rfl (fun j hj => by obtain rfl : j = 0 := (by omega); rfl) (Nat.le_of_ble_eq_true rfl) (Nat.le_of_ble_eq_true rfl) dX1_init_27 (fun b2 => ?_)
  refine ga_ws [0, 1, 2, 3, 4, 5] (w9 := [(a, .inr (1, [.ref b0, .ref b1, .null, .null, .null, .null, .null, .null, .null, .int 0, .int 0, .int 0])), (b0, .inr (0, [.ref v0])), (v0, .inl (cJ, 800, .inr (.inl (fun _ => 0)))), (b1, .inr (0, [.ref v1])), (v1, .inl (cJ, 800, .inr (.inl (fun _ => 0)))), (b2, .inr (0, [.null]))]) rfl rfl ?_
  refine ga_dup C dX1_init_30 rfl ?_
  refine ga_callNv (wr := [(a, .inr (1, [.ref b0, .ref b1, .null, .null, .null, .null, .null, .null, .null, .int 0, .int 0, .int 0])), (b0, .inr (0, [.ref v0])), (v0, .inl (cJ, 800, .inr (.inl (fun _ => 0)))), (b1, .inr (0, [.ref v1])), (v1, .inl (cJ, 800, .inr (.inl (fun _ => 0))))]) C (c_binit l G cI cJ cZ b2) (fun _ _ _ _ h => h) (fun _ _ => trivial) ⟨va_cnB 0 C.1.2.2.2.2 gX1_init_X0_init_n9 rfl rfl rfl hX (C.1.2.2.2.2 _ (by decide +kernel)) (by decide +kernel) ⟨Nat.le_of_ble_eq_true rfl, Nat.le_of_ble_eq_true rfl⟩, rfl, C.1.2.2.2.2 _ (by decide +kernel)⟩ [5] [0, 1, 2, 3, 4] rfl rfl rfl rfl (by decide) rfl rfl (Nat.le_of_ble_eq_true rfl) dX1_init_31 ⟨(Nat.le_of_ble_eq_true rfl), (Nat.le_of_ble_eq_true rfl)⟩ (fun v2 _ => ?_)
  refine ga_ws [0, 1, 2, 3, 4, 5, 6] (w9 := [(a, .inr (1, [.ref b0, .ref b1, .null, .null, .null, .null, .null, .null, .null, .int 0, .int 0, .int 0])), (b0, .inr (0, [.ref v0])), (v0, .inl (cJ, 800, .inr (.inl (fun _ => 0)))), (b1, .inr (0, [.ref v1])), (v1, .inl (cJ, 800, .inr (.inl (fun _ => 0)))), (b2, .inr (0, [.ref v2])), (v2, .inl (cJ, 800, .inr (.inl (fun _ => 0))))]) rfl rfl ?_
  refine ga_putF C in_X1_init tyX1 tyX1_ok nmX1 hmn 0 rfl rfl 2 (by decide) (by decide +kernel) rfl rfl (ty := .object "FlowShape$BlockSets") (by decide +kernel) rfl rfl (Nat.le_of_ble_eq_true rfl) dX1_init_34 (w9 := [(a, .inr (1, [.ref b0, .ref b1, .ref b2, .null, .null, .null, .null, .null, .null, .int 0, .int 0, .int 0])), (b0, .inr (0, [.ref v0])), (v0, .inl (cJ, 800, .inr (.inl (fun _ => 0)))), (b1, .inr (0, [.ref v1])), (v1, .inl (cJ, 800, .inr (.inl (fun _ => 0)))), (b2, .inr (0, [.ref v2])), (v2, .inl (cJ, 800, .inr (.inl (fun _ => 0))))]) rfl ?_
  refine ga_aload_n 0 C dX1_init_37 rfl rfl ?_
  refine ga_sipush (v := nI 200) C dX1_init_38 (by decide) ?_
  refine ga_newa (a0 := (200, .inl (nA (fun _ => 0)))) C 2 rfl ra_Z (by decide +kernel) rfl (fun cA => dv_z cA 200) (by decide) (by decide) (by decide) (Nat.le_of_ble_eq_true rfl) (Nat.le_of_ble_eq_true rfl) dX1_init_41 (fun rq => ?_)
  refine ga_ws [0, 1, 2, 3, 4, 5, 6, 7] (w9 := [(a, .inr (1, [.ref b0, .ref b1, .ref b2, .null, .null, .null, .null, .null, .null, .int 0, .int 0, .int 0])), (b0, .inr (0, [.ref v0])), (v0, .inl (cJ, 800, .inr (.inl (fun _ => 0)))), (b1, .inr (0, [.ref v1])), (v1, .inl (cJ, 800, .inr (.inl (fun _ => 0)))), (b2, .inr (0, [.ref v2])), (v2, .inl (cJ, 800, .inr (.inl (fun _ => 0)))), (rq, .inl (cZ, 200, .inl (nA (fun _ => 0))))]) rfl rfl ?_
  refine ga_putF C in_X1_init tyX1 tyX1_ok nmX1 hmn 0 rfl rfl 3 (by decide) (by decide +kernel) rfl rfl (ty := .array .boolean) (by decide +kernel) rfl rfl (Nat.le_of_ble_eq_true rfl) dX1_init_43 (w9 := [(a, .inr (1, [.ref b0, .ref b1, .ref b2, .ref rq, .null, .null, .null, .null, .null, .int 0, .int 0, .int 0])), (b0, .inr (0, [.ref v0])), (v0, .inl (cJ, 800, .inr (.inl (fun _ => 0)))), (b1, .inr (0, [.ref v1])), (v1, .inl (cJ, 800, .inr (.inl (fun _ => 0)))), (b2, .inr (0, [.ref v2])), (v2, .inl (cJ, 800, .inr (.inl (fun _ => 0)))), (rq, .inl (cZ, 200, .inl (nA (fun _ => 0))))]) rfl ?_
  refine ga_aload_n 0 C dX1_init_46 rfl rfl ?_
  refine ga_sipush (v := nI 200) C dX1_init_47 (by decide) ?_
  refine ga_newa (a0 := (200, .inl (nA (fun _ => 0)))) C 0 rfl ra_I (by decide +kernel) rfl (fun cA => dv_n cA 200) (by decide) (by decide) (by decide) (Nat.le_of_ble_eq_true rfl) (Nat.le_of_ble_eq_true rfl) dX1_init_50 (fun oq => ?_)
  refine ga_ws [0, 1, 2, 3, 4, 5, 6, 7, 8] (w9 := [(a, .inr (1, [.ref b0, .ref b1, .ref b2, .ref rq, .null, .null, .null, .null, .null, .int 0, .int 0, .int 0])), (b0, .inr (0, [.ref v0])), (v0, .inl (cJ, 800, .inr (.inl (fun _ => 0)))), (b1, .inr (0, [.ref v1])), (v1, .inl (cJ, 800, .inr (.inl (fun _ => 0)))), (b2, .inr (0, [.ref v2])), (v2, .inl (cJ, 800, .inr (.inl (fun _ => 0)))), (rq, .inl (cZ, 200, .inl (nA (fun _ => 0)))), (oq, .inl (cI, 200, .inl (nA (fun _ => 0))))]) rfl rfl ?_
  refine ga_putF C in_X1_init tyX1 tyX1_ok nmX1 hmn 0 rfl rfl 4 (by decide) (by decide +kernel) rfl rfl (ty := .array .int) (by decide +kernel) rfl rfl (Nat.le_of_ble_eq_true rfl) dX1_init_52 (w9 := [(a, .inr (1, [.ref b0, .ref b1, .ref b2, .ref rq, .ref oq, .null, .null, .null, .null, .int 0, .int 0, .int 0])), (b0, .inr (0, [.ref v0])), (v0, .inl (cJ, 800, .inr (.inl (fun _ => 0)))), (b1, .inr (0, [.ref v1])), (v1, .inl (cJ, 800, .inr (.inl (fun _ => 0)))), (b2, .inr (0, [.ref v2])), (v2, .inl (cJ, 800, .inr (.inl (fun _ => 0)))), (rq, .inl (cZ, 200, .inl (nA (fun _ => 0)))), (oq, .inl (cI, 200, .inl (nA (fun _ => 0))))]) rfl ?_
  refine ga_aload_n 0 C dX1_init_55 rfl rfl ?_
  refine ga_sipush (v := nI 200) C dX1_init_56 (by decide) ?_
  refine ga_newa (a0 := (200, .inl (nA (fun _ => 0)))) C 0 rfl ra_I (by decide +kernel) rfl (fun cA => dv_n cA 200) (by decide) (by decide) (by decide) (Nat.le_of_ble_eq_true rfl) (Nat.le_of_ble_eq_true rfl) dX1_init_59 (fun nq => ?_)
  refine ga_ws [0, 1, 2, 3, 4, 5, 6, 7, 8, 9] (w9 := [(a, .inr (1, [.ref b0, .ref b1, .ref b2, .ref rq, .ref oq, .null, .null, .null, .null, .int 0, .int 0, .int 0])), (b0, .inr (0, [.ref v0])), (v0, .inl (cJ, 800, .inr (.inl (fun _ => 0)))), (b1, .inr (0, [.ref v1])), (v1, .inl (cJ, 800, .inr (.inl (fun _ => 0)))), (b2, .inr (0, [.ref v2])), (v2, .inl (cJ, 800, .inr (.inl (fun _ => 0)))), (rq, .inl (cZ, 200, .inl (nA (fun _ => 0)))), (oq, .inl (cI, 200, .inl (nA (fun _ => 0)))), (nq, .inl (cI, 200, .inl (nA (fun _ => 0))))]) rfl rfl ?_
  refine ga_putF C in_X1_init tyX1 tyX1_ok nmX1 hmn 0 rfl rfl 5 (by decide) (by decide +kernel) rfl rfl (ty := .array .int) (by decide +kernel) rfl rfl (Nat.le_of_ble_eq_true rfl) dX1_init_61 (w9 := [(a, .inr (1, [.ref b0, .ref b1, .ref b2, .ref rq, .ref oq, .ref nq, .null, .null, .null, .int 0, .int 0, .int 0])), (b0, .inr (0, [.ref v0])), (v0, .inl (cJ, 800, .inr (.inl (fun _ => 0)))), (b1, .inr (0, [.ref v1])), (v1, .inl (cJ, 800, .inr (.inl (fun _ => 0)))), (b2, .inr (0, [.ref v2])), (v2, .inl (cJ, 800, .inr (.inl (fun _ => 0)))), (rq, .inl (cZ, 200, .inl (nA (fun _ => 0)))), (oq, .inl (cI, 200, .inl (nA (fun _ => 0)))), (nq, .inl (cI, 200, .inl (nA (fun _ => 0))))]) rfl ?_
  refine ga_aload_n 0 C dX1_init_64 rfl rfl ?_
  refine ga_sipush (v := nI 200) C dX1_init_65 (by decide) ?_
  refine ga_newa (a0 := (200, .inl (nA (fun _ => 0)))) C 0 rfl ra_I (by decide +kernel) rfl (fun cA => dv_n cA 200) (by decide) (by decide) (by decide) (Nat.le_of_ble_eq_true rfl) (Nat.le_of_ble_eq_true rfl) dX1_init_68 (fun wq => ?_)
  refine ga_ws [0, 1, 2, 3, 4, 5, 6, 7, 8, 9, 10] (w9 := [(a, .inr (1, [.ref b0, .ref b1, .ref b2, .ref rq, .ref oq, .ref nq, .null, .null, .null, .int 0, .int 0, .int 0])), (b0, .inr (0, [.ref v0])), (v0, .inl (cJ, 800, .inr (.inl (fun _ => 0)))), (b1, .inr (0, [.ref v1])), (v1, .inl (cJ, 800, .inr (.inl (fun _ => 0)))), (b2, .inr (0, [.ref v2])), (v2, .inl (cJ, 800, .inr (.inl (fun _ => 0)))), (rq, .inl (cZ, 200, .inl (nA (fun _ => 0)))), (oq, .inl (cI, 200, .inl (nA (fun _ => 0)))), (nq, .inl (cI, 200, .inl (nA (fun _ => 0)))), (wq, .inl (cI, 200, .inl (nA (fun _ => 0))))]) rfl rfl ?_
  refine ga_putF C in_X1_init tyX1 tyX1_ok nmX1 hmn 0 rfl rfl 6 (by decide) (by decide +kernel) rfl rfl (ty := .array .int) (by decide +kernel) rfl rfl (Nat.le_of_ble_eq_true rfl) dX1_init_70 (w9 := [(a, .inr (1, [.ref b0, .ref b1, .ref b2, .ref rq, .ref oq, .ref nq, .ref wq, .null, .null, .int 0, .int 0, .int 0])), (b0, .inr (0, [.ref v0])), (v0, .inl (cJ, 800, .inr (.inl (fun _ => 0)))), (b1, .inr (0, [.ref v1])), (v1, .inl (cJ, 800, .inr (.inl (fun _ => 0)))), (b2, .inr (0, [.ref v2])), (v2, .inl (cJ, 800, .inr (.inl (fun _ => 0)))), (rq, .inl (cZ, 200, .inl (nA (fun _ => 0)))), (oq, .inl (cI, 200, .inl (nA (fun _ => 0)))), (nq, .inl (cI, 200, .inl (nA (fun _ => 0)))), (wq, .inl (cI, 200, .inl (nA (fun _ => 0))))]) rfl ?_
  refine ga_aload_n 0 C dX1_init_73 rfl rfl ?_
  refine ga_sipush (v := nI 200) C dX1_init_74 (by decide) ?_
  refine ga_newa (a0 := (200, .inl (fun _ => 0))) C 0 rfl ra_I (by decide +kernel) rfl (fun cA => dv_i cA 200) (by decide) (by decide) (by decide) (Nat.le_of_ble_eq_true rfl) (Nat.le_of_ble_eq_true rfl) dX1_init_77 (fun lq => ?_)
  refine ga_ws [0, 1, 2, 3, 4, 5, 6, 7, 8, 9, 10, 11] (w9 := [(a, .inr (1, [.ref b0, .ref b1, .ref b2, .ref rq, .ref oq, .ref nq, .ref wq, .null, .null, .int 0, .int 0, .int 0])), (b0, .inr (0, [.ref v0])), (v0, .inl (cJ, 800, .inr (.inl (fun _ => 0)))), (b1, .inr (0, [.ref v1])), (v1, .inl (cJ, 800, .inr (.inl (fun _ => 0)))), (b2, .inr (0, [.ref v2])), (v2, .inl (cJ, 800, .inr (.inl (fun _ => 0)))), (rq, .inl (cZ, 200, .inl (nA (fun _ => 0)))), (oq, .inl (cI, 200, .inl (nA (fun _ => 0)))), (nq, .inl (cI, 200, .inl (nA (fun _ => 0)))), (wq, .inl (cI, 200, .inl (nA (fun _ => 0)))), (lq, .inl (cI, 200, .inl (fun _ => 0)))]) rfl rfl ?_
  refine ga_putF C in_X1_init tyX1 tyX1_ok nmX1 hmn 0 rfl rfl 7 (by decide) (by decide +kernel) rfl rfl (ty := .array .int) (by decide +kernel) rfl rfl (Nat.le_of_ble_eq_true rfl) dX1_init_79 (w9 := [(a, .inr (1, [.ref b0, .ref b1, .ref b2, .ref rq, .ref oq, .ref nq, .ref wq, .ref lq, .null, .int 0, .int 0, .int 0])), (b0, .inr (0, [.ref v0])), (v0, .inl (cJ, 800, .inr (.inl (fun _ => 0)))), (b1, .inr (0, [.ref v1])), (v1, .inl (cJ, 800, .inr (.inl (fun _ => 0)))), (b2, .inr (0, [.ref v2])), (v2, .inl (cJ, 800, .inr (.inl (fun _ => 0)))), (rq, .inl (cZ, 200, .inl (nA (fun _ => 0)))), (oq, .inl (cI, 200, .inl (nA (fun _ => 0)))), (nq, .inl (cI, 200, .inl (nA (fun _ => 0)))), (wq, .inl (cI, 200, .inl (nA (fun _ => 0)))), (lq, .inl (cI, 200, .inl (fun _ => 0)))]) rfl ?_
  refine ga_aload_n 0 C dX1_init_82 rfl rfl ?_
  refine ga_sipush (v := nI 200) C dX1_init_83 (by decide) ?_
  refine ga_newa (a0 := (200, .inl (nA (fun _ => 0)))) C 0 rfl ra_I (by decide +kernel) rfl (fun cA => dv_n cA 200) (by decide) (by decide) (by decide) (Nat.le_of_ble_eq_true rfl) (Nat.le_of_ble_eq_true rfl) dX1_init_86 (fun dq => ?_)
  refine ga_ws [0, 1, 2, 3, 4, 5, 6, 7, 8, 9, 10, 11, 12] (w9 := [(a, .inr (1, [.ref b0, .ref b1, .ref b2, .ref rq, .ref oq, .ref nq, .ref wq, .ref lq, .null, .int 0, .int 0, .int 0])), (b0, .inr (0, [.ref v0])), (v0, .inl (cJ, 800, .inr (.inl (fun _ => 0)))), (b1, .inr (0, [.ref v1])), (v1, .inl (cJ, 800, .inr (.inl (fun _ => 0)))), (b2, .inr (0, [.ref v2])), (v2, .inl (cJ, 800, .inr (.inl (fun _ => 0)))), (rq, .inl (cZ, 200, .inl (nA (fun _ => 0)))), (oq, .inl (cI, 200, .inl (nA (fun _ => 0)))), (nq, .inl (cI, 200, .inl (nA (fun _ => 0)))), (wq, .inl (cI, 200, .inl (nA (fun _ => 0)))), (lq, .inl (cI, 200, .inl (fun _ => 0))), (dq, .inl (cI, 200, .inl (nA (fun _ => 0))))]) rfl rfl ?_
  refine ga_putF C in_X1_init tyX1 tyX1_ok nmX1 hmn 0 rfl rfl 8 (by decide) (by decide +kernel) rfl rfl (ty := .array .int) (by decide +kernel) rfl rfl (Nat.le_of_ble_eq_true rfl) dX1_init_88 (w9 := [(a, .inr (1, [.ref b0, .ref b1, .ref b2, .ref rq, .ref oq, .ref nq, .ref wq, .ref lq, .ref dq, .int 0, .int 0, .int 0])), (b0, .inr (0, [.ref v0])), (v0, .inl (cJ, 800, .inr (.inl (fun _ => 0)))), (b1, .inr (0, [.ref v1])), (v1, .inl (cJ, 800, .inr (.inl (fun _ => 0)))), (b2, .inr (0, [.ref v2])), (v2, .inl (cJ, 800, .inr (.inl (fun _ => 0)))), (rq, .inl (cZ, 200, .inl (nA (fun _ => 0)))), (oq, .inl (cI, 200, .inl (nA (fun _ => 0)))), (nq, .inl (cI, 200, .inl (nA (fun _ => 0)))), (wq, .inl (cI, 200, .inl (nA (fun _ => 0)))), (lq, .inl (cI, 200, .inl (fun _ => 0))), (dq, .inl (cI, 200, .inl (nA (fun _ => 0))))]) rfl ?_
  refine ga_aload_n 0 C dX1_init_91 rfl rfl ?_
  refine ga_iconst (v := nI 1) C dX1_init_92 (by decide) ?_
  refine ga_put C in_X1_init tyX1 tyX1_ok nmX1 0 rfl rfl 9 (by decide) (by decide +kernel) rfl rfl (ty := .int) (by decide +kernel) rfl rfl (Nat.le_of_ble_eq_true rfl) dX1_init_93 (w9 := [(a, .inr (1, [.ref b0, .ref b1, .ref b2, .ref rq, .ref oq, .ref nq, .ref wq, .ref lq, .ref dq, .int (nI 1), .int 0, .int 0])), (b0, .inr (0, [.ref v0])), (v0, .inl (cJ, 800, .inr (.inl (fun _ => 0)))), (b1, .inr (0, [.ref v1])), (v1, .inl (cJ, 800, .inr (.inl (fun _ => 0)))), (b2, .inr (0, [.ref v2])), (v2, .inl (cJ, 800, .inr (.inl (fun _ => 0)))), (rq, .inl (cZ, 200, .inl (nA (fun _ => 0)))), (oq, .inl (cI, 200, .inl (nA (fun _ => 0)))), (nq, .inl (cI, 200, .inl (nA (fun _ => 0)))), (wq, .inl (cI, 200, .inl (nA (fun _ => 0)))), (lq, .inl (cI, 200, .inl (fun _ => 0))), (dq, .inl (cI, 200, .inl (nA (fun _ => 0))))]) rfl ?_
  refine ga_aload_n 0 C dX1_init_96 rfl rfl ?_
  refine ga_iconst (v := nI 0) C dX1_init_97 (by decide) ?_
  refine ga_put C in_X1_init tyX1 tyX1_ok nmX1 0 rfl rfl 10 (by decide) (by decide +kernel) rfl rfl (ty := .int) (by decide +kernel) rfl rfl (Nat.le_of_ble_eq_true rfl) dX1_init_98 (w9 := [(a, .inr (1, [.ref b0, .ref b1, .ref b2, .ref rq, .ref oq, .ref nq, .ref wq, .ref lq, .ref dq, .int (nI 1), .int (nI 0), .int 0])), (b0, .inr (0, [.ref v0])), (v0, .inl (cJ, 800, .inr (.inl (fun _ => 0)))), (b1, .inr (0, [.ref v1])), (v1, .inl (cJ, 800, .inr (.inl (fun _ => 0)))), (b2, .inr (0, [.ref v2])), (v2, .inl (cJ, 800, .inr (.inl (fun _ => 0)))), (rq, .inl (cZ, 200, .inl (nA (fun _ => 0)))), (oq, .inl (cI, 200, .inl (nA (fun _ => 0)))), (nq, .inl (cI, 200, .inl (nA (fun _ => 0)))), (wq, .inl (cI, 200, .inl (nA (fun _ => 0)))), (lq, .inl (cI, 200, .inl (fun _ => 0))), (dq, .inl (cI, 200, .inl (nA (fun _ => 0))))]) rfl ?_
  refine ga_aload_n 0 C dX1_init_101 rfl rfl ?_
  refine ga_iconst (v := nI 0) C dX1_init_102 (by decide) ?_
  refine ga_put C in_X1_init tyX1 tyX1_ok nmX1 0 rfl rfl 11 (by decide) (by decide +kernel) rfl rfl (ty := .int) (by decide +kernel) rfl rfl (Nat.le_of_ble_eq_true rfl) dX1_init_103 (w9 := [(a, .inr (1, [.ref b0, .ref b1, .ref b2, .ref rq, .ref oq, .ref nq, .ref wq, .ref lq, .ref dq, .int (nI 1), .int (nI 0), .int (nI 0)])), (b0, .inr (0, [.ref v0])), (v0, .inl (cJ, 800, .inr (.inl (fun _ => 0)))), (b1, .inr (0, [.ref v1])), (v1, .inl (cJ, 800, .inr (.inl (fun _ => 0)))), (b2, .inr (0, [.ref v2])), (v2, .inl (cJ, 800, .inr (.inl (fun _ => 0)))), (rq, .inl (cZ, 200, .inl (nA (fun _ => 0)))), (oq, .inl (cI, 200, .inl (nA (fun _ => 0)))), (nq, .inl (cI, 200, .inl (nA (fun _ => 0)))), (wq, .inl (cI, 200, .inl (nA (fun _ => 0)))), (lq, .inl (cI, 200, .inl (fun _ => 0))), (dq, .inl (cI, 200, .inl (nA (fun _ => 0))))]) rfl ?_
  refine ga_ws [0, 1, 3, 5, 2, 4, 6, 7, 8, 9, 10, 11, 12] (w9 := wX (fun k => [a, b0, b1, b2, v0, v1, v2, rq, oq, nq, wq, lq, dq].getD k 0) cI cJ cZ (fun _ => 0) (fun _ => 0) (fun _ => 0) (fun _ => 0) (fun _ => 0) (fun _ => 0) (fun _ => 0) (fun _ => 0) (fun _ => 0) 1 0 0) rfl rfl ?_
  exact ga_vretA C hr hlk dX1_init_106 (fun k => [a, b0, b1, b2, v0, v1, v2, rq, oq, nq, wq, lq, dq].getD k 0) rfl rfl
set_option maxHeartbeats 4000000 in
set_option maxRecDepth 100000 in
/-- FlowShapeModel(): ten rows; one block, no edges -/
theorem c_minit (l : Launch) (G : va_G) (cI cJ cZ : ClassId) (a : Nat) : ctA l yX2_init wsX2_init { frames := 1, cells := 10, slots := 5214, locals := 12 } G (ty3 cI cJ cZ) [.ref a] [(a, .inr (2, [.int 0, .null, .null, .int 0, .null, .null, .null, .null, .null, .null, .null, .null, .int 0]))] (fun _ => True) (fun am : Nat → Nat => am 0 = a) (fun am => wM am cI cZ (fun _ => 0) (fun _ => 0) 0 (fun _ => 0) (fun _ => 0) (fun _ => 0) (fun _ => 0) (fun _ => 0) (fun _ => 0) (fun _ => 0) (fun _ => 0) 1 0) 10 5214 := by
  refine metA (cc := cX2_init) (maxL := 1) (by decide) rfl rfl (Nat.le_of_ble_eq_true rfl) ?_
  intro p e s m below meth c C hr hlk hmn hX
  refine ga_lv (lv9 := [(0, .ref a)]) ⟨rfl, trivial⟩ ?_
  refine ga_aload_n 0 C dX2_init_0 rfl rfl ?_
  refine ga_objInit C (by decide +kernel) (by decide +kernel) (by decide +kernel) dX2_init_1 (Nat.le_of_ble_eq_true rfl) (Nat.le_of_ble_eq_true rfl) ?_
  refine ga_aload_n 0 C dX2_init_4 rfl rfl ?_
  refine ga_iconst (v := nI 1) C dX2_init_5 (by decide) ?_
  refine ga_put C in_X2_init tyX2 tyX2_ok nmX2 0 rfl rfl 0 (by decide) (by decide +kernel) rfl rfl (ty := .int) (by decide +kernel) rfl rfl (Nat.le_of_ble_eq_true rfl) dX2_init_6 (w9 := [(a, .inr (2, [.int (nI 1), .null, .null, .int 0, .null, .null, .null, .null, .null, .null, .null, .null, .int 0]))]) rfl ?_
  refine ga_aload_n 0 C dX2_init_9 rfl rfl ?_
  refine ga_sipush (v := nI 1400) C dX2_init_10 (by decide) ?_
  refine ga_newa (a0 := (1400, .inl (fun _ => 0))) C 0 rfl ra_I (by decide +kernel) rfl (fun cA => dv_i cA 1400) (by decide) (by decide) (by decide) (Nat.le_of_ble_eq_true rfl) (Nat.le_of_ble_eq_true rfl) dX2_init_13 (fun onq => ?_)
  refine ga_ws [0, 1] (w9 := [(a, .inr (2, [.int (nI 1), .null, .null, .int 0, .null, .null, .null, .null, .null, .null, .null, .null, .int 0])), (onq, .inl (cI, 1400, .inl (fun _ => 0)))]) rfl rfl ?_
  refine ga_putF C in_X2_init tyX2 tyX2_ok nmX2 hmn 0 rfl rfl 1 (by decide) (by decide +kernel) rfl rfl (ty := .array .int) (by decide +kernel) rfl rfl (Nat.le_of_ble_eq_true rfl) dX2_init_15 (w9 := [(a, .inr (2, [.int (nI 1), .ref onq, .null, .int 0, .null, .null, .null, .null, .null, .null, .null, .null, .int 0])), (onq, .inl (cI, 1400, .inl (fun _ => 0)))]) rfl ?_
  refine ga_aload_n 0 C dX2_init_18 rfl rfl ?_
  refine ga_sipush (v := nI 1400) C dX2_init_19 (by decide) ?_
  refine ga_newa (a0 := (1400, .inl (fun _ => 0))) C 0 rfl ra_I (by decide +kernel) rfl (fun cA => dv_i cA 1400) (by decide) (by decide) (by decide) (Nat.le_of_ble_eq_true rfl) (Nat.le_of_ble_eq_true rfl) dX2_init_22 (fun baq => ?_)
  refine ga_ws [0, 1, 2] (w9 := [(a, .inr (2, [.int (nI 1), .ref onq, .null, .int 0, .null, .null, .null, .null, .null, .null, .null, .null, .int 0])), (onq, .inl (cI, 1400, .inl (fun _ => 0))), (baq, .inl (cI, 1400, .inl (fun _ => 0)))]) rfl rfl ?_
  refine ga_putF C in_X2_init tyX2 tyX2_ok nmX2 hmn 0 rfl rfl 2 (by decide) (by decide +kernel) rfl rfl (ty := .array .int) (by decide +kernel) rfl rfl (Nat.le_of_ble_eq_true rfl) dX2_init_24 (w9 := [(a, .inr (2, [.int (nI 1), .ref onq, .ref baq, .int 0, .null, .null, .null, .null, .null, .null, .null, .null, .int 0])), (onq, .inl (cI, 1400, .inl (fun _ => 0))), (baq, .inl (cI, 1400, .inl (fun _ => 0)))]) rfl ?_
  refine ga_aload_n 0 C dX2_init_27 rfl rfl ?_
  refine ga_bipush (v := nI 7) C dX2_init_28 (by decide) ?_
  refine ga_newa (a0 := (7, .inl (fun _ => 0))) C 0 rfl ra_I (by decide +kernel) rfl (fun cA => dv_i cA 7) (by decide) (by decide) (by decide) (Nat.le_of_ble_eq_true rfl) (Nat.le_of_ble_eq_true rfl) dX2_init_30 (fun meq => ?_)
  refine ga_ws [0, 1, 2, 3] (w9 := [(a, .inr (2, [.int (nI 1), .ref onq, .ref baq, .int 0, .null, .null, .null, .null, .null, .null, .null, .null, .int 0])), (onq, .inl (cI, 1400, .inl (fun _ => 0))), (baq, .inl (cI, 1400, .inl (fun _ => 0))), (meq, .inl (cI, 7, .inl (fun _ => 0)))]) rfl rfl ?_
  refine ga_putF C in_X2_init tyX2 tyX2_ok nmX2 hmn 0 rfl rfl 4 (by decide) (by decide +kernel) rfl rfl (ty := .array .int) (by decide +kernel) rfl rfl (Nat.le_of_ble_eq_true rfl) dX2_init_32 (w9 := [(a, .inr (2, [.int (nI 1), .ref onq, .ref baq, .int 0, .ref meq, .null, .null, .null, .null, .null, .null, .null, .int 0])), (onq, .inl (cI, 1400, .inl (fun _ => 0))), (baq, .inl (cI, 1400, .inl (fun _ => 0))), (meq, .inl (cI, 7, .inl (fun _ => 0)))]) rfl ?_
  refine ga_aload_n 0 C dX2_init_35 rfl rfl ?_
  refine ga_sipush (v := nI 1400) C dX2_init_36 (by decide) ?_
  refine ga_newa (a0 := (1400, .inl (fun _ => 0))) C 0 rfl ra_I (by decide +kernel) rfl (fun cA => dv_i cA 1400) (by decide) (by decide) (by decide) (Nat.le_of_ble_eq_true rfl) (Nat.le_of_ble_eq_true rfl) dX2_init_39 (fun unq => ?_)
  refine ga_ws [0, 1, 2, 3, 4] (w9 := [(a, .inr (2, [.int (nI 1), .ref onq, .ref baq, .int 0, .ref meq, .null, .null, .null, .null, .null, .null, .null, .int 0])), (onq, .inl (cI, 1400, .inl (fun _ => 0))), (baq, .inl (cI, 1400, .inl (fun _ => 0))), (meq, .inl (cI, 7, .inl (fun _ => 0))), (unq, .inl (cI, 1400, .inl (fun _ => 0)))]) rfl rfl ?_
  refine ga_putF C in_X2_init tyX2 tyX2_ok nmX2 hmn 0 rfl rfl 5 (by decide) (by decide +kernel) rfl rfl (ty := .array .int) (by decide +kernel) rfl rfl (Nat.le_of_ble_eq_true rfl) dX2_init_41 (w9 := [(a, .inr (2, [.int (nI 1), .ref onq, .ref baq, .int 0, .ref meq, .ref unq, .null, .null, .null, .null, .null, .null, .int 0])), (onq, .inl (cI, 1400, .inl (fun _ => 0))), (baq, .inl (cI, 1400, .inl (fun _ => 0))), (meq, .inl (cI, 7, .inl (fun _ => 0))), (unq, .inl (cI, 1400, .inl (fun _ => 0)))]) rfl ?_
  refine ga_aload_n 0 C dX2_init_44 rfl rfl ?_
  refine ga_sipush (v := nI 200) C dX2_init_45 (by decide) ?_
  refine ga_newa (a0 := (200, .inl (nA (fun _ => 0)))) C 0 rfl ra_I (by decide +kernel) rfl (fun cA => dv_n cA 200) (by decide) (by decide) (by decide) (Nat.le_of_ble_eq_true rfl) (Nat.le_of_ble_eq_true rfl) dX2_init_48 (fun raq => ?_)
  refine ga_ws [0, 1, 2, 3, 4, 5] (w9 := [(a, .inr (2, [.int (nI 1), .ref onq, .ref baq, .int 0, .ref meq, .ref unq, .null, .null, .null, .null, .null, .null, .int 0])), (onq, .inl (cI, 1400, .inl (fun _ => 0))), (baq, .inl (cI, 1400, .inl (fun _ => 0))), (meq, .inl (cI, 7, .inl (fun _ => 0))), (unq, .inl (cI, 1400, .inl (fun _ => 0))), (raq, .inl (cI, 200, .inl (nA (fun _ => 0))))]) rfl rfl ?_
  refine ga_putF C in_X2_init tyX2 tyX2_ok nmX2 hmn 0 rfl rfl 6 (by decide) (by decide +kernel) rfl rfl (ty := .array .int) (by decide +kernel) rfl rfl (Nat.le_of_ble_eq_true rfl) dX2_init_50 (w9 := [(a, .inr (2, [.int (nI 1), .ref onq, .ref baq, .int 0, .ref meq, .ref unq, .ref raq, .null, .null, .null, .null, .null, .int 0])), (onq, .inl (cI, 1400, .inl (fun _ => 0))), (baq, .inl (cI, 1400, .inl (fun _ => 0))), (meq, .inl (cI, 7, .inl (fun _ => 0))), (unq, .inl (cI, 1400, .inl (fun _ => 0))), (raq, .inl (cI, 200, .inl (nA (fun _ => 0))))]) rfl ?_
  refine ga_aload_n 0 C dX2_init_53 rfl rfl ?_
  refine ga_sipush (v := nI 200) C dX2_init_54 (by decide) ?_
  refine ga_newa (a0 := (200, .inl (fun _ => 0))) C 0 rfl ra_I (by decide +kernel) rfl (fun cA => dv_i cA 200) (by decide) (by decide) (by decide) (Nat.le_of_ble_eq_true rfl) (Nat.le_of_ble_eq_true rfl) dX2_init_57 (fun neq => ?_)
  refine ga_ws [0, 1, 2, 3, 4, 5, 6] (w9 := [(a, .inr (2, [.int (nI 1), .ref onq, .ref baq, .int 0, .ref meq, .ref unq, .ref raq, .null, .null, .null, .null, .null, .int 0])), (onq, .inl (cI, 1400, .inl (fun _ => 0))), (baq, .inl (cI, 1400, .inl (fun _ => 0))), (meq, .inl (cI, 7, .inl (fun _ => 0))), (unq, .inl (cI, 1400, .inl (fun _ => 0))), (raq, .inl (cI, 200, .inl (nA (fun _ => 0)))), (neq, .inl (cI, 200, .inl (fun _ => 0)))]) rfl rfl ?_
  refine ga_putF C in_X2_init tyX2 tyX2_ok nmX2 hmn 0 rfl rfl 7 (by decide) (by decide +kernel) rfl rfl (ty := .array .int) (by decide +kernel) rfl rfl (Nat.le_of_ble_eq_true rfl) dX2_init_59 (w9 := [(a, .inr (2, [.int (nI 1), .ref onq, .ref baq, .int 0, .ref meq, .ref unq, .ref raq, .ref neq, .null, .null, .null, .null, .int 0])), (onq, .inl (cI, 1400, .inl (fun _ => 0))), (baq, .inl (cI, 1400, .inl (fun _ => 0))), (meq, .inl (cI, 7, .inl (fun _ => 0))), (unq, .inl (cI, 1400, .inl (fun _ => 0))), (raq, .inl (cI, 200, .inl (nA (fun _ => 0)))), (neq, .inl (cI, 200, .inl (fun _ => 0)))]) rfl ?_
  refine ga_aload_n 0 C dX2_init_62 rfl rfl ?_
  refine ga_sipush (v := nI 200) C dX2_init_63 (by decide) ?_
  refine ga_newa (a0 := (200, .inl (nA (fun _ => 0)))) C 2 rfl ra_Z (by decide +kernel) rfl (fun cA => dv_z cA 200) (by decide) (by decide) (by decide) (Nat.le_of_ble_eq_true rfl) (Nat.le_of_ble_eq_true rfl) dX2_init_66 (fun heq => ?_)
  refine ga_ws [0, 1, 2, 3, 4, 5, 6, 7] (w9 := [(a, .inr (2, [.int (nI 1), .ref onq, .ref baq, .int 0, .ref meq, .ref unq, .ref raq, .ref neq, .null, .null, .null, .null, .int 0])), (onq, .inl (cI, 1400, .inl (fun _ => 0))), (baq, .inl (cI, 1400, .inl (fun _ => 0))), (meq, .inl (cI, 7, .inl (fun _ => 0))), (unq, .inl (cI, 1400, .inl (fun _ => 0))), (raq, .inl (cI, 200, .inl (nA (fun _ => 0)))), (neq, .inl (cI, 200, .inl (fun _ => 0))), (heq, .inl (cZ, 200, .inl (nA (fun _ => 0))))]) rfl rfl ?_
  refine ga_putF C in_X2_init tyX2 tyX2_ok nmX2 hmn 0 rfl rfl 8 (by decide) (by decide +kernel) rfl rfl (ty := .array .boolean) (by decide +kernel) rfl rfl (Nat.le_of_ble_eq_true rfl) dX2_init_68 (w9 := [(a, .inr (2, [.int (nI 1), .ref onq, .ref baq, .int 0, .ref meq, .ref unq, .ref raq, .ref neq, .ref heq, .null, .null, .null, .int 0])), (onq, .inl (cI, 1400, .inl (fun _ => 0))), (baq, .inl (cI, 1400, .inl (fun _ => 0))), (meq, .inl (cI, 7, .inl (fun _ => 0))), (unq, .inl (cI, 1400, .inl (fun _ => 0))), (raq, .inl (cI, 200, .inl (nA (fun _ => 0)))), (neq, .inl (cI, 200, .inl (fun _ => 0))), (heq, .inl (cZ, 200, .inl (nA (fun _ => 0))))]) rfl ?_
  refine ga_aload_n 0 C dX2_init_71 rfl rfl ?_
  refine ga_sipush (v := nI 200) C dX2_init_72 (by decide) ?_
  refine ga_newa (a0 := (200, .inl (nA (fun _ => 0)))) C 0 rfl ra_I (by decide +kernel) rfl (fun cA => dv_n cA 200) (by decide) (by decide) (by decide) (Nat.le_of_ble_eq_true rfl) (Nat.le_of_ble_eq_true rfl) dX2_init_75 (fun deq => ?_)
  refine ga_ws [0, 1, 2, 3, 4, 5, 6, 7, 8] (w9 := [(a, .inr (2, [.int (nI 1), .ref onq, .ref baq, .int 0, .ref meq, .ref unq, .ref raq, .ref neq, .ref heq, .null, .null, .null, .int 0])), (onq, .inl (cI, 1400, .inl (fun _ => 0))), (baq, .inl (cI, 1400, .inl (fun _ => 0))), (meq, .inl (cI, 7, .inl (fun _ => 0))), (unq, .inl (cI, 1400, .inl (fun _ => 0))), (raq, .inl (cI, 200, .inl (nA (fun _ => 0)))), (neq, .inl (cI, 200, .inl (fun _ => 0))), (heq, .inl (cZ, 200, .inl (nA (fun _ => 0)))), (deq, .inl (cI, 200, .inl (nA (fun _ => 0))))]) rfl rfl ?_
  refine ga_putF C in_X2_init tyX2 tyX2_ok nmX2 hmn 0 rfl rfl 9 (by decide) (by decide +kernel) rfl rfl (ty := .array .int) (by decide +kernel) rfl rfl (Nat.le_of_ble_eq_true rfl) dX2_init_77 (w9 := [(a, .inr (2, [.int (nI 1), .ref onq, .ref baq, .int 0, .ref meq, .ref unq, .ref raq, .ref neq, .ref heq, .ref deq, .null, .null, .int 0])), (onq, .inl (cI, 1400, .inl (fun _ => 0))), (baq, .inl (cI, 1400, .inl (fun _ => 0))), (meq, .inl (cI, 7, .inl (fun _ => 0))), (unq, .inl (cI, 1400, .inl (fun _ => 0))), (raq, .inl (cI, 200, .inl (nA (fun _ => 0)))), (neq, .inl (cI, 200, .inl (fun _ => 0))), (heq, .inl (cZ, 200, .inl (nA (fun _ => 0)))), (deq, .inl (cI, 200, .inl (nA (fun _ => 0))))]) rfl ?_
  refine ga_aload_n 0 C dX2_init_80 rfl rfl ?_
  refine ga_bipush (v := nI 7) C dX2_init_81 (by decide) ?_
  refine ga_newa (a0 := (7, .inl (fun _ => 0))) C 0 rfl ra_I (by decide +kernel) rfl (fun cA => dv_i cA 7) (by decide) (by decide) (by decide) (Nat.le_of_ble_eq_true rfl) (Nat.le_of_ble_eq_true rfl) dX2_init_83 (fun waq => ?_)
  refine ga_ws [0, 1, 2, 3, 4, 5, 6, 7, 8, 9] (w9 := [(a, .inr (2, [.int (nI 1), .ref onq, .ref baq, .int 0, .ref meq, .ref unq, .ref raq, .ref neq, .ref heq, .ref deq, .null, .null, .int 0])), (onq, .inl (cI, 1400, .inl (fun _ => 0))), (baq, .inl (cI, 1400, .inl (fun _ => 0))), (meq, .inl (cI, 7, .inl (fun _ => 0))), (unq, .inl (cI, 1400, .inl (fun _ => 0))), (raq, .inl (cI, 200, .inl (nA (fun _ => 0)))), (neq, .inl (cI, 200, .inl (fun _ => 0))), (heq, .inl (cZ, 200, .inl (nA (fun _ => 0)))), (deq, .inl (cI, 200, .inl (nA (fun _ => 0)))), (waq, .inl (cI, 7, .inl (fun _ => 0)))]) rfl rfl ?_
  refine ga_putF C in_X2_init tyX2 tyX2_ok nmX2 hmn 0 rfl rfl 10 (by decide) (by decide +kernel) rfl rfl (ty := .array .int) (by decide +kernel) rfl rfl (Nat.le_of_ble_eq_true rfl) dX2_init_85 (w9 := [(a, .inr (2, [.int (nI 1), .ref onq, .ref baq, .int 0, .ref meq, .ref unq, .ref raq, .ref neq, .ref heq, .ref deq, .ref waq, .null, .int 0])), (onq, .inl (cI, 1400, .inl (fun _ => 0))), (baq, .inl (cI, 1400, .inl (fun _ => 0))), (meq, .inl (cI, 7, .inl (fun _ => 0))), (unq, .inl (cI, 1400, .inl (fun _ => 0))), (raq, .inl (cI, 200, .inl (nA (fun _ => 0)))), (neq, .inl (cI, 200, .inl (fun _ => 0))), (heq, .inl (cZ, 200, .inl (nA (fun _ => 0)))), (deq, .inl (cI, 200, .inl (nA (fun _ => 0)))), (waq, .inl (cI, 7, .inl (fun _ => 0)))]) rfl ?_
  refine ga_aload_n 0 C dX2_init_88 rfl rfl ?_
  refine ga_sipush (v := nI 200) C dX2_init_89 (by decide) ?_
  refine ga_newa (a0 := (200, .inl (nA (fun _ => 0)))) C 0 rfl ra_I (by decide +kernel) rfl (fun cA => dv_n cA 200) (by decide) (by decide) (by decide) (Nat.le_of_ble_eq_true rfl) (Nat.le_of_ble_eq_true rfl) dX2_init_92 (fun leq => ?_)
  refine ga_ws [0, 1, 2, 3, 4, 5, 6, 7, 8, 9, 10] (w9 := [(a, .inr (2, [.int (nI 1), .ref onq, .ref baq, .int 0, .ref meq, .ref unq, .ref raq, .ref neq, .ref heq, .ref deq, .ref waq, .null, .int 0])), (onq, .inl (cI, 1400, .inl (fun _ => 0))), (baq, .inl (cI, 1400, .inl (fun _ => 0))), (meq, .inl (cI, 7, .inl (fun _ => 0))), (unq, .inl (cI, 1400, .inl (fun _ => 0))), (raq, .inl (cI, 200, .inl (nA (fun _ => 0)))), (neq, .inl (cI, 200, .inl (fun _ => 0))), (heq, .inl (cZ, 200, .inl (nA (fun _ => 0)))), (deq, .inl (cI, 200, .inl (nA (fun _ => 0)))), (waq, .inl (cI, 7, .inl (fun _ => 0))), (leq, .inl (cI, 200, .inl (nA (fun _ => 0))))]) rfl rfl ?_
  refine ga_putF C in_X2_init tyX2 tyX2_ok nmX2 hmn 0 rfl rfl 11 (by decide) (by decide +kernel) rfl rfl (ty := .array .int) (by decide +kernel) rfl rfl (Nat.le_of_ble_eq_true rfl) dX2_init_94 (w9 := [(a, .inr (2, [.int (nI 1), .ref onq, .ref baq, .int 0, .ref meq, .ref unq, .ref raq, .ref neq, .ref heq, .ref deq, .ref waq, .ref leq, .int 0])), (onq, .inl (cI, 1400, .inl (fun _ => 0))), (baq, .inl (cI, 1400, .inl (fun _ => 0))), (meq, .inl (cI, 7, .inl (fun _ => 0))), (unq, .inl (cI, 1400, .inl (fun _ => 0))), (raq, .inl (cI, 200, .inl (nA (fun _ => 0)))), (neq, .inl (cI, 200, .inl (fun _ => 0))), (heq, .inl (cZ, 200, .inl (nA (fun _ => 0)))), (deq, .inl (cI, 200, .inl (nA (fun _ => 0)))), (waq, .inl (cI, 7, .inl (fun _ => 0))), (leq, .inl (cI, 200, .inl (nA (fun _ => 0))))]) rfl ?_
  refine ga_ws [0, 1, 2, 3, 4, 5, 6, 7, 8, 9, 10] (w9 := wM (fun k => [a, onq, baq, meq, unq, raq, neq, heq, deq, waq, leq].getD k 0) cI cZ (fun _ => 0) (fun _ => 0) 0 (fun _ => 0) (fun _ => 0) (fun _ => 0) (fun _ => 0) (fun _ => 0) (fun _ => 0) (fun _ => 0) (fun _ => 0) 1 0) rfl rfl ?_
  exact ga_vretA C hr hlk dX2_init_97 (fun k => [a, onq, baq, meq, unq, raq, neq, heq, deq, waq, leq].getD k 0) rfl rfl
end
section
/-! THE CLAIM OUT OF ONE WALK OF THE LAW'S BODY. Your part is whole_start (and what it stands on); all else here is the same for every law, but numbers. -/
def R_law : String := "FlowShapeLaw"
def lw_P (b : Addr) (xs : List Int32) (args : Array Value) (s : State) : Prop := args = #[.ref b] ∧ s.IntsAt b xs ∧ xs.length ≤ 2048 ∧ (Jvm.Cond.and given_1 narrow_1).before args s = true
def lw_Q (_ : Array Value) (s : State) (o : Outcome) (t : State) : Prop := o = .returned (some (.int 1)) ∧ Framed s o t [] 24 8842
def lw_Z (below : List Frame) (a : Array Value) (s : State) : State → Prop := fun t => ∃ o, t.status = .running ∧ Ended t below o ∧ lw_Q a s o t
/-- the law's own end, with 1 on the stack, nothing written that was there before, its room as the claim has it -/
theorem lw_ret {p : Program} {l : Launch} {e : Env} {s : State} {m : MethodId} {below : List Frame} {meth : Method} {c : Code} {b : Nat} (hx : p.tables.exec = Jvm.exec) (hb : c.code = code) (hr : meth.sig.returnType = ret) (hlocks : meth.locks = false) {pc : Nat} {H : Heap} {ls : Array Slot} (hdg : decode code pc = .ok (.ireturn, 1)) : W p l e room_1 s m #[Value.ref b] below meth c H [] 24 8842 (lw_Z below #[Value.ref b] s) (F0 m pc ls [.int 1]) := by
  intro T hT X
  obtain ⟨fs, hret, hrun, hended, hW, hframe⟩ := X.leave (v := some (.int 1)) (hlocks := hlocks) (fun h => by rw [hr] at h; cases h)
  have hmeth' : T.vm.method? m = some meth := X.method'
  refine ⟨T.setFrames fs, ?_, .returned (some (.int 1)), hrun, hended, rfl, ⟨_, rfl⟩, hW, hframe⟩
  jvm_step X.here [X.here.top, hx, hb, hdg, hmeth', hr, ret, narrow_b1]
  (try refine ⟨rfl, ?_⟩); (try refine ⟨rfl, ?_⟩)
  first | (intro acts; rw [hret _ acts rfl rfl rfl]) | rw [hret _ _ rfl rfl rfl]
  exact Steps.refl _
/-- what holds at the law's entry: the machine, the code, the tables' words (any of lw_tbl by 'hts w (by decide +kernel)'), the script of L ints xs at the cell b, what the Statement gives of the start (any of its parts by flat_of_before) -/
def lw_At (p : Program) (s : State) (m : MethodId) (meth : Method) (c : Code) (b L : Nat) (xs : Nat → Int32) : Prop :=
  p.tables.exec = Jvm.exec ∧ c.code = code ∧ meth.sig.returnType = ret ∧ c.maxLocals = 4 ∧ s.vm.findClass R_law = some m.cls ∧ (∀ w ∈ lw_tbl, w.before #[Value.ref b] s = true) ∧ va_X b L xs s s.heap ∧ b < s.heap.size ∧ meth.locks = false ∧ (Jvm.Cond.and given_1 narrow_1).before #[Value.ref b] s = true
section GLW
variable {p : Program} {l : Launch} {e : Env} {R : Room} {s : State} {m : MethodId} {args : Array Value} {below : List Frame} {meth : Method} {c : Code} {G : va_G} {A : Nat → Prop} {nL cells slots : Nat} {Q : State → Prop}
variable {cc : ByteArray} {Ts : List Cond} {own : String} {lv : List (Nat × Value)} {pc index : Nat} {st st0 : List Value} {cI cJ cZ : ClassId} {ws : va_W}
theorem ga_sld (C : gC p s m args c cc nL Ts own G (ty3 cI cJ cZ) A) {b L i : Nat} {xs : Nat → Int32} (hX : va_X b L xs s s.heap) (hbl : b < s.heap.size) (hbA : ¬ A b) (hi : i < L) (hN : L < 2 ^ 31) (hd : decode cc pc = .ok (.iaload, 1)) (k : gG p l e R s m args below meth c G A nL cells slots Q (ws) (lv) (pc + 1) (.int (xs i) :: st)) : gG p l e R s m args below meth c G A nL cells slots Q (ws) (lv) (pc) (.int (nI i) :: .ref b :: st) := fun H lo ls hl hP hD hS => va_sld C.1.1 C.1.2.1 hX hbl hbA hS (vp_in_nI hi hN) hd (by rw [nI_clamp (Nat.lt_trans hi hN)]; exact k H lo ls hl hP hD hS)
theorem ga_slen (C : gC p s m args c cc nL Ts own G (ty3 cI cJ cZ) A) {b L : Nat} {xs : Nat → Int32} (hX : va_X b L xs s s.heap) (hbl : b < s.heap.size) (hbA : ¬ A b) (hd : decode cc pc = .ok (.arraylength, 1)) (k : gG p l e R s m args below meth c G A nL cells slots Q (ws) (lv) (pc + 1) (.int (nI L) :: st)) : gG p l e R s m args below meth c G A nL cells slots Q (ws) (lv) (pc) (.ref b :: st) := fun H lo ls hl hP hD hS => va_slen C.1.1 C.1.2.1 hX hbl hbA hS hd (k H lo ls hl hP hD hS)
theorem ga_tableOut (tgt : Nat) (C : gC p s m args c cc nL Ts own G (ty3 cI cJ cZ) A) {dflt lo hi : Int} {offs : Array Int} {len : Nat} {x : Int32} (hd : decode cc pc = .ok (.tableswitch dflt lo hi offs, len)) (h : x.toInt < lo ∨ hi < x.toInt) (ht : (pc : Int) + dflt = (tgt : Int)) (k : gG p l e R s m args below meth c G A nL cells slots Q (ws) (lv) (tgt) (st)) : gG p l e R s m args below meth c G A nL cells slots Q (ws) (lv) (pc) (.int x :: st) := fun H lo ls hl hP hD hS => lv_tableOut C.1.1 C.1.2.1 hd h ht (k H lo ls hl hP hD hS)
theorem ga_tableIn (tgt : Nat) (C : gC p s m args c cc nL Ts own G (ty3 cI cJ cZ) A) {dflt lo hi off : Int} {offs : Array Int} {len : Nat} {x : Int32} (hd : decode cc pc = .ok (.tableswitch dflt lo hi offs, len)) (h1 : ¬ x.toInt < lo) (h2 : ¬ hi < x.toInt) (ho : offs[(x.toInt - lo).toNat]? = some off) (ht : (pc : Int) + off = (tgt : Int)) (k : gG p l e R s m args below meth c G A nL cells slots Q (ws) (lv) (tgt) (st)) : gG p l e R s m args below meth c G A nL cells slots Q (ws) (lv) (pc) (.int x :: st) := fun H lo ls hl hP hD hS => lv_tableIn C.1.1 C.1.2.1 hd h1 h2 ho ht (k H lo ls hl hP hD hS)
theorem gl_cx_i {ad am : Nat → Nat} {xT xS xD : Nat → Int64} {xRe xO xN xWt : Nat → Nat} {xL : Nat → Int32} {xP : Nat → Nat} {xbl xos xkn : Nat} {mon mba : Nat → Int32} {mik : Nat} {mme mun : Nat → Int32} {mra : Nat → Nat} {mne : Nat → Int32} {mhe mde : Nat → Nat} {mwa : Nat → Int32} {mle : Nat → Nat} {mn mwt : Nat} {y : MethodName} {wy : List Cond} {bytes : ByteArray} {maxL nn : Nat} {ret : Option FieldType} {rm : Room} {As : List Value} (C : gC p s m args c cc nL Ts own G (ty3 cI cJ cZ) A) {post : Int32 → XS → Prop} (hM : ctI l y wy rm G (ty3 cI cJ cZ) (.ref (ad 0) :: As) (wX ad cI cJ cZ xT xS xD xRe xO xN xWt xL xP xbl xos xkn) post (wXu ad cI cJ cZ)) (cw : CallW R s args own RX1 index y bytes maxL ret wy rm 0 0 nn) (hlen : As.length = nn) (hst : st0 = As.reverse ++ .ref (ad 0) :: st) (hroom : (st.map fun v => v.category).sum ≤ 8) (hd : decode cc pc = .ok (.invokevirtual index, 3)) (hcap : cells ≤ R.cells ∧ slots ≤ R.slots) (k : ∀ (r : Int32) (xT2 xS2 xD2 : Nat → Int64) (xRe2 xO2 xN2 xWt2 : Nat → Nat) (xL2 : Nat → Int32) (xP2 : Nat → Nat) (xbl2 xos2 xkn2 : Nat), post r (xT2, xS2, xD2, xRe2, xO2, xN2, xWt2, xL2, xP2, xbl2, xos2, xkn2) → gG p l e R s m args below meth c G A nL cells slots Q (wX ad cI cJ cZ xT2 xS2 xD2 xRe2 xO2 xN2 xWt2 xL2 xP2 xbl2 xos2 xkn2 ++ wM am cI cZ mon mba mik mme mun mra mne mhe mde mwa mle mn mwt) (lv) (pc + 3) (.int r :: st)) : gG p l e R s m args below meth c G A nL cells slots Q (wX ad cI cJ cZ xT xS xD xRe xO xN xWt xL xP xbl xos xkn ++ wM am cI cZ mon mba mik mme mun mra mne mhe mde mwa mle mn mwt) (lv) (pc) (st0) := ga_callVi (wr := wM am cI cZ mon mba mik mme mun mra mne mhe mde mwa mle mn mwt) C hM cw [0, 1, 2, 3, 4, 5, 6, 7, 8, 9, 10, 11, 12] [13, 14, 15, 16, 17, 18, 19, 20, 21, 22, 23] rfl rfl rfl rfl (by decide) 0 rfl rfl rfl hlen hst hroom hd hcap (fun r u hp => ga_ws [11, 12, 13, 14, 15, 16, 17, 18, 19, 20, 21, 22, 23, 0, 1, 2, 3, 4, 5, 6, 7, 8, 9, 10] (w9 := wXu ad cI cJ cZ u ++ wM am cI cZ mon mba mik mme mun mra mne mhe mde mwa mle mn mwt) rfl rfl (k r u.1 u.2.1 u.2.2.1 u.2.2.2.1 u.2.2.2.2.1 u.2.2.2.2.2.1 u.2.2.2.2.2.2.1 u.2.2.2.2.2.2.2.1 u.2.2.2.2.2.2.2.2.1 u.2.2.2.2.2.2.2.2.2.1 u.2.2.2.2.2.2.2.2.2.2.1 u.2.2.2.2.2.2.2.2.2.2.2 hp))
theorem gl_cx_r {ad am : Nat → Nat} {xT xS xD : Nat → Int64} {xRe xO xN xWt : Nat → Nat} {xL : Nat → Int32} {xP : Nat → Nat} {xbl xos xkn : Nat} {mon mba : Nat → Int32} {mik : Nat} {mme mun : Nat → Int32} {mra : Nat → Nat} {mne : Nat → Int32} {mhe mde : Nat → Nat} {mwa : Nat → Int32} {mle : Nat → Nat} {mn mwt : Nat} {y : MethodName} {wy : List Cond} {bytes : ByteArray} {maxL nn : Nat} {ret : Option FieldType} {rm : Room} {As : List Value} (C : gC p s m args c cc nL Ts own G (ty3 cI cJ cZ) A) {post : Int32 → Unit → Prop} (hM : ctI l y wy rm G (ty3 cI cJ cZ) (.ref (ad 0) :: As) (wX ad cI cJ cZ xT xS xD xRe xO xN xWt xL xP xbl xos xkn) post (fun _ => wX ad cI cJ cZ xT xS xD xRe xO xN xWt xL xP xbl xos xkn)) (cw : CallW R s args own RX1 index y bytes maxL ret wy rm 0 0 nn) (hlen : As.length = nn) (hst : st0 = As.reverse ++ .ref (ad 0) :: st) (hroom : (st.map fun v => v.category).sum ≤ 8) (hd : decode cc pc = .ok (.invokevirtual index, 3)) (hcap : cells ≤ R.cells ∧ slots ≤ R.slots) (k : ∀ r : Int32, post r () → gG p l e R s m args below meth c G A nL cells slots Q (wX ad cI cJ cZ xT xS xD xRe xO xN xWt xL xP xbl xos xkn ++ wM am cI cZ mon mba mik mme mun mra mne mhe mde mwa mle mn mwt) (lv) (pc + 3) (.int r :: st)) : gG p l e R s m args below meth c G A nL cells slots Q (wX ad cI cJ cZ xT xS xD xRe xO xN xWt xL xP xbl xos xkn ++ wM am cI cZ mon mba mik mme mun mra mne mhe mde mwa mle mn mwt) (lv) (pc) (st0) := ga_callVi (wr := wM am cI cZ mon mba mik mme mun mra mne mhe mde mwa mle mn mwt) C hM cw [0, 1, 2, 3, 4, 5, 6, 7, 8, 9, 10, 11, 12] [13, 14, 15, 16, 17, 18, 19, 20, 21, 22, 23] rfl rfl rfl rfl (by decide) 0 rfl rfl rfl hlen hst hroom hd hcap (fun r u hp => ga_ws [11, 12, 13, 14, 15, 16, 17, 18, 19, 20, 21, 22, 23, 0, 1, 2, 3, 4, 5, 6, 7, 8, 9, 10] (w9 := wX ad cI cJ cZ xT xS xD xRe xO xN xWt xL xP xbl xos xkn ++ wM am cI cZ mon mba mik mme mun mra mne mhe mde mwa mle mn mwt) rfl rfl (k r hp))
theorem gl_cm_i {ad am : Nat → Nat} {xT xS xD : Nat → Int64} {xRe xO xN xWt : Nat → Nat} {xL : Nat → Int32} {xP : Nat → Nat} {xbl xos xkn : Nat} {mon mba : Nat → Int32} {mik : Nat} {mme mun : Nat → Int32} {mra : Nat → Nat} {mne : Nat → Int32} {mhe mde : Nat → Nat} {mwa : Nat → Int32} {mle : Nat → Nat} {mn mwt : Nat} {y : MethodName} {wy : List Cond} {bytes : ByteArray} {maxL nn : Nat} {ret : Option FieldType} {rm : Room} {As : List Value} (C : gC p s m args c cc nL Ts own G (ty3 cI cJ cZ) A) {post : Int32 → MS → Prop} (hM : ctI l y wy rm G (ty3 cI cJ cZ) (.ref (am 0) :: As) (wM am cI cZ mon mba mik mme mun mra mne mhe mde mwa mle mn mwt) post (wMu am cI cZ)) (cw : CallW R s args own RX2 index y bytes maxL ret wy rm 0 0 nn) (hlen : As.length = nn) (hst : st0 = As.reverse ++ .ref (am 0) :: st) (hroom : (st.map fun v => v.category).sum ≤ 8) (hd : decode cc pc = .ok (.invokevirtual index, 3)) (hcap : cells ≤ R.cells ∧ slots ≤ R.slots) (k : ∀ (r : Int32) (mon2 mba2 : Nat → Int32) (mik2 : Nat) (mme2 mun2 : Nat → Int32) (mra2 : Nat → Nat) (mne2 : Nat → Int32) (mhe2 mde2 : Nat → Nat) (mwa2 : Nat → Int32) (mle2 : Nat → Nat) (mn2 mwt2 : Nat), post r (mon2, mba2, mik2, mme2, mun2, mra2, mne2, mhe2, mde2, mwa2, mle2, mn2, mwt2) → gG p l e R s m args below meth c G A nL cells slots Q (wX ad cI cJ cZ xT xS xD xRe xO xN xWt xL xP xbl xos xkn ++ wM am cI cZ mon2 mba2 mik2 mme2 mun2 mra2 mne2 mhe2 mde2 mwa2 mle2 mn2 mwt2) (lv) (pc + 3) (.int r :: st)) : gG p l e R s m args below meth c G A nL cells slots Q (wX ad cI cJ cZ xT xS xD xRe xO xN xWt xL xP xbl xos xkn ++ wM am cI cZ mon mba mik mme mun mra mne mhe mde mwa mle mn mwt) (lv) (pc) (st0) := ga_callVi (wr := wX ad cI cJ cZ xT xS xD xRe xO xN xWt xL xP xbl xos xkn) C hM cw [13, 14, 15, 16, 17, 18, 19, 20, 21, 22, 23] [0, 1, 2, 3, 4, 5, 6, 7, 8, 9, 10, 11, 12] rfl rfl rfl rfl (by decide) 0 rfl rfl rfl hlen hst hroom hd hcap (fun r u hp => k r u.1 u.2.1 u.2.2.1 u.2.2.2.1 u.2.2.2.2.1 u.2.2.2.2.2.1 u.2.2.2.2.2.2.1 u.2.2.2.2.2.2.2.1 u.2.2.2.2.2.2.2.2.1 u.2.2.2.2.2.2.2.2.2.1 u.2.2.2.2.2.2.2.2.2.2.1 u.2.2.2.2.2.2.2.2.2.2.2.1 u.2.2.2.2.2.2.2.2.2.2.2.2 hp)
theorem gl_cm_r {ad am : Nat → Nat} {xT xS xD : Nat → Int64} {xRe xO xN xWt : Nat → Nat} {xL : Nat → Int32} {xP : Nat → Nat} {xbl xos xkn : Nat} {mon mba : Nat → Int32} {mik : Nat} {mme mun : Nat → Int32} {mra : Nat → Nat} {mne : Nat → Int32} {mhe mde : Nat → Nat} {mwa : Nat → Int32} {mle : Nat → Nat} {mn mwt : Nat} {y : MethodName} {wy : List Cond} {bytes : ByteArray} {maxL nn : Nat} {ret : Option FieldType} {rm : Room} {As : List Value} (C : gC p s m args c cc nL Ts own G (ty3 cI cJ cZ) A) {post : Int32 → Unit → Prop} (hM : ctI l y wy rm G (ty3 cI cJ cZ) (.ref (am 0) :: As) (wM am cI cZ mon mba mik mme mun mra mne mhe mde mwa mle mn mwt) post (fun _ => wM am cI cZ mon mba mik mme mun mra mne mhe mde mwa mle mn mwt)) (cw : CallW R s args own RX2 index y bytes maxL ret wy rm 0 0 nn) (hlen : As.length = nn) (hst : st0 = As.reverse ++ .ref (am 0) :: st) (hroom : (st.map fun v => v.category).sum ≤ 8) (hd : decode cc pc = .ok (.invokevirtual index, 3)) (hcap : cells ≤ R.cells ∧ slots ≤ R.slots) (k : ∀ r : Int32, post r () → gG p l e R s m args below meth c G A nL cells slots Q (wX ad cI cJ cZ xT xS xD xRe xO xN xWt xL xP xbl xos xkn ++ wM am cI cZ mon mba mik mme mun mra mne mhe mde mwa mle mn mwt) (lv) (pc + 3) (.int r :: st)) : gG p l e R s m args below meth c G A nL cells slots Q (wX ad cI cJ cZ xT xS xD xRe xO xN xWt xL xP xbl xos xkn ++ wM am cI cZ mon mba mik mme mun mra mne mhe mde mwa mle mn mwt) (lv) (pc) (st0) := ga_callVi (wr := wX ad cI cJ cZ xT xS xD xRe xO xN xWt xL xP xbl xos xkn) C hM cw [13, 14, 15, 16, 17, 18, 19, 20, 21, 22, 23] [0, 1, 2, 3, 4, 5, 6, 7, 8, 9, 10, 11, 12] rfl rfl rfl rfl (by decide) 0 rfl rfl rfl hlen hst hroom hd hcap (fun r u hp => k r hp)
end GLW
theorem szP_both {n : Nat} {E : Nat → Nat → Bool} {x r1 r2 : Int32} {I1 I2 : Nat → (Nat → Nat → Bool) → Prop} (h1 : szP n E x r1 I1) (h2 : szP n E x r2 I2) : r1 = r2 ∧ ∃ k F, I1 k F ∧ I2 k F := by
  rcases h1 with ⟨k, a1, a2, a3, a4, a5⟩ | ⟨a1, a2, a3⟩ <;> rcases h2 with ⟨j, b1, b2, b3, b4, b5⟩ | ⟨b1, b2, b3⟩
  · obtain rfl : k = j := (nI_eq (by omega) (by omega)).mp (a3.symm.trans b3)
    exact ⟨by rw [a4, b4], k, _, a5, b5⟩
  · exact absurd a3 (b1 k a1 a2)
  · exact absurd b3 (a1 j b1 b2)
  · exact ⟨by rw [a2, b2], n, E, a3, b3⟩
theorem egP_both {n : Nat} {E : Nat → Nat → Bool} {x y : Int32} {i : Nat} {r1 r2 : Int32} {I1 I2 : (Nat → Nat → Bool) → Prop} (hn : n ≤ 200) (h1 : egP n E x y i r1 I1) (h2 : egP n E x y i r2 I2) : r1 = r2 ∧ ∃ F, I1 F ∧ I2 F := by
  rcases h1 with ⟨a, b, a1, a2, a3⟩ | ⟨a1, a2, a3⟩ <;> rcases h2 with ⟨c, d, b1, b2, b3⟩ | ⟨b1, b2, b3⟩
  · obtain rfl := isB_un hn a1.1 b1.1
    obtain rfl := isB_un hn a1.2.1 b1.2.1
    exact ⟨by rw [a2, b2], _, a3, b3⟩
  · exact absurd a1 (b1 a b)
  · exact absurd b1 (a1 c d)
  · exact ⟨by rw [a2, b2], E, a3, b3⟩
theorem idP_un {n : Nat} {E : Nat → Nat → Bool} {x r1 r2 : Int32} (hg : gOk n E) (h1 : idP n E x r1) (h2 : idP n E x r2) : r1 = r2 := by
  rcases h1 with ⟨a, a1, a2⟩ | ⟨a1, a2⟩ <;> rcases h2 with ⟨b, b1, b2⟩ | ⟨b1, b2⟩
  · obtain rfl := isB_un hg.2.1 a1 b1
    exact isId_un hg a2 b2
  · exact absurd a1 (b1 a)
  · exact absurd b1 (a1 b)
  · rw [a2, b2]
theorem dpP_un {n : Nat} {E : Nat → Nat → Bool} {x r1 r2 : Int32} (hg : gOk n E) (h1 : dpP n E x r1) (h2 : dpP n E x r2) : r1 = r2 := by
  rcases h1 with ⟨a, a1, a2⟩ | ⟨a1, a2⟩ <;> rcases h2 with ⟨b, b1, b2⟩ | ⟨b1, b2⟩
  · obtain rfl := isB_un hg.2.1 a1 b1
    rw [a2, b2]
  · exact absurd a1 (b1 a)
  · exact absurd b1 (a1 b)
  · rw [a2, b2]
theorem lp_gt {i L : Nat} (hi : i < 2 ^ 20) (hL : L < 2 ^ 20) : nI L - nI 4 < nI i ↔ L < i + 4 := by
  rw [Int32.lt_iff_toInt_lt, pk_sub_toInt (by omega) (by omega), nI_toInt (by omega)]
  omega

set_option maxHeartbeats 8000000 in
set_option maxRecDepth 100000 in
/-- the law's loop -/
theorem law_loop {p : Program} {e : Env} {s : State} {m : MethodId} {below : List Frame} {meth : Method} {c : Code} (l : Launch) {b L : Nat} {xs : Nat → Int32} (hL : L ≤ 2048) (C0 : lw_At p s m meth c b L xs) {G : va_G} {cI cJ cZ : ClassId} (C : gC p s m #[Value.ref b] c cL_law 4 wsL_law RL G (ty3 cI cJ cZ) (fun q : Nat => s.heap.size ≤ q)) (ad am : Nat → Nat) : ∀ i, i ≤ L → ∀ (n : Nat) (E : Nat → Nat → Bool) (xT xS xD : Nat → Int64) (xRe xO xN xWt : Nat → Nat) (xL : Nat → Int32) (xP : Nat → Nat) (xbl xos xkn : Nat) (mon mba : Nat → Int32) (mik : Nat) (mme mun : Nat → Int32) (mra : Nat → Nat) (mne : Nat → Int32) (mhe mde : Nat → Nat) (mwa : Nat → Int32) (mle : Nat → Nat) (mn mwt : Nat), xI n E xT xS xD xRe xO xP xbl xos xkn → mI n E mon mba mik mme mun mne mhe mde mn → gG p l e room_1 s m #[Value.ref b] below meth c G (fun q : Nat => s.heap.size ≤ q) 4 24 8842 (lw_Z below #[Value.ref b] s) (wX ad cI cJ cZ xT xS xD xRe xO xN xWt xL xP xbl xos xkn ++ wM am cI cZ mon mba mik mme mun mra mne mhe mde mwa mle mn mwt) [(0, .ref b), (1, .ref (ad 0)), (2, .ref (am 0)), (3, .int (nI i))] 18 [] := by
  obtain ⟨hx, hb, hr, hml, hown, hts, hX, hbl, hlocks, hgv⟩ := id C0
  have hbA : ¬ (fun q : Nat => s.heap.size ≤ q) b := Nat.not_le.mpr hbl
  refine up_ind L ?_
  intro i hi ih n E xT xS xD xRe xO xN xWt xL xP xbl xos xkn mon mba mik mme mun mra mne mhe mde mwa mle mn mwt hxI hmI
  have hgO := hxI.1.1
  have hn2 := hgO.2.1
  refine ga_iload_n 3 C dL_law_18 rfl rfl ?_
  refine ga_aload_n 0 C dL_law_19 rfl rfl ?_
  refine ga_slen C hX hbl hbA dL_law_20 ?_
  refine ga_iconst (v := nI 4) C dL_law_21 (by decide) ?_
  refine ga_isub C dL_law_22 rfl ?_
  refine ga_icmp_gt 343 C dL_law_23 (by decide) (fun h9 => ?_) (fun h9 => ?_)
  · refine ga_iconst (v := 1) C dL_law_343 (by decide) ?_
    exact fun H lo ls hl hP hD hS => va_forget hS.2.2 (lw_ret hx hb hr hlocks dL_law_344)
  have hiL : i + 4 ≤ L := Nat.le_of_not_lt (fun q => h9 ((lp_gt (by omega) (by omega)).mpr q))
  refine ga_tail (α := Nat × (Nat → Nat → Bool) × XS × MS) (H := fun q => xIu q.1 q.2.1 q.2.2.1 ∧ mIu q.1 q.2.1 q.2.2.2) (w9 := fun q => wXu ad cI cJ cZ q.2.2.1 ++ wMu am cI cZ q.2.2.2) (lv9 := fun _ => [(0, .ref b), (1, .ref (ad 0)), (2, .ref (am 0)), (3, .int (nI i))]) (pc9 := 337) (F := fun _ => []) ?_ (fun tail => ?_)
  · rintro ⟨n2, E2, u, v⟩ ⟨y1, y2⟩
    refine ga_iinc 3 C dL_law_337 rfl (nI_inc4 _) (by decide) rfl ?_
    refine ga_goto 18 C dL_law_340 (by decide) ?_
    refine ga_lv (lv9 := [(0, .ref b), (1, .ref (ad 0)), (2, .ref (am 0)), (3, .int (nI (i + 4)))]) ⟨rfl, rfl, rfl, rfl, trivial⟩ ?_
    exact ih (i + 4) (by omega) hiL n2 E2 (u.1) (u.2.1) (u.2.2.1) (u.2.2.2.1) (u.2.2.2.2.1) (u.2.2.2.2.2.1) (u.2.2.2.2.2.2.1) (u.2.2.2.2.2.2.2.1) (u.2.2.2.2.2.2.2.2.1) (u.2.2.2.2.2.2.2.2.2.1) (u.2.2.2.2.2.2.2.2.2.2.1) (u.2.2.2.2.2.2.2.2.2.2.2) (v.1) (v.2.1) (v.2.2.1) (v.2.2.2.1) (v.2.2.2.2.1) (v.2.2.2.2.2.1) (v.2.2.2.2.2.2.1) (v.2.2.2.2.2.2.2.1) (v.2.2.2.2.2.2.2.2.1) (v.2.2.2.2.2.2.2.2.2.1) (v.2.2.2.2.2.2.2.2.2.2.1) (v.2.2.2.2.2.2.2.2.2.2.2.1) (v.2.2.2.2.2.2.2.2.2.2.2.2) y1 y2
  refine ga_aload_n 0 C dL_law_26 rfl rfl ?_
  refine ga_iload_n 3 C dL_law_27 rfl rfl ?_
  refine ga_sld C hX hbl hbA (by omega) (by omega) dL_law_28 ?_
  refine ga_bipush (v := nI 15) C dL_law_29 (by decide) ?_
  obtain ⟨j, hj, ej⟩ := pk_andE (xs i) (m := nI 15) 4 (by decide)
  refine ga_iand (v := nI j) C dL_law_31 ej ?_
  by_cases hj9 : 9 ≤ j
  · refine ga_tableOut 337 C dL_law_32 (Or.inr ?_) (by decide) ?_
    · rw [nI_toInt (by omega)]; omega
    exact ga_lk (tail (n, E, (xT, xS, xD, xRe, xO, xN, xWt, xL, xP, xbl, xos, xkn), (mon, mba, mik, mme, mun, mra, mne, mhe, mde, mwa, mle, mn, mwt)) ⟨hxI, hmI⟩) ⟨rfl, rfl, rfl, rfl, trivial⟩
  obtain h0 | h0 | h0 | h0 | h0 | h0 | h0 | h0 | h0 : j = 0 ∨ j = 1 ∨ j = 2 ∨ j = 3 ∨ j = 4 ∨ j = 5 ∨ j = 6 ∨ j = 7 ∨ j = 8 := by omega
  · subst h0
    refine ga_tableIn (off := 52) 84 C dL_law_32 (by decide) (by decide) (by decide) (by decide) ?_
    refine ga_aload_n 1 C dL_law_84 rfl rfl ?_
    refine ga_aload_n 0 C dL_law_85 rfl rfl ?_
    refine ga_iload_n 3 C dL_law_86 rfl rfl ?_
    refine ga_iconst (v := nI 1) C dL_law_87 (by decide) ?_
    refine ga_iadd C dL_law_88 (nI_add _ _) ?_
    refine ga_sld C hX hbl hbA (by omega) (by omega) dL_law_89 ?_
    refine gl_cx_i C (c_xsize l G cI cJ cZ ad xT xS xD xRe xO xN xWt xL xP xbl xos xkn n E (xs (i + 1)) hxI) (cwV 1 C.1.2.2.2.2 gL_law_X1_size rfl rfl rfl (by decide +kernel) ⟨Nat.le_of_ble_eq_true rfl, Nat.le_of_ble_eq_true rfl⟩) rfl rfl (Nat.le_of_ble_eq_true rfl) dL_law_90 ⟨Nat.le_of_ble_eq_true rfl, Nat.le_of_ble_eq_true rfl⟩ (fun r1 xT2 xS2 xD2 xRe2 xO2 xN2 xWt2 xL2 xP2 xbl2 xos2 xkn2 h1 => ?_)
    refine ga_aload_n 2 C dL_law_93 rfl rfl ?_
    refine ga_aload_n 0 C dL_law_94 rfl rfl ?_
    refine ga_iload_n 3 C dL_law_95 rfl rfl ?_
    refine ga_iconst (v := nI 1) C dL_law_96 (by decide) ?_
    refine ga_iadd C dL_law_97 (nI_add _ _) ?_
    refine ga_sld C hX hbl hbA (by omega) (by omega) dL_law_98 ?_
    refine gl_cm_i C (c_msize l G cI cJ cZ am mon mba mik mme mun mra mne mhe mde mwa mle mn mwt n E (xs (i + 1)) hmI) (cwV 1 C.1.2.2.2.2 gL_law_X2_size rfl rfl rfl (by decide +kernel) ⟨Nat.le_of_ble_eq_true rfl, Nat.le_of_ble_eq_true rfl⟩) rfl rfl (Nat.le_of_ble_eq_true rfl) dL_law_99 ⟨Nat.le_of_ble_eq_true rfl, Nat.le_of_ble_eq_true rfl⟩ (fun r2 mon2 mba2 mik2 mme2 mun2 mra2 mne2 mhe2 mde2 mwa2 mle2 mn2 mwt2 h2 => ?_)
    obtain ⟨er, k, F, z1, z2⟩ := szP_both h1 h2
    refine ga_icmp_eq 337 C dL_law_102 (by decide) (fun _ => ?_) (fun h => absurd (er) h)
    exact ga_lk (tail (k, F, (xT2, xS2, xD2, xRe2, xO2, xN2, xWt2, xL2, xP2, xbl2, xos2, xkn2), (mon2, mba2, mik2, mme2, mun2, mra2, mne2, mhe2, mde2, mwa2, mle2, mn2, mwt2)) ⟨z1, z2⟩) ⟨rfl, rfl, rfl, rfl, trivial⟩
  · subst h0
    refine ga_tableIn (off := 75) 107 C dL_law_32 (by decide) (by decide) (by decide) (by decide) ?_
    by_cases hz : xs (i + 3) = 0
    · skip
      refine ga_aload_n 1 C dL_law_107 rfl rfl ?_
      refine ga_aload_n 0 C dL_law_108 rfl rfl ?_
      refine ga_iload_n 3 C dL_law_109 rfl rfl ?_
      refine ga_iconst (v := nI 1) C dL_law_110 (by decide) ?_
      refine ga_iadd C dL_law_111 (nI_add _ _) ?_
      refine ga_sld C hX hbl hbA (by omega) (by omega) dL_law_112 ?_
      refine ga_aload_n 0 C dL_law_113 rfl rfl ?_
      refine ga_iload_n 3 C dL_law_114 rfl rfl ?_
      refine ga_iconst (v := nI 2) C dL_law_115 (by decide) ?_
      refine ga_iadd C dL_law_116 (nI_add _ _) ?_
      refine ga_sld C hX hbl hbA (by omega) (by omega) dL_law_117 ?_
      refine ga_aload_n 0 C dL_law_118 rfl rfl ?_
      refine ga_iload_n 3 C dL_law_119 rfl rfl ?_
      refine ga_iconst (v := nI 3) C dL_law_120 (by decide) ?_
      refine ga_iadd C dL_law_121 (nI_add _ _) ?_
      refine ga_sld C hX hbl hbA (by omega) (by omega) dL_law_122 ?_
      refine ga_if_eq 130 C dL_law_123 (by decide) (fun _ => ?_) (fun h => absurd hz h)
      refine ga_iconst (v := nI 0) C dL_law_130 (by decide) ?_
      refine gl_cx_i C (c_xedge l G cI cJ cZ ad xT xS xD xRe xO xN xWt xL xP xbl xos xkn n E (xs (i + 1)) (xs (i + 2)) 0 (by omega) hxI) (cwV 3 C.1.2.2.2.2 gL_law_X1_edge rfl rfl rfl (by decide +kernel) ⟨Nat.le_of_ble_eq_true rfl, Nat.le_of_ble_eq_true rfl⟩) rfl rfl (Nat.le_of_ble_eq_true rfl) dL_law_131 ⟨Nat.le_of_ble_eq_true rfl, Nat.le_of_ble_eq_true rfl⟩ (fun r1 xT2 xS2 xD2 xRe2 xO2 xN2 xWt2 xL2 xP2 xbl2 xos2 xkn2 h1 => ?_)
      refine ga_aload_n 2 C dL_law_134 rfl rfl ?_
      refine ga_aload_n 0 C dL_law_135 rfl rfl ?_
      refine ga_iload_n 3 C dL_law_136 rfl rfl ?_
      refine ga_iconst (v := nI 1) C dL_law_137 (by decide) ?_
      refine ga_iadd C dL_law_138 (nI_add _ _) ?_
      refine ga_sld C hX hbl hbA (by omega) (by omega) dL_law_139 ?_
      refine ga_aload_n 0 C dL_law_140 rfl rfl ?_
      refine ga_iload_n 3 C dL_law_141 rfl rfl ?_
      refine ga_iconst (v := nI 2) C dL_law_142 (by decide) ?_
      refine ga_iadd C dL_law_143 (nI_add _ _) ?_
      refine ga_sld C hX hbl hbA (by omega) (by omega) dL_law_144 ?_
      refine ga_aload_n 0 C dL_law_145 rfl rfl ?_
      refine ga_iload_n 3 C dL_law_146 rfl rfl ?_
      refine ga_iconst (v := nI 3) C dL_law_147 (by decide) ?_
      refine ga_iadd C dL_law_148 (nI_add _ _) ?_
      refine ga_sld C hX hbl hbA (by omega) (by omega) dL_law_149 ?_
      refine ga_if_eq 157 C dL_law_150 (by decide) (fun _ => ?_) (fun h => absurd hz h)
      refine ga_iconst (v := nI 0) C dL_law_157 (by decide) ?_
      refine gl_cm_i C (c_medge l G cI cJ cZ am mon mba mik mme mun mra mne mhe mde mwa mle mn mwt n E (xs (i + 1)) (xs (i + 2)) 0 (by omega) hmI) (cwV 3 C.1.2.2.2.2 gL_law_X2_edge rfl rfl rfl (by decide +kernel) ⟨Nat.le_of_ble_eq_true rfl, Nat.le_of_ble_eq_true rfl⟩) rfl rfl (Nat.le_of_ble_eq_true rfl) dL_law_158 ⟨Nat.le_of_ble_eq_true rfl, Nat.le_of_ble_eq_true rfl⟩ (fun r2 mon2 mba2 mik2 mme2 mun2 mra2 mne2 mhe2 mde2 mwa2 mle2 mn2 mwt2 h2 => ?_)
      obtain ⟨er, F, z1, z2⟩ := egP_both hn2 h1 h2
      refine ga_icmp_eq 337 C dL_law_161 (by decide) (fun _ => ?_) (fun h => absurd (er) h)
      exact ga_lk (tail (n, F, (xT2, xS2, xD2, xRe2, xO2, xN2, xWt2, xL2, xP2, xbl2, xos2, xkn2), (mon2, mba2, mik2, mme2, mun2, mra2, mne2, mhe2, mde2, mwa2, mle2, mn2, mwt2)) ⟨z1, z2⟩) ⟨rfl, rfl, rfl, rfl, trivial⟩
    · skip
      refine ga_aload_n 1 C dL_law_107 rfl rfl ?_
      refine ga_aload_n 0 C dL_law_108 rfl rfl ?_
      refine ga_iload_n 3 C dL_law_109 rfl rfl ?_
      refine ga_iconst (v := nI 1) C dL_law_110 (by decide) ?_
      refine ga_iadd C dL_law_111 (nI_add _ _) ?_
      refine ga_sld C hX hbl hbA (by omega) (by omega) dL_law_112 ?_
      refine ga_aload_n 0 C dL_law_113 rfl rfl ?_
      refine ga_iload_n 3 C dL_law_114 rfl rfl ?_
      refine ga_iconst (v := nI 2) C dL_law_115 (by decide) ?_
      refine ga_iadd C dL_law_116 (nI_add _ _) ?_
      refine ga_sld C hX hbl hbA (by omega) (by omega) dL_law_117 ?_
      refine ga_aload_n 0 C dL_law_118 rfl rfl ?_
      refine ga_iload_n 3 C dL_law_119 rfl rfl ?_
      refine ga_iconst (v := nI 3) C dL_law_120 (by decide) ?_
      refine ga_iadd C dL_law_121 (nI_add _ _) ?_
      refine ga_sld C hX hbl hbA (by omega) (by omega) dL_law_122 ?_
      refine ga_if_eq 130 C dL_law_123 (by decide) (fun h => absurd h hz) (fun _ => ?_)
      refine ga_iconst (v := nI 1) C dL_law_126 (by decide) ?_
      refine ga_goto 131 C dL_law_127 (by decide) ?_
      refine gl_cx_i C (c_xedge l G cI cJ cZ ad xT xS xD xRe xO xN xWt xL xP xbl xos xkn n E (xs (i + 1)) (xs (i + 2)) 1 (by omega) hxI) (cwV 3 C.1.2.2.2.2 gL_law_X1_edge rfl rfl rfl (by decide +kernel) ⟨Nat.le_of_ble_eq_true rfl, Nat.le_of_ble_eq_true rfl⟩) rfl rfl (Nat.le_of_ble_eq_true rfl) dL_law_131 ⟨Nat.le_of_ble_eq_true rfl, Nat.le_of_ble_eq_true rfl⟩ (fun r1 xT2 xS2 xD2 xRe2 xO2 xN2 xWt2 xL2 xP2 xbl2 xos2 xkn2 h1 => ?_)
      refine ga_aload_n 2 C dL_law_134 rfl rfl ?_
      refine ga_aload_n 0 C dL_law_135 rfl rfl ?_
      refine ga_iload_n 3 C dL_law_136 rfl rfl ?_
      refine ga_iconst (v := nI 1) C dL_law_137 (by decide) ?_
      refine ga_iadd C dL_law_138 (nI_add _ _) ?_
      refine ga_sld C hX hbl hbA (by omega) (by omega) dL_law_139 ?_
      refine ga_aload_n 0 C dL_law_140 rfl rfl ?_
      refine ga_iload_n 3 C dL_law_141 rfl rfl ?_
      refine ga_iconst (v := nI 2) C dL_law_142 (by decide) ?_
      refine ga_iadd C dL_law_143 (nI_add _ _) ?_
      refine ga_sld C hX hbl hbA (by omega) (by omega) dL_law_144 ?_
      refine ga_aload_n 0 C dL_law_145 rfl rfl ?_
      refine ga_iload_n 3 C dL_law_146 rfl rfl ?_
      refine ga_iconst (v := nI 3) C dL_law_147 (by decide) ?_
      refine ga_iadd C dL_law_148 (nI_add _ _) ?_
      refine ga_sld C hX hbl hbA (by omega) (by omega) dL_law_149 ?_
      refine ga_if_eq 157 C dL_law_150 (by decide) (fun h => absurd h hz) (fun _ => ?_)
      refine ga_iconst (v := nI 1) C dL_law_153 (by decide) ?_
      refine ga_goto 158 C dL_law_154 (by decide) ?_
      refine gl_cm_i C (c_medge l G cI cJ cZ am mon mba mik mme mun mra mne mhe mde mwa mle mn mwt n E (xs (i + 1)) (xs (i + 2)) 1 (by omega) hmI) (cwV 3 C.1.2.2.2.2 gL_law_X2_edge rfl rfl rfl (by decide +kernel) ⟨Nat.le_of_ble_eq_true rfl, Nat.le_of_ble_eq_true rfl⟩) rfl rfl (Nat.le_of_ble_eq_true rfl) dL_law_158 ⟨Nat.le_of_ble_eq_true rfl, Nat.le_of_ble_eq_true rfl⟩ (fun r2 mon2 mba2 mik2 mme2 mun2 mra2 mne2 mhe2 mde2 mwa2 mle2 mn2 mwt2 h2 => ?_)
      obtain ⟨er, F, z1, z2⟩ := egP_both hn2 h1 h2
      refine ga_icmp_eq 337 C dL_law_161 (by decide) (fun _ => ?_) (fun h => absurd (er) h)
      exact ga_lk (tail (n, F, (xT2, xS2, xD2, xRe2, xO2, xN2, xWt2, xL2, xP2, xbl2, xos2, xkn2), (mon2, mba2, mik2, mme2, mun2, mra2, mne2, mhe2, mde2, mwa2, mle2, mn2, mwt2)) ⟨z1, z2⟩) ⟨rfl, rfl, rfl, rfl, trivial⟩
  · subst h0
    refine ga_tableIn (off := 134) 166 C dL_law_32 (by decide) (by decide) (by decide) (by decide) ?_
    refine ga_aload_n 1 C dL_law_166 rfl rfl ?_
    refine ga_aload_n 0 C dL_law_167 rfl rfl ?_
    refine ga_iload_n 3 C dL_law_168 rfl rfl ?_
    refine ga_iconst (v := nI 1) C dL_law_169 (by decide) ?_
    refine ga_iadd C dL_law_170 (nI_add _ _) ?_
    refine ga_sld C hX hbl hbA (by omega) (by omega) dL_law_171 ?_
    refine ga_aload_n 0 C dL_law_172 rfl rfl ?_
    refine ga_iload_n 3 C dL_law_173 rfl rfl ?_
    refine ga_iconst (v := nI 2) C dL_law_174 (by decide) ?_
    refine ga_iadd C dL_law_175 (nI_add _ _) ?_
    refine ga_sld C hX hbl hbA (by omega) (by omega) dL_law_176 ?_
    refine gl_cx_r C (c_xhas l G cI cJ cZ ad xT xS xD xRe xO xN xWt xL xP xbl xos xkn n E (xs (i + 1)) (xs (i + 2)) hxI) (cwV 2 C.1.2.2.2.2 gL_law_X1_has rfl rfl rfl (by decide +kernel) ⟨Nat.le_of_ble_eq_true rfl, Nat.le_of_ble_eq_true rfl⟩) rfl rfl (Nat.le_of_ble_eq_true rfl) dL_law_177 ⟨Nat.le_of_ble_eq_true rfl, Nat.le_of_ble_eq_true rfl⟩ (fun r1 h1 => ?_)
    refine ga_aload_n 2 C dL_law_180 rfl rfl ?_
    refine ga_aload_n 0 C dL_law_181 rfl rfl ?_
    refine ga_iload_n 3 C dL_law_182 rfl rfl ?_
    refine ga_iconst (v := nI 1) C dL_law_183 (by decide) ?_
    refine ga_iadd C dL_law_184 (nI_add _ _) ?_
    refine ga_sld C hX hbl hbA (by omega) (by omega) dL_law_185 ?_
    refine ga_aload_n 0 C dL_law_186 rfl rfl ?_
    refine ga_iload_n 3 C dL_law_187 rfl rfl ?_
    refine ga_iconst (v := nI 2) C dL_law_188 (by decide) ?_
    refine ga_iadd C dL_law_189 (nI_add _ _) ?_
    refine ga_sld C hX hbl hbA (by omega) (by omega) dL_law_190 ?_
    refine gl_cm_r C (c_mhas l G cI cJ cZ am mon mba mik mme mun mra mne mhe mde mwa mle mn mwt n E (xs (i + 1)) (xs (i + 2)) hmI) (cwV 2 C.1.2.2.2.2 gL_law_X2_has rfl rfl rfl (by decide +kernel) ⟨Nat.le_of_ble_eq_true rfl, Nat.le_of_ble_eq_true rfl⟩) rfl rfl (Nat.le_of_ble_eq_true rfl) dL_law_191 ⟨Nat.le_of_ble_eq_true rfl, Nat.le_of_ble_eq_true rfl⟩ (fun r2 h2 => ?_)
    refine ga_icmp_eq 337 C dL_law_194 (by decide) (fun _ => ?_) (fun h => absurd (yn_un h1 h2) h)
    exact ga_lk (tail (n, E, (xT, xS, xD, xRe, xO, xN, xWt, xL, xP, xbl, xos, xkn), (mon, mba, mik, mme, mun, mra, mne, mhe, mde, mwa, mle, mn, mwt)) ⟨hxI, hmI⟩) ⟨rfl, rfl, rfl, rfl, trivial⟩
  · subst h0
    refine ga_tableIn (off := 167) 199 C dL_law_32 (by decide) (by decide) (by decide) (by decide) ?_
    refine ga_aload_n 1 C dL_law_199 rfl rfl ?_
    refine ga_aload_n 0 C dL_law_200 rfl rfl ?_
    refine ga_iload_n 3 C dL_law_201 rfl rfl ?_
    refine ga_iconst (v := nI 1) C dL_law_202 (by decide) ?_
    refine ga_iadd C dL_law_203 (nI_add _ _) ?_
    refine ga_sld C hX hbl hbA (by omega) (by omega) dL_law_204 ?_
    refine gl_cx_i C (c_xreached l G cI cJ cZ ad xT xS xD xRe xO xN xWt xL xP xbl xos xkn n E (xs (i + 1)) hxI) (cwV 1 C.1.2.2.2.2 gL_law_X1_reached rfl rfl rfl (by decide +kernel) ⟨Nat.le_of_ble_eq_true rfl, Nat.le_of_ble_eq_true rfl⟩) rfl rfl (Nat.le_of_ble_eq_true rfl) dL_law_205 ⟨Nat.le_of_ble_eq_true rfl, Nat.le_of_ble_eq_true rfl⟩ (fun r1 xT2 xS2 xD2 xRe2 xO2 xN2 xWt2 xL2 xP2 xbl2 xos2 xkn2 h1 => ?_)
    refine ga_aload_n 2 C dL_law_208 rfl rfl ?_
    refine ga_aload_n 0 C dL_law_209 rfl rfl ?_
    refine ga_iload_n 3 C dL_law_210 rfl rfl ?_
    refine ga_iconst (v := nI 1) C dL_law_211 (by decide) ?_
    refine ga_iadd C dL_law_212 (nI_add _ _) ?_
    refine ga_sld C hX hbl hbA (by omega) (by omega) dL_law_213 ?_
    refine gl_cm_i C (c_mreached l G cI cJ cZ am mon mba mik mme mun mra mne mhe mde mwa mle mn mwt n E (xs (i + 1)) hmI) (cwV 1 C.1.2.2.2.2 gL_law_X2_reached rfl rfl rfl (by decide +kernel) ⟨Nat.le_of_ble_eq_true rfl, Nat.le_of_ble_eq_true rfl⟩) rfl rfl (Nat.le_of_ble_eq_true rfl) dL_law_214 ⟨Nat.le_of_ble_eq_true rfl, Nat.le_of_ble_eq_true rfl⟩ (fun r2 mon2 mba2 mik2 mme2 mun2 mra2 mne2 mhe2 mde2 mwa2 mle2 mn2 mwt2 h2 => ?_)
    refine ga_icmp_eq 337 C dL_law_217 (by decide) (fun _ => ?_) (fun h => absurd (yn_un h1.1 h2.1) h)
    exact ga_lk (tail (n, E, (xT2, xS2, xD2, xRe2, xO2, xN2, xWt2, xL2, xP2, xbl2, xos2, xkn2), (mon2, mba2, mik2, mme2, mun2, mra2, mne2, mhe2, mde2, mwa2, mle2, mn2, mwt2)) ⟨h1.2, h2.2⟩) ⟨rfl, rfl, rfl, rfl, trivial⟩
  · subst h0
    refine ga_tableIn (off := 190) 222 C dL_law_32 (by decide) (by decide) (by decide) (by decide) ?_
    refine ga_aload_n 1 C dL_law_222 rfl rfl ?_
    refine gl_cx_i C (c_xones l G cI cJ cZ ad xT xS xD xRe xO xN xWt xL xP xbl xos xkn n E  hxI) (cwV 0 C.1.2.2.2.2 gL_law_X1_reachedOnes rfl rfl rfl (by decide +kernel) ⟨Nat.le_of_ble_eq_true rfl, Nat.le_of_ble_eq_true rfl⟩) rfl rfl (Nat.le_of_ble_eq_true rfl) dL_law_223 ⟨Nat.le_of_ble_eq_true rfl, Nat.le_of_ble_eq_true rfl⟩ (fun r1 xT2 xS2 xD2 xRe2 xO2 xN2 xWt2 xL2 xP2 xbl2 xos2 xkn2 h1 => ?_)
    refine ga_aload_n 2 C dL_law_226 rfl rfl ?_
    refine gl_cm_i C (c_mones l G cI cJ cZ am mon mba mik mme mun mra mne mhe mde mwa mle mn mwt n E  hmI) (cwV 0 C.1.2.2.2.2 gL_law_X2_reachedOnes rfl rfl rfl (by decide +kernel) ⟨Nat.le_of_ble_eq_true rfl, Nat.le_of_ble_eq_true rfl⟩) rfl rfl (Nat.le_of_ble_eq_true rfl) dL_law_227 ⟨Nat.le_of_ble_eq_true rfl, Nat.le_of_ble_eq_true rfl⟩ (fun r2 mon2 mba2 mik2 mme2 mun2 mra2 mne2 mhe2 mde2 mwa2 mle2 mn2 mwt2 h2 => ?_)
    refine ga_icmp_eq 337 C dL_law_230 (by decide) (fun _ => ?_) (fun h => absurd (h1.1.trans h2.1.symm) h)
    exact ga_lk (tail (n, E, (xT2, xS2, xD2, xRe2, xO2, xN2, xWt2, xL2, xP2, xbl2, xos2, xkn2), (mon2, mba2, mik2, mme2, mun2, mra2, mne2, mhe2, mde2, mwa2, mle2, mn2, mwt2)) ⟨h1.2, h2.2⟩) ⟨rfl, rfl, rfl, rfl, trivial⟩
  · subst h0
    refine ga_tableIn (off := 203) 235 C dL_law_32 (by decide) (by decide) (by decide) (by decide) ?_
    refine ga_aload_n 1 C dL_law_235 rfl rfl ?_
    refine ga_aload_n 0 C dL_law_236 rfl rfl ?_
    refine ga_iload_n 3 C dL_law_237 rfl rfl ?_
    refine ga_iconst (v := nI 1) C dL_law_238 (by decide) ?_
    refine ga_iadd C dL_law_239 (nI_add _ _) ?_
    refine ga_sld C hX hbl hbA (by omega) (by omega) dL_law_240 ?_
    refine gl_cx_i C (c_xdominator l G cI cJ cZ ad xT xS xD xRe xO xN xWt xL xP xbl xos xkn n E (xs (i + 1)) hxI) (cwV 1 C.1.2.2.2.2 gL_law_X1_dominator rfl rfl rfl (by decide +kernel) ⟨Nat.le_of_ble_eq_true rfl, Nat.le_of_ble_eq_true rfl⟩) rfl rfl (Nat.le_of_ble_eq_true rfl) dL_law_241 ⟨Nat.le_of_ble_eq_true rfl, Nat.le_of_ble_eq_true rfl⟩ (fun r1 xT2 xS2 xD2 xRe2 xO2 xN2 xWt2 xL2 xP2 xbl2 xos2 xkn2 h1 => ?_)
    refine ga_aload_n 2 C dL_law_244 rfl rfl ?_
    refine ga_aload_n 0 C dL_law_245 rfl rfl ?_
    refine ga_iload_n 3 C dL_law_246 rfl rfl ?_
    refine ga_iconst (v := nI 1) C dL_law_247 (by decide) ?_
    refine ga_iadd C dL_law_248 (nI_add _ _) ?_
    refine ga_sld C hX hbl hbA (by omega) (by omega) dL_law_249 ?_
    refine gl_cm_i C (c_mdominator l G cI cJ cZ am mon mba mik mme mun mra mne mhe mde mwa mle mn mwt n E (xs (i + 1)) hmI) (cwV 1 C.1.2.2.2.2 gL_law_X2_dominator rfl rfl rfl (by decide +kernel) ⟨Nat.le_of_ble_eq_true rfl, Nat.le_of_ble_eq_true rfl⟩) rfl rfl (Nat.le_of_ble_eq_true rfl) dL_law_250 ⟨Nat.le_of_ble_eq_true rfl, Nat.le_of_ble_eq_true rfl⟩ (fun r2 mon2 mba2 mik2 mme2 mun2 mra2 mne2 mhe2 mde2 mwa2 mle2 mn2 mwt2 h2 => ?_)
    refine ga_icmp_eq 337 C dL_law_253 (by decide) (fun _ => ?_) (fun h => absurd (idP_un hgO h1.1 h2.1) h)
    exact ga_lk (tail (n, E, (xT2, xS2, xD2, xRe2, xO2, xN2, xWt2, xL2, xP2, xbl2, xos2, xkn2), (mon2, mba2, mik2, mme2, mun2, mra2, mne2, mhe2, mde2, mwa2, mle2, mn2, mwt2)) ⟨h1.2, h2.2⟩) ⟨rfl, rfl, rfl, rfl, trivial⟩
  · subst h0
    refine ga_tableIn (off := 226) 258 C dL_law_32 (by decide) (by decide) (by decide) (by decide) ?_
    refine ga_aload_n 1 C dL_law_258 rfl rfl ?_
    refine ga_aload_n 0 C dL_law_259 rfl rfl ?_
    refine ga_iload_n 3 C dL_law_260 rfl rfl ?_
    refine ga_iconst (v := nI 1) C dL_law_261 (by decide) ?_
    refine ga_iadd C dL_law_262 (nI_add _ _) ?_
    refine ga_sld C hX hbl hbA (by omega) (by omega) dL_law_263 ?_
    refine ga_aload_n 0 C dL_law_264 rfl rfl ?_
    refine ga_iload_n 3 C dL_law_265 rfl rfl ?_
    refine ga_iconst (v := nI 2) C dL_law_266 (by decide) ?_
    refine ga_iadd C dL_law_267 (nI_add _ _) ?_
    refine ga_sld C hX hbl hbA (by omega) (by omega) dL_law_268 ?_
    refine gl_cx_i C (c_xdominates l G cI cJ cZ ad xT xS xD xRe xO xN xWt xL xP xbl xos xkn n E (xs (i + 1)) (xs (i + 2)) hxI) (cwV 2 C.1.2.2.2.2 gL_law_X1_dominates rfl rfl rfl (by decide +kernel) ⟨Nat.le_of_ble_eq_true rfl, Nat.le_of_ble_eq_true rfl⟩) rfl rfl (Nat.le_of_ble_eq_true rfl) dL_law_269 ⟨Nat.le_of_ble_eq_true rfl, Nat.le_of_ble_eq_true rfl⟩ (fun r1 xT2 xS2 xD2 xRe2 xO2 xN2 xWt2 xL2 xP2 xbl2 xos2 xkn2 h1 => ?_)
    refine ga_aload_n 2 C dL_law_272 rfl rfl ?_
    refine ga_aload_n 0 C dL_law_273 rfl rfl ?_
    refine ga_iload_n 3 C dL_law_274 rfl rfl ?_
    refine ga_iconst (v := nI 1) C dL_law_275 (by decide) ?_
    refine ga_iadd C dL_law_276 (nI_add _ _) ?_
    refine ga_sld C hX hbl hbA (by omega) (by omega) dL_law_277 ?_
    refine ga_aload_n 0 C dL_law_278 rfl rfl ?_
    refine ga_iload_n 3 C dL_law_279 rfl rfl ?_
    refine ga_iconst (v := nI 2) C dL_law_280 (by decide) ?_
    refine ga_iadd C dL_law_281 (nI_add _ _) ?_
    refine ga_sld C hX hbl hbA (by omega) (by omega) dL_law_282 ?_
    refine gl_cm_i C (c_mdominates l G cI cJ cZ am mon mba mik mme mun mra mne mhe mde mwa mle mn mwt n E (xs (i + 1)) (xs (i + 2)) hmI) (cwV 2 C.1.2.2.2.2 gL_law_X2_dominates rfl rfl rfl (by decide +kernel) ⟨Nat.le_of_ble_eq_true rfl, Nat.le_of_ble_eq_true rfl⟩) rfl rfl (Nat.le_of_ble_eq_true rfl) dL_law_283 ⟨Nat.le_of_ble_eq_true rfl, Nat.le_of_ble_eq_true rfl⟩ (fun r2 mon2 mba2 mik2 mme2 mun2 mra2 mne2 mhe2 mde2 mwa2 mle2 mn2 mwt2 h2 => ?_)
    refine ga_icmp_eq 337 C dL_law_286 (by decide) (fun _ => ?_) (fun h => absurd (yn_un h1.1 h2.1) h)
    exact ga_lk (tail (n, E, (xT2, xS2, xD2, xRe2, xO2, xN2, xWt2, xL2, xP2, xbl2, xos2, xkn2), (mon2, mba2, mik2, mme2, mun2, mra2, mne2, mhe2, mde2, mwa2, mle2, mn2, mwt2)) ⟨h1.2, h2.2⟩) ⟨rfl, rfl, rfl, rfl, trivial⟩
  · subst h0
    refine ga_tableIn (off := 259) 291 C dL_law_32 (by decide) (by decide) (by decide) (by decide) ?_
    refine ga_aload_n 1 C dL_law_291 rfl rfl ?_
    refine ga_aload_n 0 C dL_law_292 rfl rfl ?_
    refine ga_iload_n 3 C dL_law_293 rfl rfl ?_
    refine ga_iconst (v := nI 1) C dL_law_294 (by decide) ?_
    refine ga_iadd C dL_law_295 (nI_add _ _) ?_
    refine ga_sld C hX hbl hbA (by omega) (by omega) dL_law_296 ?_
    refine gl_cx_i C (c_xhead l G cI cJ cZ ad xT xS xD xRe xO xN xWt xL xP xbl xos xkn n E (xs (i + 1)) hxI) (cwV 1 C.1.2.2.2.2 gL_law_X1_head rfl rfl rfl (by decide +kernel) ⟨Nat.le_of_ble_eq_true rfl, Nat.le_of_ble_eq_true rfl⟩) rfl rfl (Nat.le_of_ble_eq_true rfl) dL_law_297 ⟨Nat.le_of_ble_eq_true rfl, Nat.le_of_ble_eq_true rfl⟩ (fun r1 xT2 xS2 xD2 xRe2 xO2 xN2 xWt2 xL2 xP2 xbl2 xos2 xkn2 h1 => ?_)
    refine ga_aload_n 2 C dL_law_300 rfl rfl ?_
    refine ga_aload_n 0 C dL_law_301 rfl rfl ?_
    refine ga_iload_n 3 C dL_law_302 rfl rfl ?_
    refine ga_iconst (v := nI 1) C dL_law_303 (by decide) ?_
    refine ga_iadd C dL_law_304 (nI_add _ _) ?_
    refine ga_sld C hX hbl hbA (by omega) (by omega) dL_law_305 ?_
    refine gl_cm_i C (c_mhead l G cI cJ cZ am mon mba mik mme mun mra mne mhe mde mwa mle mn mwt n E (xs (i + 1)) hmI) (cwV 1 C.1.2.2.2.2 gL_law_X2_head rfl rfl rfl (by decide +kernel) ⟨Nat.le_of_ble_eq_true rfl, Nat.le_of_ble_eq_true rfl⟩) rfl rfl (Nat.le_of_ble_eq_true rfl) dL_law_306 ⟨Nat.le_of_ble_eq_true rfl, Nat.le_of_ble_eq_true rfl⟩ (fun r2 mon2 mba2 mik2 mme2 mun2 mra2 mne2 mhe2 mde2 mwa2 mle2 mn2 mwt2 h2 => ?_)
    refine ga_icmp_eq 337 C dL_law_309 (by decide) (fun _ => ?_) (fun h => absurd (yn_un h1.1 h2.1) h)
    exact ga_lk (tail (n, E, (xT2, xS2, xD2, xRe2, xO2, xN2, xWt2, xL2, xP2, xbl2, xos2, xkn2), (mon2, mba2, mik2, mme2, mun2, mra2, mne2, mhe2, mde2, mwa2, mle2, mn2, mwt2)) ⟨h1.2, h2.2⟩) ⟨rfl, rfl, rfl, rfl, trivial⟩
  · subst h0
    refine ga_tableIn (off := 282) 314 C dL_law_32 (by decide) (by decide) (by decide) (by decide) ?_
    refine ga_aload_n 1 C dL_law_314 rfl rfl ?_
    refine ga_aload_n 0 C dL_law_315 rfl rfl ?_
    refine ga_iload_n 3 C dL_law_316 rfl rfl ?_
    refine ga_iconst (v := nI 1) C dL_law_317 (by decide) ?_
    refine ga_iadd C dL_law_318 (nI_add _ _) ?_
    refine ga_sld C hX hbl hbA (by omega) (by omega) dL_law_319 ?_
    refine gl_cx_i C (c_xdepth l G cI cJ cZ ad xT xS xD xRe xO xN xWt xL xP xbl xos xkn n E (xs (i + 1)) hxI) (cwV 1 C.1.2.2.2.2 gL_law_X1_depth rfl rfl rfl (by decide +kernel) ⟨Nat.le_of_ble_eq_true rfl, Nat.le_of_ble_eq_true rfl⟩) rfl rfl (Nat.le_of_ble_eq_true rfl) dL_law_320 ⟨Nat.le_of_ble_eq_true rfl, Nat.le_of_ble_eq_true rfl⟩ (fun r1 xT2 xS2 xD2 xRe2 xO2 xN2 xWt2 xL2 xP2 xbl2 xos2 xkn2 h1 => ?_)
    refine ga_aload_n 2 C dL_law_323 rfl rfl ?_
    refine ga_aload_n 0 C dL_law_324 rfl rfl ?_
    refine ga_iload_n 3 C dL_law_325 rfl rfl ?_
    refine ga_iconst (v := nI 1) C dL_law_326 (by decide) ?_
    refine ga_iadd C dL_law_327 (nI_add _ _) ?_
    refine ga_sld C hX hbl hbA (by omega) (by omega) dL_law_328 ?_
    refine gl_cm_i C (c_mdepth l G cI cJ cZ am mon mba mik mme mun mra mne mhe mde mwa mle mn mwt n E (xs (i + 1)) hmI) (cwV 1 C.1.2.2.2.2 gL_law_X2_depth rfl rfl rfl (by decide +kernel) ⟨Nat.le_of_ble_eq_true rfl, Nat.le_of_ble_eq_true rfl⟩) rfl rfl (Nat.le_of_ble_eq_true rfl) dL_law_329 ⟨Nat.le_of_ble_eq_true rfl, Nat.le_of_ble_eq_true rfl⟩ (fun r2 mon2 mba2 mik2 mme2 mun2 mra2 mne2 mhe2 mde2 mwa2 mle2 mn2 mwt2 h2 => ?_)
    refine ga_icmp_eq 337 C dL_law_332 (by decide) (fun _ => ?_) (fun h => absurd (dpP_un hgO h1.1 h2.1) h)
    exact ga_lk (tail (n, E, (xT2, xS2, xD2, xRe2, xO2, xN2, xWt2, xL2, xP2, xbl2, xos2, xkn2), (mon2, mba2, mik2, mme2, mun2, mra2, mne2, mhe2, mde2, mwa2, mle2, mn2, mwt2)) ⟨h1.2, h2.2⟩) ⟨rfl, rfl, rfl, rfl, trivial⟩
end
section
theorem known_arr {s : State} {ty : FieldType} {args : Array Value} (h : (Cond.arrayClass ty).before args s = true) : ∃ cA : ClassId, ArrOfT s cA ty ∧ s.vm.findClass ("[" ++ ty.toString) = some cA := by
  obtain ⟨cA, kA, comp, h1, h2, h3⟩ := Cond.arrayClass_spec h
  exact ⟨cA, fun n z => ⟨fun k q => (by cases q), kA, h2, comp, h3⟩, h1⟩
theorem xI_init : xI 1 (fun _ _ => false) (fun _ => 0) (fun _ => 0) (fun _ => 0) (fun _ => 0) (fun _ => 0) (fun _ => 0) 1 0 0 := xI_0 ⟨⟨by decide, by decide, fun a b q => by cases q⟩, fun a b _ _ => Nat.zero_testBit _, fun a b _ _ => Nat.zero_testBit _⟩
theorem mI_init : mI 1 (fun _ _ => false) (fun _ => 0) (fun _ => 0) 0 (fun _ => 0) (fun _ => 0) (fun _ => 0) (fun _ => 0) (fun _ => 0) 1 := mI_0 ⟨⟨by decide, by decide, fun a b q => by cases q⟩, fun a b _ _ => Nat.zero_testBit _, fun a b _ _ => Nat.zero_testBit _⟩
set_option maxRecDepth 20000 in
theorem nest_in : Cond.methodLinkNest RX1 9 yX0_init RX1 ∈ lw_tbl := by decide +kernel
set_option maxHeartbeats 8000000 in
set_option maxRecDepth 100000 in
/-- THE LAW, from its entry -/
theorem whole_start {p : Program} {e : Env} {s : State} {m : MethodId} {below : List Frame} {meth : Method} {c : Code} (l : Launch) {b L : Nat} {xs : Nat → Int32} (hL : L ≤ 2048) (C0 : lw_At p s m meth c b L xs) : W p l e room_1 s m #[Value.ref b] below meth c s.heap [] 0 0 (lw_Z below #[Value.ref b] s) (entryFrame m ([Value.ref b] : List Value).toArray 4) := by
  obtain ⟨hx, hb, hr, hml, hown, hts0, hX, hbl, hlocks, hgv⟩ := id C0
  have hts : ∀ w ∈ wsL_law, w.before #[Value.ref b] s = true := fun w h => hts0 w (wsL_law_in w h)
  obtain ⟨c0, iS0, hKn0⟩ := u_known (C := RX0) (T := TX0) (N := 1) (n := 1) hts inlX0 (hts (.instantiable RX0 1) (by decide +kernel))
  obtain ⟨c1, iS1, hKn1⟩ := u_known (C := RX1) (T := TX1) (N := 12) (n := 12) hts inlX1 (hts (.instantiable RX1 12) (by decide +kernel))
  obtain ⟨c2, iS2, hKn2⟩ := u_known (C := RX2) (T := TX2) (N := 13) (n := 13) hts inlX2 (hts (.instantiable RX2 13) (by decide +kernel))
  obtain ⟨dC, dI, hKc⟩ : ∃ (dC : Nat → ClassId) (dI : Nat → Nat → Nat), ∀ (k : Nat) (q : vw_C), vwCl[k]? = some q → u_Kn s q.1 q.2.1 q.2.2 (dC k) (dI k) := by
    refine ⟨fun k => if k = 0 then c0 else if k = 1 then c1 else c2, fun k => if k = 0 then iS0 else if k = 1 then iS1 else iS2, ?_⟩
    intro k q hq
    match k, hq with
    | 0, hq => cases hq; exact hKn0
    | 1, hq => cases hq; exact hKn1
    | 2, hq => cases hq; exact hKn2
    | k + 3, hq => simp [vwCl] at hq
  obtain ⟨cI, hI1, hI2⟩ := known_arr (ty := .int) (hts (.arrayClass .int) (by decide +kernel))
  obtain ⟨cJ, hJ1, hJ2⟩ := known_arr (ty := .long) (hts (.arrayClass .long) (by decide +kernel))
  obtain ⟨cZ, hZ1, hZ2⟩ := known_arr (ty := .boolean) (hts (.arrayClass .boolean) (by decide +kernel))
  have hK : va_K (dC, dI) vwCl (ty3 cI cJ cZ) s := ⟨hKc, fun k q h => by
    match k, h with
    | 0, h => cases h; exact ⟨hI1, hI2⟩
    | 1, h => cases h; exact ⟨hJ1, hJ2⟩
    | 2, h => cases h; exact ⟨hZ1, hZ2⟩
    | k + 3, h => simp at h⟩
  have C : gC p s m #[Value.ref b] c cL_law 4 wsL_law RL (dC, dI) (ty3 cI cJ cZ) (fun q : Nat => s.heap.size ≤ q) := ⟨⟨hx, hb, hml, hown, hts⟩, hK, fun _ h => h⟩
  have hl := lv_entry ([.ref b]) (n := 4) (Nat.le_of_ble_eq_true rfl)
  rw [lg_entry_eq]
  have hP0 : va_P (dC, dI) vwCl [] s.heap := fun k q h => by simp at h
  have hD0 : va_D (fun q : Nat => s.heap.size ≤ q) [] := ⟨fun i j p q h => by simp at h, fun k q h => by simp at h⟩
  refine (?_ : gG p l e room_1 s m #[Value.ref b] below meth c (dC, dI) (fun q : Nat => s.heap.size ≤ q) 4 0 0 (lw_Z below #[Value.ref b] s) [] [(0, .ref b)] 0 []) s.heap [] _ (lf_of hl) hP0 hD0 va_S.rf
  refine ga_new (ci := 1) (fs := [.null, .null, .null, .null, .null, .null, .null, .null, .null, .int 0, .int 0, .int 0]) C (T := TX1) inlX1 tyX1 tyX1_ok (by decide +kernel) (by decide +kernel) (by decide +kernel) rfl (fun j hj => by rcases (show j = 0 ∨ j = 1 ∨ j = 2 ∨ j = 3 ∨ j = 4 ∨ j = 5 ∨ j = 6 ∨ j = 7 ∨ j = 8 ∨ j = 9 ∨ j = 10 ∨ j = 11 by omega) with rfl | rfl | rfl | rfl | rfl | rfl | rfl | rfl | rfl | rfl | rfl | rfl <;> rfl) (Nat.le_of_ble_eq_true rfl) (Nat.le_of_ble_eq_true rfl) dL_law_0 (fun a => ?_)
  refine ga_ws [0] (w9 := [(a, .inr (1, [.null, .null, .null, .null, .null, .null, .null, .null, .null, .int 0, .int 0, .int 0]))]) rfl rfl ?_
  refine ga_dup C dL_law_3 rfl ?_
  refine ga_callIv (wr := []) C (c_xinit l (dC, dI) cI cJ cZ a) nestX_b (fun U hW => va_Nw.warmM hW (va_Nw.of rfl (hts0 _ nest_in))) (cwI 0 C.1.2.2.2.2 gL_law_X1_init rfl rfl rfl (hts (.initialized RX1) (by decide +kernel)) (hts (.methodLink RL 9 yX1_init) (by decide +kernel)) (hts (.instanceMethod yX1_init) (by decide +kernel)) rfl (by decide +kernel) ⟨Nat.le_of_ble_eq_true rfl, Nat.le_of_ble_eq_true rfl⟩) [0] [] rfl rfl rfl rfl (by decide) rfl rfl (Nat.le_of_ble_eq_true rfl) dL_law_4 ⟨(Nat.le_of_ble_eq_true rfl), (Nat.le_of_ble_eq_true rfl)⟩ (fun ad had => ?_)
  refine ga_ws [0, 1, 2, 3, 4, 5, 6, 7, 8, 9, 10, 11, 12] (w9 := wX ad cI cJ cZ (fun _ => 0) (fun _ => 0) (fun _ => 0) (fun _ => 0) (fun _ => 0) (fun _ => 0) (fun _ => 0) (fun _ => 0) (fun _ => 0) 1 0 0) rfl rfl ?_
  subst had
  refine ga_astore_n 1 C dL_law_7 rfl (by decide) rfl ?_
  refine ga_new (ci := 2) (fs := [.int 0, .null, .null, .int 0, .null, .null, .null, .null, .null, .null, .null, .null, .int 0]) C (T := TX2) inlX2 tyX2 tyX2_ok (by decide +kernel) (by decide +kernel) (by decide +kernel) rfl (fun j hj => by rcases (show j = 0 ∨ j = 1 ∨ j = 2 ∨ j = 3 ∨ j = 4 ∨ j = 5 ∨ j = 6 ∨ j = 7 ∨ j = 8 ∨ j = 9 ∨ j = 10 ∨ j = 11 ∨ j = 12 by omega) with rfl | rfl | rfl | rfl | rfl | rfl | rfl | rfl | rfl | rfl | rfl | rfl | rfl <;> rfl) (Nat.le_of_ble_eq_true rfl) (Nat.le_of_ble_eq_true rfl) dL_law_8 (fun b2 => ?_)
  refine ga_dup C dL_law_11 rfl ?_
  refine ga_callIv (wr := wX ad cI cJ cZ (fun _ => 0) (fun _ => 0) (fun _ => 0) (fun _ => 0) (fun _ => 0) (fun _ => 0) (fun _ => 0) (fun _ => 0) (fun _ => 0) 1 0 0) C (c_minit l (dC, dI) cI cJ cZ b2) (fun _ _ _ _ h => h) (fun _ _ => trivial) (cwI 0 C.1.2.2.2.2 gL_law_X2_init rfl rfl rfl (hts (.initialized RX2) (by decide +kernel)) (hts (.methodLink RL 12 yX2_init) (by decide +kernel)) (hts (.instanceMethod yX2_init) (by decide +kernel)) rfl (by decide +kernel) ⟨Nat.le_of_ble_eq_true rfl, Nat.le_of_ble_eq_true rfl⟩) [13] [0, 1, 2, 3, 4, 5, 6, 7, 8, 9, 10, 11, 12] rfl rfl rfl rfl (by decide) rfl rfl (Nat.le_of_ble_eq_true rfl) dL_law_12 ⟨(Nat.le_of_ble_eq_true rfl), (Nat.le_of_ble_eq_true rfl)⟩ (fun am ham => ?_)
  subst ham
  refine ga_astore_n 2 C dL_law_15 rfl (by decide) rfl ?_
  refine ga_iconst (v := nI 0) C dL_law_16 (by decide) ?_
  refine ga_istore_n 3 C dL_law_17 rfl (by decide) rfl ?_
  exact ga_lk (law_loop l hL C0 C ad am 0 (Nat.zero_le _) 1 (fun _ _ => false) _ _ _ _ _ _ _ _ _ _ _ _ _ _ _ _ _ _ _ _ _ _ _ _ _ xI_init mI_init) ⟨rfl, rfl, rfl, rfl, trivial⟩
set_option maxHeartbeats 4000000 in
theorem lw_walk (l : Launch) (b : Addr) (xs : List Int32) : MetFree l x (headSpec (Jvm.Cond.code x code maxLocals ret :: tables_1) room_1) (lw_P b xs) (fun _ _ _ _ _ => True) lw_Q := by
  refine MetFree.of_bodyS (code := code) (maxLocals := maxLocals) (ret := ret) (by decide) ?_ ?_
  · intro args s m h hn
    obtain ⟨meth, c, h1, h2, h3, h4, h5, h6, -, -⟩ := Cond.code_spec hn (atoms_spec (ws := Jvm.Cond.code x code maxLocals ret :: tables_1) h _ List.mem_cons_self)
    exact ⟨meth, c, h1, h2, h3, h4, h5, h6⟩
  · intro p e s m args below meth c s₁ B hml0 hP _
    obtain ⟨rfl, hx, hbd, hgv⟩ := hP
    obtain ⟨scr, harrAt, hlist, hof, hsmall⟩ := hx
    obtain ⟨hcb, hkn, -, -⟩ := State.arrayAt?_spec harrAt
    have hown : s.vm.findClass R_law = some m.cls := findClass_of_methodNamed B.named
    have hts0 : ∀ c ∈ (Jvm.Cond.code x code maxLocals ret :: tables_1), c.before #[Value.ref b] s = true := atoms_spec (ws := Jvm.Cond.code x code maxLocals ret :: tables_1) B.pre
    have hts : ∀ w ∈ lw_tbl, w.before #[Value.ref b] s = true := k2_hts_sels lw_privs (fun w hw => hts0 w (List.mem_cons_of_mem _ hw)) lw_privs_ok
    have hml : c.maxLocals = 4 := B.maxLocals_eq (hts0 _ List.mem_cons_self)
    have X₀ : Stand p l e room_1 s m #[Value.ref b] below meth c s₁ [] 0 0 := Stand.of_body B
    have hh0 : s₁.heap = s.heap := by rw [B.state]; rfl
    have hsz : scr.slots.size = xs.length := by rw [← Array.length_toList, hlist, List.length_map]
    have hval : ∀ j : Nat, j < xs.length → scr.slots[j]? = some (.int (xs.getD j 0)) := fun j hj => by
      rw [← Array.getElem?_toList, hlist]
      simp [hj]
    have hbl : b < s.heap.size := (Array.getElem?_eq_some_iff.mp hcb).1
    have hX : va_X b xs.length (fun j => xs.getD j 0) s s.heap := ⟨scr, hcb, hof, hkn, hsz, hval⟩
    have K : W p l e room_1 s m #[Value.ref b] below meth c s₁.heap [] 0 0 (lw_Z below #[Value.ref b] s) (entryFrame m ([Value.ref b] : List Value).toArray 4) := by
      rw [hh0]
      exact whole_start l hbd ⟨B.exec, B.bytes, B.returns, hml, hown, hts, hX, hbl, B.notSynchronized, hgv⟩
    obtain ⟨t, a1, o, b1, b2, b3⟩ := K s₁ rfl X₀
    exact ⟨t, o, a1, b1, b2, b3⟩
theorem lw_pre_spec {args : Array Value} {s : State} (h : (Jvm.Cond.and given_1 narrow_1).before args s = true) (hr : rest_1_c.before args s = true) : ∃ (b : Addr) (xs : List Int32), lw_P b xs args s := by
  have hs := flat_of_before _ h
  have hq := flat_of_before _ hr
  have hc : (Cond.count 1).before args s = true := hs _ (by decide +kernel)
  have harr : (Cond.arrayOf (.arg 0) .int).before args s = true := hs _ (by decide +kernel)
  have hle : (Cond.le (.length (.arg 0)) (.int 2048)).before args s = true := hs _ (by decide +kernel)
  have hlen : (Cond.isInt (.length (.arg 0))).before args s = true := hq _ (by decide +kernel)
  have hall : (Cond.all (.arg 0) (.isInt (.elem (.arg 0) (.index 0)))).before args s = true := hq _ (by decide +kernel)
  obtain ⟨b, xs, hb, hx⟩ := State.ints_of_pre rfl harr hlen hall
  have hsm : xs.length < 2 ^ 31 := hx.choose_spec.2.2.2
  have hev : (Term.length (.arg 0)).eval args s none [] s = some (.int xs.length.toInt32) := hx.length_eval hb
  have hv := Cond.le_ints hev (show (Term.int 2048).eval args s none [] s = some (.int 2048) from rfl)
  have hd : xs.length.toInt32 ≤ 2048 := by
    simpa [Cond.before, Cond.holds, hv] using hle
  have hN : xs.length ≤ 2048 := (Int32.ofNat_le_ofNat hsm (by decide)).mp (show Int32.ofNat xs.length ≤ Int32.ofNat 2048 from hd)
  exact ⟨b, xs, Cond.one_arg hc (show args[0]? = some (.ref b) from hb), hx, hN, h⟩
theorem lw_comes (l : Launch) : Comes l x (Jvm.Cond.code x code maxLocals ret :: tables_1) room_1 (fun tb e args s => Calls_1 tb e args s ∧ rest_1 tb e args s ∧ Pre_1 tb e args s)
    (fun _ _ args s o t => lw_Q args s o t) := by
  intro p e ha hc hk s m args below hf hfit hheap happ hpre
  obtain ⟨b, xs, hP⟩ := lw_pre_spec hpre.2.2 hpre.2.1
  obtain ⟨k, o, h1, h2, h3, hQ⟩ := lw_walk l b xs p e ha hc hk s m args below hf ((Spec.applies_iff_loose hf).mp happ).1 hP trivial
  exact ⟨k, o, h1, h2, h3, hQ⟩
theorem lw_frame {s t : State} {o : Outcome} {args : Array Value} (h : Framed s o t [] 24 8842) :
    Framed s o t (fieldLocs frame_1_writes args s ++ arrayLocs frame_1_arrays args s ++ staticLocs frame_1_statics s) 24 8842 := h
theorem lw_limb (L : Cond) (hL : ∀ (args : Array Value) (s t : State), L.after args s (.returned (some (.int 1))) t = true) :
    ArmFor flags0 classFile x code maxLocals ret World_1 tables_1 room_1 Calls_1 rest_1 Pre_1
      (fun tb e a s o t => postC L tb e a s o t ∧ Framed s o t (fieldLocs frame_1_writes a s ++ arrayLocs frame_1_arrays a s ++ staticLocs frame_1_statics s) 24 8842) := by
  intro l _ _ _ p e ha hc hk s m args below hf hfit hheap happ hpre
  obtain ⟨k, o, h1, h2, h3, rfl, hF⟩ := lw_comes l p e ha hc hk s m args below hf hfit hheap happ hpre
  exact ⟨k, _, h1, h2, h3, hL args s _, lw_frame hF⟩
theorem i_vc : Claimed_1_1 ∧ Claimed_1_2 := ⟨lw_limb limb_1_1 (fun args s t => by simp [limb_1_1, Cond.after, Cond.holds, Cond.value]), lw_limb limb_1_2 (fun args s t => Cond.after_iff.mpr (by
  first | (rw [show limb_1_2 = Cond.eq .result (.int 1) from rfl, Cond.eq_ints (x := 1) (y := 1) rfl rfl]; simp; done) | (simp [limb_1_2, Cond.value, Term.eval]; done)))⟩
end
