section
-- ===== PART A: goes FIRST, ahead of the names: the tables' words, and 'selects' of the private methods out of them =====
/-- a private method of a class that the tables say can be made, by its rows of tables_1 -/
def lw_okq (q : MethodName × Nat) : Prop := (q.1.cls ≠ "java/lang/invoke/MethodHandle" ∧ q.1.cls ≠ "java/lang/invoke/VarHandle") ∧ Cond.instantiable q.1.cls q.2 ∈ tables_1 ∧ Cond.privateMethod q.1 ∈ tables_1 ∧ Cond.instanceMethod q.1 ∈ tables_1
theorem lw_p0 : lw_okq (⟨"LeaningTrees$History", "turn", "()V"⟩, 2) := ⟨⟨by decide +kernel, by decide +kernel⟩, List.mem_of_getElem? (i := 87) (by decide +kernel), List.mem_of_getElem? (i := 190) (by decide +kernel), List.mem_of_getElem? (i := 191) (by decide +kernel)⟩
theorem lw_p1 : lw_okq (⟨"LeaningTrees$History", "stateAt", "(I)LLeaningTrees$Tree;"⟩, 2) := ⟨⟨by decide +kernel, by decide +kernel⟩, List.mem_of_getElem? (i := 87) (by decide +kernel), List.mem_of_getElem? (i := 194) (by decide +kernel), List.mem_of_getElem? (i := 195) (by decide +kernel)⟩
theorem lw_p2 : lw_okq (⟨"LeaningTrees$Tree", "layAnew", "(I)I"⟩, 11) := ⟨⟨by decide +kernel, by decide +kernel⟩, List.mem_of_getElem? (i := 19) (by decide +kernel), List.mem_of_getElem? (i := 217) (by decide +kernel), List.mem_of_getElem? (i := 218) (by decide +kernel)⟩
theorem lw_p3 : lw_okq (⟨"LeaningTrees$Tree", "spend", "(II)V"⟩, 11) := ⟨⟨by decide +kernel, by decide +kernel⟩, List.mem_of_getElem? (i := 19) (by decide +kernel), List.mem_of_getElem? (i := 234) (by decide +kernel), List.mem_of_getElem? (i := 235) (by decide +kernel)⟩
theorem lw_p4 : lw_okq (⟨"LeaningTrees$Tree", "dropHollow", "(II)V"⟩, 11) := ⟨⟨by decide +kernel, by decide +kernel⟩, List.mem_of_getElem? (i := 19) (by decide +kernel), List.mem_of_getElem? (i := 241) (by decide +kernel), List.mem_of_getElem? (i := 242) (by decide +kernel)⟩
theorem lw_p5 : lw_okq (⟨"LeaningTrees$Tree", "moveNode", "(II)V"⟩, 11) := ⟨⟨by decide +kernel, by decide +kernel⟩, List.mem_of_getElem? (i := 19) (by decide +kernel), List.mem_of_getElem? (i := 249) (by decide +kernel), List.mem_of_getElem? (i := 250) (by decide +kernel)⟩
theorem lw_p6 : lw_okq (⟨"LeaningTrees", "shapeOfTree", "(I)I"⟩, 5) := ⟨⟨by decide +kernel, by decide +kernel⟩, List.mem_of_getElem? (i := 11) (by decide +kernel), List.mem_of_getElem? (i := 260) (by decide +kernel), List.mem_of_getElem? (i := 261) (by decide +kernel)⟩
theorem lw_p7 : lw_okq (⟨"LeaningTrees", "keyOfTop", "(III)I"⟩, 5) := ⟨⟨by decide +kernel, by decide +kernel⟩, List.mem_of_getElem? (i := 11) (by decide +kernel), List.mem_of_getElem? (i := 268) (by decide +kernel), List.mem_of_getElem? (i := 269) (by decide +kernel)⟩
theorem lw_p8 : lw_okq (⟨"LeaningTrees", "booksOfTree", "(I)I"⟩, 5) := ⟨⟨by decide +kernel, by decide +kernel⟩, List.mem_of_getElem? (i := 11) (by decide +kernel), List.mem_of_getElem? (i := 282) (by decide +kernel), List.mem_of_getElem? (i := 283) (by decide +kernel)⟩
theorem lw_p9 : lw_okq (⟨"LeaningTrees$Tree", "payOnWayTo", "(I)V"⟩, 11) := ⟨⟨by decide +kernel, by decide +kernel⟩, List.mem_of_getElem? (i := 19) (by decide +kernel), List.mem_of_getElem? (i := 357) (by decide +kernel), List.mem_of_getElem? (i := 358) (by decide +kernel)⟩
theorem lw_p10 : lw_okq (⟨"LeaningTrees$Tree", "makeNode", "(III)V"⟩, 11) := ⟨⟨by decide +kernel, by decide +kernel⟩, List.mem_of_getElem? (i := 19) (by decide +kernel), List.mem_of_getElem? (i := 361) (by decide +kernel), List.mem_of_getElem? (i := 362) (by decide +kernel)⟩
theorem lw_p11 : lw_okq (⟨"LeaningTrees", "aboutNode", "(II)I"⟩, 5) := ⟨⟨by decide +kernel, by decide +kernel⟩, List.mem_of_getElem? (i := 11) (by decide +kernel), List.mem_of_getElem? (i := 394) (by decide +kernel), List.mem_of_getElem? (i := 395) (by decide +kernel)⟩
def lw_privs_1 : List (MethodName × Nat) := [(⟨"LeaningTrees$History", "turn", "()V"⟩, 2), (⟨"LeaningTrees$History", "stateAt", "(I)LLeaningTrees$Tree;"⟩, 2), (⟨"LeaningTrees$Tree", "layAnew", "(I)I"⟩, 11), (⟨"LeaningTrees$Tree", "spend", "(II)V"⟩, 11), (⟨"LeaningTrees$Tree", "dropHollow", "(II)V"⟩, 11), (⟨"LeaningTrees$Tree", "moveNode", "(II)V"⟩, 11), (⟨"LeaningTrees", "shapeOfTree", "(I)I"⟩, 5), (⟨"LeaningTrees", "keyOfTop", "(III)I"⟩, 5), (⟨"LeaningTrees", "booksOfTree", "(I)I"⟩, 5), (⟨"LeaningTrees$Tree", "payOnWayTo", "(I)V"⟩, 11), (⟨"LeaningTrees$Tree", "makeNode", "(III)V"⟩, 11), (⟨"LeaningTrees", "aboutNode", "(II)I"⟩, 5)]
theorem lw_r1 : ∀ q ∈ lw_privs_1, lw_okq q := List.forall_mem_cons.mpr ⟨lw_p0, List.forall_mem_cons.mpr ⟨lw_p1, List.forall_mem_cons.mpr ⟨lw_p2, List.forall_mem_cons.mpr ⟨lw_p3, List.forall_mem_cons.mpr ⟨lw_p4, List.forall_mem_cons.mpr ⟨lw_p5, List.forall_mem_cons.mpr ⟨lw_p6, List.forall_mem_cons.mpr ⟨lw_p7, List.forall_mem_cons.mpr ⟨lw_p8, List.forall_mem_cons.mpr ⟨lw_p9, List.forall_mem_cons.mpr ⟨lw_p10, List.forall_mem_cons.mpr ⟨lw_p11, fun _ h => absurd h List.not_mem_nil⟩⟩⟩⟩⟩⟩⟩⟩⟩⟩⟩⟩
def lw_privs : List (MethodName × Nat) := lw_privs_1
def lw_tbl : List Cond := k2_sels lw_privs ++ tables_1
theorem lw_privs_ok : ∀ q ∈ lw_privs, lw_okq q := lw_r1
def RX0 : String := "LeaningTrees$History"
def TX0 : u_T := fun k => match k with
  | 0 => ("LeaningTrees$History", "states", "[LLeaningTrees$Tree;", true)
  | _ => ("LeaningTrees$History", "length", "I", false)
def tyX0 : Nat → FieldType := fun k => match k with
  | 0 => .array (.object "LeaningTrees$Tree")
  | _ => .int
theorem nmX0 : ∀ a, a < 2 → ∀ b, b < 2 → a ≠ b → (TX0 a).2.1 ≠ (TX0 b).2.1 := by decide +kernel
theorem tyX0_ok : ∀ k, k < 2 → parseFieldDescriptor (TX0 k).2.2.1 = some (tyX0 k) := by decide +kernel
abbrev cX0_init : ByteArray := prog_2_method_1_code
def yX0_init : MethodName := ⟨RX0, "<init>", "()V"⟩
abbrev cX0_keep : ByteArray := prog_2_method_2_code
def yX0_keep : MethodName := ⟨RX0, "keep", "(LLeaningTrees$Tree;)V"⟩
abbrev cX0_takeBackInto : ByteArray := prog_2_method_3_code
def yX0_takeBackInto : MethodName := ⟨RX0, "takeBackInto", "(LLeaningTrees$Tree;)Z"⟩
abbrev cX0_turn : ByteArray := prog_2_method_4_code
def yX0_turn : MethodName := ⟨RX0, "turn", "()V"⟩
abbrev cX0_stateAt : ByteArray := prog_2_method_5_code
def yX0_stateAt : MethodName := ⟨RX0, "stateAt", "(I)LLeaningTrees$Tree;"⟩
def RX1 : String := "LeaningTrees$OrderReader"
def TX1 : u_T := fun k => match k with
  | 0 => ("LeaningTrees$OrderReader", "sign", "I", false)
  | 1 => ("LeaningTrees$OrderReader", "stage", "I", false)
  | 2 => ("LeaningTrees$OrderReader", "key", "I", false)
  | 3 => ("LeaningTrees$OrderReader", "number", "I", false)
  | _ => ("LeaningTrees$OrderReader", "hasValue", "Z", false)
def tyX1 : Nat → FieldType := fun k => match k with
  | 0 => .int
  | 1 => .int
  | 2 => .int
  | 3 => .int
  | _ => .boolean
theorem nmX1 : ∀ a, a < 5 → ∀ b, b < 5 → a ≠ b → (TX1 a).2.1 ≠ (TX1 b).2.1 := by decide +kernel
theorem tyX1_ok : ∀ k, k < 5 → parseFieldDescriptor (TX1 k).2.2.1 = some (tyX1 k) := by decide +kernel
abbrev cX1_init : ByteArray := prog_3_method_1_code
def yX1_init : MethodName := ⟨RX1, "<init>", "()V"⟩
def RX2 : String := "LeaningTrees$Pad"
def TX2 : u_T := fun k => match k with
  | 0 => ("LeaningTrees$Pad", "codes", "LLeaningTrees$Row;", true)
  | _ => ("LeaningTrees$Pad", "length", "I", false)
def tyX2 : Nat → FieldType := fun k => match k with
  | 0 => .object "LeaningTrees$Row"
  | _ => .int
theorem nmX2 : ∀ a, a < 2 → ∀ b, b < 2 → a ≠ b → (TX2 a).2.1 ≠ (TX2 b).2.1 := by decide +kernel
theorem tyX2_ok : ∀ k, k < 2 → parseFieldDescriptor (TX2 k).2.2.1 = some (tyX2 k) := by decide +kernel
abbrev cX2_init : ByteArray := prog_4_method_1_code
def yX2_init : MethodName := ⟨RX2, "<init>", "()V"⟩
def RX3 : String := "LeaningTrees$Row"
def TX3 : u_T := fun k => match k with
  | _ => ("LeaningTrees$Row", "cells", "[I", true)
def tyX3 : Nat → FieldType := fun k => match k with
  | _ => .array .int
theorem nmX3 : ∀ a, a < 1 → ∀ b, b < 1 → a ≠ b → (TX3 a).2.1 ≠ (TX3 b).2.1 := by decide +kernel
theorem tyX3_ok : ∀ k, k < 1 → parseFieldDescriptor (TX3 k).2.2.1 = some (tyX3 k) := by decide +kernel
abbrev cX3_init : ByteArray := prog_5_method_1_code
def yX3_init : MethodName := ⟨RX3, "<init>", "(I)V"⟩
abbrev cX3_at : ByteArray := prog_5_method_2_code
def yX3_at : MethodName := ⟨RX3, "at", "(I)I"⟩
abbrev cX3_write : ByteArray := prog_5_method_3_code
def yX3_write : MethodName := ⟨RX3, "write", "(II)V"⟩
abbrev cX3_become : ByteArray := prog_5_method_4_code
def yX3_become : MethodName := ⟨RX3, "become", "(LLeaningTrees$Row;)V"⟩
abbrev cX3_total : ByteArray := prog_5_method_5_code
def yX3_total : MethodName := ⟨RX3, "total", "(II)I"⟩
abbrev cX3_greatest : ByteArray := prog_5_method_6_code
def yX3_greatest : MethodName := ⟨RX3, "greatest", "(II)I"⟩
def RX4 : String := "LeaningTrees$Slot"
def TX4 : u_T := fun k => match k with
  | 0 => ("LeaningTrees$Slot", "tree", "LLeaningTrees$Tree;", true)
  | _ => ("LeaningTrees$Slot", "isSaved", "Z", false)
def tyX4 : Nat → FieldType := fun k => match k with
  | 0 => .object "LeaningTrees$Tree"
  | _ => .boolean
theorem nmX4 : ∀ a, a < 2 → ∀ b, b < 2 → a ≠ b → (TX4 a).2.1 ≠ (TX4 b).2.1 := by decide +kernel
theorem tyX4_ok : ∀ k, k < 2 → parseFieldDescriptor (TX4 k).2.2.1 = some (tyX4 k) := by decide +kernel
abbrev cX4_init : ByteArray := prog_6_method_1_code
def yX4_init : MethodName := ⟨RX4, "<init>", "()V"⟩
def RX5 : String := "LeaningTrees$Tree"
def TX5 : u_T := fun k => match k with
  | 0 => ("LeaningTrees$Tree", "settings", "LLeaningTrees$Row;", true)
  | 1 => ("LeaningTrees$Tree", "keys", "LLeaningTrees$Row;", true)
  | 2 => ("LeaningTrees$Tree", "values", "LLeaningTrees$Row;", true)
  | 3 => ("LeaningTrees$Tree", "paid", "LLeaningTrees$Row;", true)
  | 4 => ("LeaningTrees$Tree", "depths", "LLeaningTrees$Row;", true)
  | 5 => ("LeaningTrees$Tree", "full", "LLeaningTrees$Row;", true)
  | 6 => ("LeaningTrees$Tree", "nodes", "I", false)
  | 7 => ("LeaningTrees$Tree", "work", "I", false)
  | 8 => ("LeaningTrees$Tree", "funds", "I", false)
  | 9 => ("LeaningTrees$Tree", "rebuildings", "I", false)
  | _ => ("LeaningTrees$Tree", "heaviest", "I", false)
def tyX5 : Nat → FieldType := fun k => match k with
  | 0 => .object "LeaningTrees$Row"
  | 1 => .object "LeaningTrees$Row"
  | 2 => .object "LeaningTrees$Row"
  | 3 => .object "LeaningTrees$Row"
  | 4 => .object "LeaningTrees$Row"
  | 5 => .object "LeaningTrees$Row"
  | 6 => .int
  | 7 => .int
  | 8 => .int
  | 9 => .int
  | _ => .int
theorem nmX5 : ∀ a, a < 11 → ∀ b, b < 11 → a ≠ b → (TX5 a).2.1 ≠ (TX5 b).2.1 := by decide +kernel
theorem tyX5_ok : ∀ k, k < 11 → parseFieldDescriptor (TX5 k).2.2.1 = some (tyX5 k) := by decide +kernel
abbrev cX5_init : ByteArray := prog_7_method_1_code
def yX5_init : MethodName := ⟨RX5, "<init>", "()V"⟩
abbrev cX5_become : ByteArray := prog_7_method_2_code
def yX5_become : MethodName := ⟨RX5, "become", "(LLeaningTrees$Tree;)V"⟩
abbrev cX5_placeOf : ByteArray := prog_7_method_3_code
def yX5_placeOf : MethodName := ⟨RX5, "placeOf", "(I)I"⟩
abbrev cX5_nodeOf : ByteArray := prog_7_method_4_code
def yX5_nodeOf : MethodName := ⟨RX5, "nodeOf", "(I)I"⟩
abbrev cX5_fullNodeOf : ByteArray := prog_7_method_5_code
def yX5_fullNodeOf : MethodName := ⟨RX5, "fullNodeOf", "(I)I"⟩
abbrev cX5_isFull : ByteArray := prog_7_method_6_code
def yX5_isFull : MethodName := ⟨RX5, "isFull", "(I)Z"⟩
abbrev cX5_allKeys : ByteArray := prog_7_method_7_code
def yX5_allKeys : MethodName := ⟨RX5, "allKeys", "()I"⟩
abbrev cX5_keysAhead : ByteArray := prog_7_method_8_code
def yX5_keysAhead : MethodName := ⟨RX5, "keysAhead", "(I)I"⟩
abbrev cX5_placeOfKth : ByteArray := prog_7_method_9_code
def yX5_placeOfKth : MethodName := ⟨RX5, "placeOfKth", "(I)I"⟩
abbrev cX5_lowestOf : ByteArray := prog_7_method_10_code
def yX5_lowestOf : MethodName := ⟨RX5, "lowestOf", "(I)I"⟩
abbrev cX5_highestOf : ByteArray := prog_7_method_11_code
def yX5_highestOf : MethodName := ⟨RX5, "highestOf", "(I)I"⟩
abbrev cX5_topBetween : ByteArray := prog_7_method_12_code
def yX5_topBetween : MethodName := ⟨RX5, "topBetween", "(III)I"⟩
abbrev cX5_isTooHeavy : ByteArray := prog_7_method_13_code
def yX5_isTooHeavy : MethodName := ⟨RX5, "isTooHeavy", "(II)Z"⟩
abbrev cX5_leans : ByteArray := prog_7_method_14_code
def yX5_leans : MethodName := ⟨RX5, "leans", "(I)Z"⟩
abbrev cX5_leaningNodes : ByteArray := prog_7_method_15_code
def yX5_leaningNodes : MethodName := ⟨RX5, "leaningNodes", "()I"⟩
abbrev cX5_wouldLeanWithNewAt : ByteArray := prog_7_method_16_code
def yX5_wouldLeanWithNewAt : MethodName := ⟨RX5, "wouldLeanWithNewAt", "(I)I"⟩
abbrev cX5_costOf : ByteArray := prog_7_method_17_code
def yX5_costOf : MethodName := ⟨RX5, "costOf", "(I)I"⟩
abbrev cX5_hasRoomFor : ByteArray := prog_7_method_18_code
def yX5_hasRoomFor : MethodName := ⟨RX5, "hasRoomFor", "(I)Z"⟩
abbrev cX5_enter : ByteArray := prog_7_method_19_code
def yX5_enter : MethodName := ⟨RX5, "enter", "(II)I"⟩
abbrev cX5_hollowOut : ByteArray := prog_7_method_20_code
def yX5_hollowOut : MethodName := ⟨RX5, "hollowOut", "(I)I"⟩
abbrev cX5_layAnewFromKey : ByteArray := prog_7_method_21_code
def yX5_layAnewFromKey : MethodName := ⟨RX5, "layAnewFromKey", "(I)I"⟩
abbrev cX5_payOnWayTo : ByteArray := prog_7_method_22_code
def yX5_payOnWayTo : MethodName := ⟨RX5, "payOnWayTo", "(I)V"⟩
abbrev cX5_makeNode : ByteArray := prog_7_method_23_code
def yX5_makeNode : MethodName := ⟨RX5, "makeNode", "(III)V"⟩
abbrev cX5_moveNode : ByteArray := prog_7_method_24_code
def yX5_moveNode : MethodName := ⟨RX5, "moveNode", "(II)V"⟩
abbrev cX5_layAnew : ByteArray := prog_7_method_25_code
def yX5_layAnew : MethodName := ⟨RX5, "layAnew", "(I)I"⟩
abbrev cX5_spend : ByteArray := prog_7_method_26_code
def yX5_spend : MethodName := ⟨RX5, "spend", "(II)V"⟩
abbrev cX5_dropHollow : ByteArray := prog_7_method_27_code
def yX5_dropHollow : MethodName := ⟨RX5, "dropHollow", "(II)V"⟩
abbrev cX5_depthLaidEvenly : ByteArray := prog_7_method_28_code
def yX5_depthLaidEvenly : MethodName := ⟨RX5, "depthLaidEvenly", "(II)I"⟩
def RX6 : String := "LeaningTrees"
def TX6 : u_T := fun k => match k with
  | 0 => ("LeaningTrees", "now", "LLeaningTrees$Tree;", true)
  | 1 => ("LeaningTrees", "history", "LLeaningTrees$History;", true)
  | 2 => ("LeaningTrees", "slots", "[LLeaningTrees$Slot;", true)
  | 3 => ("LeaningTrees", "pad", "LLeaningTrees$Pad;", true)
  | _ => ("LeaningTrees", "reader", "LLeaningTrees$OrderReader;", true)
def tyX6 : Nat → FieldType := fun k => match k with
  | 0 => .object "LeaningTrees$Tree"
  | 1 => .object "LeaningTrees$History"
  | 2 => .array (.object "LeaningTrees$Slot")
  | 3 => .object "LeaningTrees$Pad"
  | _ => .object "LeaningTrees$OrderReader"
theorem nmX6 : ∀ a, a < 5 → ∀ b, b < 5 → a ≠ b → (TX6 a).2.1 ≠ (TX6 b).2.1 := by decide +kernel
theorem tyX6_ok : ∀ k, k < 5 → parseFieldDescriptor (TX6 k).2.2.1 = some (tyX6 k) := by decide +kernel
abbrev cX6_init : ByteArray := prog_1_method_1_code
def yX6_init : MethodName := ⟨RX6, "<init>", "()V"⟩
abbrev cX6_set : ByteArray := prog_1_method_2_code
def yX6_set : MethodName := ⟨RX6, "set", "(II)I"⟩
abbrev cX6_putIn : ByteArray := prog_1_method_3_code
def yX6_putIn : MethodName := ⟨RX6, "putIn", "(II)I"⟩
abbrev cX6_remove : ByteArray := prog_1_method_4_code
def yX6_remove : MethodName := ⟨RX6, "remove", "(I)I"⟩
abbrev cX6_rebuild : ByteArray := prog_1_method_5_code
def yX6_rebuild : MethodName := ⟨RX6, "rebuild", "(I)I"⟩
abbrev cX6_value : ByteArray := prog_1_method_6_code
def yX6_value : MethodName := ⟨RX6, "value", "(I)I"⟩
abbrev cX6_node : ByteArray := prog_1_method_7_code
def yX6_node : MethodName := ⟨RX6, "node", "(II)I"⟩
abbrev cX6_count : ByteArray := prog_1_method_8_code
def yX6_count : MethodName := ⟨RX6, "count", "(I)I"⟩
abbrev cX6_rank : ByteArray := prog_1_method_11_code
def yX6_rank : MethodName := ⟨RX6, "rank", "(I)I"⟩
abbrev cX6_kth : ByteArray := prog_1_method_12_code
def yX6_kth : MethodName := ⟨RX6, "kth", "(I)I"⟩
abbrev cX6_neighbour : ByteArray := prog_1_method_13_code
def yX6_neighbour : MethodName := ⟨RX6, "neighbour", "(II)I"⟩
abbrev cX6_sum : ByteArray := prog_1_method_14_code
def yX6_sum : MethodName := ⟨RX6, "sum", "(II)I"⟩
abbrev cX6_wouldCost : ByteArray := prog_1_method_15_code
def yX6_wouldCost : MethodName := ⟨RX6, "wouldCost", "(I)I"⟩
abbrev cX6_undo : ByteArray := prog_1_method_21_code
def yX6_undo : MethodName := ⟨RX6, "undo", "()I"⟩
abbrev cX6_isNumber : ByteArray := prog_1_method_24_code
def yX6_isNumber : MethodName := ⟨RX6, "isNumber", "(I)Z"⟩
abbrev cX6_isSetting : ByteArray := prog_1_method_25_code
def yX6_isSetting : MethodName := ⟨RX6, "isSetting", "(II)Z"⟩
abbrev cX6_aboutNode : ByteArray := prog_1_method_27_code
def yX6_aboutNode : MethodName := ⟨RX6, "aboutNode", "(II)I"⟩
abbrev cX6_shapeOfTree : ByteArray := prog_1_method_28_code
def yX6_shapeOfTree : MethodName := ⟨RX6, "shapeOfTree", "(I)I"⟩
abbrev cX6_booksOfTree : ByteArray := prog_1_method_29_code
def yX6_booksOfTree : MethodName := ⟨RX6, "booksOfTree", "(I)I"⟩
abbrev cX6_keyOfTop : ByteArray := prog_1_method_30_code
def yX6_keyOfTop : MethodName := ⟨RX6, "keyOfTop", "(III)I"⟩
def RX7 : String := "LeaningTreesModel"
def TX7 : u_T := fun k => match k with
  | _ => ("", "", "", false)
def tyX7 : Nat → FieldType := fun k => match k with
  | _ => .int
theorem nmX7 : ∀ a, a < 0 → ∀ b, b < 0 → a ≠ b → (TX7 a).2.1 ≠ (TX7 b).2.1 := by decide +kernel
theorem tyX7_ok : ∀ k, k < 0 → parseFieldDescriptor (TX7 k).2.2.1 = some (tyX7 k) := by decide +kernel
def RL : String := "LeaningTreesLaw"
abbrev cL_cell : ByteArray := method_2_code
def yL_cell : MethodName := ⟨RL, "cell", "([II)I"⟩
abbrev cL_up : ByteArray := method_3_code
def yL_up : MethodName := ⟨RL, "up", "(II)I"⟩
abbrev cL_paid : ByteArray := method_4_code
def yL_paid : MethodName := ⟨RL, "paid", "(LLeaningTrees;)I"⟩
abbrev cL_isStep : ByteArray := method_5_code
def yL_isStep : MethodName := ⟨RL, "isStep", "(LLeaningTrees;I)Z"⟩
abbrev cL_isTree : ByteArray := method_6_code
def yL_isTree : MethodName := ⟨RL, "isTree", "(LLeaningTrees;)Z"⟩
abbrev cL_areKeys : ByteArray := method_7_code
def yL_areKeys : MethodName := ⟨RL, "areKeys", "(LLeaningTrees;)Z"⟩
abbrev cL_law : ByteArray := code
def yL_law : MethodName := ⟨RL, "law", "([I)Z"⟩
abbrev s_host : String := "LeaningTrees"
def s_vw : List vw_C := [(RX0, TX0, 2), (RX1, TX1, 5), (RX2, TX2, 2), (RX3, TX3, 1), (RX4, TX4, 2), (RX5, TX5, 11), (RX6, TX6, 5)]
def s_tyf : Nat → Nat → FieldType := fun c => match c with
  | 0 => tyX0
  | 1 => tyX1
  | 2 => tyX2
  | 3 => tyX3
  | 4 => tyX4
  | 5 => tyX5
  | _ => tyX6
def s_snf : Nat → String × String × String := fun j => match j with
  | 0 => ("LeaningTrees", "FIRST_SETTINGS", "[I")
  | 1 => ("LeaningTrees", "LEAST_SETTINGS", "[I")
  | _ => ("LeaningTrees", "GREATEST_SETTINGS", "[I")
def s_nwl : List Jvm.Cond := [.methodLinkNest "LeaningTrees" 31 yX2_init "LeaningTrees", .methodLinkNest "LeaningTrees" 38 yX1_init "LeaningTrees", .methodLinkNest "LeaningTrees" 43 yX4_init "LeaningTrees", .fieldLinkNest "LeaningTrees$Tree" 11 "LeaningTrees" "FIRST_SETTINGS" "[I" "LeaningTrees", .arrayOver (.object RX4), .arrayOver (.object RX5)]
abbrev s_rkl : List Nat := [4, 5]
end
section
/-! THE SMALL MACHINE: a method's walk as a function of pure data. A reference is a number i: 0 .. 3 are arrays that nobody writes (three statics, the script), from 4 on the cells that the run makes, in their order.
    A heap: the ints (cell, place), the references (cell, place), the shapes: (0, c): an object of class c; (1, n): an int array of n; (t + 2, n): an array of n references. -/
abbrev sHp : Type := (Nat → Nat → Int32) × (Nat → Nat → Option Nat) × List (Nat × Nat)
/-- a row of a method's code: pc, the instruction with its links resolved, its length, its pool index, the places of its words -/
abbrev sE : Type := Nat × Instr × Nat × Nat × List Nat
/-- a method: name, bytes, locals, what it returns, how many values it takes (the receiver too), frames and words of locals below it, its rows -/
abbrev sM : Type := MethodName × ByteArray × Nat × Option FieldType × Nat × Nat × Nat × List sE
abbrev s_y (r : sM) : MethodName := r.1
abbrev s_b (r : sM) : ByteArray := r.2.1
abbrev s_mL (r : sM) : Nat := r.2.2.1
abbrev s_rt (r : sM) : Option FieldType := r.2.2.2.1
abbrev s_na (r : sM) : Nat := r.2.2.2.2.1
abbrev s_fr (r : sM) : Nat := r.2.2.2.2.2.1
abbrev s_lo (r : sM) : Nat := r.2.2.2.2.2.2.1
abbrev s_cd (r : sM) : List sE := r.2.2.2.2.2.2.2
def s_nth {α : Type} : List α → Nat → Option α
  | [], _ => none
  | a :: _, 0 => some a
  | _ :: l, n + 1 => s_nth l n
theorem s_nth_eq {α : Type} : ∀ (l : List α) (n : Nat), s_nth l n = l[n]?
  | [], n => by simp [s_nth]
  | a :: l, 0 => by simp [s_nth]
  | a :: l, n + 1 => by rw [s_nth, s_nth_eq l n, List.getElem?_cons_succ]
def s_at : List sE → Nat → Option sE
  | [], _ => none
  | e :: l, pc => if e.1 = pc then some e else s_at l pc
theorem s_at_mem : ∀ {l : List sE} {pc : Nat} {e : sE}, s_at l pc = some e → e ∈ l ∧ e.1 = pc
  | [], pc, e, h => by cases h
  | a :: l, pc, e, h => by
    unfold s_at at h
    split at h
    next hq => cases h; exact ⟨List.mem_cons_self, hq⟩
    next hq => exact ⟨List.mem_cons_of_mem _ (s_at_mem h).1, (s_at_mem h).2⟩
/-- no value: a local that isn't set, or the second half of a long -/
abbrev s_no : Value := .retAddr 0
def s_two : Value → Bool
  | .long _ => true
  | .double _ => true
  | _ => false
theorem s_two_cat (v : Value) : (s_two v = true ↔ v.category = 2) := by cases v <;> simp [s_two, Value.category]
/-- what stands ahead of a place that is written: a long there loses its second half -/
def s_cut : List Value → Nat → List Value
  | [], _ => []
  | l, 0 => l
  | v :: l, 1 => (if s_two v then s_no else v) :: l
  | v :: l, n + 2 => v :: s_cut l (n + 1)
def s_put1 (l : List Value) (i : Nat) (v : Value) : List Value := (s_cut l i).set i v
def s_put2 (l : List Value) (i : Nat) (v : Value) : List Value := ((s_cut l i).set i v).set (i + 1) s_no
/-- the locals at a method's entry -/
def s_ent : List Value → Nat → List Value
  | [], n => List.replicate n s_no
  | v :: vs, n => if s_two v then v :: s_no :: s_ent vs (n - 2) else v :: s_ent vs (n - 1)
def s_upd (Z : Nat → Nat → Int32) (a k : Nat) (x : Int32) : Nat → Nat → Int32 := fun i => if i = a then upd (Z i) k x else Z i
def s_updR (R : Nat → Nat → Option Nat) (a k : Nat) (x : Option Nat) : Nat → Nat → Option Nat := fun i => if i = a then va_up (R i) k x else R i
def s_new (h : sHp) (t n : Nat) : sHp := (fun i => if i = h.2.2.length then (fun _ => 0) else h.1 i, fun i => if i = h.2.2.length then (fun _ => none) else h.2.1 i, h.2.2 ++ [(t, n)])
def s_cnd (c : Jvm.ClassFile.Cond) (x y : Int32) : Bool := match c with
  | .eq => decide (x = y)
  | .ne => decide (x ≠ y)
  | .lt => decide (x < y)
  | .ge => decide (y ≤ x)
  | .gt => decide (y < x)
  | .le => decide (x ≤ y)
abbrev sC : Type := Nat × List Value × List Value × sHp
def s_out (i : Int32) (n : Nat) : Prop := i < 0 ∨ n ≤ i.toNatClampNeg
def s_outb (i : Int32) (n : Nat) : Bool := decide (i < 0) || Nat.ble n i.toNatClampNeg
def s_cat : List Value → Nat
  | [] => 0
  | v :: l => (if s_two v then 2 else 1) + s_cat l
/-- one instruction that calls nothing and returns nothing -/
def s_x (i : Instr) (pc n : Nat) (ls st : List Value) (h : sHp) : Option sC :=
  match i with
  | .iconst v => some (pc + n, ls, .int (Int32.ofInt v) :: st, h)
  | .bipush v => some (pc + n, ls, .int (Int8.ofInt v).toInt32 :: st, h)
  | .sipush v => some (pc + n, ls, .int (Int16.ofInt v).toInt32 :: st, h)
  | .ldc v => some (pc + n, ls, .int (Int32.ofNat v) :: st, h)
  | .ldc_w v => some (pc + n, ls, .int (Int32.ofNat v) :: st, h)
  | .ldc2_w v => some (pc + n, ls, .long (Int64.ofNat v) :: st, h)
  | .ret v => some (pc + n, ls, .float (UInt32.ofNat v) :: st, h)
  | .multianewarray v _ => some (pc + n, ls, .float (UInt32.ofNat v) :: st, h)
  | .putstatic v => some (pc + n, ls, .double (UInt64.ofNat v) :: st, h)
  | .lconst k => some (pc + n, ls, .long (Int64.ofNat k.val) :: st, h)
  | .fconst k => some (pc + n, ls, .float (if k.val = 0 then FP.fconst0 else if k.val = 1 then FP.fconst1 else FP.fconst2) :: st, h)
  | .dconst k => some (pc + n, ls, .double (if k.val = 0 then FP.dconst0 else FP.dconst1) :: st, h)
  | .aconst_null => some (pc + n, ls, .null :: st, h)
  | .iload_n k => (match s_nth ls k.val with | some (.int x) => some (pc + n, ls, .int x :: st, h) | _ => none)
  | .iload k => (match s_nth ls k with | some (.int x) => some (pc + n, ls, .int x :: st, h) | _ => none)
  | .lload_n k => (match s_nth ls k.val with | some (.long x) => some (pc + n, ls, .long x :: st, h) | _ => none)
  | .lload k => (match s_nth ls k with | some (.long x) => some (pc + n, ls, .long x :: st, h) | _ => none)
  | .fload_n k => (match s_nth ls k.val with | some (.float x) => some (pc + n, ls, .float x :: st, h) | _ => none)
  | .dload_n k => (match s_nth ls k.val with | some (.double x) => some (pc + n, ls, .double x :: st, h) | _ => none)
  | .aload_n k => (match s_nth ls k.val with | some (.ref x) => some (pc + n, ls, .ref x :: st, h) | some .null => some (pc + n, ls, .null :: st, h) | _ => none)
  | .aload k => (match s_nth ls k with | some (.ref x) => some (pc + n, ls, .ref x :: st, h) | some .null => some (pc + n, ls, .null :: st, h) | _ => none)
  | .istore_n k => (match st with
    | .int x :: r => if k.val < ls.length then some (pc + n, s_put1 ls k.val (.int x), r, h) else none
    | _ => none)
  | .istore k => (match st with
    | .int x :: r => if k < ls.length then some (pc + n, s_put1 ls k (.int x), r, h) else none
    | _ => none)
  | .fstore_n k => (match st with
    | .float x :: r => if k.val < ls.length then some (pc + n, s_put1 ls k.val (.float x), r, h) else none
    | _ => none)
  | .lstore_n k => (match st with
    | .long x :: r => if k.val + 1 < ls.length then some (pc + n, s_put2 ls k.val (.long x), r, h) else none
    | _ => none)
  | .lstore k => (match st with
    | .long x :: r => if k + 1 < ls.length then some (pc + n, s_put2 ls k (.long x), r, h) else none
    | _ => none)
  | .dstore_n k => (match st with
    | .double x :: r => if k.val + 1 < ls.length then some (pc + n, s_put2 ls k.val (.double x), r, h) else none
    | _ => none)
  | .astore_n k => (match st with
    | .ref x :: r => if k.val < ls.length then some (pc + n, s_put1 ls k.val (.ref x), r, h) else none
    | .null :: r => if k.val < ls.length then some (pc + n, s_put1 ls k.val .null, r, h) else none
    | _ => none)
  | .astore k => (match st with
    | .ref x :: r => if k < ls.length then some (pc + n, s_put1 ls k (.ref x), r, h) else none
    | .null :: r => if k < ls.length then some (pc + n, s_put1 ls k .null, r, h) else none
    | _ => none)
  | .iinc k v => (match s_nth ls k with | some (.int x) => some (pc + n, s_put1 ls k (.int (x + Int32.ofInt v)), st, h) | _ => none)
  | .dup => (match st with
    | v :: r => if s_two v then none else some (pc + n, ls, v :: v :: r, h)
    | _ => none)
  | .pop => (match st with
    | v :: r => if s_two v then none else some (pc + n, ls, r, h)
    | _ => none)
  | .dup2 => (match st with
    | v :: r => if s_two v then some (pc + n, ls, v :: v :: r, h) else (match r with | w :: r2 => if s_two w then none else some (pc + n, ls, v :: w :: v :: w :: r2, h) | [] => none)
    | _ => none)
  | .iadd => (match st with
    | .int y :: .int x :: r => some (pc + n, ls, .int (x + y) :: r, h)
    | _ => none)
  | .isub => (match st with
    | .int y :: .int x :: r => some (pc + n, ls, .int (x - y) :: r, h)
    | _ => none)
  | .imul => (match st with
    | .int y :: .int x :: r => some (pc + n, ls, .int (x * y) :: r, h)
    | _ => none)
  | .iand => (match st with
    | .int y :: .int x :: r => some (pc + n, ls, .int (x &&& y) :: r, h)
    | _ => none)
  | .ior => (match st with
    | .int y :: .int x :: r => some (pc + n, ls, .int (x ||| y) :: r, h)
    | _ => none)
  | .ishl => (match st with
    | .int y :: .int x :: r => some (pc + n, ls, .int (x <<< (y &&& 31)) :: r, h)
    | _ => none)
  | .idiv => (match st with
    | .int y :: .int x :: r => if y = 0 then none else some (pc + n, ls, .int (x / y) :: r, h)
    | _ => none)
  | .irem => (match st with
    | .int y :: .int x :: r => if y = 0 then none else some (pc + n, ls, .int (x - x / y * y) :: r, h)
    | _ => none)
  | .ishr => (match st with
    | .int y :: .int x :: r => some (pc + n, ls, .int (x >>> (y &&& 31)) :: r, h)
    | _ => none)
  | .ladd => (match st with
    | .long y :: .long x :: r => some (pc + n, ls, .long (x + y) :: r, h)
    | _ => none)
  | .lsub => (match st with
    | .long y :: .long x :: r => some (pc + n, ls, .long (x - y) :: r, h)
    | _ => none)
  | .land => (match st with
    | .long y :: .long x :: r => some (pc + n, ls, .long (x &&& y) :: r, h)
    | _ => none)
  | .lor => (match st with
    | .long y :: .long x :: r => some (pc + n, ls, .long (x ||| y) :: r, h)
    | _ => none)
  | .lshl => (match st with
    | .int y :: .long x :: r => some (pc + n, ls, .long (x <<< (y.toInt64 &&& 63)) :: r, h)
    | _ => none)
  | .lushr => (match st with
    | .int y :: .long x :: r => some (pc + n, ls, .long (x.toUInt64 >>> (y.toInt64.toUInt64 &&& Int64.toUInt64 63)).toInt64 :: r, h)
    | _ => none)
  | .i2l => (match st with
    | .int x :: r => some (pc + n, ls, .long x.toInt64 :: r, h)
    | _ => none)
  | .l2i => (match st with
    | .long x :: r => some (pc + n, ls, .int x.toInt32 :: r, h)
    | _ => none)
  | .i2f => (match st with
    | .int x :: r => some (pc + n, ls, .float (FP.i2f x) :: r, h)
    | _ => none)
  | .i2d => (match st with
    | .int x :: r => some (pc + n, ls, .double (FP.i2d x) :: r, h)
    | _ => none)
  | .l2d => (match st with
    | .long x :: r => some (pc + n, ls, .double (FP.l2d x) :: r, h)
    | _ => none)
  | .d2l => (match st with
    | .double x :: r => some (pc + n, ls, .long (FP.d2l x) :: r, h)
    | _ => none)
  | .f2i => (match st with
    | .float x :: r => some (pc + n, ls, .int (FP.f2i x) :: r, h)
    | _ => none)
  | .lcmp => (match st with
    | .long y :: .long x :: r => some (pc + n, ls, .int (lg_cmp x y) :: r, h)
    | _ => none)
  | .fcmp op => (match st with
    | .float y :: .float x :: r => some (pc + n, ls, .int (Op.cmpValue (FP.fcmp x y) op) :: r, h)
    | _ => none)
  | .dcmp op => (match st with
    | .double y :: .double x :: r => some (pc + n, ls, .int (Op.cmpValue (FP.dcmp x y) op) :: r, h)
    | _ => none)
  | .fsub => (match st with
    | .float y :: .float x :: r => if FP.fsub x y &&& 0x7fffffff ≤ 0x7f800000 then some (pc + n, ls, .float (FP.fsub x y) :: r, h) else none
    | _ => none)
  | .fmul => (match st with
    | .float y :: .float x :: r => if FP.fmul x y &&& 0x7fffffff ≤ 0x7f800000 then some (pc + n, ls, .float (FP.fmul x y) :: r, h) else none
    | _ => none)
  | .fdiv => (match st with
    | .float y :: .float x :: r => if FP.fdiv x y &&& 0x7fffffff ≤ 0x7f800000 then some (pc + n, ls, .float (FP.fdiv x y) :: r, h) else none
    | _ => none)
  | .dsub => (match st with
    | .double y :: .double x :: r => if FP.dsub x y &&& 0x7fffffffffffffff ≤ 0x7ff0000000000000 then some (pc + n, ls, .double (FP.dsub x y) :: r, h) else none
    | _ => none)
  | .dmul => (match st with
    | .double y :: .double x :: r => if FP.dmul x y &&& 0x7fffffffffffffff ≤ 0x7ff0000000000000 then some (pc + n, ls, .double (FP.dmul x y) :: r, h) else none
    | _ => none)
  | .ddiv => (match st with
    | .double y :: .double x :: r => if FP.ddiv x y &&& 0x7fffffffffffffff ≤ 0x7ff0000000000000 then some (pc + n, ls, .double (FP.ddiv x y) :: r, h) else none
    | _ => none)
  | .drem => (match st with
    | .double y :: .double x :: r => if FP.drem x y &&& 0x7fffffffffffffff ≤ 0x7ff0000000000000 then some (pc + n, ls, .double (FP.drem x y) :: r, h) else none
    | _ => none)
  | .ifCond c t => (match st with
    | .int x :: r => some (if s_cnd c x 0 = true then t.toNat else pc + n, ls, r, h)
    | _ => none)
  | .if_icmp c t => (match st with
    | .int y :: .int x :: r => some (if s_cnd c x y = true then t.toNat else pc + n, ls, r, h)
    | _ => none)
  | .ifnull t => (match st with
    | .null :: r => some (t.toNat, ls, r, h)
    | .ref _ :: r => some (pc + n, ls, r, h)
    | _ => none)
  | .ifnonnull t => (match st with
    | .null :: r => some (pc + n, ls, r, h)
    | .ref _ :: r => some (t.toNat, ls, r, h)
    | _ => none)
  | .goto t => some (t.toNat, ls, st, h)
  | .tableswitch d lo hi o => (match st with
    | .int x :: r => if x.toInt < lo ∨ hi < x.toInt then some (d.toNat, ls, r, h) else (match s_nth o.toList (x.toInt - lo).toNat with | some t => some (t.toNat, ls, r, h) | none => none)
    | _ => none)
  | .lookupswitch d ps => (match st with
    | .int x :: r => some ((Op.lookupswitch.offset ps.toList d x.toInt).toNat, ls, r, h)
    | _ => none)
  | .getfield e => (match st with
    | .ref a :: r => (match s_nth h.2.2 a with
    | some (0, c) => if c = e / 1024 then (if e % 8 = 2 then (match h.2.1 a (e % 1024 / 8) with | some b => some (pc + n, ls, .ref b :: r, h) | none => some (pc + n, ls, .null :: r, h)) else some (pc + n, ls, .int (h.1 a (e % 1024 / 8)) :: r, h)) else none
    | _ => none)
    | _ => none)
  | .putfield e => (match st with
    | .int x :: .ref a :: r => (match s_nth h.2.2 a with
    | some (0, c) => if c = e / 1024 then (if e % 8 = 0 then some (pc + n, ls, r, (s_upd h.1 a (e % 1024 / 8) x, h.2)) else if e % 8 = 1 then (if x = 0 ∨ x = 1 then some (pc + n, ls, r, (s_upd h.1 a (e % 1024 / 8) x, h.2)) else none) else none) else none
    | _ => none)
    | .ref b :: .ref a :: r => (match s_nth h.2.2 a with
    | some (0, c) => if c = e / 1024 then (if e % 8 = 2 then some (pc + n, ls, r, (h.1, s_updR h.2.1 a (e % 1024 / 8) (some b), h.2.2)) else none) else none
    | _ => none)
    | _ => none)
  | .getstatic j => some (pc + n, ls, .ref j :: st, h)
  | .instanceof j => some (pc + n, ls, .ref j :: st, h)
  | .arraylength => (match st with
    | .ref a :: r => (match s_nth h.2.2 a with
    | some (t + 1, m) => some (pc + n, ls, .int (Int32.ofNat m) :: r, h)
    | _ => none)
    | _ => none)
  | .iaload => (match st with
    | .int i :: .ref a :: r => (match s_nth h.2.2 a with
    | some (1, m) => if s_outb i m = true then none else some (pc + n, ls, .int (h.1 a i.toNatClampNeg) :: r, h)
    | _ => none)
    | _ => none)
  | .iastore => (match st with
    | .int x :: .int i :: .ref a :: r => (match s_nth h.2.2 a with
    | some (1, m) => if s_outb i m = true ∨ a < 4 then none else some (pc + n, ls, r, (s_upd h.1 a i.toNatClampNeg x, h.2))
    | _ => none)
    | _ => none)
  | .aaload => (match st with
    | .int i :: .ref a :: r => (match s_nth h.2.2 a with
    | some (t + 2, m) => if s_outb i m = true ∨ a < 4 then none else (match h.2.1 a i.toNatClampNeg with | some b => some (pc + n, ls, .ref b :: r, h) | none => some (pc + n, ls, .null :: r, h))
    | _ => none)
    | _ => none)
  | .aastore => (match st with
    | .ref b :: .int i :: .ref a :: r => (match s_nth h.2.2 a, s_nth h.2.2 b with
    | some (t + 2, m), some (0, c) => if s_outb i m = true ∨ a < 4 ∨ b < 4 ∨ c ≠ t then none else some (pc + n, ls, r, (h.1, s_updR h.2.1 a i.toNatClampNeg (some b), h.2.2))
    | _, _ => none)
    | _ => none)
  | .new c => some (pc + n, ls, .ref h.2.2.length :: st, s_new h 0 c)
  | .newarray .int => (match st with
    | .int k :: r => if k < 0 ∨ 65536 < k then none else some (pc + n, ls, .ref h.2.2.length :: r, s_new h 1 k.toNatClampNeg)
    | _ => none)
  | .anewarray t => (match st with
    | .int k :: r => if k < 0 ∨ 65536 < k then none else some (pc + n, ls, .ref h.2.2.length :: r, s_new h (t + 2) k.toNatClampNeg)
    | _ => none)
  | .monitorenter => (match st with
    | .ref _ :: r => if 8 < s_cat r then none else some (pc + n, ls, r, h)
    | _ => none)
  | .monitorexit => (match st with
    | .int k :: .int dp :: .ref b :: .int sp :: .ref a :: r => (match s_nth h.2.2 a, s_nth h.2.2 b with
    | some (1, na), some (1, nb) => if 8 < s_cat r ∨ sp < 0 ∨ dp < 0 ∨ k < 0 ∨ na < sp.toNatClampNeg + k.toNatClampNeg ∨ nb < dp.toNatClampNeg + k.toNatClampNeg ∨ a < 4 ∨ b < 4 then none
      else some (pc + n, ls, r, (fun i => if i = b then va_cpy (h.1 a) (h.1 b) sp.toNatClampNeg dp.toNatClampNeg k.toNatClampNeg else h.1 i, h.2))
    | _, _ => none)
    | _ => none)
  | .jsr _ => (match st with
    | .int y :: .int x :: r => if 8 < s_cat r then none else some (pc + n, ls, .int (if x < y then y else x) :: r, h)
    | _ => none)
  | .jsr_w _ => (match st with
    | .int y :: .int x :: r => if 8 < s_cat r then none else some (pc + n, ls, .int (if y < x then y else x) :: r, h)
    | _ => none)
  | .nop => (match st with
    | .double x :: r => if 8 < s_cat r then none else some (pc + n, ls, .long x.toInt64 :: r, h)
    | _ => none)
  | .swap => (match st with
    | .float x :: r => if 8 < s_cat r then none else some (pc + n, ls, .int x.toInt32 :: r, h)
    | _ => none)
  | _ => none
/-- a call's kind: 0 virtual, 1 static, 2 special, 3 special of a nest mate; and the method's number -/
def s_ci : Instr → Option (Nat × Nat)
  | .invokevirtual k => some (0, k)
  | .invokestatic k => some (1, k)
  | .invokespecial k => some (2, k)
  | .invokeinterface k _ => some (3, k)
  | _ => none
/-- what a method hands back -/
def s_rx (i : Instr) (rt : Option FieldType) (st : List Value) : Option (Option Value) :=
  match i, rt, st with
  | .return_, none, [] => some none
  | .ireturn, some .int, [.int v] => some (some (.int v))
  | .ireturn, some .boolean, [.int v] => if v = 0 ∨ v = 1 then some (some (.int v)) else none
  | .lreturn, some .long, [.long v] => some (some (.long v))
  | .areturn, some (.object _), [.ref a] => some (some (.ref a))
  | .areturn, some (.object _), [.null] => some (some .null)
  | _, _, _ => none
/-- may the receiver of a call be this value: an object of the method's own kind -/
def s_rc (kind : Nat) (cn : Option Nat) (h : sHp) (as : List Value) : Bool := match kind with
  | 1 => true
  | 0 => (match as with
    | .ref a :: _ => (match s_nth h.2.2 a, cn with
      | some (0, c), some c2 => Nat.beq c c2
      | _, _ => false)
    | _ => false)
  | _ => (match as with
    | .ref _ :: _ => true
    | _ => false)
def s_run (MT : Nat → Option (sM × Option Nat)) : Nat → Nat → Nat → List Value → List Value → sHp → Option (Option Value × sHp)
  | 0, _, _, _, _, _ => none
  | f + 1, k, pc, ls, st, h => match MT k with
    | none => none
    | some r => match s_at (s_cd r.1) pc with
      | none => none
      | some e => match s_ci e.2.1 with
        | some q => (match MT q.2 with
          | none => none
          | some r2 => if st.length < s_na r2.1 ∨ s_mL r2.1 < s_cat (st.take (s_na r2.1)).reverse ∨ 8 < s_cat (st.drop (s_na r2.1)) ∨ s_rc q.1 r2.2 h (st.take (s_na r2.1)).reverse = false then none
            else (match s_run MT f q.2 0 (s_ent (st.take (s_na r2.1)).reverse (s_mL r2.1)) [] h with
              | none => none
              | some o => s_run MT f k (pc + 3) ls (o.1.toList ++ st.drop (s_na r2.1)) o.2))
        | none => match s_rx e.2.1 (s_rt r.1) st with
          | some v => some (v, h)
          | none => (match s_x e.2.1 pc e.2.2.1 ls st h with
            | none => none
            | some c => s_run MT f k c.1 c.2.1 c.2.2.1 c.2.2.2)
end
section
/-! THE SMALL MACHINE'S HEAP IN THE REAL ONE. S: what is known of the classes; G: what a start adds (class numbers, addresses, the arrays that nobody writes). -/
abbrev s_SG : Type := List vw_C × (Nat → Nat → FieldType) × List Nat × (Nat → String × String × String) × Nat × List Jvm.Cond
abbrev s_cl (S : s_SG) : List vw_C := S.1
abbrev s_ty (S : s_SG) : Nat → Nat → FieldType := S.2.1
/-- the classes of which arrays are made -/
abbrev s_rk (S : s_SG) : List Nat := S.2.2.1
abbrev s_sn (S : s_SG) : Nat → String × String × String := S.2.2.2.1
abbrev s_ns (S : s_SG) : Nat := S.2.2.2.2.1
/-- words that a callee must be told one by one (nest mates, arrays of objects) -/
abbrev s_nw (S : s_SG) : List Jvm.Cond := S.2.2.2.2.2
abbrev s_DG : Type := va_G × (Nat → ClassId) × (Nat → Nat) × Nat × (Nat → Nat) × (Nat → Nat → Int32)
abbrev s_D (G : s_DG) : va_G := G.1
abbrev s_cA (G : s_DG) : Nat → ClassId := G.2.1
abbrev s_ad (G : s_DG) : Nat → Nat := G.2.2.1
abbrev s_B (G : s_DG) : Nat := G.2.2.2.1
abbrev s_Lc (G : s_DG) : Nat → Nat := G.2.2.2.2.1
abbrev s_xs (G : s_DG) : Nat → Nat → Int32 := G.2.2.2.2.2
def s_vc (G : s_DG) : Value → Value
  | .ref i => .ref (s_ad G i)
  | v => v
theorem s_vc_two (G : s_DG) (v : Value) : s_two (s_vc G v) = s_two v := by cases v <;> rfl
theorem s_vc_cat (G : s_DG) (v : Value) : (s_vc G v).category = if s_two v then 2 else 1 := by cases v <;> rfl
theorem s_cat_sum (G : s_DG) : ∀ l : List Value, ((l.map (s_vc G)).map fun v => v.category).sum = s_cat l
  | [] => rfl
  | v :: l => by
    rw [List.map_cons, List.map_cons, List.sum_cons, s_cat_sum G l, s_vc_cat]
    rfl
def s_kd : FieldType → Nat
  | .int => 0
  | .boolean => 1
  | _ => 2
def s_cn (S : s_SG) (c : Nat) : String := match (s_cl S)[c]? with
  | some q => q.1
  | none => ""
def s_F (S : s_SG) (c : Nat) : u_T := match (s_cl S)[c]? with
  | some q => q.2.1
  | none => fun _ => ("", "", "", false)
def s_N (S : s_SG) (c : Nat) : Nat := match (s_cl S)[c]? with
  | some q => q.2.2
  | none => 0
def s_fv (S : s_SG) (G : s_DG) (h : sHp) (i c k : Nat) : Value := if s_kd (s_ty S c k) = 2 then va_rf ((h.2.1 i k).map (s_ad G)) else .int (h.1 i k)
def s_cell (S : s_SG) (G : s_DG) (h : sHp) (i : Nat) : va_E := match h.2.2[i]? with
  | some (0, c) => .inr (c, (List.range (s_N S c)).map (s_fv S G h i c))
  | some (1, n) => .inl (s_cA G 1, n, .inl (h.1 i))
  | some (t + 2, n) => .inl (s_cA G (t + 2), n, .inr (.inr (.inr (.inr (fun k => (h.2.1 i k).map (s_ad G))))))
  | none => .inr (0, [])
def s_ws (S : s_SG) (G : s_DG) (h : sHp) : va_W := (List.range (h.2.2.length - 4)).map fun j => (s_ad G (j + 4), s_cell S G h (j + 4))
def s_tys (S : s_SG) (G : s_DG) : List (ClassId × FieldType) := (s_cA G 1, .int) :: (s_rk S).map fun t => (s_cA G (t + 2), .object (s_cn S t))
def s_A (G : s_DG) : Nat → Prop := fun q => s_B G ≤ q
def s_sz (S : s_SG) : List (Nat × Nat) → Nat
  | [] => 0
  | (0, c) :: l => s_N S c + s_sz S l
  | (_ + 1, n) :: l => n + s_sz S l
theorem s_sz_app (S : s_SG) (q : Nat × Nat) : ∀ l : List (Nat × Nat), s_sz S (l ++ [q]) = s_sz S l + s_sz S [q]
  | [] => by simp [s_sz]
  | (0, c) :: l => by
    rw [List.cons_append, s_sz, s_sz, s_sz_app S q l, Nat.add_assoc]
  | (t + 1, c) :: l => by
    rw [List.cons_append, s_sz, s_sz, s_sz_app S q l, Nat.add_assoc]
/-- the heap h stands in H -/
def s_Wd (S : s_SG) (G : s_DG) (h : sHp) (H : Heap) : Prop := 4 ≤ h.2.2.length ∧ va_P (s_D G) (s_cl S) (s_ws S G h) H ∧ (∀ i : Nat, i < 4 → h.2.2[i]? = some (1, s_Lc G i) ∧ h.1 i = s_xs G i) ∧ ∀ (i t n : Nat), h.2.2[i]? = some (t + 2, n) → t ∈ s_rk S
/-- what a start knows of the tables and of what nobody writes -/
def s_In (S : s_SG) (G : s_DG) (U : State) : Prop := va_K (s_D G) (s_cl S) (s_tys S G) U ∧ (∀ i : Nat, i < 4 → va_T .int (s_ad G i) (s_Lc G i) (fun j => .int (s_xs G i j)) (s_A G) U U.heap ∧ s_ad G i < s_B G) ∧ (∀ j : Nat, j < s_ns S → j < 4 ∧ va_Z (s_sn S j).1 (s_sn S j).2.1 (s_sn S j).2.2 (.ref (s_ad G j)) (s_A G) U U.heap) ∧ (∀ j : Nat, s_ad G (j + 4) = s_B G + j) ∧ ∀ w ∈ s_nw S, va_Nw w U
theorem s_ad_ge {S : s_SG} {G : s_DG} {U : State} (h : s_In S G U) {a : Nat} (ha : 4 ≤ a) : s_ad G a = s_B G + (a - 4) := by
  have := h.2.2.2.1 (a - 4)
  rwa [show a - 4 + 4 = a by omega] at this
theorem s_ws_len (S : s_SG) (G : s_DG) (h : sHp) : (s_ws S G h).length = h.2.2.length - 4 := by simp [s_ws]
theorem s_ws_get (S : s_SG) (G : s_DG) (h : sHp) (j : Nat) : (s_ws S G h)[j]? = if j < h.2.2.length - 4 then some (s_ad G (j + 4), s_cell S G h (j + 4)) else none := by
  unfold s_ws
  rw [List.getElem?_map]
  by_cases q : j < h.2.2.length - 4
  · rw [if_pos q, List.getElem?_range q]; rfl
  · rw [if_neg q, List.getElem?_eq_none (by rw [List.length_range]; omega)]; rfl
theorem s_ws_at (S : s_SG) (G : s_DG) (h : sHp) {a : Nat} (ha : 4 ≤ a) (hl : a < h.2.2.length) : (s_ws S G h)[a - 4]? = some (s_ad G a, s_cell S G h a) := by
  rw [s_ws_get, if_pos (by omega), show a - 4 + 4 = a by omega]
theorem s_ws_D {S : s_SG} {G : s_DG} {U : State} (hI : s_In S G U) (h : sHp) : va_D (s_A G) (s_ws S G h) := by
  have key : ∀ (k : Nat) (q : Nat × va_E), (s_ws S G h)[k]? = some q → q.1 = s_B G + k := by
    intro k q hk
    rw [s_ws_get] at hk
    split at hk
    · cases hk; exact hI.2.2.2.1 k
    · cases hk
  refine ⟨fun i j p q hi hj e => ?_, fun k q hk => ?_⟩
  · have h1 := key i p hi
    have h2 := key j q hj
    omega
  · show s_B G ≤ q.1
    rw [key k q hk]; omega
theorem s_ws_set (S : s_SG) (G : s_DG) {h h2 : sHp} {a : Nat} (ha : 4 ≤ a) (hl : a < h.2.2.length) (hs : h2.2.2 = h.2.2) (ho : ∀ i : Nat, i ≠ a → h2.1 i = h.1 i ∧ h2.2.1 i = h.2.1 i) {e : va_E} (he : e = s_cell S G h2 a) : (s_ws S G h).set (a - 4) (s_ad G a, e) = s_ws S G h2 := by
  apply List.ext_getElem?
  intro j
  rw [s_ws_get S G h2, hs]
  by_cases hj : j = a - 4
  · subst hj
    rw [List.getElem?_set_self (by rw [s_ws_len]; omega), if_pos (by omega), show a - 4 + 4 = a by omega, he]
  · rw [List.getElem?_set_ne (Ne.symm hj), s_ws_get]
    by_cases q : j < h.2.2.length - 4
    · rw [if_pos q, if_pos q]
      obtain ⟨o1, o2⟩ := ho (j + 4) (by omega)
      have : s_cell S G h2 (j + 4) = s_cell S G h (j + 4) := by
        have hf : ∀ c, s_fv S G h2 (j + 4) c = s_fv S G h (j + 4) c := fun c => by funext k; simp only [s_fv, o1, o2]
        simp only [s_cell, hs, o1, o2, hf]
      rw [this]
    · rw [if_neg q, if_neg q]
theorem s_Wd_len {S : s_SG} {G : s_DG} {h : sHp} {H : Heap} (hW : s_Wd S G h H) {a t n : Nat} (hs : s_nth h.2.2 a = some (t, n)) : h.2.2[a]? = some (t, n) ∧ a < h.2.2.length ∧ (t ≠ 1 → 4 ≤ a) := by
  rw [s_nth_eq] at hs
  refine ⟨hs, (List.getElem?_eq_some_iff.mp hs).1, fun ht => ?_⟩
  rcases Nat.lt_or_ge a 4 with q | q
  · have := (hW.2.2.1 a q).1
    rw [this] at hs
    cases hs
    exact absurd rfl ht
  · exact q
theorem s_Wd_put {S : s_SG} {G : s_DG} {h h2 : sHp} {H H1 : Heap} (hW : s_Wd S G h H) {a : Nat} (ha : 4 ≤ a) (hl : a < h.2.2.length) (hs : h2.2.2 = h.2.2) (ho : ∀ i : Nat, i ≠ a → h2.1 i = h.1 i ∧ h2.2.1 i = h.2.1 i) {e : va_E} (he : e = s_cell S G h2 a) (hP : va_P (s_D G) (s_cl S) ((s_ws S G h).set (a - 4) (s_ad G a, e)) H1) : s_Wd S G h2 H1 := by
  rw [s_ws_set S G ha hl hs ho he] at hP
  refine ⟨by rw [hs]; exact hW.1, hP, fun i hi => ?_, fun i t n hi => hW.2.2.2 i t n (by rw [← hs]; exact hi)⟩
  rw [hs, (ho i (by omega)).1]
  exact hW.2.2.1 i hi
theorem s_tys_0 (S : s_SG) (G : s_DG) : (s_tys S G)[0]? = some (s_cA G 1, .int) := rfl
theorem s_tys_r {S : s_SG} (G : s_DG) {t : Nat} (ht : t ∈ s_rk S) : ∃ j : Nat, (s_tys S G)[j]? = some (s_cA G (t + 2), .object (s_cn S t)) := by
  have h : ((s_cA G (t + 2), .object (s_cn S t)) : ClassId × FieldType) ∈ s_tys S G := List.mem_cons_of_mem _ (List.mem_map.mpr ⟨t, ht, rfl⟩)
  exact List.getElem?_of_mem h
/-! the locals -/
def s_as1 (G : s_DG) (i : Nat) : Value → Option (Nat × Value)
  | .retAddr _ => none
  | v => some (i, s_vc G v)
theorem s_as1_eq (G : s_DG) (i : Nat) (v : Value) (q : Nat × Value) : s_as1 G i v = some q ↔ ((∀ a, v ≠ .retAddr a) ∧ q = (i, s_vc G v)) := by
  cases v <;> simp [s_as1, eq_comm]
def s_asc (G : s_DG) (L : List Value) : List (Nat × Value) := (List.range L.length).filterMap fun i => (L[i]?).bind (s_as1 G i)
theorem s_asc_mem {G : s_DG} {L : List Value} {q : Nat × Value} : q ∈ s_asc G L ↔ ∃ v : Value, L[q.1]? = some v ∧ (∀ a, v ≠ .retAddr a) ∧ q.2 = s_vc G v := by
  unfold s_asc
  rw [List.mem_filterMap]
  constructor
  · rintro ⟨i, hi, h⟩
    obtain ⟨v, hv, h2⟩ := Option.bind_eq_some_iff.mp h
    obtain ⟨hn, rfl⟩ := (s_as1_eq G i v q).mp h2
    exact ⟨v, hv, hn, rfl⟩
  · rintro ⟨v, hv, hn, e⟩
    refine ⟨q.1, List.mem_range.mpr (List.getElem?_eq_some_iff.mp hv).1, ?_⟩
    rw [hv]
    exact (s_as1_eq G q.1 v q).mpr ⟨hn, by rw [← e]⟩
def s_LR (G : s_DG) (ls : Array Slot) (L : List Value) : Prop := lv_has ls L.length (s_asc G L)
theorem s_LR_at {G : s_DG} {ls : Array Slot} {L : List Value} (h : s_LR G ls L) {i : Nat} {v : Value} (hv : s_nth L i = some v) (hn : ∀ a, v ≠ .retAddr a) : ls[i]? = some (.val (s_vc G v)) := by
  rw [s_nth_eq] at hv
  exact h.2.2 (i, s_vc G v) (s_asc_mem.mpr ⟨v, hv, hn, rfl⟩)
theorem s_cut_len : ∀ (L : List Value) (i : Nat), (s_cut L i).length = L.length
  | [], _ => by simp [s_cut]
  | _ :: _, 0 => by simp [s_cut]
  | v :: l, 1 => by simp [s_cut]
  | v :: l, n + 2 => by simp [s_cut, s_cut_len l (n + 1)]
theorem s_cut_get : ∀ (L : List Value) (i j : Nat), (s_cut L i)[j]? = if j + 1 = i then (L[j]?).map (fun w => if s_two w then s_no else w) else L[j]?
  | [], i, j => by simp [s_cut]
  | v :: l, 0, j => by
    rw [if_neg (by omega)]
    simp [s_cut]
  | v :: l, 1, 0 => by simp [s_cut]
  | v :: l, 1, j + 1 => by
    rw [if_neg (by omega)]
    simp [s_cut]
  | v :: l, n + 2, 0 => by
    rw [if_neg (by omega)]
    simp [s_cut]
  | v :: l, n + 2, j + 1 => by
    rw [s_cut, List.getElem?_cons_succ, s_cut_get l (n + 1) j, List.getElem?_cons_succ]
    by_cases q : j + 1 = n + 1
    · rw [if_pos q, if_pos (by omega)]
    · rw [if_neg q, if_neg (by omega)]
theorem s_LR_put1 {G : s_DG} {ls : Array Slot} {L : List Value} {i : Nat} {v : Value} (h : lv_has ls L.length ((i, s_vc G v) :: (s_asc G L).filter (fun q => !(q.1 == i) && !(q.1 + 1 == i && q.2.category == 2)))) : s_LR G ls (s_put1 L i v) := by
  have hlen : (s_put1 L i v).length = L.length := by simp [s_put1, s_cut_len]
  unfold s_LR
  rw [hlen]
  refine ⟨h.1, h.2.1, fun q hq => ?_⟩
  obtain ⟨w, hw, hn, e⟩ := s_asc_mem.mp hq
  obtain ⟨j, qv⟩ := q
  dsimp only at hw e
  subst e
  by_cases hj : j = i
  · subst hj
    have hw2 : w = v := by
      have hl : j < (s_cut L j).length := by
        have := (List.getElem?_eq_some_iff.mp hw).1
        rw [hlen] at this
        rw [s_cut_len]; exact this
      rw [s_put1, List.getElem?_set_self hl] at hw
      exact (Option.some.inj hw).symm
    subst hw2
    exact h.2.2 _ List.mem_cons_self
  · rw [s_put1, List.getElem?_set_ne (Ne.symm hj), s_cut_get] at hw
    refine h.2.2 _ (List.mem_cons_of_mem _ (List.mem_filter.mpr ⟨s_asc_mem.mpr ?_, ?_⟩))
    · by_cases q : j + 1 = i
      · rw [if_pos q] at hw
        obtain ⟨w0, h0, h1⟩ := Option.map_eq_some_iff.mp hw
        by_cases h2 : s_two w0 = true
        · rw [if_pos h2] at h1
          exact absurd h1.symm (hn 0)
        · rw [if_neg h2] at h1
          exact ⟨w, by rw [← h1]; exact h0, hn, rfl⟩
      · rw [if_neg q] at hw
        exact ⟨w, hw, hn, rfl⟩
    · have h1 : (j == i) = false := by simpa using hj
      by_cases q : j + 1 = i
      · rw [if_pos q] at hw
        obtain ⟨w0, h0, h1⟩ := Option.map_eq_some_iff.mp hw
        by_cases h2 : s_two w0 = true
        · rw [if_pos h2] at h1
          exact absurd h1.symm (hn 0)
        · rw [if_neg h2] at h1
          subst h1
          have hc : (s_vc G w0).category = 1 := by rw [s_vc_cat, if_neg h2]
          simp [hj, hc]
      · have h2 : (j + 1 == i) = false := by simpa using q
        simp [hj, q]
theorem s_LR_put2 {G : s_DG} {ls : Array Slot} {L : List Value} {i : Nat} {v : Value} (h : lv_has ls L.length ((i, s_vc G v) :: (s_asc G L).filter (fun q => !(q.1 == i) && (!(q.1 == i + 1) && !(q.1 + 1 == i && q.2.category == 2))))) : s_LR G ls (s_put2 L i v) := by
  have hlen : (s_put2 L i v).length = L.length := by simp [s_put2, s_cut_len]
  unfold s_LR
  rw [hlen]
  refine ⟨h.1, h.2.1, fun q hq => ?_⟩
  obtain ⟨w, hw, hn, e⟩ := s_asc_mem.mp hq
  obtain ⟨j, qv⟩ := q
  dsimp only at hw e
  subst e
  by_cases hj2 : j = i + 1
  · subst hj2
    have hl : i + 1 < ((s_cut L i).set i v).length := by
      have := (List.getElem?_eq_some_iff.mp hw).1
      rw [hlen] at this
      rw [List.length_set, s_cut_len]; exact this
    rw [s_put2, List.getElem?_set_self hl] at hw
    exact absurd (Option.some.inj hw).symm (hn 0)
  rw [s_put2, List.getElem?_set_ne (Ne.symm hj2)] at hw
  by_cases hj : j = i
  · subst hj
    have hw2 : w = v := by
      have hl : j < (s_cut L j).length := by
        have := (List.getElem?_eq_some_iff.mp hw).1
        rw [List.length_set] at this; exact this
      rw [List.getElem?_set_self hl] at hw
      exact (Option.some.inj hw).symm
    subst hw2
    exact h.2.2 _ List.mem_cons_self
  · rw [List.getElem?_set_ne (Ne.symm hj), s_cut_get] at hw
    refine h.2.2 _ (List.mem_cons_of_mem _ (List.mem_filter.mpr ⟨s_asc_mem.mpr ?_, ?_⟩))
    · by_cases q : j + 1 = i
      · rw [if_pos q] at hw
        obtain ⟨w0, h0, h1⟩ := Option.map_eq_some_iff.mp hw
        by_cases h2 : s_two w0 = true
        · rw [if_pos h2] at h1
          exact absurd h1.symm (hn 0)
        · rw [if_neg h2] at h1
          exact ⟨w, by rw [← h1]; exact h0, hn, rfl⟩
      · rw [if_neg q] at hw
        exact ⟨w, hw, hn, rfl⟩
    · by_cases q : j + 1 = i
      · rw [if_pos q] at hw
        obtain ⟨w0, h0, h1⟩ := Option.map_eq_some_iff.mp hw
        by_cases h2 : s_two w0 = true
        · rw [if_pos h2] at h1
          exact absurd h1.symm (hn 0)
        · rw [if_neg h2] at h1
          subst h1
          have hc : (s_vc G w0).category = 1 := by rw [s_vc_cat, if_neg h2]
          simp [hj, hj2, hc]
      · simp [hj, hj2, q]
/-- the locals at the entry -/
theorem s_ent_args (G : s_DG) : ∀ (vs : List Value) (n i : Nat) (q : Nat × Value), (∃ w : Value, (s_ent vs n)[q.1]? = some w ∧ (∀ a, w ≠ .retAddr a) ∧ q.2 = s_vc G w) → (q.1 + i, q.2) ∈ lv_args i (vs.map (s_vc G))
  | [], n, i, q, h => by
    obtain ⟨w, hw, hn, -⟩ := h
    unfold s_ent at hw
    rw [List.getElem?_replicate] at hw
    split at hw
    · cases hw; exact absurd rfl (hn 0)
    · cases hw
  | v :: vs, n, i, q, h => by
    obtain ⟨w, hw, hn, e⟩ := h
    obtain ⟨j, qv⟩ := q
    dsimp only at hw e ⊢
    subst e
    rw [List.map_cons, lv_args, s_vc_cat]
    unfold s_ent at hw
    by_cases ht : s_two v = true
    · rw [if_pos ht] at hw
      rw [if_pos ht, if_pos rfl]
      match j, hw with
      | 0, hw =>
        cases hw
        rw [Nat.zero_add]
        exact List.mem_cons_self
      | 1, hw =>
        cases hw
        exact absurd rfl (hn 0)
      | j + 2, hw =>
        have := s_ent_args G vs (n - 2) (i + 2) (j, s_vc G w) ⟨w, hw, hn, rfl⟩
        rw [show j + 2 + i = j + (i + 2) by omega]
        exact List.mem_cons_of_mem _ this
    · rw [if_neg ht] at hw
      rw [if_neg ht, if_neg (by decide)]
      match j, hw with
      | 0, hw =>
        cases hw
        rw [Nat.zero_add]
        exact List.mem_cons_self
      | j + 1, hw =>
        have := s_ent_args G vs (n - 1) (i + 1) (j, s_vc G w) ⟨w, hw, hn, rfl⟩
        rw [show j + 1 + i = j + (i + 1) by omega]
        exact List.mem_cons_of_mem _ this
theorem s_ent_len (G : s_DG) : ∀ (vs : List Value) (n : Nat), (lg_sl (vs.map (s_vc G))).length ≤ n → (s_ent vs n).length = n
  | [], n, _ => by simp [s_ent]
  | v :: vs, n, h => by
    rw [List.map_cons] at h
    unfold lg_sl at h
    rw [List.flatMap_cons, s_vc_cat, List.length_append] at h
    unfold s_ent
    by_cases ht : s_two v = true
    · rw [if_pos ht, if_pos rfl] at h
      rw [if_pos ht, List.length_cons, List.length_cons, s_ent_len G vs (n - 2) (by unfold lg_sl; simp at h ⊢; omega)]
      simp at h; omega
    · rw [if_neg ht, if_neg (by decide)] at h
      rw [if_neg ht, List.length_cons, s_ent_len G vs (n - 1) (by unfold lg_sl; simp at h ⊢; omega)]
      simp at h; omega
theorem s_LR_ent {G : s_DG} {vs : List Value} {n : Nat} {ls : Array Slot} (hl : (lg_sl (vs.map (s_vc G))).length ≤ n) (h : lv_has ls n (lv_args 0 (vs.map (s_vc G)))) : s_LR G ls (s_ent vs n) := by
  unfold s_LR
  rw [s_ent_len G vs n hl]
  refine ⟨h.1, h.2.1, fun q hq => ?_⟩
  have := s_ent_args G vs n 0 q (s_asc_mem.mp hq)
  exact h.2.2 _ this
end
section
/-! ONE INSTRUCTION: what the small machine does, the real one does -/
def s_Cx (S : s_SG) (G : s_DG) (TW : List Jvm.Cond) (p : Program) (s : State) (m : MethodId) (args : Array Value) (meth : Method) (c : Code) (r : sM) : Prop :=
  p.tables.exec = Jvm.exec ∧ c.code = s_b r ∧ c.maxLocals = s_mL r ∧ s.vm.findClass (s_y r).cls = some m.cls ∧ (∀ w ∈ TW, w.before args s = true) ∧ s_In S G s ∧ ((s_y r).name = "<init>" → meth.name = "<init>")
/-- what is fixed of the classes -/
def s_SOK (S : s_SG) (TW : List Jvm.Cond) : Prop := ∀ (c : Nat) (q : vw_C), (s_cl S)[c]? = some q → (∀ w ∈ u_ws q.1 q.2.1 q.2.2, w ∈ TW) ∧ (∀ k : Nat, k < q.2.2 → parseFieldDescriptor (q.2.1 k).2.2.1 = some (s_ty S c k)) ∧ (∀ a : Nat, a < q.2.2 → ∀ b : Nat, b < q.2.2 → a ≠ b → (q.2.1 a).2.1 ≠ (q.2.1 b).2.1)
section STP
variable {p : Program} {l : Launch} {e : Env} {R : Room} {s : State} {m : MethodId} {args : Array Value} {below : List Frame} {meth : Method} {c : Code} {Q : State → Prop}
variable {S : s_SG} {G : s_DG} {TW : List Jvm.Cond} {r : sM} {N0 M0 pc n idx : Nat} {L st : List Value} {h : sHp} {q : sC}
def s_W (S : s_SG) (G : s_DG) (p : Program) (l : Launch) (e : Env) (R : Room) (s : State) (m : MethodId) (args : Array Value) (below : List Frame) (meth : Method) (c : Code) (Q : State → Prop) (N0 M0 : Nat) (pc : Nat) (L st : List Value) (h : sHp) : Prop :=
  L.length = c.maxLocals → ∀ (H : Heap) (locs : List Loc) (ls : Array Slot), s_Wd S G h H → va_S (s_A G) s.heap H locs → s_LR G ls L → W p l e R s m args below meth c H locs (h.2.2.length - N0) (s_sz S h.2.2 - M0) Q (F0 m pc ls (st.map (s_vc G)))
theorem s_put1_len (L : List Value) (i : Nat) (v : Value) : (s_put1 L i v).length = L.length := by simp [s_put1, s_cut_len]
theorem s_put2_len (L : List Value) (i : Nat) (v : Value) : (s_put2 L i v).length = L.length := by simp [s_put2, s_cut_len]
theorem s_vp_in {i : Int32} {k : Nat} (hq : ¬ s_outb i k = true) : vp_in i k := by
  intro h
  apply hq
  unfold s_outb
  rcases h with h | h
  · simp [h]
  · simp [Nat.ble_eq, h]
theorem s_d_iconst {v : Int} (C : s_Cx S G TW p s m args meth c r) (hdg : decode (s_b r) pc = .ok (.iconst v, n)) (hn : n = 1) (hs : s_x (.iconst v) pc n L st h = some q) (k : s_W S G p l e R s m args below meth c Q N0 M0 q.1 q.2.1 q.2.2.1 q.2.2.2) : s_W S G p l e R s m args below meth c Q N0 M0 pc L st h := by
  obtain ⟨hx, hb, hml, hown, hts, hI, hini⟩ := C
  subst hn
  cases hs
  intro hlen H locs ls hW hS hL
  exact lv_iconst hx hb hdg rfl (k hlen H locs ls hW hS hL)
theorem s_d_bipush {v : Int} (C : s_Cx S G TW p s m args meth c r) (hdg : decode (s_b r) pc = .ok (.bipush v, n)) (hn : n = 2) (hs : s_x (.bipush v) pc n L st h = some q) (k : s_W S G p l e R s m args below meth c Q N0 M0 q.1 q.2.1 q.2.2.1 q.2.2.2) : s_W S G p l e R s m args below meth c Q N0 M0 pc L st h := by
  obtain ⟨hx, hb, hml, hown, hts, hI, hini⟩ := C
  subst hn
  cases hs
  intro hlen H locs ls hW hS hL
  exact lv_bipush hx hb hdg rfl (k hlen H locs ls hW hS hL)
theorem s_d_sipush {v : Int} (C : s_Cx S G TW p s m args meth c r) (hdg : decode (s_b r) pc = .ok (.sipush v, n)) (hn : n = 3) (hs : s_x (.sipush v) pc n L st h = some q) (k : s_W S G p l e R s m args below meth c Q N0 M0 q.1 q.2.1 q.2.2.1 q.2.2.2) : s_W S G p l e R s m args below meth c Q N0 M0 pc L st h := by
  obtain ⟨hx, hb, hml, hown, hts, hI, hini⟩ := C
  subst hn
  cases hs
  intro hlen H locs ls hW hS hL
  exact lv_sipush hx hb hdg rfl (k hlen H locs ls hW hS hL)
theorem s_d_lconst {v : Fin 2} (C : s_Cx S G TW p s m args meth c r) (hdg : decode (s_b r) pc = .ok (.lconst v, n)) (hn : n = 1) (hs : s_x (.lconst v) pc n L st h = some q) (k : s_W S G p l e R s m args below meth c Q N0 M0 q.1 q.2.1 q.2.2.1 q.2.2.2) : s_W S G p l e R s m args below meth c Q N0 M0 pc L st h := by
  obtain ⟨hx, hb, hml, hown, hts, hI, hini⟩ := C
  subst hn
  cases hs
  intro hlen H locs ls hW hS hL
  exact lv_lconst hx hb hdg rfl (k hlen H locs ls hW hS hL)
theorem s_d_null (C : s_Cx S G TW p s m args meth c r) (hdg : decode (s_b r) pc = .ok (.aconst_null, n)) (hn : n = 1) (hs : s_x (.aconst_null) pc n L st h = some q) (k : s_W S G p l e R s m args below meth c Q N0 M0 q.1 q.2.1 q.2.2.1 q.2.2.2) : s_W S G p l e R s m args below meth c Q N0 M0 pc L st h := by
  obtain ⟨hx, hb, hml, hown, hts, hI, hini⟩ := C
  subst hn
  cases hs
  intro hlen H locs ls hW hS hL
  exact lv_null hx hb hdg (k hlen H locs ls hW hS hL)
theorem s_d_ldc {v : Nat} (C : s_Cx S G TW p s m args meth c r) (hw : (Jvm.Cond.constant (s_y r).cls idx (Int32.ofNat v)).before args s = true) (hdg : decode (s_b r) pc = .ok (.ldc idx, n)) (hn : n = 2) (hs : s_x (.ldc v) pc n L st h = some q) (k : s_W S G p l e R s m args below meth c Q N0 M0 q.1 q.2.1 q.2.2.1 q.2.2.2) : s_W S G p l e R s m args below meth c Q N0 M0 pc L st h := by
  obtain ⟨hx, hb, hml, hown, hts, hI, hini⟩ := C
  subst hn
  cases hs
  intro hlen H locs ls hW hS hL
  exact lv_ldc hx hb hown hw hdg (k hlen H locs ls hW hS hL)
theorem s_d_ldcw {v : Nat} (C : s_Cx S G TW p s m args meth c r) (hw : (Jvm.Cond.constant (s_y r).cls idx (Int32.ofNat v)).before args s = true) (hdg : decode (s_b r) pc = .ok (.ldc_w idx, n)) (hn : n = 3) (hs : s_x (.ldc_w v) pc n L st h = some q) (k : s_W S G p l e R s m args below meth c Q N0 M0 q.1 q.2.1 q.2.2.1 q.2.2.2) : s_W S G p l e R s m args below meth c Q N0 M0 pc L st h := by
  obtain ⟨hx, hb, hml, hown, hts, hI, hini⟩ := C
  subst hn
  cases hs
  intro hlen H locs ls hW hS hL
  exact lv_ldcw hx hb hown hw hdg (k hlen H locs ls hW hS hL)
theorem s_d_ldc2 {v : Nat} (C : s_Cx S G TW p s m args meth c r) (hw : (Jvm.Cond.constantLong (s_y r).cls idx (Int64.ofNat v)).before args s = true) (hdg : decode (s_b r) pc = .ok (.ldc2_w idx, n)) (hn : n = 3) (hs : s_x (.ldc2_w v) pc n L st h = some q) (k : s_W S G p l e R s m args below meth c Q N0 M0 q.1 q.2.1 q.2.2.1 q.2.2.2) : s_W S G p l e R s m args below meth c Q N0 M0 pc L st h := by
  obtain ⟨hx, hb, hml, hown, hts, hI, hini⟩ := C
  subst hn
  cases hs
  intro hlen H locs ls hW hS hL
  exact lv_ldc2 hx hb hown hw hdg (k hlen H locs ls hW hS hL)
theorem s_d_ldcf {v : Nat} (C : s_Cx S G TW p s m args meth c r) (hw : (Jvm.Cond.constantFloat (s_y r).cls idx (UInt32.ofNat v)).before args s = true) (hdg : decode (s_b r) pc = .ok (.ldc idx, n)) (hn : n = 2) (hs : s_x (.ret v) pc n L st h = some q) (k : s_W S G p l e R s m args below meth c Q N0 M0 q.1 q.2.1 q.2.2.1 q.2.2.2) : s_W S G p l e R s m args below meth c Q N0 M0 pc L st h := by
  obtain ⟨hx, hb, hml, hown, hts, hI, hini⟩ := C
  subst hn
  cases hs
  intro hlen H locs ls hW hS hL
  exact lv_ldcf hx hb hown hw hdg (k hlen H locs ls hW hS hL)
theorem s_d_ldc2d {v : Nat} (C : s_Cx S G TW p s m args meth c r) (hw : (Jvm.Cond.constantDouble (s_y r).cls idx (UInt64.ofNat v)).before args s = true) (hdg : decode (s_b r) pc = .ok (.ldc2_w idx, n)) (hn : n = 3) (hs : s_x (.putstatic v) pc n L st h = some q) (k : s_W S G p l e R s m args below meth c Q N0 M0 q.1 q.2.1 q.2.2.1 q.2.2.2) : s_W S G p l e R s m args below meth c Q N0 M0 pc L st h := by
  obtain ⟨hx, hb, hml, hown, hts, hI, hini⟩ := C
  subst hn
  cases hs
  intro hlen H locs ls hW hS hL
  exact lv_ldc2d hx hb hown hw hdg (k hlen H locs ls hW hS hL)
theorem s_d_fconst {v : Fin 3} (C : s_Cx S G TW p s m args meth c r) (hdg : decode (s_b r) pc = .ok (.fconst v, n)) (hn : n = 1) (hs : s_x (.fconst v) pc n L st h = some q) (k : s_W S G p l e R s m args below meth c Q N0 M0 q.1 q.2.1 q.2.2.1 q.2.2.2) : s_W S G p l e R s m args below meth c Q N0 M0 pc L st h := by
  obtain ⟨hx, hb, hml, hown, hts, hI, hini⟩ := C
  subst hn
  cases hs
  intro hlen H locs ls hW hS hL
  match v, hdg, k with
  | 0, hdg, k => exact lv_fconst0 hx hb hdg (k hlen H locs ls hW hS hL)
  | 1, hdg, k => exact lv_fconst1 hx hb hdg (k hlen H locs ls hW hS hL)
  | 2, hdg, k => exact lv_fconst2 hx hb hdg (k hlen H locs ls hW hS hL)
theorem s_d_dconst {v : Fin 2} (C : s_Cx S G TW p s m args meth c r) (hdg : decode (s_b r) pc = .ok (.dconst v, n)) (hn : n = 1) (hs : s_x (.dconst v) pc n L st h = some q) (k : s_W S G p l e R s m args below meth c Q N0 M0 q.1 q.2.1 q.2.2.1 q.2.2.2) : s_W S G p l e R s m args below meth c Q N0 M0 pc L st h := by
  obtain ⟨hx, hb, hml, hown, hts, hI, hini⟩ := C
  subst hn
  cases hs
  intro hlen H locs ls hW hS hL
  match v, hdg, k with
  | 0, hdg, k => exact lv_dconst0 hx hb hdg (k hlen H locs ls hW hS hL)
  | 1, hdg, k => exact lv_dconst1 hx hb hdg (k hlen H locs ls hW hS hL)
theorem s_d_iload_n {v : Fin 4} (C : s_Cx S G TW p s m args meth c r) (hdg : decode (s_b r) pc = .ok (.iload_n v, n)) (hn : n = 1) (hs : s_x (.iload_n v) pc n L st h = some q) (k : s_W S G p l e R s m args below meth c Q N0 M0 q.1 q.2.1 q.2.2.1 q.2.2.2) : s_W S G p l e R s m args below meth c Q N0 M0 pc L st h := by
  obtain ⟨hx, hb, hml, hown, hts, hI, hini⟩ := C
  subst hn
  dsimp only [s_x] at hs
  split at hs
  next x heq =>
    cases hs
    intro hlen H locs ls hW hS hL
    exact lv_iload_n hx hb hdg rfl (s_LR_at hL heq (fun a z => by cases z)) (k hlen H locs ls hW hS hL)
  · cases hs
theorem s_d_iload {v : Nat} (C : s_Cx S G TW p s m args meth c r) (hdg : decode (s_b r) pc = .ok (.iload v, n)) (hn : n = 2) (hs : s_x (.iload v) pc n L st h = some q) (k : s_W S G p l e R s m args below meth c Q N0 M0 q.1 q.2.1 q.2.2.1 q.2.2.2) : s_W S G p l e R s m args below meth c Q N0 M0 pc L st h := by
  obtain ⟨hx, hb, hml, hown, hts, hI, hini⟩ := C
  subst hn
  dsimp only [s_x] at hs
  split at hs
  next x heq =>
    cases hs
    intro hlen H locs ls hW hS hL
    exact lv_iload hx hb hdg (s_LR_at hL heq (fun a z => by cases z)) (k hlen H locs ls hW hS hL)
  · cases hs
theorem s_d_lload_n {v : Fin 4} (C : s_Cx S G TW p s m args meth c r) (hdg : decode (s_b r) pc = .ok (.lload_n v, n)) (hn : n = 1) (hs : s_x (.lload_n v) pc n L st h = some q) (k : s_W S G p l e R s m args below meth c Q N0 M0 q.1 q.2.1 q.2.2.1 q.2.2.2) : s_W S G p l e R s m args below meth c Q N0 M0 pc L st h := by
  obtain ⟨hx, hb, hml, hown, hts, hI, hini⟩ := C
  subst hn
  dsimp only [s_x] at hs
  split at hs
  next x heq =>
    cases hs
    intro hlen H locs ls hW hS hL
    exact lv_lload_n hx hb hdg rfl (s_LR_at hL heq (fun a z => by cases z)) (k hlen H locs ls hW hS hL)
  · cases hs
theorem s_d_lload {v : Nat} (C : s_Cx S G TW p s m args meth c r) (hdg : decode (s_b r) pc = .ok (.lload v, n)) (hn : n = 2) (hs : s_x (.lload v) pc n L st h = some q) (k : s_W S G p l e R s m args below meth c Q N0 M0 q.1 q.2.1 q.2.2.1 q.2.2.2) : s_W S G p l e R s m args below meth c Q N0 M0 pc L st h := by
  obtain ⟨hx, hb, hml, hown, hts, hI, hini⟩ := C
  subst hn
  dsimp only [s_x] at hs
  split at hs
  next x heq =>
    cases hs
    intro hlen H locs ls hW hS hL
    exact lv_lload hx hb hdg (s_LR_at hL heq (fun a z => by cases z)) (k hlen H locs ls hW hS hL)
  · cases hs
theorem s_d_fload_n {v : Fin 4} (C : s_Cx S G TW p s m args meth c r) (hdg : decode (s_b r) pc = .ok (.fload_n v, n)) (hn : n = 1) (hs : s_x (.fload_n v) pc n L st h = some q) (k : s_W S G p l e R s m args below meth c Q N0 M0 q.1 q.2.1 q.2.2.1 q.2.2.2) : s_W S G p l e R s m args below meth c Q N0 M0 pc L st h := by
  obtain ⟨hx, hb, hml, hown, hts, hI, hini⟩ := C
  subst hn
  dsimp only [s_x] at hs
  split at hs
  next x heq =>
    cases hs
    intro hlen H locs ls hW hS hL
    exact lv_fload_n hx hb hdg rfl (s_LR_at hL heq (fun a z => by cases z)) (k hlen H locs ls hW hS hL)
  · cases hs
theorem s_d_dload_n {v : Fin 4} (C : s_Cx S G TW p s m args meth c r) (hdg : decode (s_b r) pc = .ok (.dload_n v, n)) (hn : n = 1) (hs : s_x (.dload_n v) pc n L st h = some q) (k : s_W S G p l e R s m args below meth c Q N0 M0 q.1 q.2.1 q.2.2.1 q.2.2.2) : s_W S G p l e R s m args below meth c Q N0 M0 pc L st h := by
  obtain ⟨hx, hb, hml, hown, hts, hI, hini⟩ := C
  subst hn
  dsimp only [s_x] at hs
  split at hs
  next x heq =>
    cases hs
    intro hlen H locs ls hW hS hL
    exact lv_dload_n hx hb hdg rfl (s_LR_at hL heq (fun a z => by cases z)) (k hlen H locs ls hW hS hL)
  · cases hs
theorem s_d_aload_n {v : Fin 4} (C : s_Cx S G TW p s m args meth c r) (hdg : decode (s_b r) pc = .ok (.aload_n v, n)) (hn : n = 1) (hs : s_x (.aload_n v) pc n L st h = some q) (k : s_W S G p l e R s m args below meth c Q N0 M0 q.1 q.2.1 q.2.2.1 q.2.2.2) : s_W S G p l e R s m args below meth c Q N0 M0 pc L st h := by
  obtain ⟨hx, hb, hml, hown, hts, hI, hini⟩ := C
  subst hn
  dsimp only [s_x] at hs
  split at hs
  next x heq =>
    cases hs
    intro hlen H locs ls hW hS hL
    exact lv_aload_n hx hb hdg rfl (s_LR_at hL heq (fun a z => by cases z)) (k hlen H locs ls hW hS hL)
  next heq =>
    cases hs
    intro hlen H locs ls hW hS hL
    exact lv_aload_nN hx hb hdg rfl (s_LR_at hL heq (fun a z => by cases z)) (k hlen H locs ls hW hS hL)
  · cases hs
theorem s_d_aload {v : Nat} (C : s_Cx S G TW p s m args meth c r) (hdg : decode (s_b r) pc = .ok (.aload v, n)) (hn : n = 2) (hs : s_x (.aload v) pc n L st h = some q) (k : s_W S G p l e R s m args below meth c Q N0 M0 q.1 q.2.1 q.2.2.1 q.2.2.2) : s_W S G p l e R s m args below meth c Q N0 M0 pc L st h := by
  obtain ⟨hx, hb, hml, hown, hts, hI, hini⟩ := C
  subst hn
  dsimp only [s_x] at hs
  split at hs
  next x heq =>
    cases hs
    intro hlen H locs ls hW hS hL
    exact lv_aload hx hb hdg (s_LR_at hL heq (fun a z => by cases z)) (k hlen H locs ls hW hS hL)
  next heq =>
    cases hs
    intro hlen H locs ls hW hS hL
    exact lv_aloadN hx hb hdg (s_LR_at hL heq (fun a z => by cases z)) (k hlen H locs ls hW hS hL)
  · cases hs
theorem s_d_istore_n {v : Fin 4} (C : s_Cx S G TW p s m args meth c r) (hdg : decode (s_b r) pc = .ok (.istore_n v, n)) (hn : n = 1) (hs : s_x (.istore_n v) pc n L st h = some q) (k : s_W S G p l e R s m args below meth c Q N0 M0 q.1 q.2.1 q.2.2.1 q.2.2.2) : s_W S G p l e R s m args below meth c Q N0 M0 pc L st h := by
  obtain ⟨hx, hb, hml, hown, hts, hI, hini⟩ := C
  subst hn
  dsimp only [s_x] at hs
  split at hs
  · split at hs
    next hlt =>
      cases hs
      intro hlen H locs ls hW hS hL
      exact lv_istore_n hx hb hdg rfl hL hlt rfl (fun ls2 hl2 => k ((s_put1_len _ _ _).trans hlen) H locs ls2 hW hS (s_LR_put1 hl2))
    · cases hs
  · cases hs
theorem s_d_istore {v : Nat} (C : s_Cx S G TW p s m args meth c r) (hdg : decode (s_b r) pc = .ok (.istore v, n)) (hn : n = 2) (hs : s_x (.istore v) pc n L st h = some q) (k : s_W S G p l e R s m args below meth c Q N0 M0 q.1 q.2.1 q.2.2.1 q.2.2.2) : s_W S G p l e R s m args below meth c Q N0 M0 pc L st h := by
  obtain ⟨hx, hb, hml, hown, hts, hI, hini⟩ := C
  subst hn
  dsimp only [s_x] at hs
  split at hs
  · split at hs
    next hlt =>
      cases hs
      intro hlen H locs ls hW hS hL
      exact lv_istore hx hb hdg hL hlt rfl (fun ls2 hl2 => k ((s_put1_len _ _ _).trans hlen) H locs ls2 hW hS (s_LR_put1 hl2))
    · cases hs
  · cases hs
theorem s_d_fstore_n {v : Fin 4} (C : s_Cx S G TW p s m args meth c r) (hdg : decode (s_b r) pc = .ok (.fstore_n v, n)) (hn : n = 1) (hs : s_x (.fstore_n v) pc n L st h = some q) (k : s_W S G p l e R s m args below meth c Q N0 M0 q.1 q.2.1 q.2.2.1 q.2.2.2) : s_W S G p l e R s m args below meth c Q N0 M0 pc L st h := by
  obtain ⟨hx, hb, hml, hown, hts, hI, hini⟩ := C
  subst hn
  dsimp only [s_x] at hs
  split at hs
  · split at hs
    next hlt =>
      cases hs
      intro hlen H locs ls hW hS hL
      exact lv_fstore_n hx hb hdg rfl hL hlt rfl (fun ls2 hl2 => k ((s_put1_len _ _ _).trans hlen) H locs ls2 hW hS (s_LR_put1 hl2))
    · cases hs
  · cases hs
theorem s_d_lstore_n {v : Fin 4} (C : s_Cx S G TW p s m args meth c r) (hdg : decode (s_b r) pc = .ok (.lstore_n v, n)) (hn : n = 1) (hs : s_x (.lstore_n v) pc n L st h = some q) (k : s_W S G p l e R s m args below meth c Q N0 M0 q.1 q.2.1 q.2.2.1 q.2.2.2) : s_W S G p l e R s m args below meth c Q N0 M0 pc L st h := by
  obtain ⟨hx, hb, hml, hown, hts, hI, hini⟩ := C
  subst hn
  dsimp only [s_x] at hs
  split at hs
  · split at hs
    next hlt =>
      cases hs
      intro hlen H locs ls hW hS hL
      exact lv_lstore_n hx hb hdg rfl hL hlt rfl (fun ls2 hl2 => k ((s_put2_len _ _ _).trans hlen) H locs ls2 hW hS (s_LR_put2 hl2))
    · cases hs
  · cases hs
theorem s_d_lstore {v : Nat} (C : s_Cx S G TW p s m args meth c r) (hdg : decode (s_b r) pc = .ok (.lstore v, n)) (hn : n = 2) (hs : s_x (.lstore v) pc n L st h = some q) (k : s_W S G p l e R s m args below meth c Q N0 M0 q.1 q.2.1 q.2.2.1 q.2.2.2) : s_W S G p l e R s m args below meth c Q N0 M0 pc L st h := by
  obtain ⟨hx, hb, hml, hown, hts, hI, hini⟩ := C
  subst hn
  dsimp only [s_x] at hs
  split at hs
  · split at hs
    next hlt =>
      cases hs
      intro hlen H locs ls hW hS hL
      exact lv_lstore hx hb hdg hL hlt rfl (fun ls2 hl2 => k ((s_put2_len _ _ _).trans hlen) H locs ls2 hW hS (s_LR_put2 hl2))
    · cases hs
  · cases hs
theorem s_d_dstore_n {v : Fin 4} (C : s_Cx S G TW p s m args meth c r) (hdg : decode (s_b r) pc = .ok (.dstore_n v, n)) (hn : n = 1) (hs : s_x (.dstore_n v) pc n L st h = some q) (k : s_W S G p l e R s m args below meth c Q N0 M0 q.1 q.2.1 q.2.2.1 q.2.2.2) : s_W S G p l e R s m args below meth c Q N0 M0 pc L st h := by
  obtain ⟨hx, hb, hml, hown, hts, hI, hini⟩ := C
  subst hn
  dsimp only [s_x] at hs
  split at hs
  · split at hs
    next hlt =>
      cases hs
      intro hlen H locs ls hW hS hL
      exact lv_dstore_n hx hb hdg rfl hL hlt rfl (fun ls2 hl2 => k ((s_put2_len _ _ _).trans hlen) H locs ls2 hW hS (s_LR_put2 hl2))
    · cases hs
  · cases hs
theorem s_d_astore_n {v : Fin 4} (C : s_Cx S G TW p s m args meth c r) (hdg : decode (s_b r) pc = .ok (.astore_n v, n)) (hn : n = 1) (hs : s_x (.astore_n v) pc n L st h = some q) (k : s_W S G p l e R s m args below meth c Q N0 M0 q.1 q.2.1 q.2.2.1 q.2.2.2) : s_W S G p l e R s m args below meth c Q N0 M0 pc L st h := by
  obtain ⟨hx, hb, hml, hown, hts, hI, hini⟩ := C
  subst hn
  dsimp only [s_x] at hs
  split at hs
  · split at hs
    next hlt =>
      cases hs
      intro hlen H locs ls hW hS hL
      exact lv_astore_n hx hb hdg rfl hL hlt rfl (fun ls2 hl2 => k ((s_put1_len _ _ _).trans hlen) H locs ls2 hW hS (s_LR_put1 hl2))
    · cases hs
  · split at hs
    next hlt =>
      cases hs
      intro hlen H locs ls hW hS hL
      exact lv_astore_nN hx hb hdg rfl hL hlt rfl (fun ls2 hl2 => k ((s_put1_len _ _ _).trans hlen) H locs ls2 hW hS (s_LR_put1 hl2))
    · cases hs
  · cases hs
theorem s_d_astore {v : Nat} (C : s_Cx S G TW p s m args meth c r) (hdg : decode (s_b r) pc = .ok (.astore v, n)) (hn : n = 2) (hs : s_x (.astore v) pc n L st h = some q) (k : s_W S G p l e R s m args below meth c Q N0 M0 q.1 q.2.1 q.2.2.1 q.2.2.2) : s_W S G p l e R s m args below meth c Q N0 M0 pc L st h := by
  obtain ⟨hx, hb, hml, hown, hts, hI, hini⟩ := C
  subst hn
  dsimp only [s_x] at hs
  split at hs
  · split at hs
    next hlt =>
      cases hs
      intro hlen H locs ls hW hS hL
      exact lv_astore hx hb hdg hL hlt rfl (fun ls2 hl2 => k ((s_put1_len _ _ _).trans hlen) H locs ls2 hW hS (s_LR_put1 hl2))
    · cases hs
  · split at hs
    next hlt =>
      cases hs
      intro hlen H locs ls hW hS hL
      exact lv_astoreN hx hb hdg hL hlt rfl (fun ls2 hl2 => k ((s_put1_len _ _ _).trans hlen) H locs ls2 hW hS (s_LR_put1 hl2))
    · cases hs
  · cases hs
theorem s_d_iinc {v : Nat} {w : Int} (C : s_Cx S G TW p s m args meth c r) (hdg : decode (s_b r) pc = .ok (.iinc v w, n)) (hn : n = 3) (hs : s_x (.iinc v w) pc n L st h = some q) (k : s_W S G p l e R s m args below meth c Q N0 M0 q.1 q.2.1 q.2.2.1 q.2.2.2) : s_W S G p l e R s m args below meth c Q N0 M0 pc L st h := by
  obtain ⟨hx, hb, hml, hown, hts, hI, hini⟩ := C
  subst hn
  dsimp only [s_x] at hs
  split at hs
  next x heq =>
    cases hs
    intro hlen H locs ls hW hS hL
    have hm := s_asc_mem (G := G) (L := L) (q := (v, .int x)) |>.mpr ⟨.int x, by rw [← s_nth_eq]; exact heq, fun a z => (by cases z), rfl⟩
    obtain ⟨j, hj⟩ := List.getElem?_of_mem hm
    have hlt : v < L.length := by rw [s_nth_eq] at heq; exact (List.getElem?_eq_some_iff.mp heq).1
    exact lv_iinc hx hb hdg hL hj rfl hlt rfl (fun ls2 hl2 => k ((s_put1_len _ _ _).trans hlen) H locs ls2 hW hS (s_LR_put1 hl2))
  · cases hs
theorem s_d_iadd (C : s_Cx S G TW p s m args meth c r) (hdg : decode (s_b r) pc = .ok (.iadd, n)) (hn : n = 1) (hs : s_x (.iadd) pc n L st h = some q) (k : s_W S G p l e R s m args below meth c Q N0 M0 q.1 q.2.1 q.2.2.1 q.2.2.2) : s_W S G p l e R s m args below meth c Q N0 M0 pc L st h := by
  obtain ⟨hx, hb, hml, hown, hts, hI, hini⟩ := C
  subst hn
  dsimp only [s_x] at hs
  split at hs
  · cases hs
    intro hlen H locs ls hW hS hL
    exact lv_iadd hx hb hdg (k hlen H locs ls hW hS hL)
  · cases hs
theorem s_d_isub (C : s_Cx S G TW p s m args meth c r) (hdg : decode (s_b r) pc = .ok (.isub, n)) (hn : n = 1) (hs : s_x (.isub) pc n L st h = some q) (k : s_W S G p l e R s m args below meth c Q N0 M0 q.1 q.2.1 q.2.2.1 q.2.2.2) : s_W S G p l e R s m args below meth c Q N0 M0 pc L st h := by
  obtain ⟨hx, hb, hml, hown, hts, hI, hini⟩ := C
  subst hn
  dsimp only [s_x] at hs
  split at hs
  · cases hs
    intro hlen H locs ls hW hS hL
    exact lv_isub hx hb hdg (k hlen H locs ls hW hS hL)
  · cases hs
theorem s_d_imul (C : s_Cx S G TW p s m args meth c r) (hdg : decode (s_b r) pc = .ok (.imul, n)) (hn : n = 1) (hs : s_x (.imul) pc n L st h = some q) (k : s_W S G p l e R s m args below meth c Q N0 M0 q.1 q.2.1 q.2.2.1 q.2.2.2) : s_W S G p l e R s m args below meth c Q N0 M0 pc L st h := by
  obtain ⟨hx, hb, hml, hown, hts, hI, hini⟩ := C
  subst hn
  dsimp only [s_x] at hs
  split at hs
  · cases hs
    intro hlen H locs ls hW hS hL
    exact lv_imul hx hb hdg (k hlen H locs ls hW hS hL)
  · cases hs
theorem s_d_iand (C : s_Cx S G TW p s m args meth c r) (hdg : decode (s_b r) pc = .ok (.iand, n)) (hn : n = 1) (hs : s_x (.iand) pc n L st h = some q) (k : s_W S G p l e R s m args below meth c Q N0 M0 q.1 q.2.1 q.2.2.1 q.2.2.2) : s_W S G p l e R s m args below meth c Q N0 M0 pc L st h := by
  obtain ⟨hx, hb, hml, hown, hts, hI, hini⟩ := C
  subst hn
  dsimp only [s_x] at hs
  split at hs
  · cases hs
    intro hlen H locs ls hW hS hL
    exact lv_iand hx hb hdg (k hlen H locs ls hW hS hL)
  · cases hs
theorem s_d_ior (C : s_Cx S G TW p s m args meth c r) (hdg : decode (s_b r) pc = .ok (.ior, n)) (hn : n = 1) (hs : s_x (.ior) pc n L st h = some q) (k : s_W S G p l e R s m args below meth c Q N0 M0 q.1 q.2.1 q.2.2.1 q.2.2.2) : s_W S G p l e R s m args below meth c Q N0 M0 pc L st h := by
  obtain ⟨hx, hb, hml, hown, hts, hI, hini⟩ := C
  subst hn
  dsimp only [s_x] at hs
  split at hs
  · cases hs
    intro hlen H locs ls hW hS hL
    exact lv_ior hx hb hdg (k hlen H locs ls hW hS hL)
  · cases hs
theorem s_d_ishl (C : s_Cx S G TW p s m args meth c r) (hdg : decode (s_b r) pc = .ok (.ishl, n)) (hn : n = 1) (hs : s_x (.ishl) pc n L st h = some q) (k : s_W S G p l e R s m args below meth c Q N0 M0 q.1 q.2.1 q.2.2.1 q.2.2.2) : s_W S G p l e R s m args below meth c Q N0 M0 pc L st h := by
  obtain ⟨hx, hb, hml, hown, hts, hI, hini⟩ := C
  subst hn
  dsimp only [s_x] at hs
  split at hs
  · cases hs
    intro hlen H locs ls hW hS hL
    exact lv_ishl hx hb hdg (k hlen H locs ls hW hS hL)
  · cases hs
theorem s_d_ishr (C : s_Cx S G TW p s m args meth c r) (hdg : decode (s_b r) pc = .ok (.ishr, n)) (hn : n = 1) (hs : s_x (.ishr) pc n L st h = some q) (k : s_W S G p l e R s m args below meth c Q N0 M0 q.1 q.2.1 q.2.2.1 q.2.2.2) : s_W S G p l e R s m args below meth c Q N0 M0 pc L st h := by
  obtain ⟨hx, hb, hml, hown, hts, hI, hini⟩ := C
  subst hn
  dsimp only [s_x] at hs
  split at hs
  · cases hs
    intro hlen H locs ls hW hS hL
    exact lv_ishr hx hb hdg (k hlen H locs ls hW hS hL)
  · cases hs
theorem s_d_ladd (C : s_Cx S G TW p s m args meth c r) (hdg : decode (s_b r) pc = .ok (.ladd, n)) (hn : n = 1) (hs : s_x (.ladd) pc n L st h = some q) (k : s_W S G p l e R s m args below meth c Q N0 M0 q.1 q.2.1 q.2.2.1 q.2.2.2) : s_W S G p l e R s m args below meth c Q N0 M0 pc L st h := by
  obtain ⟨hx, hb, hml, hown, hts, hI, hini⟩ := C
  subst hn
  dsimp only [s_x] at hs
  split at hs
  · cases hs
    intro hlen H locs ls hW hS hL
    exact lv_ladd hx hb hdg (k hlen H locs ls hW hS hL)
  · cases hs
theorem s_d_lsub (C : s_Cx S G TW p s m args meth c r) (hdg : decode (s_b r) pc = .ok (.lsub, n)) (hn : n = 1) (hs : s_x (.lsub) pc n L st h = some q) (k : s_W S G p l e R s m args below meth c Q N0 M0 q.1 q.2.1 q.2.2.1 q.2.2.2) : s_W S G p l e R s m args below meth c Q N0 M0 pc L st h := by
  obtain ⟨hx, hb, hml, hown, hts, hI, hini⟩ := C
  subst hn
  dsimp only [s_x] at hs
  split at hs
  · cases hs
    intro hlen H locs ls hW hS hL
    exact lv_lsub hx hb hdg (k hlen H locs ls hW hS hL)
  · cases hs
theorem s_d_land (C : s_Cx S G TW p s m args meth c r) (hdg : decode (s_b r) pc = .ok (.land, n)) (hn : n = 1) (hs : s_x (.land) pc n L st h = some q) (k : s_W S G p l e R s m args below meth c Q N0 M0 q.1 q.2.1 q.2.2.1 q.2.2.2) : s_W S G p l e R s m args below meth c Q N0 M0 pc L st h := by
  obtain ⟨hx, hb, hml, hown, hts, hI, hini⟩ := C
  subst hn
  dsimp only [s_x] at hs
  split at hs
  · cases hs
    intro hlen H locs ls hW hS hL
    exact lv_land hx hb hdg (k hlen H locs ls hW hS hL)
  · cases hs
theorem s_d_lor (C : s_Cx S G TW p s m args meth c r) (hdg : decode (s_b r) pc = .ok (.lor, n)) (hn : n = 1) (hs : s_x (.lor) pc n L st h = some q) (k : s_W S G p l e R s m args below meth c Q N0 M0 q.1 q.2.1 q.2.2.1 q.2.2.2) : s_W S G p l e R s m args below meth c Q N0 M0 pc L st h := by
  obtain ⟨hx, hb, hml, hown, hts, hI, hini⟩ := C
  subst hn
  dsimp only [s_x] at hs
  split at hs
  · cases hs
    intro hlen H locs ls hW hS hL
    exact lv_lor hx hb hdg (k hlen H locs ls hW hS hL)
  · cases hs
theorem s_d_lshl (C : s_Cx S G TW p s m args meth c r) (hdg : decode (s_b r) pc = .ok (.lshl, n)) (hn : n = 1) (hs : s_x (.lshl) pc n L st h = some q) (k : s_W S G p l e R s m args below meth c Q N0 M0 q.1 q.2.1 q.2.2.1 q.2.2.2) : s_W S G p l e R s m args below meth c Q N0 M0 pc L st h := by
  obtain ⟨hx, hb, hml, hown, hts, hI, hini⟩ := C
  subst hn
  dsimp only [s_x] at hs
  split at hs
  · cases hs
    intro hlen H locs ls hW hS hL
    exact lv_lshl hx hb hdg rfl (k hlen H locs ls hW hS hL)
  · cases hs
theorem s_d_lushr (C : s_Cx S G TW p s m args meth c r) (hdg : decode (s_b r) pc = .ok (.lushr, n)) (hn : n = 1) (hs : s_x (.lushr) pc n L st h = some q) (k : s_W S G p l e R s m args below meth c Q N0 M0 q.1 q.2.1 q.2.2.1 q.2.2.2) : s_W S G p l e R s m args below meth c Q N0 M0 pc L st h := by
  obtain ⟨hx, hb, hml, hown, hts, hI, hini⟩ := C
  subst hn
  dsimp only [s_x] at hs
  split at hs
  · cases hs
    intro hlen H locs ls hW hS hL
    exact lv_lushr hx hb hdg rfl (k hlen H locs ls hW hS hL)
  · cases hs
theorem s_d_i2l (C : s_Cx S G TW p s m args meth c r) (hdg : decode (s_b r) pc = .ok (.i2l, n)) (hn : n = 1) (hs : s_x (.i2l) pc n L st h = some q) (k : s_W S G p l e R s m args below meth c Q N0 M0 q.1 q.2.1 q.2.2.1 q.2.2.2) : s_W S G p l e R s m args below meth c Q N0 M0 pc L st h := by
  obtain ⟨hx, hb, hml, hown, hts, hI, hini⟩ := C
  subst hn
  dsimp only [s_x] at hs
  split at hs
  · cases hs
    intro hlen H locs ls hW hS hL
    exact lv_i2l hx hb hdg rfl (k hlen H locs ls hW hS hL)
  · cases hs
theorem s_d_l2i (C : s_Cx S G TW p s m args meth c r) (hdg : decode (s_b r) pc = .ok (.l2i, n)) (hn : n = 1) (hs : s_x (.l2i) pc n L st h = some q) (k : s_W S G p l e R s m args below meth c Q N0 M0 q.1 q.2.1 q.2.2.1 q.2.2.2) : s_W S G p l e R s m args below meth c Q N0 M0 pc L st h := by
  obtain ⟨hx, hb, hml, hown, hts, hI, hini⟩ := C
  subst hn
  dsimp only [s_x] at hs
  split at hs
  · cases hs
    intro hlen H locs ls hW hS hL
    exact lv_l2i hx hb hdg rfl (k hlen H locs ls hW hS hL)
  · cases hs
theorem s_d_i2f (C : s_Cx S G TW p s m args meth c r) (hdg : decode (s_b r) pc = .ok (.i2f, n)) (hn : n = 1) (hs : s_x (.i2f) pc n L st h = some q) (k : s_W S G p l e R s m args below meth c Q N0 M0 q.1 q.2.1 q.2.2.1 q.2.2.2) : s_W S G p l e R s m args below meth c Q N0 M0 pc L st h := by
  obtain ⟨hx, hb, hml, hown, hts, hI, hini⟩ := C
  subst hn
  dsimp only [s_x] at hs
  split at hs
  · cases hs
    intro hlen H locs ls hW hS hL
    exact lv_i2f hx hb hdg (k hlen H locs ls hW hS hL)
  · cases hs
theorem s_d_i2d (C : s_Cx S G TW p s m args meth c r) (hdg : decode (s_b r) pc = .ok (.i2d, n)) (hn : n = 1) (hs : s_x (.i2d) pc n L st h = some q) (k : s_W S G p l e R s m args below meth c Q N0 M0 q.1 q.2.1 q.2.2.1 q.2.2.2) : s_W S G p l e R s m args below meth c Q N0 M0 pc L st h := by
  obtain ⟨hx, hb, hml, hown, hts, hI, hini⟩ := C
  subst hn
  dsimp only [s_x] at hs
  split at hs
  · cases hs
    intro hlen H locs ls hW hS hL
    exact lv_i2d hx hb hdg (k hlen H locs ls hW hS hL)
  · cases hs
theorem s_d_l2d (C : s_Cx S G TW p s m args meth c r) (hdg : decode (s_b r) pc = .ok (.l2d, n)) (hn : n = 1) (hs : s_x (.l2d) pc n L st h = some q) (k : s_W S G p l e R s m args below meth c Q N0 M0 q.1 q.2.1 q.2.2.1 q.2.2.2) : s_W S G p l e R s m args below meth c Q N0 M0 pc L st h := by
  obtain ⟨hx, hb, hml, hown, hts, hI, hini⟩ := C
  subst hn
  dsimp only [s_x] at hs
  split at hs
  · cases hs
    intro hlen H locs ls hW hS hL
    exact lv_l2d hx hb hdg (k hlen H locs ls hW hS hL)
  · cases hs
theorem s_d_d2l (C : s_Cx S G TW p s m args meth c r) (hdg : decode (s_b r) pc = .ok (.d2l, n)) (hn : n = 1) (hs : s_x (.d2l) pc n L st h = some q) (k : s_W S G p l e R s m args below meth c Q N0 M0 q.1 q.2.1 q.2.2.1 q.2.2.2) : s_W S G p l e R s m args below meth c Q N0 M0 pc L st h := by
  obtain ⟨hx, hb, hml, hown, hts, hI, hini⟩ := C
  subst hn
  dsimp only [s_x] at hs
  split at hs
  · cases hs
    intro hlen H locs ls hW hS hL
    exact lv_d2l hx hb hdg (k hlen H locs ls hW hS hL)
  · cases hs
theorem s_d_f2i (C : s_Cx S G TW p s m args meth c r) (hdg : decode (s_b r) pc = .ok (.f2i, n)) (hn : n = 1) (hs : s_x (.f2i) pc n L st h = some q) (k : s_W S G p l e R s m args below meth c Q N0 M0 q.1 q.2.1 q.2.2.1 q.2.2.2) : s_W S G p l e R s m args below meth c Q N0 M0 pc L st h := by
  obtain ⟨hx, hb, hml, hown, hts, hI, hini⟩ := C
  subst hn
  dsimp only [s_x] at hs
  split at hs
  · cases hs
    intro hlen H locs ls hW hS hL
    exact lv_f2i hx hb hdg (k hlen H locs ls hW hS hL)
  · cases hs
theorem s_d_lcmp (C : s_Cx S G TW p s m args meth c r) (hdg : decode (s_b r) pc = .ok (.lcmp, n)) (hn : n = 1) (hs : s_x (.lcmp) pc n L st h = some q) (k : s_W S G p l e R s m args below meth c Q N0 M0 q.1 q.2.1 q.2.2.1 q.2.2.2) : s_W S G p l e R s m args below meth c Q N0 M0 pc L st h := by
  obtain ⟨hx, hb, hml, hown, hts, hI, hini⟩ := C
  subst hn
  dsimp only [s_x] at hs
  split at hs
  · cases hs
    intro hlen H locs ls hW hS hL
    exact W.lcmp hx hb hdg (k hlen H locs ls hW hS hL)
  · cases hs
theorem s_d_fcmp {v : CmpOp} (C : s_Cx S G TW p s m args meth c r) (hdg : decode (s_b r) pc = .ok (.fcmp v, n)) (hn : n = 1) (hs : s_x (.fcmp v) pc n L st h = some q) (k : s_W S G p l e R s m args below meth c Q N0 M0 q.1 q.2.1 q.2.2.1 q.2.2.2) : s_W S G p l e R s m args below meth c Q N0 M0 pc L st h := by
  obtain ⟨hx, hb, hml, hown, hts, hI, hini⟩ := C
  subst hn
  dsimp only [s_x] at hs
  split at hs
  · cases hs
    intro hlen H locs ls hW hS hL
    exact lv_fcmp hx hb hdg (k hlen H locs ls hW hS hL)
  · cases hs
theorem s_d_dcmp {v : CmpOp} (C : s_Cx S G TW p s m args meth c r) (hdg : decode (s_b r) pc = .ok (.dcmp v, n)) (hn : n = 1) (hs : s_x (.dcmp v) pc n L st h = some q) (k : s_W S G p l e R s m args below meth c Q N0 M0 q.1 q.2.1 q.2.2.1 q.2.2.2) : s_W S G p l e R s m args below meth c Q N0 M0 pc L st h := by
  obtain ⟨hx, hb, hml, hown, hts, hI, hini⟩ := C
  subst hn
  dsimp only [s_x] at hs
  split at hs
  · cases hs
    intro hlen H locs ls hW hS hL
    exact lv_dcmp hx hb hdg (k hlen H locs ls hW hS hL)
  · cases hs
theorem s_d_idiv (C : s_Cx S G TW p s m args meth c r) (hdg : decode (s_b r) pc = .ok (.idiv, n)) (hn : n = 1) (hs : s_x (.idiv) pc n L st h = some q) (k : s_W S G p l e R s m args below meth c Q N0 M0 q.1 q.2.1 q.2.2.1 q.2.2.2) : s_W S G p l e R s m args below meth c Q N0 M0 pc L st h := by
  obtain ⟨hx, hb, hml, hown, hts, hI, hini⟩ := C
  subst hn
  dsimp only [s_x] at hs
  split at hs
  · split at hs
    · cases hs
    next hc =>
      cases hs
      intro hlen H locs ls hW hS hL
      exact lv_idiv hx hb hdg hc (k hlen H locs ls hW hS hL)
  · cases hs
theorem s_d_irem (C : s_Cx S G TW p s m args meth c r) (hdg : decode (s_b r) pc = .ok (.irem, n)) (hn : n = 1) (hs : s_x (.irem) pc n L st h = some q) (k : s_W S G p l e R s m args below meth c Q N0 M0 q.1 q.2.1 q.2.2.1 q.2.2.2) : s_W S G p l e R s m args below meth c Q N0 M0 pc L st h := by
  obtain ⟨hx, hb, hml, hown, hts, hI, hini⟩ := C
  subst hn
  dsimp only [s_x] at hs
  split at hs
  · split at hs
    · cases hs
    next hc =>
      cases hs
      intro hlen H locs ls hW hS hL
      exact lv_irem hx hb hdg hc (k hlen H locs ls hW hS hL)
  · cases hs
theorem s_d_fsub (C : s_Cx S G TW p s m args meth c r) (hdg : decode (s_b r) pc = .ok (.fsub, n)) (hn : n = 1) (hs : s_x (.fsub) pc n L st h = some q) (k : s_W S G p l e R s m args below meth c Q N0 M0 q.1 q.2.1 q.2.2.1 q.2.2.2) : s_W S G p l e R s m args below meth c Q N0 M0 pc L st h := by
  obtain ⟨hx, hb, hml, hown, hts, hI, hini⟩ := C
  subst hn
  dsimp only [s_x] at hs
  split at hs
  · split at hs
    next hc =>
      cases hs
      intro hlen H locs ls hW hS hL
      exact lv_fsub hx hb hdg hc (k hlen H locs ls hW hS hL)
    · cases hs
  · cases hs
theorem s_d_fmul (C : s_Cx S G TW p s m args meth c r) (hdg : decode (s_b r) pc = .ok (.fmul, n)) (hn : n = 1) (hs : s_x (.fmul) pc n L st h = some q) (k : s_W S G p l e R s m args below meth c Q N0 M0 q.1 q.2.1 q.2.2.1 q.2.2.2) : s_W S G p l e R s m args below meth c Q N0 M0 pc L st h := by
  obtain ⟨hx, hb, hml, hown, hts, hI, hini⟩ := C
  subst hn
  dsimp only [s_x] at hs
  split at hs
  · split at hs
    next hc =>
      cases hs
      intro hlen H locs ls hW hS hL
      exact lv_fmul hx hb hdg hc (k hlen H locs ls hW hS hL)
    · cases hs
  · cases hs
theorem s_d_fdiv (C : s_Cx S G TW p s m args meth c r) (hdg : decode (s_b r) pc = .ok (.fdiv, n)) (hn : n = 1) (hs : s_x (.fdiv) pc n L st h = some q) (k : s_W S G p l e R s m args below meth c Q N0 M0 q.1 q.2.1 q.2.2.1 q.2.2.2) : s_W S G p l e R s m args below meth c Q N0 M0 pc L st h := by
  obtain ⟨hx, hb, hml, hown, hts, hI, hini⟩ := C
  subst hn
  dsimp only [s_x] at hs
  split at hs
  · split at hs
    next hc =>
      cases hs
      intro hlen H locs ls hW hS hL
      exact lv_fdiv hx hb hdg hc (k hlen H locs ls hW hS hL)
    · cases hs
  · cases hs
theorem s_d_dsub (C : s_Cx S G TW p s m args meth c r) (hdg : decode (s_b r) pc = .ok (.dsub, n)) (hn : n = 1) (hs : s_x (.dsub) pc n L st h = some q) (k : s_W S G p l e R s m args below meth c Q N0 M0 q.1 q.2.1 q.2.2.1 q.2.2.2) : s_W S G p l e R s m args below meth c Q N0 M0 pc L st h := by
  obtain ⟨hx, hb, hml, hown, hts, hI, hini⟩ := C
  subst hn
  dsimp only [s_x] at hs
  split at hs
  · split at hs
    next hc =>
      cases hs
      intro hlen H locs ls hW hS hL
      exact lv_dsub hx hb hdg hc (k hlen H locs ls hW hS hL)
    · cases hs
  · cases hs
theorem s_d_dmul (C : s_Cx S G TW p s m args meth c r) (hdg : decode (s_b r) pc = .ok (.dmul, n)) (hn : n = 1) (hs : s_x (.dmul) pc n L st h = some q) (k : s_W S G p l e R s m args below meth c Q N0 M0 q.1 q.2.1 q.2.2.1 q.2.2.2) : s_W S G p l e R s m args below meth c Q N0 M0 pc L st h := by
  obtain ⟨hx, hb, hml, hown, hts, hI, hini⟩ := C
  subst hn
  dsimp only [s_x] at hs
  split at hs
  · split at hs
    next hc =>
      cases hs
      intro hlen H locs ls hW hS hL
      exact lv_dmul hx hb hdg hc (k hlen H locs ls hW hS hL)
    · cases hs
  · cases hs
theorem s_d_ddiv (C : s_Cx S G TW p s m args meth c r) (hdg : decode (s_b r) pc = .ok (.ddiv, n)) (hn : n = 1) (hs : s_x (.ddiv) pc n L st h = some q) (k : s_W S G p l e R s m args below meth c Q N0 M0 q.1 q.2.1 q.2.2.1 q.2.2.2) : s_W S G p l e R s m args below meth c Q N0 M0 pc L st h := by
  obtain ⟨hx, hb, hml, hown, hts, hI, hini⟩ := C
  subst hn
  dsimp only [s_x] at hs
  split at hs
  · split at hs
    next hc =>
      cases hs
      intro hlen H locs ls hW hS hL
      exact lv_ddiv hx hb hdg hc (k hlen H locs ls hW hS hL)
    · cases hs
  · cases hs
theorem s_d_drem (C : s_Cx S G TW p s m args meth c r) (hdg : decode (s_b r) pc = .ok (.drem, n)) (hn : n = 1) (hs : s_x (.drem) pc n L st h = some q) (k : s_W S G p l e R s m args below meth c Q N0 M0 q.1 q.2.1 q.2.2.1 q.2.2.2) : s_W S G p l e R s m args below meth c Q N0 M0 pc L st h := by
  obtain ⟨hx, hb, hml, hown, hts, hI, hini⟩ := C
  subst hn
  dsimp only [s_x] at hs
  split at hs
  · split at hs
    next hc =>
      cases hs
      intro hlen H locs ls hW hS hL
      exact lv_drem hx hb hdg hc (k hlen H locs ls hW hS hL)
    · cases hs
  · cases hs
theorem s_cat1 {v : Value} (h : ¬ s_two v = true) : (s_vc G v).category = 1 := by rw [s_vc_cat, if_neg h]
theorem s_cat2 {v : Value} (h : s_two v = true) : (s_vc G v).category = 2 := by rw [s_vc_cat, if_pos h]
theorem s_d_dup (C : s_Cx S G TW p s m args meth c r) (hdg : decode (s_b r) pc = .ok (.dup, n)) (hn : n = 1) (hs : s_x (.dup) pc n L st h = some q) (k : s_W S G p l e R s m args below meth c Q N0 M0 q.1 q.2.1 q.2.2.1 q.2.2.2) : s_W S G p l e R s m args below meth c Q N0 M0 pc L st h := by
  obtain ⟨hx, hb, hml, hown, hts, hI, hini⟩ := C
  subst hn
  dsimp only [s_x] at hs
  split at hs
  · split at hs
    · cases hs
    next hc =>
      cases hs
      intro hlen H locs ls hW hS hL
      exact lv_dup hx hb hdg (s_cat1 hc) (k hlen H locs ls hW hS hL)
  · cases hs
theorem s_d_pop (C : s_Cx S G TW p s m args meth c r) (hdg : decode (s_b r) pc = .ok (.pop, n)) (hn : n = 1) (hs : s_x (.pop) pc n L st h = some q) (k : s_W S G p l e R s m args below meth c Q N0 M0 q.1 q.2.1 q.2.2.1 q.2.2.2) : s_W S G p l e R s m args below meth c Q N0 M0 pc L st h := by
  obtain ⟨hx, hb, hml, hown, hts, hI, hini⟩ := C
  subst hn
  dsimp only [s_x] at hs
  split at hs
  · split at hs
    · cases hs
    next hc =>
      cases hs
      intro hlen H locs ls hW hS hL
      exact lv_pop hx hb hdg (s_cat1 hc) (k hlen H locs ls hW hS hL)
  · cases hs
theorem s_d_dup2 (C : s_Cx S G TW p s m args meth c r) (hdg : decode (s_b r) pc = .ok (.dup2, n)) (hn : n = 1) (hs : s_x (.dup2) pc n L st h = some q) (k : s_W S G p l e R s m args below meth c Q N0 M0 q.1 q.2.1 q.2.2.1 q.2.2.2) : s_W S G p l e R s m args below meth c Q N0 M0 pc L st h := by
  obtain ⟨hx, hb, hml, hown, hts, hI, hini⟩ := C
  subst hn
  dsimp only [s_x] at hs
  split at hs
  · split at hs
    next hc =>
      cases hs
      intro hlen H locs ls hW hS hL
      exact lv_dup2_2 hx hb hdg (s_cat2 hc) (k hlen H locs ls hW hS hL)
    next hc =>
      split at hs
      · split at hs
        · cases hs
        next hc2 =>
          cases hs
          intro hlen H locs ls hW hS hL
          exact lv_dup2_11 hx hb hdg (s_cat1 hc) (s_cat1 hc2) (k hlen H locs ls hW hS hL)
      · cases hs
  · cases hs
theorem s_d_if_eq {v : Int} (C : s_Cx S G TW p s m args meth c r) (hv : 0 ≤ v) (hdg : decode (s_b r) pc = .ok (.ifCond .eq (v - (pc : Int)), n)) (hn : n = 3) (hs : s_x (.ifCond .eq v) pc n L st h = some q) (k : s_W S G p l e R s m args below meth c Q N0 M0 q.1 q.2.1 q.2.2.1 q.2.2.2) : s_W S G p l e R s m args below meth c Q N0 M0 pc L st h := by
  obtain ⟨hx, hb, hml, hown, hts, hI, hini⟩ := C
  subst hn
  dsimp only [s_x] at hs
  split at hs
  · cases hs
    intro hlen H locs ls hW hS hL
    have k := k hlen H locs ls hW hS hL
    refine lv_if_eq (tgt := v.toNat) hx hb hdg (by omega) (fun hc => ?_) (fun hc => ?_)
    · simp only [s_cnd, decide_eq_true_eq] at k
      rw [if_pos hc] at k
      exact k
    · simp only [s_cnd, decide_eq_true_eq] at k
      rw [if_neg (by first | exact hc | exact not_not_intro hc)] at k
      exact k
  · cases hs
theorem s_d_if_ne {v : Int} (C : s_Cx S G TW p s m args meth c r) (hv : 0 ≤ v) (hdg : decode (s_b r) pc = .ok (.ifCond .ne (v - (pc : Int)), n)) (hn : n = 3) (hs : s_x (.ifCond .ne v) pc n L st h = some q) (k : s_W S G p l e R s m args below meth c Q N0 M0 q.1 q.2.1 q.2.2.1 q.2.2.2) : s_W S G p l e R s m args below meth c Q N0 M0 pc L st h := by
  obtain ⟨hx, hb, hml, hown, hts, hI, hini⟩ := C
  subst hn
  dsimp only [s_x] at hs
  split at hs
  · cases hs
    intro hlen H locs ls hW hS hL
    have k := k hlen H locs ls hW hS hL
    refine lv_if_ne (tgt := v.toNat) hx hb hdg (by omega) (fun hc => ?_) (fun hc => ?_)
    · simp only [s_cnd, decide_eq_true_eq] at k
      rw [if_pos hc] at k
      exact k
    · simp only [s_cnd, decide_eq_true_eq] at k
      rw [if_neg (by first | exact hc | exact not_not_intro hc)] at k
      exact k
  · cases hs
theorem s_d_if_lt {v : Int} (C : s_Cx S G TW p s m args meth c r) (hv : 0 ≤ v) (hdg : decode (s_b r) pc = .ok (.ifCond .lt (v - (pc : Int)), n)) (hn : n = 3) (hs : s_x (.ifCond .lt v) pc n L st h = some q) (k : s_W S G p l e R s m args below meth c Q N0 M0 q.1 q.2.1 q.2.2.1 q.2.2.2) : s_W S G p l e R s m args below meth c Q N0 M0 pc L st h := by
  obtain ⟨hx, hb, hml, hown, hts, hI, hini⟩ := C
  subst hn
  dsimp only [s_x] at hs
  split at hs
  · cases hs
    intro hlen H locs ls hW hS hL
    have k := k hlen H locs ls hW hS hL
    refine lv_if_lt (tgt := v.toNat) hx hb hdg (by omega) (fun hc => ?_) (fun hc => ?_)
    · simp only [s_cnd, decide_eq_true_eq] at k
      rw [if_pos hc] at k
      exact k
    · simp only [s_cnd, decide_eq_true_eq] at k
      rw [if_neg (by first | exact hc | exact not_not_intro hc)] at k
      exact k
  · cases hs
theorem s_d_if_ge {v : Int} (C : s_Cx S G TW p s m args meth c r) (hv : 0 ≤ v) (hdg : decode (s_b r) pc = .ok (.ifCond .ge (v - (pc : Int)), n)) (hn : n = 3) (hs : s_x (.ifCond .ge v) pc n L st h = some q) (k : s_W S G p l e R s m args below meth c Q N0 M0 q.1 q.2.1 q.2.2.1 q.2.2.2) : s_W S G p l e R s m args below meth c Q N0 M0 pc L st h := by
  obtain ⟨hx, hb, hml, hown, hts, hI, hini⟩ := C
  subst hn
  dsimp only [s_x] at hs
  split at hs
  · cases hs
    intro hlen H locs ls hW hS hL
    have k := k hlen H locs ls hW hS hL
    refine lv_if_ge (tgt := v.toNat) hx hb hdg (by omega) (fun hc => ?_) (fun hc => ?_)
    · simp only [s_cnd, decide_eq_true_eq] at k
      rw [if_pos hc] at k
      exact k
    · simp only [s_cnd, decide_eq_true_eq] at k
      rw [if_neg (by first | exact hc | exact not_not_intro hc)] at k
      exact k
  · cases hs
theorem s_d_if_gt {v : Int} (C : s_Cx S G TW p s m args meth c r) (hv : 0 ≤ v) (hdg : decode (s_b r) pc = .ok (.ifCond .gt (v - (pc : Int)), n)) (hn : n = 3) (hs : s_x (.ifCond .gt v) pc n L st h = some q) (k : s_W S G p l e R s m args below meth c Q N0 M0 q.1 q.2.1 q.2.2.1 q.2.2.2) : s_W S G p l e R s m args below meth c Q N0 M0 pc L st h := by
  obtain ⟨hx, hb, hml, hown, hts, hI, hini⟩ := C
  subst hn
  dsimp only [s_x] at hs
  split at hs
  · cases hs
    intro hlen H locs ls hW hS hL
    have k := k hlen H locs ls hW hS hL
    refine lv_if_gt (tgt := v.toNat) hx hb hdg (by omega) (fun hc => ?_) (fun hc => ?_)
    · simp only [s_cnd, decide_eq_true_eq] at k
      rw [if_pos hc] at k
      exact k
    · simp only [s_cnd, decide_eq_true_eq] at k
      rw [if_neg (by first | exact hc | exact not_not_intro hc)] at k
      exact k
  · cases hs
theorem s_d_if_le {v : Int} (C : s_Cx S G TW p s m args meth c r) (hv : 0 ≤ v) (hdg : decode (s_b r) pc = .ok (.ifCond .le (v - (pc : Int)), n)) (hn : n = 3) (hs : s_x (.ifCond .le v) pc n L st h = some q) (k : s_W S G p l e R s m args below meth c Q N0 M0 q.1 q.2.1 q.2.2.1 q.2.2.2) : s_W S G p l e R s m args below meth c Q N0 M0 pc L st h := by
  obtain ⟨hx, hb, hml, hown, hts, hI, hini⟩ := C
  subst hn
  dsimp only [s_x] at hs
  split at hs
  · cases hs
    intro hlen H locs ls hW hS hL
    have k := k hlen H locs ls hW hS hL
    refine lv_if_le (tgt := v.toNat) hx hb hdg (by omega) (fun hc => ?_) (fun hc => ?_)
    · simp only [s_cnd, decide_eq_true_eq] at k
      rw [if_pos hc] at k
      exact k
    · simp only [s_cnd, decide_eq_true_eq] at k
      rw [if_neg (by first | exact hc | exact not_not_intro hc)] at k
      exact k
  · cases hs
theorem s_d_icmp_eq {v : Int} (C : s_Cx S G TW p s m args meth c r) (hv : 0 ≤ v) (hdg : decode (s_b r) pc = .ok (.if_icmp .eq (v - (pc : Int)), n)) (hn : n = 3) (hs : s_x (.if_icmp .eq v) pc n L st h = some q) (k : s_W S G p l e R s m args below meth c Q N0 M0 q.1 q.2.1 q.2.2.1 q.2.2.2) : s_W S G p l e R s m args below meth c Q N0 M0 pc L st h := by
  obtain ⟨hx, hb, hml, hown, hts, hI, hini⟩ := C
  subst hn
  dsimp only [s_x] at hs
  split at hs
  · cases hs
    intro hlen H locs ls hW hS hL
    have k := k hlen H locs ls hW hS hL
    refine lv_icmp_eq (tgt := v.toNat) hx hb hdg (by omega) (fun hc => ?_) (fun hc => ?_)
    · simp only [s_cnd, decide_eq_true_eq] at k
      rw [if_pos hc] at k
      exact k
    · simp only [s_cnd, decide_eq_true_eq] at k
      rw [if_neg (by first | exact hc | exact not_not_intro hc)] at k
      exact k
  · cases hs
theorem s_d_icmp_ne {v : Int} (C : s_Cx S G TW p s m args meth c r) (hv : 0 ≤ v) (hdg : decode (s_b r) pc = .ok (.if_icmp .ne (v - (pc : Int)), n)) (hn : n = 3) (hs : s_x (.if_icmp .ne v) pc n L st h = some q) (k : s_W S G p l e R s m args below meth c Q N0 M0 q.1 q.2.1 q.2.2.1 q.2.2.2) : s_W S G p l e R s m args below meth c Q N0 M0 pc L st h := by
  obtain ⟨hx, hb, hml, hown, hts, hI, hini⟩ := C
  subst hn
  dsimp only [s_x] at hs
  split at hs
  · cases hs
    intro hlen H locs ls hW hS hL
    have k := k hlen H locs ls hW hS hL
    refine lv_icmp_ne (tgt := v.toNat) hx hb hdg (by omega) (fun hc => ?_) (fun hc => ?_)
    · simp only [s_cnd, decide_eq_true_eq] at k
      rw [if_pos hc] at k
      exact k
    · simp only [s_cnd, decide_eq_true_eq] at k
      rw [if_neg (by first | exact hc | exact not_not_intro hc)] at k
      exact k
  · cases hs
theorem s_d_icmp_lt {v : Int} (C : s_Cx S G TW p s m args meth c r) (hv : 0 ≤ v) (hdg : decode (s_b r) pc = .ok (.if_icmp .lt (v - (pc : Int)), n)) (hn : n = 3) (hs : s_x (.if_icmp .lt v) pc n L st h = some q) (k : s_W S G p l e R s m args below meth c Q N0 M0 q.1 q.2.1 q.2.2.1 q.2.2.2) : s_W S G p l e R s m args below meth c Q N0 M0 pc L st h := by
  obtain ⟨hx, hb, hml, hown, hts, hI, hini⟩ := C
  subst hn
  dsimp only [s_x] at hs
  split at hs
  · cases hs
    intro hlen H locs ls hW hS hL
    have k := k hlen H locs ls hW hS hL
    refine lv_icmp_lt (tgt := v.toNat) hx hb hdg (by omega) (fun hc => ?_) (fun hc => ?_)
    · simp only [s_cnd, decide_eq_true_eq] at k
      rw [if_pos hc] at k
      exact k
    · simp only [s_cnd, decide_eq_true_eq] at k
      rw [if_neg (by first | exact hc | exact not_not_intro hc)] at k
      exact k
  · cases hs
theorem s_d_icmp_ge {v : Int} (C : s_Cx S G TW p s m args meth c r) (hv : 0 ≤ v) (hdg : decode (s_b r) pc = .ok (.if_icmp .ge (v - (pc : Int)), n)) (hn : n = 3) (hs : s_x (.if_icmp .ge v) pc n L st h = some q) (k : s_W S G p l e R s m args below meth c Q N0 M0 q.1 q.2.1 q.2.2.1 q.2.2.2) : s_W S G p l e R s m args below meth c Q N0 M0 pc L st h := by
  obtain ⟨hx, hb, hml, hown, hts, hI, hini⟩ := C
  subst hn
  dsimp only [s_x] at hs
  split at hs
  · cases hs
    intro hlen H locs ls hW hS hL
    have k := k hlen H locs ls hW hS hL
    refine lv_icmp_ge (tgt := v.toNat) hx hb hdg (by omega) (fun hc => ?_) (fun hc => ?_)
    · simp only [s_cnd, decide_eq_true_eq] at k
      rw [if_pos hc] at k
      exact k
    · simp only [s_cnd, decide_eq_true_eq] at k
      rw [if_neg (by first | exact hc | exact not_not_intro hc)] at k
      exact k
  · cases hs
theorem s_d_icmp_gt {v : Int} (C : s_Cx S G TW p s m args meth c r) (hv : 0 ≤ v) (hdg : decode (s_b r) pc = .ok (.if_icmp .gt (v - (pc : Int)), n)) (hn : n = 3) (hs : s_x (.if_icmp .gt v) pc n L st h = some q) (k : s_W S G p l e R s m args below meth c Q N0 M0 q.1 q.2.1 q.2.2.1 q.2.2.2) : s_W S G p l e R s m args below meth c Q N0 M0 pc L st h := by
  obtain ⟨hx, hb, hml, hown, hts, hI, hini⟩ := C
  subst hn
  dsimp only [s_x] at hs
  split at hs
  · cases hs
    intro hlen H locs ls hW hS hL
    have k := k hlen H locs ls hW hS hL
    refine lv_icmp_gt (tgt := v.toNat) hx hb hdg (by omega) (fun hc => ?_) (fun hc => ?_)
    · simp only [s_cnd, decide_eq_true_eq] at k
      rw [if_pos hc] at k
      exact k
    · simp only [s_cnd, decide_eq_true_eq] at k
      rw [if_neg (by first | exact hc | exact not_not_intro hc)] at k
      exact k
  · cases hs
theorem s_d_icmp_le {v : Int} (C : s_Cx S G TW p s m args meth c r) (hv : 0 ≤ v) (hdg : decode (s_b r) pc = .ok (.if_icmp .le (v - (pc : Int)), n)) (hn : n = 3) (hs : s_x (.if_icmp .le v) pc n L st h = some q) (k : s_W S G p l e R s m args below meth c Q N0 M0 q.1 q.2.1 q.2.2.1 q.2.2.2) : s_W S G p l e R s m args below meth c Q N0 M0 pc L st h := by
  obtain ⟨hx, hb, hml, hown, hts, hI, hini⟩ := C
  subst hn
  dsimp only [s_x] at hs
  split at hs
  · cases hs
    intro hlen H locs ls hW hS hL
    have k := k hlen H locs ls hW hS hL
    refine lv_icmp_le (tgt := v.toNat) hx hb hdg (by omega) (fun hc => ?_) (fun hc => ?_)
    · simp only [s_cnd, decide_eq_true_eq] at k
      rw [if_pos hc] at k
      exact k
    · simp only [s_cnd, decide_eq_true_eq] at k
      rw [if_neg (by first | exact hc | exact not_not_intro hc)] at k
      exact k
  · cases hs
theorem s_d_goto {v : Int} (C : s_Cx S G TW p s m args meth c r) (hv : 0 ≤ v) (hdg : decode (s_b r) pc = .ok (.goto (v - (pc : Int)), n)) (hn : n = 3) (hs : s_x (.goto v) pc n L st h = some q) (k : s_W S G p l e R s m args below meth c Q N0 M0 q.1 q.2.1 q.2.2.1 q.2.2.2) : s_W S G p l e R s m args below meth c Q N0 M0 pc L st h := by
  obtain ⟨hx, hb, hml, hown, hts, hI, hini⟩ := C
  subst hn
  cases hs
  intro hlen H locs ls hW hS hL
  exact lv_goto hx hb hdg (by omega) (k hlen H locs ls hW hS hL)
theorem s_d_ifnull {v : Int} (C : s_Cx S G TW p s m args meth c r) (hv : 0 ≤ v) (hdg : decode (s_b r) pc = .ok (.ifnull (v - (pc : Int)), n)) (hn : n = 3) (hs : s_x (.ifnull v) pc n L st h = some q) (k : s_W S G p l e R s m args below meth c Q N0 M0 q.1 q.2.1 q.2.2.1 q.2.2.2) : s_W S G p l e R s m args below meth c Q N0 M0 pc L st h := by
  obtain ⟨hx, hb, hml, hown, hts, hI, hini⟩ := C
  subst hn
  dsimp only [s_x] at hs
  split at hs
  · cases hs
    intro hlen H locs ls hW hS hL
    exact lv_ifnullN hx hb hdg (by omega) (k hlen H locs ls hW hS hL)
  · cases hs
    intro hlen H locs ls hW hS hL
    exact lv_ifnull hx hb hdg (k hlen H locs ls hW hS hL)
  · cases hs
theorem s_d_ifnonnull {v : Int} (C : s_Cx S G TW p s m args meth c r) (hv : 0 ≤ v) (hdg : decode (s_b r) pc = .ok (.ifnonnull (v - (pc : Int)), n)) (hn : n = 3) (hs : s_x (.ifnonnull v) pc n L st h = some q) (k : s_W S G p l e R s m args below meth c Q N0 M0 q.1 q.2.1 q.2.2.1 q.2.2.2) : s_W S G p l e R s m args below meth c Q N0 M0 pc L st h := by
  obtain ⟨hx, hb, hml, hown, hts, hI, hini⟩ := C
  subst hn
  dsimp only [s_x] at hs
  split at hs
  · cases hs
    intro hlen H locs ls hW hS hL
    exact lv_ifnonnullN hx hb hdg (k hlen H locs ls hW hS hL)
  · cases hs
    intro hlen H locs ls hW hS hL
    exact lv_ifnonnull hx hb hdg (by omega) (k hlen H locs ls hW hS hL)
  · cases hs
theorem s_d_table {d lo hi : Int} {o : Array Int} (C : s_Cx S G TW p s m args meth c r) (hd : 0 ≤ d) (ho : ∀ t ∈ o.toList, 0 ≤ t) (hdg : decode (s_b r) pc = .ok (.tableswitch (d - (pc : Int)) lo hi (o.map (fun t => t - (pc : Int))), n)) (hs : s_x (.tableswitch d lo hi o) pc n L st h = some q) (k : s_W S G p l e R s m args below meth c Q N0 M0 q.1 q.2.1 q.2.2.1 q.2.2.2) : s_W S G p l e R s m args below meth c Q N0 M0 pc L st h := by
  obtain ⟨hx, hb, hml, hown, hts, hI, hini⟩ := C
  dsimp only [s_x] at hs
  split at hs
  · split at hs
    next hc =>
      cases hs
      intro hlen H locs ls hW hS hL
      exact lv_tableOut hx hb hdg hc (by omega) (k hlen H locs ls hW hS hL)
    next x r0 hc =>
      split at hs
      next t heq =>
        cases hs
        intro hlen H locs ls hW hS hL
        have h1 : ¬ x.toInt < lo := fun z => hc (Or.inl z)
        have h2 : ¬ hi < x.toInt := fun z => hc (Or.inr z)
        rw [s_nth_eq] at heq
        have h3 := ho t (List.mem_of_getElem? heq)
        rw [Array.getElem?_toList] at heq
        exact lv_tableIn (off := t - (pc : Int)) hx hb hdg h1 h2 (by rw [Array.getElem?_map, heq]; rfl) (by omega) (k hlen H locs ls hW hS hL)
      · cases hs
  · cases hs
theorem s_off (d z : Int) (pc : Nat) (hd : 0 ≤ d) : ∀ l : List (Int × Int), (∀ q ∈ l, 0 ≤ q.2) → Op.lookupswitch.offset (l.map fun q => (q.1, q.2 - (pc : Int))) (d - (pc : Int)) z = Op.lookupswitch.offset l d z - (pc : Int) ∧ 0 ≤ Op.lookupswitch.offset l d z
  | [], _ => ⟨rfl, hd⟩
  | (a, b) :: l, hl => by
    have ih := s_off d z pc hd l (fun q hq => hl q (List.mem_cons_of_mem _ hq))
    rw [List.map_cons, Op.lookupswitch.offset_cons, Op.lookupswitch.offset_cons]
    split
    · exact ⟨rfl, hl _ List.mem_cons_self⟩
    · exact ih
theorem s_d_look {d : Int} {o : Array (Int × Int)} (C : s_Cx S G TW p s m args meth c r) (hd : 0 ≤ d) (ho : ∀ t ∈ o.toList, 0 ≤ t.2) (hso : ((o.map fun q => (q.1, q.2 - (pc : Int))).toList.zip ((o.map fun q => (q.1, q.2 - (pc : Int))).toList.drop 1)).all (fun (a, next) => a.1 < next.1) = true) (hdg : decode (s_b r) pc = .ok (.lookupswitch (d - (pc : Int)) (o.map fun q => (q.1, q.2 - (pc : Int))), n)) (hs : s_x (.lookupswitch d o) pc n L st h = some q) (k : s_W S G p l e R s m args below meth c Q N0 M0 q.1 q.2.1 q.2.2.1 q.2.2.2) : s_W S G p l e R s m args below meth c Q N0 M0 pc L st h := by
  obtain ⟨hx, hb, hml, hown, hts, hI, hini⟩ := C
  dsimp only [s_x] at hs
  split at hs
  next x r0 =>
    cases hs
    intro hlen H locs ls hW hS hL
    have h1 := s_off d x.toInt pc hd o.toList ho
    exact lv_lookup (off := Op.lookupswitch.offset o.toList d x.toInt - (pc : Int)) hx hb hdg hso (by rw [← h1.1, Array.toList_map]) (by omega) (k hlen H locs ls hW hS hL)
  · cases hs
end STP
end
section
section HPS
variable {p : Program} {l : Launch} {e : Env} {R : Room} {s : State} {m : MethodId} {args : Array Value} {below : List Frame} {meth : Method} {c : Code} {Q : State → Prop}
variable {S : s_SG} {G : s_DG} {TW : List Jvm.Cond} {r : sM} {N0 M0 pc n idx : Nat} {L st : List Value} {h : sHp} {q : sC}
theorem s_cell_o {i k : Nat} (hi : h.2.2[i]? = some (0, k)) : s_cell S G h i = .inr (k, (List.range (s_N S k)).map (s_fv S G h i k)) := by unfold s_cell; rw [hi]
theorem s_cell_i {i k : Nat} (hi : h.2.2[i]? = some (1, k)) : s_cell S G h i = .inl (s_cA G 1, k, .inl (h.1 i)) := by unfold s_cell; rw [hi]
theorem s_cell_r {i t k : Nat} (hi : h.2.2[i]? = some (t + 2, k)) : s_cell S G h i = .inl (s_cA G (t + 2), k, .inr (.inr (.inr (.inr (fun j => (h.2.1 i j).map (s_ad G)))))) := by unfold s_cell; rw [hi]
theorem s_cl_of {k j : Nat} (hk : j < s_N S k) : ∃ q : vw_C, (s_cl S)[k]? = some q ∧ s_N S k = q.2.2 ∧ s_F S k = q.2.1 ∧ s_cn S k = q.1 := by
  unfold s_N at hk
  cases hq : (s_cl S)[k]? with
  | none => rw [hq] at hk; exact absurd hk (Nat.not_lt_zero _)
  | some q => exact ⟨q, rfl, by unfold s_N; rw [hq], by unfold s_F; rw [hq], by unfold s_cn; rw [hq]⟩
theorem s_fs_at {i k j : Nat} (hj : j < s_N S k) : ((List.range (s_N S k)).map (s_fv S G h i k))[j]? = some (s_fv S G h i k j) := by
  rw [List.getElem?_map, List.getElem?_range hj]; rfl
theorem s_fs_set {h2 : sHp} {i k j : Nat} {v : Value} (hv : s_fv S G h2 i k j = v) (ho : ∀ x, x ≠ j → s_fv S G h2 i k x = s_fv S G h i k x) : ((List.range (s_N S k)).map (s_fv S G h i k)).set j v = (List.range (s_N S k)).map (s_fv S G h2 i k) := by
  apply List.ext_getElem?
  intro x
  by_cases hx : x = j
  · subst hx
    by_cases hl : x < s_N S k
    · rw [List.getElem?_set_self (by simpa using hl), s_fs_at hl, hv]
    · rw [List.getElem?_eq_none (by simpa using hl), List.getElem?_eq_none (by simpa using hl)]
  · rw [List.getElem?_set_ne (Ne.symm hx), List.getElem?_map, List.getElem?_map]
    by_cases hl : x < s_N S k
    · rw [List.getElem?_range hl]
      show some _ = some _
      rw [ho x hx]
    · rw [List.getElem?_eq_none (by simpa using hl)]; rfl
theorem s_d_get {ev : Nat} (C : s_Cx S G TW p s m args meth c r) (SK : s_SOK S TW) (hk : ev % 1024 / 8 < s_N S (ev / 1024)) (hkd : ev % 8 = s_kd (s_ty S (ev / 1024) (ev % 1024 / 8))) (hw : (Jvm.Cond.fieldLink (s_y r).cls idx (s_F S (ev / 1024) (ev % 1024 / 8)).1 (s_F S (ev / 1024) (ev % 1024 / 8)).2.1 (s_F S (ev / 1024) (ev % 1024 / 8)).2.2.1).before args s = true) (hdg : decode (s_b r) pc = .ok (.getfield idx, n)) (hn : n = 3) (hs : s_x (.getfield ev) pc n L st h = some q) (k : s_W S G p l e R s m args below meth c Q N0 M0 q.1 q.2.1 q.2.2.1 q.2.2.2) : s_W S G p l e R s m args below meth c Q N0 M0 pc L st h := by
  obtain ⟨hx, hb, hml, hown, hts, hI, hini⟩ := C
  subst hn
  dsimp only [s_x] at hs
  split at hs
  next a r0 =>
    split at hs
    next c0 heq =>
      split at hs
      next hc0 =>
        subst hc0
        intro hlen H locs ls hW hS hL
        obtain ⟨h1, h2, h3⟩ := s_Wd_len hW heq
        have h4 := h3 (by decide)
        obtain ⟨qc, e1, e2, e3, e4⟩ := s_cl_of hk
        have hk2 : ev % 1024 / 8 < qc.2.2 := by rw [← e2]; exact hk
        rw [e3] at hw
        have hv : s_W S G p l e R s m args below meth c Q N0 M0 (pc + 3) L ((if s_kd (s_ty S (ev / 1024) (ev % 1024 / 8)) = 2 then (match h.2.1 a (ev % 1024 / 8) with | some b => .ref b | none => .null) else .int (h.1 a (ev % 1024 / 8))) :: r0) h := by
          rw [hkd] at hs
          split at hs
          next hkk =>
            rw [if_pos hkk]
            split at hs
            next b hb2 => rw [hb2]; cases hs; exact k
            next hb2 => rw [hb2]; cases hs; exact k
          next hkk =>
            rw [if_neg hkk]
            cases hs
            exact k
        refine va_get (D := s_D G) (ci := ev / 1024) (C := qc.1) (T := qc.2.1) (N := qc.2.2) hx hb hts (SK _ _ e1).1 hown hI.1 hW.2.1 (a - 4) (fs := (List.range (s_N S (ev / 1024))).map (s_fv S G h a (ev / 1024))) (by rw [← s_cell_o h1]; exact s_ws_at S G h h4 h2) e1 (ev % 1024 / 8) hk2 hw (fun _ h9 => h9) (s_fs_at hk) hdg ?_
        have e5 : s_fv S G h a (ev / 1024) (ev % 1024 / 8) = s_vc G (if s_kd (s_ty S (ev / 1024) (ev % 1024 / 8)) = 2 then (match h.2.1 a (ev % 1024 / 8) with | some b => .ref b | none => .null) else .int (h.1 a (ev % 1024 / 8))) := by
          unfold s_fv
          split
          · cases h.2.1 a (ev % 1024 / 8) <;> rfl
          · rfl
        rw [e5]
        exact hv hlen H locs ls hW hS hL
      · cases hs
    · cases hs
  · cases hs
theorem s_put_w {ev a : Nat} {v w : Value} {r0 : List Value} {h2 : sHp} (C : s_Cx S G TW p s m args meth c r) (SK : s_SOK S TW) (hk : ev % 1024 / 8 < s_N S (ev / 1024)) (hfin : (s_F S (ev / 1024) (ev % 1024 / 8)).2.2.2 = true → (s_y r).name = "<init>" ∧ (s_F S (ev / 1024) (ev % 1024 / 8)).1 = (s_y r).cls) (hw : (Jvm.Cond.fieldLink (s_y r).cls idx (s_F S (ev / 1024) (ev % 1024 / 8)).1 (s_F S (ev / 1024) (ev % 1024 / 8)).2.1 (s_F S (ev / 1024) (ev % 1024 / 8)).2.2.1).before args s = true) (hdg : decode (s_b r) pc = .ok (.putfield idx, 3))
    (h1 : h.2.2[a]? = some (0, ev / 1024)) (hl : a < h.2.2.length) (h4 : 4 ≤ a) (hvw : v = s_vc G w) (hn : narrow (s_ty S (ev / 1024) (ev % 1024 / 8)) v = v) (hfit : fits (s_ty S (ev / 1024) (ev % 1024 / 8)) v = true) (hs2 : h2.2.2 = h.2.2) (ho : ∀ i : Nat, i ≠ a → h2.1 i = h.1 i ∧ h2.2.1 i = h.2.1 i) (hv2 : s_fv S G h2 a (ev / 1024) (ev % 1024 / 8) = v) (ho2 : ∀ x, x ≠ ev % 1024 / 8 → s_fv S G h2 a (ev / 1024) x = s_fv S G h a (ev / 1024) x)
    (k : s_W S G p l e R s m args below meth c Q N0 M0 (pc + 3) L r0 h2) : s_W S G p l e R s m args below meth c Q N0 M0 pc L (w :: .ref a :: r0) h := by
  obtain ⟨hx, hb, hml, hown, hts, hI, hini⟩ := C
  intro hlen H locs ls hW hS hL
  obtain ⟨qc, e1, e2, e3, e4⟩ := s_cl_of hk
  have hk2 : ev % 1024 / 8 < qc.2.2 := by rw [← e2]; exact hk
  rw [e3] at hw hfin
  have hd := (SK _ _ e1).2.1 _ hk2
  have hws := s_ws_at S G h h4 hl
  rw [s_cell_o h1] at hws
  have hkk : ∀ (H1 : Heap) (locs1 : List Loc), va_P (s_D G) (s_cl S) ((s_ws S G h).set (a - 4) (s_ad G a, .inr (ev / 1024, ((List.range (s_N S (ev / 1024))).map (s_fv S G h a (ev / 1024))).set (ev % 1024 / 8) v))) H1 → va_D (s_A G) ((s_ws S G h).set (a - 4) (s_ad G a, .inr (ev / 1024, ((List.range (s_N S (ev / 1024))).map (s_fv S G h a (ev / 1024))).set (ev % 1024 / 8) v))) → va_S (s_A G) s.heap H1 locs1 → W p l e R s m args below meth c H1 locs1 (h.2.2.length - N0) (s_sz S h.2.2 - M0) Q (F0 m (pc + 3) ls (r0.map (s_vc G))) := by
    intro H1 locs1 hP1 _ hS1
    have hW1 := s_Wd_put hW h4 hl hs2 ho (e := .inr (ev / 1024, ((List.range (s_N S (ev / 1024))).map (s_fv S G h a (ev / 1024))).set (ev % 1024 / 8) v)) (by rw [s_fs_set hv2 ho2, s_cell_o (by rw [hs2]; exact h1)]) hP1
    have := k hlen H1 locs1 ls hW1 hS1 hL
    rw [hs2] at this
    exact this
  show W p l e R s m args below meth c H locs (h.2.2.length - N0) (s_sz S h.2.2 - M0) Q (F0 m pc ls (s_vc G w :: .ref (s_ad G a) :: r0.map (s_vc G)))
  rw [← hvw]
  have hlen2 : ev % 1024 / 8 < ((List.range (s_N S (ev / 1024))).map (s_fv S G h a (ev / 1024))).length := by simpa using hk
  cases hf : (qc.2.1 (ev % 1024 / 8)).2.2.2 with
  | false => exact va_put (D := s_D G) (ci := ev / 1024) (C := qc.1) (T := qc.2.1) (N := qc.2.2) hx hb hts (SK _ _ e1).1 (s_ty S (ev / 1024)) (SK _ _ e1).2.1 (SK _ _ e1).2.2 hown hI.1 hW.2.1 (s_ws_D hI h) hS (a - 4) hws e1 (ev % 1024 / 8) hk2 hw (fun _ h9 => h9) hf hd hn hfit hlen2 hdg hkk
  | true => exact va_putF (D := s_D G) (ci := ev / 1024) (C := qc.1) (T := qc.2.1) (N := qc.2.2) hx hb hts (SK _ _ e1).1 (s_ty S (ev / 1024)) (SK _ _ e1).2.1 (SK _ _ e1).2.2 hown hI.1 hW.2.1 (s_ws_D hI h) hS (a - 4) hws e1 (ev % 1024 / 8) hk2 hw (fun _ h9 => h9) hf (hini (hfin hf).1) (hfin hf).2 hd hn hfit hlen2 hdg hkk
theorem s_fv_upd {a i k j x : Nat} {v : Int32} (hj : x ≠ j) : s_fv S G (s_upd h.1 a j v, h.2) i k x = s_fv S G h i k x := by
  unfold s_fv
  split
  · rfl
  · show Value.int (s_upd h.1 a j v i x) = _
    unfold s_upd
    split
    · rw [show upd (h.1 i) j v x = h.1 i x from if_neg hj]
    · rfl
theorem s_fv_updR {a i k j x : Nat} {v : Option Nat} (hj : x ≠ j) : s_fv S G (h.1, s_updR h.2.1 a j v, h.2.2) i k x = s_fv S G h i k x := by
  unfold s_fv
  split
  · show va_rf ((s_updR h.2.1 a j v i x).map _) = _
    unfold s_updR
    split
    · rw [show va_up (h.2.1 i) j v x = h.2.1 i x from if_neg hj]
    · rfl
  · rfl
theorem s_d_put {ev : Nat} (C : s_Cx S G TW p s m args meth c r) (SK : s_SOK S TW) (hk : ev % 1024 / 8 < s_N S (ev / 1024)) (hkd : ev % 8 = s_kd (s_ty S (ev / 1024) (ev % 1024 / 8))) (hty : ev % 8 = 2 → ∃ nm, s_ty S (ev / 1024) (ev % 1024 / 8) = .object nm ∨ ∃ t, s_ty S (ev / 1024) (ev % 1024 / 8) = .array t) (hfin : (s_F S (ev / 1024) (ev % 1024 / 8)).2.2.2 = true → (s_y r).name = "<init>" ∧ (s_F S (ev / 1024) (ev % 1024 / 8)).1 = (s_y r).cls) (hw : (Jvm.Cond.fieldLink (s_y r).cls idx (s_F S (ev / 1024) (ev % 1024 / 8)).1 (s_F S (ev / 1024) (ev % 1024 / 8)).2.1 (s_F S (ev / 1024) (ev % 1024 / 8)).2.2.1).before args s = true) (hdg : decode (s_b r) pc = .ok (.putfield idx, n)) (hn : n = 3) (hs : s_x (.putfield ev) pc n L st h = some q) (k : s_W S G p l e R s m args below meth c Q N0 M0 q.1 q.2.1 q.2.2.1 q.2.2.2) : s_W S G p l e R s m args below meth c Q N0 M0 pc L st h := by
  subst hn
  dsimp only [s_x] at hs
  split at hs
  next x a r0 =>
    split at hs
    next c0 heq =>
      split at hs
      next hc0 =>
        subst hc0
        intro hlen H locs ls hW hS hL
        obtain ⟨h1, h2, h3⟩ := s_Wd_len hW heq
        have h4 := h3 (by decide)
        refine s_put_w (v := .int x) (h2 := (s_upd h.1 a (ev % 1024 / 8) x, h.2)) C SK hk hfin hw hdg h1 h2 h4 rfl ?_ ?_ rfl (fun i hi => ⟨if_neg hi, rfl⟩) ?_ (fun x hx => s_fv_upd hx) ?_ hlen H locs ls hW hS hL
        · split at hs
          next h0 => rw [hkd] at h0; cases ht : s_ty S (ev / 1024) (ev % 1024 / 8) <;> rw [ht] at h0 <;> simp [s_kd] at h0 <;> rfl
          next h0 =>
            split at hs
            next h01 =>
              split at hs
              next hx =>
                rw [hkd] at h01
                cases ht : s_ty S (ev / 1024) (ev % 1024 / 8) <;> rw [ht] at h01 <;> simp [s_kd] at h01
                rcases hx with rfl | rfl <;> rfl
              · cases hs
            · cases hs
        · split at hs
          next h0 => rw [hkd] at h0; cases ht : s_ty S (ev / 1024) (ev % 1024 / 8) <;> rw [ht] at h0 <;> simp [s_kd] at h0 <;> rfl
          next h0 =>
            split at hs
            next h01 =>
              split at hs
              next hx =>
                rw [hkd] at h01
                cases ht : s_ty S (ev / 1024) (ev % 1024 / 8) <;> rw [ht] at h01 <;> simp [s_kd] at h01
                rcases hx with rfl | rfl <;> rfl
              · cases hs
            · cases hs
        · have : ¬ s_kd (s_ty S (ev / 1024) (ev % 1024 / 8)) = 2 := by
            rw [← hkd]
            intro z
            rw [if_neg (by omega), if_neg (by omega)] at hs
            cases hs
          unfold s_fv
          rw [if_neg this]
          show Value.int (s_upd h.1 a (ev % 1024 / 8) x a (ev % 1024 / 8)) = _
          simp [s_upd, upd]
        · split at hs
          · cases hs; exact k
          · split at hs
            · split at hs
              · cases hs; exact k
              · cases hs
            · cases hs
      · cases hs
    · cases hs
  next b a r0 =>
    split at hs
    next c0 heq =>
      split at hs
      next hc0 =>
        subst hc0
        split at hs
        next hk2 =>
          cases hs
          intro hlen H locs ls hW hS hL
          obtain ⟨h1, h2, h3⟩ := s_Wd_len hW heq
          have h4 := h3 (by decide)
          obtain ⟨nm, ht⟩ := hty hk2
          refine s_put_w (v := .ref (s_ad G b)) (h2 := (h.1, s_updR h.2.1 a (ev % 1024 / 8) (some b), h.2.2)) C SK hk hfin hw hdg h1 h2 h4 rfl ?_ ?_ rfl (fun i hi => ⟨rfl, if_neg hi⟩) ?_ (fun x hx => s_fv_updR hx) k hlen H locs ls hW hS hL
          · rcases ht with ht | ⟨t, ht⟩ <;> rw [ht] <;> rfl
          · rcases ht with ht | ⟨t, ht⟩ <;> rw [ht] <;> rfl
          · unfold s_fv
            rw [if_pos (by rw [← hkd]; exact hk2)]
            show va_rf ((s_updR h.2.1 a (ev % 1024 / 8) (some b) a (ev % 1024 / 8)).map _) = _
            simp [s_updR, va_up, va_rf]
        · cases hs
      · cases hs
    · cases hs
  · cases hs
theorem s_d_gets {j : Nat} (C : s_Cx S G TW p s m args meth c r) (hj : j < s_ns S) (hw : (Jvm.Cond.fieldLink (s_y r).cls idx (s_sn S j).1 (s_sn S j).2.1 (s_sn S j).2.2).before args s = true) (hdg : decode (s_b r) pc = .ok (.getstatic idx, n)) (hn : n = 3) (hs : s_x (.getstatic j) pc n L st h = some q) (k : s_W S G p l e R s m args below meth c Q N0 M0 q.1 q.2.1 q.2.2.1 q.2.2.2) : s_W S G p l e R s m args below meth c Q N0 M0 pc L st h := by
  obtain ⟨hx, hb, hml, hown, hts, hI, hini⟩ := C
  subst hn
  cases hs
  intro hlen H locs ls hW hS hL
  exact va_gets hx hb (hI.2.2.1 j hj).2 hS hown hw (fun _ h9 => h9) hdg (k hlen H locs ls hW hS hL)
theorem s_d_getsN {j : Nat} {host : String} (C : s_Cx S G TW p s m args meth c r) (hj : j < s_ns S) (hw : va_Nw (.fieldLinkNest (s_y r).cls idx (s_sn S j).1 (s_sn S j).2.1 (s_sn S j).2.2 host) s) (hdg : decode (s_b r) pc = .ok (.getstatic idx, n)) (hn : n = 3) (hs : s_x (.instanceof j) pc n L st h = some q) (k : s_W S G p l e R s m args below meth c Q N0 M0 q.1 q.2.1 q.2.2.1 q.2.2.2) : s_W S G p l e R s m args below meth c Q N0 M0 pc L st h := by
  obtain ⟨hx, hb, hml, hown, hts, hI, hini⟩ := C
  subst hn
  cases hs
  intro hlen H locs ls hW hS hL
  exact va_getsN hx hb (hI.2.2.1 j hj).2 hS hown (va_Nw.use rfl hw) (fun _ h9 => h9) hdg (k hlen H locs ls hW hS hL)
theorem s_d_alen (C : s_Cx S G TW p s m args meth c r) (hdg : decode (s_b r) pc = .ok (.arraylength, n)) (hn : n = 1) (hs : s_x .arraylength pc n L st h = some q) (k : s_W S G p l e R s m args below meth c Q N0 M0 q.1 q.2.1 q.2.2.1 q.2.2.2) : s_W S G p l e R s m args below meth c Q N0 M0 pc L st h := by
  obtain ⟨hx, hb, hml, hown, hts, hI, hini⟩ := C
  subst hn
  dsimp only [s_x] at hs
  split at hs
  next a r0 =>
    split at hs
    next t z heq =>
      cases hs
      intro hlen H locs ls hW hS hL
      obtain ⟨h1, h2, h3⟩ := s_Wd_len hW heq
      have kk := k hlen H locs ls hW hS hL
      rcases Nat.lt_or_ge a 4 with h4 | h4
      · obtain ⟨h5, h6⟩ := hW.2.2.1 a h4
        have e1 := h5.symm.trans h1
        cases e1
        obtain ⟨⟨scr, g1, g2, g3, g4, g5, g6, g7⟩, hlt⟩ := hI.2.1 a h4
        exact W.alen (n := Int32.ofNat (s_Lc G a)) hx hb (by rw [hS.2.1 _ (Array.getElem?_eq_some_iff.mp g1).1 g7]; exact g1) g2 g5 rfl rfl hdg kk
      · have h5 := s_ws_at S G h h4 h2
        match t, h1 with
        | 0, h1 =>
          rw [s_cell_i h1] at h5
          exact va_alen hx hb hI.1 hW.2.1 (a - 4) 0 h5 (s_tys_0 S G) rfl hdg kk
        | t + 1, h1 =>
          rw [s_cell_r h1] at h5
          obtain ⟨j, hj⟩ := s_tys_r G (hW.2.2.2 a t z h1)
          exact va_alen hx hb hI.1 hW.2.1 (a - 4) j h5 hj rfl hdg kk
    · cases hs
  · cases hs
theorem s_d_iald (C : s_Cx S G TW p s m args meth c r) (hdg : decode (s_b r) pc = .ok (.iaload, n)) (hn : n = 1) (hs : s_x .iaload pc n L st h = some q) (k : s_W S G p l e R s m args below meth c Q N0 M0 q.1 q.2.1 q.2.2.1 q.2.2.2) : s_W S G p l e R s m args below meth c Q N0 M0 pc L st h := by
  obtain ⟨hx, hb, hml, hown, hts, hI, hini⟩ := C
  subst hn
  dsimp only [s_x] at hs
  split at hs
  next i a r0 =>
    split at hs
    next z heq =>
      split at hs
      · cases hs
      next ho =>
        cases hs
        intro hlen H locs ls hW hS hL
        obtain ⟨h1, h2, h3⟩ := s_Wd_len hW heq
        have kk := k hlen H locs ls hW hS hL
        rcases Nat.lt_or_ge a 4 with h4 | h4
        · obtain ⟨h5, h6⟩ := hW.2.2.1 a h4
          have e1 := h5.symm.trans h1
          cases e1
          obtain ⟨⟨scr, g1, g2, g3, g4, g5, g6, g7⟩, hlt⟩ := hI.2.1 a h4
          dsimp only at kk
          rw [h6] at kk
          have hin := s_vp_in ho
          have hlt2 : i.toNatClampNeg < s_Lc G a := Nat.not_le.mp fun q => hin (Or.inr q)
          exact W.iald (v := .int (s_xs G a i.toNatClampNeg)) hx hb (by rw [hS.2.1 _ (Array.getElem?_eq_some_iff.mp g1).1 g7]; exact g1) g2 g3 (fun z => hin (z.imp id (fun y => Nat.le_trans g4 y))) (g6 _ hlt2) rfl rfl hdg kk
        · have h5 := s_ws_at S G h h4 h2
          rw [s_cell_i h1] at h5
          exact va_iald hx hb hI.1 hW.2.1 (a - 4) 0 h5 (s_tys_0 S G) (s_vp_in ho) hdg kk
    · cases hs
  · cases hs
theorem s_d_iast (C : s_Cx S G TW p s m args meth c r) (hdg : decode (s_b r) pc = .ok (.iastore, n)) (hn : n = 1) (hs : s_x .iastore pc n L st h = some q) (k : s_W S G p l e R s m args below meth c Q N0 M0 q.1 q.2.1 q.2.2.1 q.2.2.2) : s_W S G p l e R s m args below meth c Q N0 M0 pc L st h := by
  obtain ⟨hx, hb, hml, hown, hts, hI, hini⟩ := C
  subst hn
  dsimp only [s_x] at hs
  split at hs
  next x i a r0 =>
    split at hs
    next z heq =>
      split at hs
      · cases hs
      next ho =>
        cases hs
        intro hlen H locs ls hW hS hL
        obtain ⟨h1, h2, h3⟩ := s_Wd_len hW heq
        have h4 : 4 ≤ a := Nat.not_lt.mp fun y => ho (Or.inr y)
        have h5 := s_ws_at S G h h4 h2
        rw [s_cell_i h1] at h5
        refine va_iast hx hb hI.1 hW.2.1 (s_ws_D hI h) hS (a - 4) 0 h5 (s_tys_0 S G) (s_vp_in fun y => ho (Or.inl y)) hdg (fun H1 locs1 hP1 _ hS1 => ?_)
        exact k hlen H1 locs1 ls (s_Wd_put (h2 := (s_upd h.1 a i.toNatClampNeg x, h.2)) hW h4 h2 rfl (fun j hj => ⟨if_neg hj, rfl⟩) (by rw [s_cell_i (by exact h1)]; show _ = Sum.inl (s_cA G 1, z, Sum.inl (s_upd h.1 a i.toNatClampNeg x a)); unfold s_upd; rw [if_pos rfl]) hP1) hS1 hL
    · cases hs
  · cases hs
theorem s_d_aald (C : s_Cx S G TW p s m args meth c r) (hdg : decode (s_b r) pc = .ok (.aaload, n)) (hn : n = 1) (hs : s_x .aaload pc n L st h = some q) (k : s_W S G p l e R s m args below meth c Q N0 M0 q.1 q.2.1 q.2.2.1 q.2.2.2) : s_W S G p l e R s m args below meth c Q N0 M0 pc L st h := by
  obtain ⟨hx, hb, hml, hown, hts, hI, hini⟩ := C
  subst hn
  dsimp only [s_x] at hs
  split at hs
  next i a r0 =>
    split at hs
    next t z heq =>
      split at hs
      · cases hs
      next ho =>
        intro hlen H locs ls hW hS hL
        obtain ⟨h1, h2, h3⟩ := s_Wd_len hW heq
        have h4 : 4 ≤ a := Nat.not_lt.mp fun y => ho (Or.inr y)
        have h5 := s_ws_at S G h h4 h2
        rw [s_cell_r h1] at h5
        obtain ⟨j, hj⟩ := s_tys_r G (hW.2.2.2 a t z h1)
        refine va_aldq hx hb hI.1 hW.2.1 (a - 4) j h5 hj (s_vp_in fun y => ho (Or.inl y)) hdg ?_
        split at hs
        next b hb2 =>
          cases hs
          rw [hb2]
          exact k hlen H locs ls hW hS hL
        next hb2 =>
          cases hs
          rw [hb2]
          exact k hlen H locs ls hW hS hL
    · cases hs
  · cases hs
theorem s_d_aast (C : s_Cx S G TW p s m args meth c r) (hrk : ∀ t ∈ s_rk S, 0 < s_N S t) (hdg : decode (s_b r) pc = .ok (.aastore, n)) (hn : n = 1) (hs : s_x .aastore pc n L st h = some q) (k : s_W S G p l e R s m args below meth c Q N0 M0 q.1 q.2.1 q.2.2.1 q.2.2.2) : s_W S G p l e R s m args below meth c Q N0 M0 pc L st h := by
  obtain ⟨hx, hb, hml, hown, hts, hI, hini⟩ := C
  subst hn
  dsimp only [s_x] at hs
  split at hs
  next b i a r0 =>
    split at hs
    next t z cc heq heq2 =>
      split at hs
      · cases hs
      next ho =>
        cases hs
        intro hlen H locs ls hW hS hL
        obtain ⟨h1, h2, h3⟩ := s_Wd_len hW heq
        obtain ⟨g1, g2, g3⟩ := s_Wd_len hW heq2
        have h4 : 4 ≤ a := Nat.not_lt.mp fun y => ho (Or.inr (Or.inl y))
        have g4 : 4 ≤ b := Nat.not_lt.mp fun y => ho (Or.inr (Or.inr (Or.inl y)))
        have hct : cc = t := Classical.byContradiction fun y => ho (Or.inr (Or.inr (Or.inr y)))
        subst hct
        have h5 := s_ws_at S G h h4 h2
        rw [s_cell_r h1] at h5
        have g5 := s_ws_at S G h g4 g2
        rw [s_cell_o g1] at g5
        have hmem := hW.2.2.2 a cc z h1
        obtain ⟨j, hj⟩ := s_tys_r G hmem
        obtain ⟨qc, e1, e2, e3, e4⟩ := s_cl_of (hrk _ hmem)
        rw [e4] at hj
        refine va_astq hx hb hI.1 hW.2.1 (s_ws_D hI h) hS (a - 4) j (b - 4) cc h5 hj g5 e1 (s_vp_in fun y => ho (Or.inl y)) hdg (fun H1 locs1 hP1 _ hS1 => ?_)
        refine k hlen H1 locs1 ls (s_Wd_put (h2 := (h.1, s_updR h.2.1 a i.toNatClampNeg (some b), h.2.2)) hW h4 h2 rfl (fun j hj => ⟨rfl, if_neg hj⟩) ?_ hP1) hS1 hL
        rw [s_cell_r (by exact h1)]
        have : (fun x => Option.map (s_ad G) (s_updR h.2.1 a i.toNatClampNeg (some b) a x)) = va_up (fun x => Option.map (s_ad G) (h.2.1 a x)) i.toNatClampNeg (some (s_ad G b)) := by
          funext x
          unfold s_updR va_up
          rw [if_pos rfl]
          by_cases y : x = i.toNatClampNeg
          · rw [if_pos y, if_pos y]; rfl
          · rw [if_neg y, if_neg y]
        show _ = Sum.inl (s_cA G (cc + 2), z, Sum.inr (Sum.inr (Sum.inr (Sum.inr (fun x => Option.map (s_ad G) (s_updR h.2.1 a i.toNatClampNeg (some b) a x))))))
        rw [this]
    · cases hs
  · cases hs
end HPS
end
section
section MKS
variable {p : Program} {l : Launch} {e : Env} {R : Room} {s : State} {m : MethodId} {args : Array Value} {below : List Frame} {meth : Method} {c : Code} {Q : State → Prop}
variable {S : s_SG} {G : s_DG} {TW : List Jvm.Cond} {r : sM} {N0 M0 pc n idx : Nat} {L st : List Value} {h : sHp} {q : sC}
theorem s_cell_new {t k i : Nat} (hi : i < h.2.2.length) : s_cell S G (s_new h t k) i = s_cell S G h i := by
  have e1 : (s_new h t k).2.2[i]? = h.2.2[i]? := by
    show (h.2.2 ++ [(t, k)])[i]? = _
    rw [List.getElem?_append_left hi]
  have e2 : (s_new h t k).1 i = h.1 i := if_neg (by omega)
  have e3 : (s_new h t k).2.1 i = h.2.1 i := if_neg (by omega)
  have e4 : ∀ cc, s_fv S G (s_new h t k) i cc = s_fv S G h i cc := fun cc => by funext x; unfold s_fv; rw [e2, e3]
  unfold s_cell
  rw [e1, e2, e3]
  simp only [e4]
theorem s_ws_new {t k : Nat} (h4 : 4 ≤ h.2.2.length) : s_ws S G (s_new h t k) = s_ws S G h ++ [(s_ad G h.2.2.length, s_cell S G (s_new h t k) h.2.2.length)] := by
  have hl : (s_new h t k).2.2.length = h.2.2.length + 1 := by show (h.2.2 ++ [(t, k)]).length = _; simp
  unfold s_ws
  rw [hl, show h.2.2.length + 1 - 4 = (h.2.2.length - 4) + 1 by omega, List.range_succ, List.map_append]
  congr 1
  · apply List.map_congr_left
    intro j hj
    rw [s_cell_new (by have := List.mem_range.mp hj; omega)]
  · rw [List.map_cons, List.map_nil, show h.2.2.length - 4 + 4 = h.2.2.length by omega]
theorem s_new_at {t k : Nat} : (s_new h t k).2.2[h.2.2.length]? = some (t, k) := by
  show (h.2.2 ++ [(t, k)])[h.2.2.length]? = _
  simp
theorem s_Wd_new {H H1 : Heap} {t k : Nat} (hW : s_Wd S G h H) (hrk : ∀ x, t = x + 2 → x ∈ s_rk S) (hP : va_P (s_D G) (s_cl S) (s_ws S G h ++ [(s_ad G h.2.2.length, s_cell S G (s_new h t k) h.2.2.length)]) H1) : s_Wd S G (s_new h t k) H1 := by
  have hl : (s_new h t k).2.2.length = h.2.2.length + 1 := by show (h.2.2 ++ [(t, k)]).length = _; simp
  have h4 := hW.1
  refine ⟨by rw [hl]; omega, by rw [s_ws_new h4]; exact hP, fun i hi => ?_, fun i x y hi => ?_⟩
  · have e1 : (s_new h t k).2.2[i]? = h.2.2[i]? := by
      show (h.2.2 ++ [(t, k)])[i]? = _
      rw [List.getElem?_append_left (by omega)]
    have e2 : (s_new h t k).1 i = h.1 i := if_neg (by omega)
    rw [e1, e2]
    exact hW.2.2.1 i hi
  · rcases Nat.lt_or_ge i h.2.2.length with z | z
    · have e1 : (s_new h t k).2.2[i]? = h.2.2[i]? := by
        show (h.2.2 ++ [(t, k)])[i]? = _
        rw [List.getElem?_append_left z]
      rw [e1] at hi
      exact hW.2.2.2 i x y hi
    · have hlt := (List.getElem?_eq_some_iff.mp hi).1
      rw [hl] at hlt
      have : i = h.2.2.length := by omega
      subst this
      rw [s_new_at] at hi
      cases hi
      exact hrk x rfl
/-- a new cell comes just behind the others -/
theorem s_at_end {T : State} {H1 : Heap} {locs : List Loc} {k1 n1 a : Nat} {ev : va_E} (hI : s_In S G s) (hsz : s.heap.size = s_B G + (N0 - 4)) (hN : 4 ≤ N0) (hN2 : N0 ≤ h.2.2.length) (hk1 : k1 = h.2.2.length - N0 + 1) (hP : va_P (s_D G) (s_cl S) (s_ws S G h ++ [(a, ev)]) H1) (hD : va_D (s_A G) (s_ws S G h ++ [(a, ev)])) (hT : T.heap = H1) (X : Stand p l e R s m args below meth c T locs k1 n1) : a = s_ad G h.2.2.length := by
  have hlen := s_ws_len S G h
  have hlast : (s_ws S G h ++ [(a, ev)])[h.2.2.length - 4]? = some (a, ev) := by
    rw [← hlen]
    simp
  have h1 := (hP _ _ hlast).lt
  have h2 := X.heapSize
  rw [hT] at h2
  have h3 : s_B G ≤ a := hD.2 _ _ hlast
  rw [s_ad_ge hI (by omega)]
  rcases Nat.lt_or_ge a (s_B G + (h.2.2.length - 4)) with z | z
  · exfalso
    have hj : (s_ws S G h ++ [(a, ev)])[a - s_B G]? = some (s_ad G (a - s_B G + 4), s_cell S G h (a - s_B G + 4)) := by
      rw [List.getElem?_append_left (by omega), s_ws_get, if_pos (by omega)]
    have := hD.1 _ _ _ _ hj hlast (by show s_ad G _ = a; rw [hI.2.2.2.1]; omega)
    omega
  · dsimp only at h1 h3
    omega
theorem s_d_new {ci : Nat} (C : s_Cx S G TW p s m args meth c r) (SK : s_SOK S TW) (hdf : ∀ k, k < s_N S ci → defaultValue (s_ty S ci k) = if s_kd (s_ty S ci k) = 2 then .null else .int 0) (hci : 0 < s_N S ci) (hsz : s.heap.size = s_B G + (N0 - 4)) (hN : 4 ≤ N0) (hN2 : N0 ≤ h.2.2.length) (hM2 : M0 ≤ s_sz S h.2.2) (hroom : q.2.2.2.2.2.length - N0 ≤ R.cells ∧ s_sz S q.2.2.2.2.2 - M0 ≤ R.slots) (hw1 : (Jvm.Cond.classLink (s_y r).cls idx (s_cn S ci)).before args s = true) (hw2 : (Jvm.Cond.instantiable (s_cn S ci) (s_N S ci)).before args s = true) (hw3 : (Jvm.Cond.initialized (s_cn S ci)).before args s = true) (hdg : decode (s_b r) pc = .ok (.new idx, n)) (hn : n = 3) (hs : s_x (.new ci) pc n L st h = some q) (k : s_W S G p l e R s m args below meth c Q N0 M0 q.1 q.2.1 q.2.2.1 q.2.2.2) : s_W S G p l e R s m args below meth c Q N0 M0 pc L st h := by
  obtain ⟨hx, hb, hml, hown, hts, hI, hini⟩ := C
  subst hn
  cases hs
  intro hlen H locs ls hW hS hL
  obtain ⟨qc, e1, e2, e3, e4⟩ := s_cl_of hci
  have hl : (s_new h 0 ci).2.2.length = h.2.2.length + 1 := by show (h.2.2 ++ [(0, ci)]).length = _; simp
  have hz : s_sz S (s_new h 0 ci).2.2 = s_sz S h.2.2 + s_N S ci := by
    show s_sz S (h.2.2 ++ [(0, ci)]) = _
    rw [s_sz_app]; rfl
  dsimp only at hroom k
  rw [hl, hz] at hroom
  rw [e4] at hw1 hw2 hw3
  rw [e2] at hw2
  have h4 := hW.1
  have hcell : s_cell S G (s_new h 0 ci) h.2.2.length = .inr (ci, (List.range (s_N S ci)).map (s_fv S G (s_new h 0 ci) h.2.2.length ci)) := s_cell_o s_new_at
  refine va_new (ci := ci) (fs := (List.range (s_N S ci)).map (s_fv S G (s_new h 0 ci) h.2.2.length ci)) (C := qc.1) (T := qc.2.1) (N := qc.2.2) hx hb hts (SK _ _ e1).1 (s_ty S ci) (SK _ _ e1).2.1 hown hw1 hw2 hw3 hI.1 hW.2.1 (s_ws_D hI h) hS (fun z hz => (by show s_B G ≤ z; omega)) e1 (fun j hj => ?_) (by omega) (by rw [← e2]; omega) hdg (fun a H1 hP1 hD1 hS1 => ?_)
  · rw [← e2] at hj
    rw [hdf j hj]
    unfold vp_V
    rw [List.getD_eq_getElem?_getD, s_fs_at hj]
    show _ = s_fv S G (s_new h 0 ci) h.2.2.length ci j
    unfold s_fv
    have z1 : (s_new h 0 ci).1 h.2.2.length j = 0 := by show (if _ then _ else _ : Nat → Int32) j = 0; rw [if_pos rfl]
    have z2 : (s_new h 0 ci).2.1 h.2.2.length j = none := by show (if _ then _ else _ : Nat → Option Nat) j = none; rw [if_pos rfl]
    rw [z1, z2]
    rfl
  · intro T hT X
    have ha := s_at_end hI hsz hN hN2 rfl hP1 hD1 hT X
    subst ha
    rw [← hcell] at hP1
    have hW1 := s_Wd_new hW (fun x hx => (by cases hx)) hP1
    have kk := k hlen H1 locs ls hW1 hS1 hL
    rw [hl, hz, e2, show h.2.2.length + 1 - N0 = h.2.2.length - N0 + 1 by omega, show s_sz S h.2.2 + qc.2.2 - M0 = s_sz S h.2.2 - M0 + qc.2.2 by omega] at kk
    exact kk T hT X
theorem s_d_newa (C : s_Cx S G TW p s m args meth c r) (hsz : s.heap.size = s_B G + (N0 - 4)) (hN : 4 ≤ N0) (hN2 : N0 ≤ h.2.2.length) (hM2 : M0 ≤ s_sz S h.2.2) (hroom : q.2.2.2.2.2.length - N0 ≤ R.cells ∧ s_sz S q.2.2.2.2.2 - M0 ≤ R.slots) (hw1 : (Jvm.Cond.arrayClass .int).before args s = true) (hdg : decode (s_b r) pc = .ok (.newarray .int, n)) (hn : n = 2) (hs : s_x (.newarray .int) pc n L st h = some q) (k : s_W S G p l e R s m args below meth c Q N0 M0 q.1 q.2.1 q.2.2.1 q.2.2.2) : s_W S G p l e R s m args below meth c Q N0 M0 pc L st h := by
  obtain ⟨hx, hb, hml, hown, hts, hI, hini⟩ := C
  subst hn
  dsimp only [s_x] at hs
  split at hs
  next z r0 =>
    split at hs
    · cases hs
    next hz0 =>
      cases hs
      intro hlen H locs ls hW hS hL
      have hl : (s_new h 1 z.toNatClampNeg).2.2.length = h.2.2.length + 1 := by show (h.2.2 ++ [_]).length = _; simp
      have hz : s_sz S (s_new h 1 z.toNatClampNeg).2.2 = s_sz S h.2.2 + z.toNatClampNeg := by
        show s_sz S (h.2.2 ++ [(1, _)]) = _
        rw [s_sz_app]; rfl
      dsimp only at hroom k
      rw [hl, hz] at hroom
      have h4 := hW.1
      have hcell : s_cell S G (s_new h 1 z.toNatClampNeg) h.2.2.length = .inl (s_cA G 1, z.toNatClampNeg, .inl (fun _ => 0)) := by
        rw [s_cell_i s_new_at]
        have z1 : (s_new h 1 z.toNatClampNeg).1 h.2.2.length = fun _ => 0 := if_pos rfl
        rw [z1]
      have hle : z.toNatClampNeg ≤ 65536 := by
        have h9 : z.toInt ≤ 65536 := Int.not_lt.mp (fun y => hz0 (Or.inr (Int32.lt_iff_toInt_lt.mpr y)))
        show z.toInt.toNat ≤ 65536
        omega
      refine va_newa (atype := .int) (ty := .int) (a0 := (z.toNatClampNeg, .inl (fun _ => 0))) hx hb hw1 rfl hI.1 hW.2.1 (s_ws_D hI h) hS (fun y hy => (by show s_B G ≤ y; omega)) (fun cA => rfl) (fun y => hz0 (Or.inl y)) rfl (by show _ * 4 ≤ _; omega) (by omega) (by omega) hdg (fun a cA H1 hK1 hP1 hD1 hS1 => ?_)
      intro T hT X
      have ha := s_at_end hI hsz hN hN2 rfl hP1 hD1 hT X
      subst ha
      have hcA : cA = s_cA G 1 := by
        have g1 := (hK1.2 (s_tys S G).length (cA, .int) (by simp)).2
        have g2 := (hI.1.2 0 (s_cA G 1, .int) rfl).2
        exact Option.some.inj (g1.symm.trans g2)
      subst hcA
      rw [← hcell] at hP1
      have hW1 := s_Wd_new hW (fun x hx => (by cases hx)) hP1
      have kk := k hlen H1 locs ls hW1 hS1 hL
      rw [hl, hz, show h.2.2.length + 1 - N0 = h.2.2.length - N0 + 1 by omega, show s_sz S h.2.2 + z.toNatClampNeg - M0 = s_sz S h.2.2 - M0 + z.toNatClampNeg by omega] at kk
      exact kk T hT X
  · cases hs
theorem s_d_newq {t : Nat} (C : s_Cx S G TW p s m args meth c r) (ht : t ∈ s_rk S) (hsz : s.heap.size = s_B G + (N0 - 4)) (hN : 4 ≤ N0) (hN2 : N0 ≤ h.2.2.length) (hM2 : M0 ≤ s_sz S h.2.2) (hroom : q.2.2.2.2.2.length - N0 ≤ R.cells ∧ s_sz S q.2.2.2.2.2 - M0 ≤ R.slots) (hw1 : (Jvm.Cond.classLink (s_y r).cls idx (s_cn S t)).before args s = true) (hw2 : va_Nw (.arrayOver (.object (s_cn S t))) s) (hdg : decode (s_b r) pc = .ok (.anewarray idx, n)) (hn : n = 3) (hs : s_x (.anewarray t) pc n L st h = some q) (k : s_W S G p l e R s m args below meth c Q N0 M0 q.1 q.2.1 q.2.2.1 q.2.2.2) : s_W S G p l e R s m args below meth c Q N0 M0 pc L st h := by
  obtain ⟨hx, hb, hml, hown, hts, hI, hini⟩ := C
  subst hn
  dsimp only [s_x] at hs
  split at hs
  next z r0 =>
    split at hs
    · cases hs
    next hz0 =>
      cases hs
      intro hlen H locs ls hW hS hL
      have hl : (s_new h (t + 2) z.toNatClampNeg).2.2.length = h.2.2.length + 1 := by show (h.2.2 ++ [_]).length = _; simp
      have hz : s_sz S (s_new h (t + 2) z.toNatClampNeg).2.2 = s_sz S h.2.2 + z.toNatClampNeg := by
        show s_sz S (h.2.2 ++ [(t + 2, _)]) = _
        rw [s_sz_app]; rfl
      dsimp only at hroom k
      rw [hl, hz] at hroom
      have h4 := hW.1
      have hcell : s_cell S G (s_new h (t + 2) z.toNatClampNeg) h.2.2.length = .inl (s_cA G (t + 2), z.toNatClampNeg, .inr (.inr (.inr (.inr (fun _ => none))))) := by
        rw [s_cell_r s_new_at]
        have z1 : (s_new h (t + 2) z.toNatClampNeg).2.1 h.2.2.length = fun _ => none := if_pos rfl
        rw [z1]
        rfl
      have hle : z.toNatClampNeg ≤ 65536 := by
        have h9 : z.toInt ≤ 65536 := Int.not_lt.mp (fun y => hz0 (Or.inr (Int32.lt_iff_toInt_lt.mpr y)))
        show z.toInt.toNat ≤ 65536
        omega
      refine va_newq hx hb hown hw1 hw2 hI.1 hW.2.1 (s_ws_D hI h) hS (fun y hy => (by show s_B G ≤ y; omega)) (fun y => hz0 (Or.inl y)) rfl (by omega) (by omega) (by omega) hdg (fun a cA H1 hK1 hP1 hD1 hS1 => ?_)
      intro T hT X
      have ha := s_at_end hI hsz hN hN2 rfl hP1 hD1 hT X
      subst ha
      have hcA : cA = s_cA G (t + 2) := by
        obtain ⟨_, _, _, _, _, g1⟩ := (hK1.2 (s_tys S G).length (cA, .object (s_cn S t)) (by simp)).2
        obtain ⟨j, hj⟩ := s_tys_r G ht
        obtain ⟨_, _, _, _, _, g2⟩ := (hI.1.2 j _ hj).2
        exact Option.some.inj (g1.symm.trans g2)
      subst hcA
      rw [← hcell] at hP1
      have hW1 := s_Wd_new hW (fun x hx => (by cases hx; exact ht)) hP1
      have kk := k hlen H1 locs ls hW1 hS1 hL
      rw [hl, hz, show h.2.2.length + 1 - N0 = h.2.2.length - N0 + 1 by omega, show s_sz S h.2.2 + z.toNatClampNeg - M0 = s_sz S h.2.2 - M0 + z.toNatClampNeg by omega] at kk
      exact kk T hT X
  · cases hs
theorem s_d_obj (C : s_Cx S G TW p s m args meth c r) (hRf : 1 ≤ R.frames) (hRl : 26 ≤ R.locals) (hw1 : (Jvm.Cond.methodLink (s_y r).cls idx Lib.objectInit).before args s = true) (hw2 : (Jvm.Cond.instanceMethod Lib.objectInit).before args s = true) (hw3 : (Jvm.Cond.code Lib.objectInit ⟨#[0xb1]⟩ 1 none).before args s = true) (hdg : decode (s_b r) pc = .ok (.invokespecial idx, n)) (hn : n = 3) (hs : s_x (.monitorenter) pc n L st h = some q) (k : s_W S G p l e R s m args below meth c Q N0 M0 q.1 q.2.1 q.2.2.1 q.2.2.2) : s_W S G p l e R s m args below meth c Q N0 M0 pc L st h := by
  obtain ⟨hx, hb, hml, hown, hts, hI, hini⟩ := C
  subst hn
  dsimp only [s_x] at hs
  split at hs
  next a r0 =>
    split at hs
    · cases hs
    next hc =>
      cases hs
      intro hlen H locs ls hW hS hL
      have h1 := s_cat_sum G r0
      refine W.objInit (g := F0 m pc ls (.ref (s_ad G a) :: r0.map (s_vc G))) hx hb hown hw1 hw2 hw3 rfl (by show ls.size = _; rw [hL.1, hlen]) rfl hdg hRf (by show 2 * 0 + _ + 12 ≤ _; omega) ?_
      exact W.eq rfl (k hlen H locs ls hW hS hL)
  · cases hs
theorem s_d_d2r (C : s_Cx S G TW p s m args meth c r) (hRf : 1 ≤ R.frames) (hRl : 26 ≤ R.locals) (hw1 : (Jvm.Cond.methodLink (s_y r).cls idx ⟨"java/lang/Double", "doubleToRawLongBits", "(D)J"⟩).before args s = true) (hw2 : (Jvm.Cond.native ⟨"java/lang/Double", "doubleToRawLongBits", "(D)J"⟩).before args s = true) (hw3 : (Jvm.Cond.static ⟨"java/lang/Double", "doubleToRawLongBits", "(D)J"⟩).before args s = true) (hw4 : (Jvm.Cond.initialized "java/lang/Double").before args s = true) (hdg : decode (s_b r) pc = .ok (.invokestatic idx, n)) (hn : n = 3) (hs : s_x (.nop) pc n L st h = some q) (k : s_W S G p l e R s m args below meth c Q N0 M0 q.1 q.2.1 q.2.2.1 q.2.2.2) : s_W S G p l e R s m args below meth c Q N0 M0 pc L st h := by
  obtain ⟨hx, hb, hml, hown, hts, hI, hini⟩ := C
  subst hn
  dsimp only [s_x] at hs
  split at hs
  next a r0 =>
    split at hs
    · cases hs
    next hc =>
      cases hs
      intro hlen H locs ls hW hS hL
      have h1 := s_cat_sum G r0
      exact vn_d2l hx hb (by rw [hL.1, hlen]) hown hw1 hw2 hw3 hw4 hRf (by omega) hdg (k hlen H locs ls hW hS hL)
  · cases hs
theorem s_d_f2r (C : s_Cx S G TW p s m args meth c r) (hRf : 1 ≤ R.frames) (hRl : 26 ≤ R.locals) (hw1 : (Jvm.Cond.methodLink (s_y r).cls idx ⟨"java/lang/Float", "floatToRawIntBits", "(F)I"⟩).before args s = true) (hw2 : (Jvm.Cond.native ⟨"java/lang/Float", "floatToRawIntBits", "(F)I"⟩).before args s = true) (hw3 : (Jvm.Cond.static ⟨"java/lang/Float", "floatToRawIntBits", "(F)I"⟩).before args s = true) (hw4 : (Jvm.Cond.initialized "java/lang/Float").before args s = true) (hdg : decode (s_b r) pc = .ok (.invokestatic idx, n)) (hn : n = 3) (hs : s_x (.swap) pc n L st h = some q) (k : s_W S G p l e R s m args below meth c Q N0 M0 q.1 q.2.1 q.2.2.1 q.2.2.2) : s_W S G p l e R s m args below meth c Q N0 M0 pc L st h := by
  obtain ⟨hx, hb, hml, hown, hts, hI, hini⟩ := C
  subst hn
  dsimp only [s_x] at hs
  split at hs
  next a r0 =>
    split at hs
    · cases hs
    next hc =>
      cases hs
      intro hlen H locs ls hW hS hL
      have h1 := s_cat_sum G r0
      exact vn_f2i hx hb (by rw [hL.1, hlen]) hown hw1 hw2 hw3 hw4 hRf (by omega) hdg (k hlen H locs ls hW hS hL)
  · cases hs
theorem s_d_acpy (C : s_Cx S G TW p s m args meth c r) (hRf : 1 ≤ R.frames) (hRl : 26 ≤ R.locals) (hw1 : (Jvm.Cond.methodLink (s_y r).cls idx arraycopyName).before args s = true) (hw2 : (Jvm.Cond.native arraycopyName).before args s = true) (hw3 : (Jvm.Cond.static arraycopyName).before args s = true) (hw4 : (Jvm.Cond.initialized "java/lang/System").before args s = true) (hdg : decode (s_b r) pc = .ok (.invokestatic idx, n)) (hn : n = 3) (hs : s_x (.monitorexit) pc n L st h = some q) (k : s_W S G p l e R s m args below meth c Q N0 M0 q.1 q.2.1 q.2.2.1 q.2.2.2) : s_W S G p l e R s m args below meth c Q N0 M0 pc L st h := by
  obtain ⟨hx, hb, hml, hown, hts, hI, hini⟩ := C
  subst hn
  dsimp only [s_x] at hs
  split at hs
  next kn dp b sp a r0 =>
    split at hs
    next na nb heq heq2 =>
      split at hs
      · cases hs
      next hc =>
        cases hs
        intro hlen H locs ls hW hS hL
        simp only [not_or, Nat.not_lt] at hc
        obtain ⟨c1, c2, c3, c4, c5, c6, c7, c8⟩ := hc
        obtain ⟨h1, h2, -⟩ := s_Wd_len hW heq
        obtain ⟨g1, g2, -⟩ := s_Wd_len hW heq2
        have h5 := s_ws_at S G h c7 h2
        rw [s_cell_i h1] at h5
        have g5 := s_ws_at S G h c8 g2
        rw [s_cell_i g1] at g5
        have hcat := s_cat_sum G r0
        have hnf : nativeFrameWords "java/lang/System" "arraycopy" 5 = 7 := by decide +kernel
        refine va_copyi (ty := .int) hx hb (by rw [hL.1, hlen]) hown hw1 hw2 hw3 hw4 hI.1 hW.2.1 (s_ws_D hI h) hS (a - 4) (b - 4) 0 0 h5 g5 (s_tys_0 S G) (s_tys_0 S G) rfl c2 c3 c4 c5 c6 (fun i hi => rfl) hRf (by omega) hdg (fun H1 locs1 hP1 _ hS1 => ?_)
        refine k hlen H1 locs1 ls (s_Wd_put (h2 := (fun i => if i = b then va_cpy (h.1 a) (h.1 b) sp.toNatClampNeg dp.toNatClampNeg kn.toNatClampNeg else h.1 i, h.2)) hW c8 g2 rfl (fun j hj => ⟨if_neg hj, rfl⟩) ?_ hP1) hS1 hL
        rw [s_cell_i (by exact g1)]
        show _ = Sum.inl (s_cA G 1, nb, Sum.inl (if b = b then _ else _))
        rw [if_pos rfl]
    · cases hs
  · cases hs
theorem s_ldcwf {v : UInt32} {cc : ByteArray} {H : Heap} {locs : List Loc} {ls : Array Slot} {rest : List Value} {cells slots : Nat} (hexec : p.tables.exec = Jvm.exec) (hb : c.code = cc) {own : String} {index : Nat} (hown : s.vm.findClass own = some m.cls) (hconst : (Jvm.Cond.constantFloat own index v).before args s = true) (hdg : decode cc pc = .ok (.ldc_w index, 3)) (k : W p l e R s m args below meth c H locs cells slots Q (F0 m (pc + 3) ls (.float v :: rest))) : W p l e R s m args below meth c H locs cells slots Q (F0 m pc ls rest) := by
  intro T hT X
  obtain ⟨t, a, b⟩ := k T hT X
  refine ⟨t, ?_, b⟩
  obtain ⟨k0, cf, hk, hcf, hcp⟩ := Cond.constantFloat_spec hown hconst
  obtain ⟨k', hk', he⟩ := X.warmed.alike.2.2 _ _ hk
  subst hb
  jvm_step X.here [hexec, hdg, ldc_w.wp_float (s := T) (f := F0 m pc ls rest) X.here.top hk' (by rw [he]; exact hcf) hcp]
  exact a
theorem s_d_ldcwf {v z : Nat} (C : s_Cx S G TW p s m args meth c r) (hw : (Jvm.Cond.constantFloat (s_y r).cls idx (UInt32.ofNat v)).before args s = true) (hdg : decode (s_b r) pc = .ok (.ldc_w idx, n)) (hn : n = 3) (hs : s_x (.multianewarray v z) pc n L st h = some q) (k : s_W S G p l e R s m args below meth c Q N0 M0 q.1 q.2.1 q.2.2.1 q.2.2.2) : s_W S G p l e R s m args below meth c Q N0 M0 pc L st h := by
  obtain ⟨hx, hb, hml, hown, hts, hI, hini⟩ := C
  subst hn
  cases hs
  intro hlen H locs ls hW hS hL
  exact s_ldcwf hx hb hown hw hdg (k hlen H locs ls hW hS hL)
theorem s_d_mmax {z : Int} (C : s_Cx S G TW p s m args meth c r) (hRf : 1 ≤ R.frames) (hRl : 26 ≤ R.locals) (hroom : q.2.2.2.2.2.length - N0 ≤ R.cells ∧ s_sz S q.2.2.2.2.2 - M0 ≤ R.slots) (hw1 : (Jvm.Cond.methodLink (s_y r).cls idx Lib.Math.max.name).before args s = true) (hw2 : (Jvm.Cond.static Lib.Math.max.name).before args s = true) (hw3 : (Jvm.Cond.initialized "java/lang/Math").before args s = true) (hw4 : (Jvm.Cond.code Lib.Math.max.name Lib.Math.max.code 2 (some .int)).before args s = true) (hdg : decode (s_b r) pc = .ok (.invokestatic idx, n)) (hn : n = 3) (hs : s_x (.jsr z) pc n L st h = some q) (k : s_W S G p l e R s m args below meth c Q N0 M0 q.1 q.2.1 q.2.2.1 q.2.2.2) : s_W S G p l e R s m args below meth c Q N0 M0 pc L st h := by
  obtain ⟨hx, hb, hml, hown, hts, hI, hini⟩ := C
  subst hn
  dsimp only [s_x] at hs
  split at hs
  next y x r0 =>
    split at hs
    · cases hs
    next hc =>
      cases hs
      intro hlen H locs ls hW hS hL
      have h1 := s_cat_sum G r0
      exact va_mmax hx hb (by rw [hL.1, hlen]) hown hw1 hw2 hw3 hw4 hRf (by omega) hroom.1 hroom.2 hdg (k hlen H locs ls hW hS hL)
  · cases hs
theorem s_d_mmin {z : Int} (C : s_Cx S G TW p s m args meth c r) (hRf : 1 ≤ R.frames) (hRl : 26 ≤ R.locals) (hroom : q.2.2.2.2.2.length - N0 ≤ R.cells ∧ s_sz S q.2.2.2.2.2 - M0 ≤ R.slots) (hw1 : (Jvm.Cond.methodLink (s_y r).cls idx Lib.Math.min.name).before args s = true) (hw2 : (Jvm.Cond.static Lib.Math.min.name).before args s = true) (hw3 : (Jvm.Cond.initialized "java/lang/Math").before args s = true) (hw4 : (Jvm.Cond.code Lib.Math.min.name Lib.Math.min.code 2 (some .int)).before args s = true) (hdg : decode (s_b r) pc = .ok (.invokestatic idx, n)) (hn : n = 3) (hs : s_x (.jsr_w z) pc n L st h = some q) (k : s_W S G p l e R s m args below meth c Q N0 M0 q.1 q.2.1 q.2.2.1 q.2.2.2) : s_W S G p l e R s m args below meth c Q N0 M0 pc L st h := by
  obtain ⟨hx, hb, hml, hown, hts, hI, hini⟩ := C
  subst hn
  dsimp only [s_x] at hs
  split at hs
  next y x r0 =>
    split at hs
    · cases hs
    next hc =>
      cases hs
      intro hlen H locs ls hW hS hL
      have h1 := s_cat_sum G r0
      exact va_mmin hx hb (by rw [hL.1, hlen]) hown hw1 hw2 hw3 hw4 hRf (by omega) hroom.1 hroom.2 hdg (k hlen H locs ls hW hS hL)
  · cases hs
end MKS
end
section
/-! A ROW OF A METHOD'S CODE, CHECKED: its decoding, its words, its side conditions -/
abbrev sMT : Type := Nat → Option (sM × Option Nat)
def s_rel (pc idx : Nat) : Instr → Instr
  | .goto t => .goto (t - (pc : Int))
  | .ifCond c t => .ifCond c (t - (pc : Int))
  | .if_icmp c t => .if_icmp c (t - (pc : Int))
  | .ifnull t => .ifnull (t - (pc : Int))
  | .ifnonnull t => .ifnonnull (t - (pc : Int))
  | .tableswitch d lo hi o => .tableswitch (d - (pc : Int)) lo hi (o.map (fun t => t - (pc : Int)))
  | .lookupswitch d o => .lookupswitch (d - (pc : Int)) (o.map fun q => (q.1, q.2 - (pc : Int)))
  | .getfield _ => .getfield idx
  | .putfield _ => .putfield idx
  | .getstatic _ => .getstatic idx
  | .instanceof _ => .getstatic idx
  | .invokevirtual _ => .invokevirtual idx
  | .invokestatic _ => .invokestatic idx
  | .invokespecial _ => .invokespecial idx
  | .invokeinterface _ _ => .invokespecial idx
  | .monitorenter => .invokespecial idx
  | .monitorexit => .invokestatic idx
  | .nop => .invokestatic idx
  | .jsr _ => .invokestatic idx
  | .jsr_w _ => .invokestatic idx
  | .swap => .invokestatic idx
  | .new _ => .new idx
  | .anewarray _ => .anewarray idx
  | .ldc _ => .ldc idx
  | .ldc_w _ => .ldc_w idx
  | .ldc2_w _ => .ldc2_w idx
  | .ret _ => .ldc idx
  | .multianewarray _ _ => .ldc_w idx
  | .putstatic _ => .ldc2_w idx
  | i => i
/-- the length that an instruction has; 0: any -/
def s_ln : Instr → Nat
  | .bipush _ | .ldc _ | .ret _ | .iload _ | .lload _ | .istore _ | .lstore _ | .aload _ | .astore _ | .newarray _ => 2
  | .sipush _ | .ldc_w _ | .ldc2_w _ | .putstatic _ | .multianewarray _ _ | .iinc _ _ | .goto _ | .ifCond _ _ | .if_icmp _ _ | .ifnull _ | .ifnonnull _ | .getfield _ | .putfield _ | .getstatic _ | .instanceof _ => 3
  | .invokevirtual _ | .invokestatic _ | .invokespecial _ | .invokeinterface _ _ | .monitorenter | .monitorexit | .nop | .jsr _ | .jsr_w _ | .swap | .new _ | .anewarray _ => 3
  | .tableswitch _ _ _ _ | .lookupswitch _ _ => 0
  | _ => 1
def s_dl : MethodName := ⟨"java/lang/Double", "doubleToRawLongBits", "(D)J"⟩
def s_fi : MethodName := ⟨"java/lang/Float", "floatToRawIntBits", "(F)I"⟩
def s_wf (S : s_SG) (own : String) (idx ev : Nat) : Jvm.Cond := .fieldLink own idx (s_F S (ev / 1024) (ev % 1024 / 8)).1 (s_F S (ev / 1024) (ev % 1024 / 8)).2.1 (s_F S (ev / 1024) (ev % 1024 / 8)).2.2.1
def s_wc (MT : sMT) (k : Nat) (f : sM → List Jvm.Cond) : List Jvm.Cond := match MT k with
  | some q => f q.1
  | none => []
def s_wds (S : s_SG) (MT : sMT) (own : String) (idx : Nat) : Instr → List Jvm.Cond
  | .getfield ev => [s_wf S own idx ev]
  | .putfield ev => [s_wf S own idx ev]
  | .getstatic j => [.fieldLink own idx (s_sn S j).1 (s_sn S j).2.1 (s_sn S j).2.2]
  | .invokevirtual k => s_wc MT k fun r => [.methodLink own idx (s_y r), .instanceMethod (s_y r), .selects (s_y r).cls (s_y r) (s_y r), .initialized (s_y r).cls, .code (s_y r) (s_b r) (s_mL r) (s_rt r)]
  | .invokestatic k => s_wc MT k fun r => [.methodLink own idx (s_y r), .static (s_y r), .initialized (s_y r).cls, .code (s_y r) (s_b r) (s_mL r) (s_rt r)]
  | .invokespecial k => s_wc MT k fun r => [.methodLink own idx (s_y r), .instanceMethod (s_y r), .initialized (s_y r).cls, .code (s_y r) (s_b r) (s_mL r) (s_rt r)]
  | .invokeinterface k _ => s_wc MT k fun r => [.instanceMethod (s_y r), .initialized (s_y r).cls, .code (s_y r) (s_b r) (s_mL r) (s_rt r)]
  | .monitorenter => [.methodLink own idx Lib.objectInit, .instanceMethod Lib.objectInit, .code Lib.objectInit ⟨#[0xb1]⟩ 1 none]
  | .monitorexit => [.methodLink own idx arraycopyName, .native arraycopyName, .static arraycopyName, .initialized "java/lang/System"]
  | .jsr _ => [.methodLink own idx Lib.Math.max.name, .static Lib.Math.max.name, .initialized "java/lang/Math", .code Lib.Math.max.name Lib.Math.max.code 2 (some .int)]
  | .jsr_w _ => [.methodLink own idx Lib.Math.min.name, .static Lib.Math.min.name, .initialized "java/lang/Math", .code Lib.Math.min.name Lib.Math.min.code 2 (some .int)]
  | .nop => [.methodLink own idx s_dl, .native s_dl, .static s_dl, .initialized "java/lang/Double"]
  | .swap => [.methodLink own idx s_fi, .native s_fi, .static s_fi, .initialized "java/lang/Float"]
  | .new c => [.classLink own idx (s_cn S c), .instantiable (s_cn S c) (s_N S c), .initialized (s_cn S c)]
  | .newarray _ => [.arrayClass .int]
  | .anewarray t => [.classLink own idx (s_cn S t)]
  | .ldc v => [.constant own idx (Int32.ofNat v)]
  | .ldc_w v => [.constant own idx (Int32.ofNat v)]
  | .ldc2_w v => [.constantLong own idx (Int64.ofNat v)]
  | .ret v => [.constantFloat own idx (UInt32.ofNat v)]
  | .multianewarray v _ => [.constantFloat own idx (UInt32.ofNat v)]
  | .putstatic v => [.constantDouble own idx (UInt64.ofNat v)]
  | _ => []
def s_rfT : FieldType → Bool
  | .object _ => true
  | .array _ => true
  | _ => false
/-- may r call r2 (as: how many arguments beside the receiver) -/
def s_okc (r r2 : sM) (init : Bool) (n : Nat) : Bool := decide (s_fr r2 + 1 ≤ s_fr r) && decide (8 + (s_mL r2 + 11) + s_lo r2 ≤ s_lo r) && decide ((s_y r2).cls ≠ "java/lang/invoke/MethodHandle") && decide ((s_y r2).cls ≠ "java/lang/invoke/VarHandle") && decide ((parseMethodDescriptor (s_y r2).desc).map (fun d => d.parameters.length) = some n) && (!init || (decide ((s_y r2).name = "<init>") && decide (s_rt r2 = none)))
def s_sd (S : s_SG) (MT : sMT) (host : String) (r : sM) (idx : Nat) : Instr → Bool
  | .goto t | .ifCond _ t | .if_icmp _ t | .ifnull t | .ifnonnull t => decide (0 ≤ t)
  | .tableswitch d _ _ o => decide (0 ≤ d) && o.toList.all (fun t => decide (0 ≤ t))
  | .lookupswitch d o => decide (0 ≤ d) && o.toList.all (fun t => decide (0 ≤ t.2))
  | .getfield ev => decide (ev % 1024 / 8 < s_N S (ev / 1024)) && decide (ev % 8 = s_kd (s_ty S (ev / 1024) (ev % 1024 / 8)))
  | .putfield ev => decide (ev % 1024 / 8 < s_N S (ev / 1024)) && decide (ev % 8 = s_kd (s_ty S (ev / 1024) (ev % 1024 / 8))) && (decide (ev % 8 ≠ 2) || s_rfT (s_ty S (ev / 1024) (ev % 1024 / 8))) && (!(s_F S (ev / 1024) (ev % 1024 / 8)).2.2.2 || (decide ((s_y r).name = "<init>") && decide ((s_F S (ev / 1024) (ev % 1024 / 8)).1 = (s_y r).cls)))
  | .getstatic j => decide (j < s_ns S)
  | .instanceof j => decide (j < s_ns S) && decide (Jvm.Cond.fieldLinkNest (s_y r).cls idx (s_sn S j).1 (s_sn S j).2.1 (s_sn S j).2.2 host ∈ s_nw S)
  | .new c => decide (0 < s_N S c)
  | .anewarray t => decide (t ∈ s_rk S) && decide (Jvm.Cond.arrayOver (.object (s_cn S t)) ∈ s_nw S)
  | .newarray a => decide (a = .int)
  | .monitorenter | .monitorexit | .nop | .jsr _ | .jsr_w _ | .swap => decide (1 ≤ s_fr r) && decide (26 ≤ s_lo r)
  | .invokevirtual k => (match MT k with
    | some (r2, some c) => decide (s_na r2 = s_na r2 - 1 + 1) && s_okc r r2 false (s_na r2 - 1) && decide (s_cn S c = (s_y r2).cls) && decide (0 < s_N S c)
    | _ => false)
  | .invokestatic k => (match MT k with
    | some (r2, _) => s_okc r r2 false (s_na r2)
    | _ => false)
  | .invokespecial k => (match MT k with
    | some (r2, _) => decide (s_na r2 = s_na r2 - 1 + 1) && s_okc r r2 true (s_na r2 - 1)
    | _ => false)
  | .invokeinterface k _ => (match MT k with
    | some (r2, _) => decide (s_na r2 = s_na r2 - 1 + 1) && s_okc r r2 true (s_na r2 - 1) && decide (Jvm.Cond.methodLinkNest (s_y r).cls idx (s_y r2) host ∈ s_nw S)
    | _ => false)
  | _ => true
def s_so (pc : Nat) : Instr → Bool
  | .lookupswitch _ o => ((o.map fun q => (q.1, q.2 - (pc : Int))).toList.zip ((o.map fun q => (q.1, q.2 - (pc : Int))).toList.drop 1)).all (fun (a, next) => a.1 < next.1)
  | _ => true
def s_chk (S : s_SG) (MT : sMT) (big : List Jvm.Cond) (host : String) (r : sM) (e : sE) : Bool :=
  decide (decode (s_b r) e.1 = .ok (s_rel e.1 e.2.2.2.1 e.2.1, e.2.2.1)) && (decide (s_ln e.2.1 = 0) || decide (e.2.2.1 = s_ln e.2.1)) && decide ((s_wds S MT (s_y r).cls e.2.2.2.1 e.2.1).map some = e.2.2.2.2.map (fun i => big[i]?)) && (s_wds S MT (s_y r).cls e.2.2.2.1 e.2.1).all goodWord && s_sd S MT host r e.2.2.2.1 e.2.1 && s_so e.1 e.2.1
/-- every row of every method is checked -/
def s_Chk (S : s_SG) (MT : sMT) (big : List Jvm.Cond) (host : String) : Prop := ∀ (k : Nat) (r : sM) (cn : Option Nat), MT k = some (r, cn) → (∀ e ∈ s_cd r, s_chk S MT big host r e = true) ∧ plainFor (s_y r) = true ∧ (∀ c, cn = some c → s_cn S c = (s_y r).cls ∧ 0 < s_N S c)
def s_TW (big : List Jvm.Cond) : List Jvm.Cond := big.filter goodWord
theorem s_TW_good (big : List Jvm.Cond) : ∀ w ∈ s_TW big, goodWord w = true := fun w h => (List.mem_filter.mp h).2
theorem s_wds_in {S : s_SG} {MT : sMT} {big : List Jvm.Cond} {own : String} {idx : Nat} {i : Instr} {pl : List Nat} (h1 : (s_wds S MT own idx i).map some = pl.map (fun i => big[i]?)) (h2 : (s_wds S MT own idx i).all goodWord = true) : ∀ w ∈ s_wds S MT own idx i, w ∈ s_TW big := by
  intro w hw
  refine List.mem_filter.mpr ⟨?_, List.all_eq_true.mp h2 w hw⟩
  have : some w ∈ pl.map (fun i => big[i]?) := by
    rw [← h1]
    exact List.mem_map.mpr ⟨w, hw, rfl⟩
  obtain ⟨j, -, hj⟩ := List.mem_map.mp this
  exact List.mem_of_getElem? hj
/-- what else the classes must show -/
def s_SD (S : s_SG) : Prop := (∀ t ∈ s_rk S, 0 < s_N S t) ∧ (∀ c k, k < s_N S c → defaultValue (s_ty S c k) = if s_kd (s_ty S c k) = 2 then .null else .int 0)
section RNS
variable {p : Program} {l : Launch} {e : Env} {R : Room} {s : State} {m : MethodId} {args : Array Value} {below : List Frame} {meth : Method} {c : Code} {Q : State → Prop}
variable {S : s_SG} {G : s_DG} {MT : sMT} {big : List Jvm.Cond} {host : String} {r : sM} {N0 M0 : Nat} {L st : List Value} {h : sHp} {q : sC}
theorem s_mem1 {a : Jvm.Cond} {l : List Jvm.Cond} : a ∈ a :: l := List.mem_cons_self
/-- ONE STEP -/
theorem s_one {ev : sE} (C : s_Cx S G (s_TW big) p s m args meth c r) (SK : s_SOK S (s_TW big)) (SD : s_SD S) (hck : s_chk S MT big host r ev = true) (hRf : s_fr r ≤ R.frames) (hRl : s_lo r ≤ R.locals) (hsz : s.heap.size = s_B G + (N0 - 4)) (hN : 4 ≤ N0) (hN2 : N0 ≤ h.2.2.length) (hM2 : M0 ≤ s_sz S h.2.2) (hroom : q.2.2.2.2.2.length - N0 ≤ R.cells ∧ s_sz S q.2.2.2.2.2 - M0 ≤ R.slots)
    (hs : s_x ev.2.1 ev.1 ev.2.2.1 L st h = some q) (k : s_W S G p l e R s m args below meth c Q N0 M0 q.1 q.2.1 q.2.2.1 q.2.2.2) : s_W S G p l e R s m args below meth c Q N0 M0 ev.1 L st h := by
  obtain ⟨pc, i, n, idx, pl⟩ := ev
  unfold s_chk at hck
  simp only [Bool.and_eq_true, decide_eq_true_eq, Bool.or_eq_true] at hck
  obtain ⟨⟨⟨⟨⟨hdg, hln⟩, hw1⟩, hw2⟩, hsd⟩, hso⟩ := hck
  have hw := s_wds_in hw1 hw2
  have hts := C.2.2.2.2.1
  have hI := C.2.2.2.2.2.1
  clear hw1 hw2
  dsimp only at hs hdg hln hw hsd hso ⊢
  cases i with
  | iconst v => exact s_d_iconst C hdg (hln.resolve_left (Nat.succ_ne_zero _)) hs k
  | bipush v => exact s_d_bipush C hdg (hln.resolve_left (Nat.succ_ne_zero _)) hs k
  | sipush v => exact s_d_sipush C hdg (hln.resolve_left (Nat.succ_ne_zero _)) hs k
  | ldc v => exact s_d_ldc C (hts _ (hw _ s_mem1)) hdg (hln.resolve_left (Nat.succ_ne_zero _)) hs k
  | ldc_w v => exact s_d_ldcw C (hts _ (hw _ s_mem1)) hdg (hln.resolve_left (Nat.succ_ne_zero _)) hs k
  | ldc2_w v => exact s_d_ldc2 C (hts _ (hw _ s_mem1)) hdg (hln.resolve_left (Nat.succ_ne_zero _)) hs k
  | ret v => exact s_d_ldcf C (hts _ (hw _ s_mem1)) hdg (hln.resolve_left (Nat.succ_ne_zero _)) hs k
  | multianewarray v z => exact s_d_ldcwf C (hts _ (hw _ s_mem1)) hdg (hln.resolve_left (Nat.succ_ne_zero _)) hs k
  | putstatic v => exact s_d_ldc2d C (hts _ (hw _ s_mem1)) hdg (hln.resolve_left (Nat.succ_ne_zero _)) hs k
  | lconst v => exact s_d_lconst C hdg (hln.resolve_left (Nat.succ_ne_zero _)) hs k
  | fconst v => exact s_d_fconst C hdg (hln.resolve_left (Nat.succ_ne_zero _)) hs k
  | dconst v => exact s_d_dconst C hdg (hln.resolve_left (Nat.succ_ne_zero _)) hs k
  | aconst_null => exact s_d_null C hdg (hln.resolve_left (Nat.succ_ne_zero _)) hs k
  | iload_n v => exact s_d_iload_n C hdg (hln.resolve_left (Nat.succ_ne_zero _)) hs k
  | iload v => exact s_d_iload C hdg (hln.resolve_left (Nat.succ_ne_zero _)) hs k
  | lload_n v => exact s_d_lload_n C hdg (hln.resolve_left (Nat.succ_ne_zero _)) hs k
  | lload v => exact s_d_lload C hdg (hln.resolve_left (Nat.succ_ne_zero _)) hs k
  | fload_n v => exact s_d_fload_n C hdg (hln.resolve_left (Nat.succ_ne_zero _)) hs k
  | dload_n v => exact s_d_dload_n C hdg (hln.resolve_left (Nat.succ_ne_zero _)) hs k
  | aload_n v => exact s_d_aload_n C hdg (hln.resolve_left (Nat.succ_ne_zero _)) hs k
  | aload v => exact s_d_aload C hdg (hln.resolve_left (Nat.succ_ne_zero _)) hs k
  | istore_n v => exact s_d_istore_n C hdg (hln.resolve_left (Nat.succ_ne_zero _)) hs k
  | istore v => exact s_d_istore C hdg (hln.resolve_left (Nat.succ_ne_zero _)) hs k
  | fstore_n v => exact s_d_fstore_n C hdg (hln.resolve_left (Nat.succ_ne_zero _)) hs k
  | lstore_n v => exact s_d_lstore_n C hdg (hln.resolve_left (Nat.succ_ne_zero _)) hs k
  | lstore v => exact s_d_lstore C hdg (hln.resolve_left (Nat.succ_ne_zero _)) hs k
  | dstore_n v => exact s_d_dstore_n C hdg (hln.resolve_left (Nat.succ_ne_zero _)) hs k
  | astore_n v => exact s_d_astore_n C hdg (hln.resolve_left (Nat.succ_ne_zero _)) hs k
  | astore v => exact s_d_astore C hdg (hln.resolve_left (Nat.succ_ne_zero _)) hs k
  | iinc v w => exact s_d_iinc C hdg (hln.resolve_left (Nat.succ_ne_zero _)) hs k
  | dup => exact s_d_dup C hdg (hln.resolve_left (Nat.succ_ne_zero _)) hs k
  | pop => exact s_d_pop C hdg (hln.resolve_left (Nat.succ_ne_zero _)) hs k
  | dup2 => exact s_d_dup2 C hdg (hln.resolve_left (Nat.succ_ne_zero _)) hs k
  | iadd => exact s_d_iadd C hdg (hln.resolve_left (Nat.succ_ne_zero _)) hs k
  | isub => exact s_d_isub C hdg (hln.resolve_left (Nat.succ_ne_zero _)) hs k
  | imul => exact s_d_imul C hdg (hln.resolve_left (Nat.succ_ne_zero _)) hs k
  | iand => exact s_d_iand C hdg (hln.resolve_left (Nat.succ_ne_zero _)) hs k
  | ior => exact s_d_ior C hdg (hln.resolve_left (Nat.succ_ne_zero _)) hs k
  | ishl => exact s_d_ishl C hdg (hln.resolve_left (Nat.succ_ne_zero _)) hs k
  | ishr => exact s_d_ishr C hdg (hln.resolve_left (Nat.succ_ne_zero _)) hs k
  | idiv => exact s_d_idiv C hdg (hln.resolve_left (Nat.succ_ne_zero _)) hs k
  | irem => exact s_d_irem C hdg (hln.resolve_left (Nat.succ_ne_zero _)) hs k
  | ladd => exact s_d_ladd C hdg (hln.resolve_left (Nat.succ_ne_zero _)) hs k
  | lsub => exact s_d_lsub C hdg (hln.resolve_left (Nat.succ_ne_zero _)) hs k
  | land => exact s_d_land C hdg (hln.resolve_left (Nat.succ_ne_zero _)) hs k
  | lor => exact s_d_lor C hdg (hln.resolve_left (Nat.succ_ne_zero _)) hs k
  | lshl => exact s_d_lshl C hdg (hln.resolve_left (Nat.succ_ne_zero _)) hs k
  | lushr => exact s_d_lushr C hdg (hln.resolve_left (Nat.succ_ne_zero _)) hs k
  | i2l => exact s_d_i2l C hdg (hln.resolve_left (Nat.succ_ne_zero _)) hs k
  | l2i => exact s_d_l2i C hdg (hln.resolve_left (Nat.succ_ne_zero _)) hs k
  | i2f => exact s_d_i2f C hdg (hln.resolve_left (Nat.succ_ne_zero _)) hs k
  | i2d => exact s_d_i2d C hdg (hln.resolve_left (Nat.succ_ne_zero _)) hs k
  | l2d => exact s_d_l2d C hdg (hln.resolve_left (Nat.succ_ne_zero _)) hs k
  | d2l => exact s_d_d2l C hdg (hln.resolve_left (Nat.succ_ne_zero _)) hs k
  | f2i => exact s_d_f2i C hdg (hln.resolve_left (Nat.succ_ne_zero _)) hs k
  | lcmp => exact s_d_lcmp C hdg (hln.resolve_left (Nat.succ_ne_zero _)) hs k
  | fcmp v => exact s_d_fcmp C hdg (hln.resolve_left (Nat.succ_ne_zero _)) hs k
  | dcmp v => exact s_d_dcmp C hdg (hln.resolve_left (Nat.succ_ne_zero _)) hs k
  | fsub => exact s_d_fsub C hdg (hln.resolve_left (Nat.succ_ne_zero _)) hs k
  | fmul => exact s_d_fmul C hdg (hln.resolve_left (Nat.succ_ne_zero _)) hs k
  | fdiv => exact s_d_fdiv C hdg (hln.resolve_left (Nat.succ_ne_zero _)) hs k
  | dsub => exact s_d_dsub C hdg (hln.resolve_left (Nat.succ_ne_zero _)) hs k
  | dmul => exact s_d_dmul C hdg (hln.resolve_left (Nat.succ_ne_zero _)) hs k
  | ddiv => exact s_d_ddiv C hdg (hln.resolve_left (Nat.succ_ne_zero _)) hs k
  | drem => exact s_d_drem C hdg (hln.resolve_left (Nat.succ_ne_zero _)) hs k
  | ifCond cd v =>
    have hv : 0 ≤ v := of_decide_eq_true hsd
    cases cd with
    | eq => exact s_d_if_eq C hv hdg (hln.resolve_left (Nat.succ_ne_zero _)) hs k
    | ne => exact s_d_if_ne C hv hdg (hln.resolve_left (Nat.succ_ne_zero _)) hs k
    | lt => exact s_d_if_lt C hv hdg (hln.resolve_left (Nat.succ_ne_zero _)) hs k
    | ge => exact s_d_if_ge C hv hdg (hln.resolve_left (Nat.succ_ne_zero _)) hs k
    | gt => exact s_d_if_gt C hv hdg (hln.resolve_left (Nat.succ_ne_zero _)) hs k
    | le => exact s_d_if_le C hv hdg (hln.resolve_left (Nat.succ_ne_zero _)) hs k
  | if_icmp cd v =>
    have hv : 0 ≤ v := of_decide_eq_true hsd
    cases cd with
    | eq => exact s_d_icmp_eq C hv hdg (hln.resolve_left (Nat.succ_ne_zero _)) hs k
    | ne => exact s_d_icmp_ne C hv hdg (hln.resolve_left (Nat.succ_ne_zero _)) hs k
    | lt => exact s_d_icmp_lt C hv hdg (hln.resolve_left (Nat.succ_ne_zero _)) hs k
    | ge => exact s_d_icmp_ge C hv hdg (hln.resolve_left (Nat.succ_ne_zero _)) hs k
    | gt => exact s_d_icmp_gt C hv hdg (hln.resolve_left (Nat.succ_ne_zero _)) hs k
    | le => exact s_d_icmp_le C hv hdg (hln.resolve_left (Nat.succ_ne_zero _)) hs k
  | ifnull v => exact s_d_ifnull C (of_decide_eq_true hsd) hdg (hln.resolve_left (Nat.succ_ne_zero _)) hs k
  | ifnonnull v => exact s_d_ifnonnull C (of_decide_eq_true hsd) hdg (hln.resolve_left (Nat.succ_ne_zero _)) hs k
  | goto v => exact s_d_goto C (of_decide_eq_true hsd) hdg (hln.resolve_left (Nat.succ_ne_zero _)) hs k
  | tableswitch d lo hi o =>
    simp only [s_sd, Bool.and_eq_true, decide_eq_true_eq, List.all_eq_true] at hsd
    exact s_d_table C hsd.1 hsd.2 hdg hs k
  | lookupswitch d o =>
    simp only [s_sd, Bool.and_eq_true, decide_eq_true_eq, List.all_eq_true] at hsd
    exact s_d_look C hsd.1 hsd.2 hso hdg hs k
  | getfield ev =>
    simp only [s_sd, Bool.and_eq_true, decide_eq_true_eq] at hsd
    exact s_d_get C SK hsd.1 hsd.2 (hts _ (hw _ s_mem1)) hdg (hln.resolve_left (Nat.succ_ne_zero _)) hs k
  | putfield ev =>
    simp only [s_sd, Bool.and_eq_true, decide_eq_true_eq, Bool.or_eq_true, Bool.not_eq_true'] at hsd
    refine s_d_put C SK hsd.1.1.1 hsd.1.1.2 (fun h2 => ?_) (fun hf => ?_) (hts _ (hw _ s_mem1)) hdg (hln.resolve_left (Nat.succ_ne_zero _)) hs k
    · have h3 := hsd.1.2.resolve_left (fun z => z h2)
      cases ht : s_ty S (ev / 1024) (ev % 1024 / 8) with
      | object nm => exact ⟨nm, Or.inl rfl⟩
      | array t => exact ⟨"", Or.inr ⟨t, rfl⟩⟩
      | _ => rw [ht] at h3; cases h3
    · exact hsd.2.resolve_left (fun z => by rw [hf] at z; cases z)
  | getstatic j => exact s_d_gets C (of_decide_eq_true hsd) (hts _ (hw _ s_mem1)) hdg (hln.resolve_left (Nat.succ_ne_zero _)) hs k
  | instanceof j =>
    simp only [s_sd, Bool.and_eq_true, decide_eq_true_eq] at hsd
    exact s_d_getsN C hsd.1 (hI.2.2.2.2 _ hsd.2) hdg (hln.resolve_left (Nat.succ_ne_zero _)) hs k
  | arraylength => exact s_d_alen C hdg (hln.resolve_left (Nat.succ_ne_zero _)) hs k
  | iaload => exact s_d_iald C hdg (hln.resolve_left (Nat.succ_ne_zero _)) hs k
  | iastore => exact s_d_iast C hdg (hln.resolve_left (Nat.succ_ne_zero _)) hs k
  | aaload => exact s_d_aald C hdg (hln.resolve_left (Nat.succ_ne_zero _)) hs k
  | aastore => exact s_d_aast C SD.1 hdg (hln.resolve_left (Nat.succ_ne_zero _)) hs k
  | new ci =>
    exact s_d_new C SK (SD.2 ci) (of_decide_eq_true hsd) hsz hN hN2 hM2 hroom (hts _ (hw _ s_mem1)) (hts _ (hw _ (List.mem_cons_of_mem _ s_mem1))) (hts _ (hw _ (List.mem_cons_of_mem _ (List.mem_cons_of_mem _ s_mem1)))) hdg (hln.resolve_left (Nat.succ_ne_zero _)) hs k
  | newarray a =>
    have ha : a = .int := of_decide_eq_true hsd
    subst ha
    exact s_d_newa C hsz hN hN2 hM2 hroom (hts _ (hw _ s_mem1)) hdg (hln.resolve_left (Nat.succ_ne_zero _)) hs k
  | anewarray t =>
    simp only [s_sd, Bool.and_eq_true, decide_eq_true_eq] at hsd
    exact s_d_newq C hsd.1 hsz hN hN2 hM2 hroom (hts _ (hw _ s_mem1)) (hI.2.2.2.2 _ hsd.2) hdg (hln.resolve_left (Nat.succ_ne_zero _)) hs k
  | monitorenter =>
    simp only [s_sd, Bool.and_eq_true, decide_eq_true_eq] at hsd
    exact s_d_obj C (by omega) (by omega) (hts _ (hw _ s_mem1)) (hts _ (hw _ (List.mem_cons_of_mem _ s_mem1))) (hts _ (hw _ (List.mem_cons_of_mem _ (List.mem_cons_of_mem _ s_mem1)))) hdg (hln.resolve_left (Nat.succ_ne_zero _)) hs k
  | monitorexit =>
    simp only [s_sd, Bool.and_eq_true, decide_eq_true_eq] at hsd
    exact s_d_acpy C (by omega) (by omega) (hts _ (hw _ s_mem1)) (hts _ (hw _ (List.mem_cons_of_mem _ s_mem1))) (hts _ (hw _ (List.mem_cons_of_mem _ (List.mem_cons_of_mem _ s_mem1)))) (hts _ (hw _ (List.mem_cons_of_mem _ (List.mem_cons_of_mem _ (List.mem_cons_of_mem _ s_mem1))))) hdg (hln.resolve_left (Nat.succ_ne_zero _)) hs k
  | jsr z =>
    simp only [s_sd, Bool.and_eq_true, decide_eq_true_eq] at hsd
    exact s_d_mmax C (by omega) (by omega) hroom (hts _ (hw _ s_mem1)) (hts _ (hw _ (List.mem_cons_of_mem _ s_mem1))) (hts _ (hw _ (List.mem_cons_of_mem _ (List.mem_cons_of_mem _ s_mem1)))) (hts _ (hw _ (List.mem_cons_of_mem _ (List.mem_cons_of_mem _ (List.mem_cons_of_mem _ s_mem1))))) hdg (hln.resolve_left (Nat.succ_ne_zero _)) hs k
  | jsr_w z =>
    simp only [s_sd, Bool.and_eq_true, decide_eq_true_eq] at hsd
    exact s_d_mmin C (by omega) (by omega) hroom (hts _ (hw _ s_mem1)) (hts _ (hw _ (List.mem_cons_of_mem _ s_mem1))) (hts _ (hw _ (List.mem_cons_of_mem _ (List.mem_cons_of_mem _ s_mem1)))) (hts _ (hw _ (List.mem_cons_of_mem _ (List.mem_cons_of_mem _ (List.mem_cons_of_mem _ s_mem1))))) hdg (hln.resolve_left (Nat.succ_ne_zero _)) hs k
  | nop =>
    simp only [s_sd, Bool.and_eq_true, decide_eq_true_eq] at hsd
    exact s_d_d2r C (by omega) (by omega) (hts _ (hw _ s_mem1)) (hts _ (hw _ (List.mem_cons_of_mem _ s_mem1))) (hts _ (hw _ (List.mem_cons_of_mem _ (List.mem_cons_of_mem _ s_mem1)))) (hts _ (hw _ (List.mem_cons_of_mem _ (List.mem_cons_of_mem _ (List.mem_cons_of_mem _ s_mem1))))) hdg (hln.resolve_left (Nat.succ_ne_zero _)) hs k
  | swap =>
    simp only [s_sd, Bool.and_eq_true, decide_eq_true_eq] at hsd
    exact s_d_f2r C (by omega) (by omega) (hts _ (hw _ s_mem1)) (hts _ (hw _ (List.mem_cons_of_mem _ s_mem1))) (hts _ (hw _ (List.mem_cons_of_mem _ (List.mem_cons_of_mem _ s_mem1)))) (hts _ (hw _ (List.mem_cons_of_mem _ (List.mem_cons_of_mem _ (List.mem_cons_of_mem _ s_mem1))))) hdg (hln.resolve_left (Nat.succ_ne_zero _)) hs k
  | _ => cases hs
end RNS
end
section
/-! THE WHOLE RUN -/
theorem s_x_ext {i : Instr} {pc n : Nat} {L st : List Value} {h : sHp} {q : sC} (hs : s_x i pc n L st h = some q) : ∃ l : List (Nat × Nat), q.2.2.2.2.2 = h.2.2 ++ l := by
  have nil : ∀ {z : sHp}, z.2.2 = h.2.2 → ∃ l : List (Nat × Nat), z.2.2 = h.2.2 ++ l := fun e => ⟨[], by rw [e, List.append_nil]⟩
  cases i <;> dsimp only [s_x] at hs <;> (repeat' split at hs) <;> cases hs <;> first | exact nil rfl | exact ⟨_, rfl⟩
theorem s_run_ext {MT : sMT} : ∀ (f k pc : Nat) (L st : List Value) (h : sHp) (o : Option Value × sHp), s_run MT f k pc L st h = some o → ∃ l : List (Nat × Nat), o.2.2.2 = h.2.2 ++ l
  | 0, _, _, _, _, _, _, hr => by cases hr
  | f + 1, k, pc, L, st, h, o, hr => by
    unfold s_run at hr
    split at hr
    · cases hr
    split at hr
    · cases hr
    split at hr
    · split at hr
      · cases hr
      split at hr
      · cases hr
      split at hr
      · cases hr
      next o1 h1 =>
        obtain ⟨l1, e1⟩ := s_run_ext f _ _ _ _ _ _ h1
        obtain ⟨l2, e2⟩ := s_run_ext f _ _ _ _ _ _ hr
        exact ⟨l1 ++ l2, by rw [e2, e1, List.append_assoc]⟩
    · split at hr
      · cases hr; exact ⟨[], by rw [List.append_nil]⟩
      · split at hr
        · cases hr
        next c1 h1 =>
          obtain ⟨l1, e1⟩ := s_x_ext h1
          obtain ⟨l2, e2⟩ := s_run_ext f _ _ _ _ _ _ hr
          exact ⟨l1 ++ l2, by rw [e2, e1, List.append_assoc]⟩
theorem s_sz_le (S : s_SG) : ∀ a b : List (Nat × Nat), s_sz S a ≤ s_sz S (a ++ b)
  | [], b => Nat.zero_le _
  | (0, c) :: a, b => by
    rw [List.cons_append, s_sz, s_sz]
    exact Nat.add_le_add_left (s_sz_le S a b) _
  | (t + 1, c) :: a, b => by
    rw [List.cons_append, s_sz, s_sz]
    exact Nat.add_le_add_left (s_sz_le S a b) _
theorem s_ext_le {S : s_SG} {h h1 : sHp} (he : ∃ l : List (Nat × Nat), h1.2.2 = h.2.2 ++ l) : h.2.2.length ≤ h1.2.2.length ∧ s_sz S h.2.2 ≤ s_sz S h1.2.2 := by
  obtain ⟨l, e⟩ := he
  rw [e]
  exact ⟨by rw [List.length_append]; omega, s_sz_le S _ _⟩
/-- the words that are told one by one stay true -/
def s_nwk : Jvm.Cond → Bool
  | .methodLinkNest _ _ _ _ => true
  | .fieldLinkNest _ _ _ _ _ _ => true
  | .arrayOver (.object _) => true
  | _ => false
theorem s_nw_warm {w : Jvm.Cond} {s U : State} (hk : s_nwk w = true) (hW : s.WarmedH U.vm) (h : va_Nw w s) : va_Nw w U := by
  cases w with
  | methodLinkNest a i x y => exact va_Nw.warmM hW h
  | fieldLinkNest a i b n d y => exact va_Nw.warmF hW h
  | arrayOver ty => cases ty with
    | object C => exact va_AO.moved (C := C) hW.alike h
    | _ => cases hk
  | _ => cases hk
theorem s_In_moved {S : s_SG} {G : s_DG} {s U : State} (hnw : ∀ w ∈ s_nw S, s_nwk w = true) (hW : s.WarmedH U.vm) (hk : ∀ a : Nat, a < s.heap.size → ¬ s_A G a → U.heap[a]? = s.heap[a]?) (h : s_In S G s) : s_In S G U := by
  obtain ⟨h1, h2, h3, h4, h5⟩ := h
  refine ⟨va_K.moved hW.alike h1, fun i hi => ⟨?_, (h2 i hi).2⟩, fun j hj => ⟨(h3 j hj).1, va_Z.moved hW.alike (va_Z.kept (h3 j hj).2 hk)⟩, h4, fun w hw => s_nw_warm (hnw w hw) hW (h5 w hw)⟩
  exact va_T.moved hW.alike (va_T.kept (h2 i hi).1 hk)
def s_Pc (S : s_SG) (G : s_DG) (as : List Value) (h : sHp) : Array Value → State → Prop := fun v U => v = (as.map (s_vc G)).toArray ∧ s_In S G U ∧ s_Wd S G h U.heap ∧ U.heap.size = s_B G + (h.2.2.length - 4)
def s_Qc (S : s_SG) (G : s_DG) (o : Option Value × sHp) : Array Value → State → Outcome → State → Prop := fun _ st oc t => oc = .returned (o.1.map (s_vc G)) ∧ s_Wd S G o.2 t.heap ∧ va_F (s_A G) st t
def s_wsl (big : List Jvm.Cond) (r : sM) : List Jvm.Cond := .code (s_y r) (s_b r) (s_mL r) (s_rt r) :: s_TW big
def s_rm (S : s_SG) (r : sM) (h h1 : sHp) : Room := { frames := s_fr r, cells := h1.2.2.length - h.2.2.length, slots := s_sz S h1.2.2 - s_sz S h.2.2, locals := s_lo r }
def s_Meets (S : s_SG) (G : s_DG) (big : List Jvm.Cond) (l : Launch) (r : sM) (as : List Value) (h : sHp) (o : Option Value × sHp) : Prop :=
  Met l (s_y r) (s_wsl big r) (s_rm S r h o.2) (s_Pc S G as h) (s_Qc S G o) (o.2.2.2.length - h.2.2.length) (s_sz S o.2.2.2 - s_sz S h.2.2) (s_A G)
/-- all that is fixed -/
def s_Fix (S : s_SG) (MT : sMT) (big : List Jvm.Cond) (host : String) : Prop := s_SOK S (s_TW big) ∧ s_SD S ∧ s_Chk S MT big host ∧ ∀ w ∈ s_nw S, s_nwk w = true
def s_MetAt (S : s_SG) (G : s_DG) (MT : sMT) (big : List Jvm.Cond) (l : Launch) (f : Nat) : Prop :=
  ∀ (k : Nat) (r : sM) (cn : Option Nat) (as : List Value) (h : sHp) (o : Option Value × sHp), MT k = some (r, cn) → s_cat as ≤ s_mL r → s_run MT f k 0 (s_ent as (s_mL r)) [] h = some o → s_Meets S G big l r as h o
def s_BodyAt (S : s_SG) (G : s_DG) (MT : sMT) (big : List Jvm.Cond) (l : Launch) (f : Nat) : Prop :=
  ∀ (p : Program) (e : Env) (R : Room) (s : State) (m : MethodId) (args : Array Value) (below : List Frame) (meth : Method) (c : Code) (Q : State → Prop) (k : Nat) (r : sM) (cn : Option Nat) (N0 M0 pc : Nat) (L st : List Value) (h : sHp) (o : Option Value × sHp),
    MT k = some (r, cn) → s_Cx S G (s_TW big) p s m args meth c r → s_run MT f k pc L st h = some o → s_fr r ≤ R.frames → s_lo r ≤ R.locals → s.heap.size = s_B G + (N0 - 4) → 4 ≤ N0 → N0 ≤ h.2.2.length → M0 ≤ s_sz S h.2.2 → o.2.2.2.length - N0 ≤ R.cells ∧ s_sz S o.2.2.2 - M0 ≤ R.slots →
    (∀ (ri : Instr) (pc2 : Nat) (L2 st2 : List Value), decode (s_b r) pc2 = .ok (ri, 1) → s_rx ri (s_rt r) st2 = some o.1 → s_W S G p l e R s m args below meth c Q N0 M0 pc2 L2 st2 o.2) →
    s_W S G p l e R s m args below meth c Q N0 M0 pc L st h
section SDS
variable {S : s_SG} {G : s_DG} {MT : sMT} {big : List Jvm.Cond} {host : String} {l : Launch}
theorem s_cat_sl (G : s_DG) : ∀ as : List Value, (lg_sl (as.map (s_vc G))).length = s_cat as
  | [] => rfl
  | v :: as => by
    have ih := s_cat_sl G as
    unfold lg_sl at ih ⊢
    rw [List.map_cons, List.flatMap_cons, List.length_append, ih, s_vc_cat, s_cat]
    by_cases ht : s_two v = true
    · rw [if_pos ht, if_pos rfl]; rfl
    · rw [if_neg ht, if_neg (by decide)]; rfl
theorem s_ofWF {l : Launch} {y : MethodName} {ws ws' : List Cond} {rm : Room} {Pc : Array Value → State → Prop} {Qc : Array Value → State → Outcome → State → Prop} {mc ms : Nat} {free : Addr → Prop} {cc : ByteArray} {maxL : Nat} {ret : Option FieldType}
    (hy : plainFor y = true) (hw : ws = Cond.code y cc maxL ret :: ws')
    (body : ∀ p e s m args below meth c s₁, BodyLoose p l y (headSpec ws rm) cc maxL ret e s m args below meth c s₁ → c.maxLocals = maxL → Pc args s →
      W p l e (headSpec ws rm).room s m args below meth c s.heap [] 0 0 (MQ below Qc args s mc ms free) (entryFrame m args maxL)) : Met l y ws rm Pc Qc mc ms free := by
  refine MetFree.of_bodySF (code := cc) (maxLocals := maxL) (ret := ret) hy ?_ ?_
  · intro args s m h hn
    obtain ⟨meth, c, h1, h2, h3, h4, h5, h6, -, -⟩ := Cond.code_spec hn (atoms_spec (ws := ws) h _ (by rw [hw]; exact List.mem_cons_self))
    exact ⟨meth, c, h1, h2, h3, h4, h5, h6⟩
  · intro p e s m args below meth c s₁ B hml hP _
    have hh0 : s₁.heap = s.heap := by rw [B.state]; rfl
    obtain ⟨t, a1, o, b1, b2, b3⟩ := body p e s m args below meth c s₁ B hml hP s₁ hh0 (Stand.of_body B)
    exact ⟨t, o, a1, b1, b2, ⟨b3.1, b3.2⟩⟩
theorem s_met_of_body (FX : s_Fix S MT big host) {f : Nat} (hB : s_BodyAt S G MT big l f) : s_MetAt S G MT big l f := by
  intro k r cn as h o hk hcat hrun
  obtain ⟨SK, SD, CK, NW⟩ := FX
  obtain ⟨ck1, ck2, ck3⟩ := CK k r cn hk
  have hext := s_run_ext _ _ _ _ _ _ _ hrun
  have hle := s_ext_le (S := S) hext
  unfold s_Meets
  refine s_ofWF (cc := s_b r) (maxL := s_mL r) (ret := s_rt r) ck2 rfl ?_
  intro p e s m args below meth c s₁ B hml hv
  obtain ⟨rfl, hI, hW, hsz⟩ := hv
  have hts := atoms_spec (ws := s_wsl big r) B.pre
  have hnm : meth.name = (s_y r).name := (name_of_methodNamed B.named B.method).1
  have C : s_Cx S G (s_TW big) p s m (as.map (s_vc G)).toArray meth c r := ⟨B.exec, B.bytes, hml, findClass_of_methodNamed B.named, fun w hw => hts w (List.mem_cons_of_mem _ hw), hI, fun z => hnm.trans z⟩
  have hsl : (lg_sl (as.map (s_vc G))).length ≤ s_mL r := by rw [s_cat_sl]; exact hcat
  have hl := lv_entry (as.map (s_vc G)) (n := s_mL r) hsl
  rw [lg_entry_eq]
  generalize (lg_sl (as.map (s_vc G)) ++ List.replicate (s_mL r - (lg_sl (as.map (s_vc G))).length) Slot.unset).toArray = ls at hl ⊢
  have hL := s_LR_ent (G := G) hsl hl
  have hlen : (s_ent as (s_mL r)).length = c.maxLocals := (s_ent_len G as _ hsl).trans hml.symm
  have key := hB p e (s_rm S r h o.2) s m (as.map (s_vc G)).toArray below meth c (MQ below (s_Qc S G o) (as.map (s_vc G)).toArray s (o.2.2.2.length - h.2.2.length) (s_sz S o.2.2.2 - s_sz S h.2.2) (s_A G)) k r cn h.2.2.length (s_sz S h.2.2) 0 (s_ent as (s_mL r)) [] h o hk C hrun (Nat.le_refl _) (Nat.le_refl _) hsz hW.1 (Nat.le_refl _) (Nat.le_refl _) ⟨Nat.le_refl _, Nat.le_refl _⟩ ?_ hlen s.heap [] ls hW va_S.rf hL
  · rw [Nat.sub_self, Nat.sub_self] at key
    exact key
  · intro ri pc2 L2 st2 hdg hrx hlen2 H locs ls2 hW2 hS2 hL2
    have hx := B.exec
    have hb := B.bytes
    have hr := B.returns
    have hlk := B.notSynchronized
    unfold s_rx at hrx
    split at hrx
    next hrt =>
      rw [hrt] at hr
      have ho : o.1 = none := (Option.some.inj hrx).symm
      exact W.vret hx hb hr (fun t ht hWm => ⟨by rw [ho]; rfl, by rw [ht]; exact hW2, hS2.F ht⟩) hS2.2.2 hdg hlk
    next v hrt =>
      rw [hrt] at hr
      have ho : o.1 = some (.int v) := (Option.some.inj hrx).symm
      exact W.iret (v := v) hx hb hr (fun t ht hWm => ⟨by rw [ho]; rfl, by rw [ht]; exact hW2, hS2.F ht⟩) hS2.2.2 hdg hlk
    next v hrt =>
      split at hrx
      next h01 =>
        rw [hrt] at hr
        have ho : o.1 = some (.int v) := (Option.some.inj hrx).symm
        exact W.zret (v := v) (ty := .boolean) hx hb hr (by rcases h01 with rfl | rfl <;> rfl) (fun t ht hWm => ⟨by rw [ho]; rfl, by rw [ht]; exact hW2, hS2.F ht⟩) hS2.2.2 hdg hlk
      · cases hrx
    next v hrt =>
      rw [hrt] at hr
      have ho : o.1 = some (.long v) := (Option.some.inj hrx).symm
      exact W.lret (v := v) hx hb hr (fun t ht hWm => ⟨by rw [ho]; rfl, by rw [ht]; exact hW2, hS2.F ht⟩) hS2.2.2 hdg hlk
    next nm a hrt =>
      rw [hrt] at hr
      have ho : o.1 = some (.ref a) := (Option.some.inj hrx).symm
      exact W.aret (v := .ref (s_ad G a)) (rt := .object nm) hx hb hr (Or.inl ⟨nm, rfl⟩) (Or.inr ⟨_, rfl⟩) (fun t ht hWm => ⟨by rw [ho]; rfl, by rw [ht]; exact hW2, hS2.F ht⟩) hS2.2.2 hdg hlk
    next nm hrt =>
      rw [hrt] at hr
      have ho : o.1 = some .null := (Option.some.inj hrx).symm
      exact W.aret (v := .null) (rt := .object nm) hx hb hr (Or.inl ⟨nm, rfl⟩) (Or.inl rfl) (fun t ht hWm => ⟨by rw [ho]; rfl, by rw [ht]; exact hW2, hS2.F ht⟩) hS2.2.2 hdg hlk
    · cases hrx
/-- how many cells there are -/
theorem s_size {s T : State} {p : Program} {e : Env} {R : Room} {m : MethodId} {args : Array Value} {below : List Frame} {meth : Method} {c : Code} {H : Heap} {locs : List Loc} {h : sHp} {N0 n1 : Nat} (hI : s_In S G s) (hsz : s.heap.size = s_B G + (N0 - 4)) (hN : 4 ≤ N0) (hN2 : N0 ≤ h.2.2.length) (hW : s_Wd S G h H) (hS : va_S (s_A G) s.heap H locs) (hT : T.heap = H) (X : Stand p l e R s m args below meth c T locs (h.2.2.length - N0) n1) : H.size = s_B G + (h.2.2.length - 4) := by
  have h2 := X.heapSize
  rw [hT] at h2
  have h3 := hS.1
  rcases Nat.lt_or_ge 4 h.2.2.length with z | z
  · have h4 := s_ws_at S G h (a := h.2.2.length - 1) (by omega) (by omega)
    have h5 := (hW.2.1 _ _ h4).lt
    dsimp only at h5
    rw [s_ad_ge hI (by omega)] at h5
    omega
  · omega
theorem s_blind (NW : ∀ w ∈ s_nw S, s_nwk w = true) (as : List Value) (h : sHp) : FrameBlind (s_Pc S G as h) := by
  intro a U g mk hp
  obtain ⟨h1, h2, h3, h4⟩ := hp
  exact ⟨h1, s_In_moved (U := U.calling g mk a) NW (State.WarmedH.refl U) (fun _ _ _ => rfl) h2, h3, h4⟩
/-- behind a call -/
theorem s_call {p : Program} {e : Env} {R : Room} {s : State} {m : MethodId} {args : Array Value} {below : List Frame} {meth : Method} {c : Code} {Q : State → Prop} {N0 M0 pc : Nat} {L rest : List Value} {st0 : List Value} {h : sHp} {o : Option Value × sHp} {H : Heap} {locs : List Loc} {ls : Array Slot} {a : Array Value}
    (hr : va_Run p l e R s m args below meth c H locs (h.2.2.length - N0) (s_sz S h.2.2 - M0) (o.2.2.2.length - h.2.2.length) (s_sz S o.2.2.2 - s_sz S h.2.2) (F0 m pc ls st0) (rest.map (s_vc G)) (s_Qc S G o a) (s_A G)) (hle : h.2.2.length ≤ o.2.2.2.length ∧ s_sz S h.2.2 ≤ s_sz S o.2.2.2) (hN2 : N0 ≤ h.2.2.length) (hM2 : M0 ≤ s_sz S h.2.2)
    (hlen : L.length = c.maxLocals) (hS : va_S (s_A G) s.heap H locs) (hL : s_LR G ls L) (k : s_W S G p l e R s m args below meth c Q N0 M0 (pc + 3) L (o.1.toList ++ rest) o.2) : W p l e R s m args below meth c H locs (h.2.2.length - N0) (s_sz S h.2.2 - M0) Q (F0 m pc ls st0) := by
  intro T hT X
  obtain ⟨v, st₀, t, T', L1, h0, X', hL1, e1, e2, ⟨hv, hW1, hz, hk⟩, st⟩ := hr T hT X
  have hv : v = o.1.map (s_vc G) := Outcome.returned.inj hv
  subst hv
  rw [h0] at hz hk
  rw [← e1] at hz hk hW1
  have hS1 : va_S (s_A G) s.heap T'.heap (locs ++ L1) := ⟨Nat.le_trans hS.1 hz, fun q h1 h2 => by rw [hk q (Nat.lt_of_lt_of_le h1 hS.1) h2]; exact hS.2.1 q h1 h2, fun q hq => by
    rcases List.mem_append.mp hq with h | h
    · exact hS.2.2 q h
    · exact hL1 q h⟩
  have kk := k hlen T'.heap (locs ++ L1) ls hW1 hS1 hL T' rfl (by
    rw [show o.2.2.2.length - N0 = h.2.2.length - N0 + (o.2.2.2.length - h.2.2.length) by omega, show s_sz S o.2.2.2 - M0 = s_sz S h.2.2 - M0 + (s_sz S o.2.2.2 - s_sz S h.2.2) by omega]
    exact X')
  obtain ⟨t2, a1, b1⟩ := kk
  refine ⟨t2, st t2 ?_, b1⟩
  have : (Option.map (s_vc G) o.1).toList ++ rest.map (s_vc G) = (o.1.toList ++ rest).map (s_vc G) := by
    rw [List.map_append]
    cases o.1 <;> rfl
  rw [this]
  exact a1
end SDS
end
section
section BDS
variable {S : s_SG} {G : s_DG} {MT : sMT} {big : List Jvm.Cond} {host : String} {l : Launch}
theorem s_GI {big ws : List Jvm.Cond} (h : ∀ w ∈ ws, w ∈ s_TW big) : GoodIn (s_TW big) ws := fun w hw => ⟨h w hw, good_of_word (s_TW_good big w (h w hw))⟩
theorem s_split (G : s_DG) (st : List Value) (n : Nat) : st.map (s_vc G) = (((st.take n).reverse).map (s_vc G)).reverse ++ (st.drop n).map (s_vc G) := by
  rw [List.map_reverse, List.reverse_reverse, ← List.map_append, List.take_append_drop]
theorem s_rc_0 {cn : Option Nat} {h : sHp} {as : List Value} (c4 : s_rc 0 cn h as = true) : ∃ (a c : Nat) (as2 : List Value), as = .ref a :: as2 ∧ s_nth h.2.2 a = some (0, c) ∧ cn = some c := by
  simp only [s_rc] at c4
  split at c4
  next a as2 =>
    split at c4
    next cc c2 heq =>
      have hcc : cc = c2 := Nat.eq_of_beq_eq_true c4
      subst hcc
      exact ⟨_, _, _, rfl, heq, rfl⟩
    · cases c4
  · cases c4
theorem s_rc_2 {cn : Option Nat} {h : sHp} {as : List Value} (c4 : s_rc 2 cn h as = true ∨ s_rc 3 cn h as = true) : ∃ (a : Nat) (as2 : List Value), as = .ref a :: as2 := by
  simp only [s_rc, or_self] at c4
  split at c4
  next a as2 => exact ⟨_, _, rfl⟩
  · cases c4
theorem s_body_succ (FX : s_Fix S MT big host) {f : Nat} (hM : s_MetAt S G MT big l f) (hB : s_BodyAt S G MT big l f) : s_BodyAt S G MT big l (f + 1) := by
  intro p e R s m args below meth c Q k r cn N0 M0 pc L st h o hk C hrun hRf hRl hsz hN hN2 hM2 hroom K
  have FX0 := FX
  obtain ⟨SK, SD, CK, NW⟩ := FX
  unfold s_run at hrun
  rw [hk] at hrun
  dsimp only at hrun
  split at hrun
  · cases hrun
  next ev hat =>
  obtain ⟨hmem, hpc⟩ := s_at_mem hat
  subst hpc
  have hck := (CK k r cn hk).1 ev hmem
  split at hrun
  next q hci =>
    split at hrun
    · cases hrun
    next r2p hk2 =>
    split at hrun
    · cases hrun
    next hcond =>
    split at hrun
    · cases hrun
    next o1 h1 =>
    obtain ⟨r2, cn2⟩ := r2p
    dsimp only at hrun h1 hcond
    simp only [not_or, Nat.not_lt, Bool.not_eq_false] at hcond
    obtain ⟨c1, c2, c3, c4⟩ := hcond
    have hle := s_ext_le (S := S) (s_run_ext _ _ _ _ _ _ _ h1)
    have hle2 := s_ext_le (S := S) (s_run_ext _ _ _ _ _ _ _ hrun)
    have Mt := hM q.2 r2 cn2 _ h o1 hk2 c2 h1
    have kk := hB p e R s m args below meth c Q k r cn N0 M0 (ev.1 + 3) L _ o1.2 o hk C hrun hRf hRl hsz hN (Nat.le_trans hN2 hle.1) (Nat.le_trans hM2 hle.2) hroom K
    intro hlen H locs ls hW hS hL T hT X
    have hI := C.2.2.2.2.2.1
    have hsize := s_size hI hsz hN hN2 hW hS hT X
    refine (?_ : W p l e R s m args below meth c H locs (h.2.2.length - N0) (s_sz S h.2.2 - M0) Q (F0 m ev.1 ls (st.map (s_vc G)))) T hT X
    have hx := C.1
    have hb := C.2.1
    have hml := C.2.2.1
    have hown := C.2.2.2.1
    have hts := C.2.2.2.2.1
    have hcat : ((List.map (s_vc G) (st.drop (s_na r2))).map fun v => v.category).sum ≤ 8 := by rw [s_cat_sum]; exact c3
    have hlsz : ls.size = s_mL r := by rw [hL.1, hlen, hml]
    have hpre : ∀ U : State, U.heap = H → s.WarmedH U.vm → s_Pc S G (st.take (s_na r2)).reverse h ((st.take (s_na r2)).reverse.map (s_vc G)).toArray U := fun U hU hWm =>
      ⟨rfl, s_In_moved NW hWm (fun a ha hna => by rw [hU]; exact hS.2.1 a ha hna) hI, by rw [hU]; exact hW, by rw [hU]; exact hsize⟩
    have hfit : h.2.2.length - N0 + (o1.2.2.2.length - h.2.2.length) ≤ R.cells ∧ s_sz S h.2.2 - M0 + (s_sz S o1.2.2.2 - s_sz S h.2.2) ≤ R.slots := by omega
    have hstk := s_split G st (s_na r2)
    unfold s_chk at hck
    simp only [Bool.and_eq_true, decide_eq_true_eq, Bool.or_eq_true] at hck
    obtain ⟨⟨⟨⟨⟨hdg, hln⟩, hw1⟩, hw2⟩, hsd⟩, hso⟩ := hck
    have hw := s_wds_in hw1 hw2
    clear hw1 hw2 hso
    obtain ⟨pc, i, n, idx, pl⟩ := ev
    dsimp only at hdg hln hw hsd hci kk ⊢
    have hlt : (st.take (s_na r2)).reverse.length = s_na r2 := by rw [List.length_reverse, List.length_take]; omega
    generalize hasE : (st.take (s_na r2)).reverse = as at *
    generalize hrsE : st.drop (s_na r2) = rest at *
    cases i with
    | invokevirtual k2 =>
      cases hci
      have hn3 : n = 3 := hln.resolve_left (Nat.succ_ne_zero _)
      subst hn3
      dsimp only at hk2 c4
      dsimp only [s_sd] at hsd
      dsimp only [s_wds, s_wc] at hw
      rw [hk2] at hsd hw
      dsimp only at hsd hw
      obtain ⟨a, cc, as2, rfl, heq, rfl⟩ := s_rc_0 c4
      simp only [s_okc, Bool.and_eq_true, decide_eq_true_eq] at hsd
      obtain ⟨⟨⟨hna, ⟨⟨⟨⟨hf1, hf2⟩, hy1⟩, hy2⟩, hd⟩, -⟩, hcn⟩, hc0⟩ := hsd
      obtain ⟨g1, g2, g3⟩ := s_Wd_len hW heq
      have g4 := g3 (by decide)
      have g5 := s_ws_at S G h g4 g2
      rw [s_cell_o g1] at g5
      obtain ⟨qc, e1, e2, e3, e4⟩ := s_cl_of hc0
      have hrecv := va_recv hI.1 hW.2.1 e1 g5
      rw [← e4, hcn] at hrecv
      refine s_call (o := o1) (rest := rest) (a := ((Value.ref a :: as2).map (s_vc G)).toArray) ?_ hle hN2 hM2 hlen hS hL kk
      exact va_runV (C := (s_y r2).cls) (b := s_ad G a) (As := as2.map (s_vc G)) (rest := rest.map (s_vc G)) (g := F0 m pc ls (st.map (s_vc G))) (Ts := s_TW big) (n := s_na r2 - 1) ⟨hx, hb, hml, hown, hts⟩ Mt (cwV (s_na r2 - 1) hts (s_GI (fun w hq => by
        rcases List.mem_append.mp hq with z | z
        · refine hw w ?_
          simp only [List.mem_cons, List.not_mem_nil, or_false] at z ⊢
          rcases z with z | z | z | z <;> simp [z]
        · rcases List.mem_cons.mp z with z | z
          · refine hw w ?_
            simp [z]
          · exact z)) rfl rfl rfl ⟨rfl, hy1, hy2, hd⟩ ⟨by show s_fr r2 + 1 ≤ _; omega, by show _ + _ + s_lo r2 ≤ _; omega⟩) ⟨s_blind NW _ h, hrecv, hpre⟩ rfl (by rw [List.length_map]; simp only [List.length_cons] at hlt; omega) hlsz (by show st.map (s_vc G) = _; rw [hstk]; simp [s_vc]) (lv_room hcat) hdg hfit
    | invokestatic k2 =>
      cases hci
      have hn3 : n = 3 := hln.resolve_left (Nat.succ_ne_zero _)
      subst hn3
      dsimp only at hk2 c4
      dsimp only [s_sd] at hsd
      dsimp only [s_wds, s_wc] at hw
      rw [hk2] at hsd hw
      dsimp only at hsd hw
      simp only [s_okc, Bool.and_eq_true, decide_eq_true_eq] at hsd
      obtain ⟨⟨⟨⟨⟨hf1, hf2⟩, hy1⟩, hy2⟩, hd⟩, -⟩ := hsd
      refine s_call (o := o1) (rest := rest) (a := (as.map (s_vc G)).toArray) ?_ hle hN2 hM2 hlen hS hL kk
      exact va_runS (As := as.map (s_vc G)) (rest := rest.map (s_vc G)) (g := F0 m pc ls (st.map (s_vc G))) (Ts := s_TW big) (n := s_na r2) ⟨hx, hb, hml, hown, hts⟩ Mt (va_cwS (s_na r2) hts (s_GI (fun w hq => by
            rcases List.mem_append.mp hq with z | z
            · refine hw w ?_
              simp only [List.mem_cons, List.not_mem_nil, or_false] at z ⊢
              rcases z with z | z | z <;> simp [z]
            · rcases List.mem_cons.mp z with z | z
              · refine hw w ?_
                simp [z]
              · exact z)) rfl rfl rfl ⟨hy1, hy2, hd⟩ ⟨by show s_fr r2 + 1 ≤ _; omega, by show _ + _ + s_lo r2 ≤ _; omega⟩) ⟨s_blind NW _ h, hpre⟩ rfl (by rw [List.length_map]; exact hlt) hlsz hstk (lv_room hcat) hdg hfit
    | invokespecial k2 =>
      cases hci
      have hn3 : n = 3 := hln.resolve_left (Nat.succ_ne_zero _)
      subst hn3
      dsimp only at hk2 c4
      dsimp only [s_sd] at hsd
      dsimp only [s_wds, s_wc] at hw
      rw [hk2] at hsd hw
      dsimp only at hsd hw
      obtain ⟨a, as2, rfl⟩ := s_rc_2 (Or.inl c4)
      simp only [s_okc, Bool.and_eq_true, decide_eq_true_eq, Bool.or_eq_true, Bool.not_true, Bool.false_eq_true, false_or] at hsd
      obtain ⟨hna, ⟨⟨⟨⟨hf1, hf2⟩, hy1⟩, hy2⟩, hd⟩, hin1, hin2⟩ := hsd
      rw [hin2] at hw
      have Mt2 : Met l (s_y r2) (.code (s_y r2) (s_b r2) (s_mL r2) none :: s_TW big) (s_rm S r2 h o1.2) (s_Pc S G (.ref a :: as2) h) (s_Qc S G o1) (o1.2.2.2.length - h.2.2.length) (s_sz S o1.2.2.2 - s_sz S h.2.2) (s_A G) := by
        have := Mt
        unfold s_Meets s_wsl at this
        rw [hin2] at this
        exact this
      refine s_call (o := o1) (rest := rest) (a := ((Value.ref a :: as2).map (s_vc G)).toArray) ?_ hle hN2 hM2 hlen hS hL kk
      exact va_runI (b := s_ad G a) (As := as2.map (s_vc G)) (rest := rest.map (s_vc G)) (g := F0 m pc ls (st.map (s_vc G))) (Ts := s_TW big) (n := s_na r2 - 1) ⟨hx, hb, hml, hown, hts⟩ Mt2 (cwI (s_na r2 - 1) hts (s_GI (fun w z => by
          rcases List.mem_cons.mp z with z | z
          · refine hw w ?_
            simp [z]
          · exact z)) rfl rfl rfl (hts _ (hw _ (by simp))) (hts _ (hw _ (by simp))) (hts _ (hw _ (by simp))) hin1 ⟨hy1, hy2, hd⟩ ⟨by show s_fr r2 + 1 ≤ _; omega, by show _ + _ + s_lo r2 ≤ _; omega⟩) ⟨s_blind NW _ h, hpre⟩ rfl (by rw [List.length_map]; simp only [List.length_cons] at hlt; omega) hlsz (by show st.map (s_vc G) = _; rw [hstk]; simp [s_vc]) (lv_room hcat) hdg hfit
    | invokeinterface k2 z2 =>
      cases hci
      have hn3 : n = 3 := hln.resolve_left (Nat.succ_ne_zero _)
      subst hn3
      dsimp only at hk2 c4
      dsimp only [s_sd] at hsd
      dsimp only [s_wds, s_wc] at hw
      rw [hk2] at hsd hw
      dsimp only at hsd hw
      obtain ⟨a, as2, rfl⟩ := s_rc_2 (Or.inr c4)
      simp only [s_okc, Bool.and_eq_true, decide_eq_true_eq, Bool.or_eq_true, Bool.not_true, Bool.false_eq_true, false_or] at hsd
      obtain ⟨⟨hna, ⟨⟨⟨⟨hf1, hf2⟩, hy1⟩, hy2⟩, hd⟩, hin1, hin2⟩, hnw⟩ := hsd
      rw [hin2] at hw
      have Mt2 : Met l (s_y r2) (.code (s_y r2) (s_b r2) (s_mL r2) none :: s_TW big) (s_rm S r2 h o1.2) (s_Pc S G (.ref a :: as2) h) (s_Qc S G o1) (o1.2.2.2.length - h.2.2.length) (s_sz S o1.2.2.2 - s_sz S h.2.2) (s_A G) := by
        have := Mt
        unfold s_Meets s_wsl at this
        rw [hin2] at this
        exact this
      refine s_call (o := o1) (rest := rest) (a := ((Value.ref a :: as2).map (s_vc G)).toArray) ?_ hle hN2 hM2 hlen hS hL kk
      exact va_runIN (host := host) (b := s_ad G a) (As := as2.map (s_vc G)) (rest := rest.map (s_vc G)) (g := F0 m pc ls (st.map (s_vc G))) (Ts := s_TW big) (n := s_na r2 - 1) ⟨hx, hb, hml, hown, hts⟩ Mt2 ⟨va_cnB (s_na r2 - 1) hts (s_GI (fun w z => by
          rcases List.mem_cons.mp z with z | z
          · refine hw w ?_
            simp [z]
          · exact z)) rfl rfl rfl (hI.2.2.2.2 _ hnw) (hts _ (hw _ (by simp))) ⟨hy1, hy2, hd⟩ ⟨by show s_fr r2 + 1 ≤ _; omega, by show _ + _ + s_lo r2 ≤ _; omega⟩, hin1, hts _ (hw _ (by simp))⟩ ⟨s_blind NW _ h, hpre⟩ rfl (by rw [List.length_map]; simp only [List.length_cons] at hlt; omega) hlsz (by show st.map (s_vc G) = _; rw [hstk]; simp [s_vc]) (lv_room hcat) hdg hfit
    | _ => cases hci
  next hci =>
    split at hrun
    next v hrx =>
      cases hrun
      have hdg : decode (s_b r) ev.1 = .ok (ev.2.1, 1) := by
        unfold s_chk at hck
        simp only [Bool.and_eq_true, decide_eq_true_eq, Bool.or_eq_true] at hck
        obtain ⟨⟨⟨⟨⟨hdg, hln⟩, -⟩, -⟩, -⟩, -⟩ := hck
        obtain ⟨pc, i, n, idx, pl⟩ := ev
        dsimp only at hdg hln hrx ⊢
        unfold s_rx at hrx
        split at hrx <;> first
          | (cases hrx; done)
          | (have hn : n = 1 := hln.resolve_left (Nat.succ_ne_zero _)
             subst hn
             exact hdg)
      exact K ev.2.1 ev.1 L st hdg hrx
    next hrx =>
      split at hrun
      · cases hrun
      next q hx1 =>
      have hle2 := s_ext_le (S := S) (s_run_ext _ _ _ _ _ _ _ hrun)
      have hle := s_ext_le (S := S) (s_x_ext hx1)
      have kk := hB p e R s m args below meth c Q k r cn N0 M0 q.1 q.2.1 q.2.2.1 q.2.2.2 o hk C hrun hRf hRl hsz hN (Nat.le_trans hN2 hle.1) (Nat.le_trans hM2 hle.2) hroom K
      exact s_one C SK SD hck hRf hRl hsz hN hN2 hM2 ⟨by omega, by omega⟩ hx1 kk
/-- THE SMALL MACHINE IS RIGHT -/
theorem s_body (FX : s_Fix S MT big host) : ∀ f : Nat, s_BodyAt S G MT big l f
  | 0 => fun p e R s m args below meth c Q k r cn N0 M0 pc L st h o hk C hrun => by cases hrun
  | f + 1 => s_body_succ FX (s_met_of_body FX (s_body FX f)) (s_body FX f)
end BDS
end
section
/-! THE METHODS, printed by wip/p25/gen/tabs.py: pc, instruction with its links resolved, length, pool index, places of its words in lw_tbl -/
def s_S : s_SG := (s_vw, s_tyf, s_rkl, s_snf, 3, s_nwl)
/-- LeaningTrees$History.<init>()V -/
def s_m0 : sM := (yX0_init, cX0_init, 2, none, 1, 3, 68, [(0, .aload_n 0, 1, 0, []), (1, .monitorenter, 3, 3, [103, 28, 29]), (4, .aload_n 0, 1, 0, []), (5, .bipush 6, 2, 0, []), (7, .anewarray 5, 3, 9, [104]), (10, .putfield 2, 3, 11, [107]), (13, .iconst 0, 1, 0, []), (14, .istore_n 1, 1, 0, []), (15, .iload_n 1, 1, 0, []), (16, .aload_n 0, 1, 0, []), (17, .getfield 2, 3, 11, [107]), (20, .arraylength, 1, 0, []), (21, .if_icmp .ge 43, 3, 0, []), (24, .aload_n 0, 1, 0, []), (25, .getfield 2, 3, 11, [107]), (28, .iload_n 1, 1, 0, []), (29, .new 5, 3, 9, [104, 31, 14]), (32, .dup, 1, 0, []), (33, .invokespecial 28, 3, 17, [106, 33, 14, 34]), (36, .aastore, 1, 0, []), (37, .iinc 1 1, 3, 0, []), (40, .goto 15, 3, 0, []), (43, .return_, 1, 0, [])])
/-- LeaningTrees$History.keep(LLeaningTrees$Tree;)V -/
def s_m1 : sM := (yX0_keep, cX0_keep, 3, none, 2, 3, 68, [(0, .aload_n 0, 1, 0, []), (1, .getfield 8, 3, 18, [108]), (4, .aload_n 0, 1, 0, []), (5, .getfield 2, 3, 11, [107]), (8, .arraylength, 1, 0, []), (9, .if_icmp .lt 16, 3, 0, []), (12, .aload_n 0, 1, 0, []), (13, .invokevirtual 3, 3, 22, [201, 203, 0, 16, 204]), (16, .aload_n 0, 1, 0, []), (17, .aload_n 0, 1, 0, []), (18, .getfield 8, 3, 18, [108]), (21, .invokevirtual 4, 3, 25, [205, 207, 1, 16, 208]), (24, .astore_n 2, 1, 0, []), (25, .aload_n 2, 1, 0, []), (26, .ifnull 44, 3, 0, []), (29, .aload_n 2, 1, 0, []), (30, .aload_n 1, 1, 0, []), (31, .invokevirtual 29, 3, 29, [209, 210, 211, 14, 212]), (34, .aload_n 0, 1, 0, []), (35, .dup, 1, 0, []), (36, .getfield 8, 3, 18, [108]), (39, .iconst 1, 1, 0, []), (40, .iadd, 1, 0, []), (41, .putfield 8, 3, 18, [108]), (44, .return_, 1, 0, [])])
/-- LeaningTrees$History.takeBackInto(LLeaningTrees$Tree;)Z -/
def s_m2 : sM := (yX0_takeBackInto, cX0_takeBackInto, 3, (some .boolean), 2, 3, 68, [(0, .aload_n 0, 1, 0, []), (1, .aload_n 0, 1, 0, []), (2, .getfield 8, 3, 18, [108]), (5, .iconst 1, 1, 0, []), (6, .isub, 1, 0, []), (7, .invokevirtual 4, 3, 25, [205, 207, 1, 16, 208]), (10, .astore_n 2, 1, 0, []), (11, .aload_n 2, 1, 0, []), (12, .ifnonnull 17, 3, 0, []), (15, .iconst 0, 1, 0, []), (16, .ireturn, 1, 0, []), (17, .aload_n 1, 1, 0, []), (18, .aload_n 2, 1, 0, []), (19, .invokevirtual 29, 3, 29, [209, 210, 211, 14, 212]), (22, .aload_n 0, 1, 0, []), (23, .dup, 1, 0, []), (24, .getfield 8, 3, 18, [108]), (27, .iconst 1, 1, 0, []), (28, .isub, 1, 0, []), (29, .putfield 8, 3, 18, [108]), (32, .iconst 1, 1, 0, []), (33, .ireturn, 1, 0, [])])
/-- LeaningTrees$History.turn()V -/
def s_m3 : sM := (yX0_turn, cX0_turn, 3, none, 1, 1, 21, [(0, .aload_n 0, 1, 0, []), (1, .iconst 0, 1, 0, []), (2, .invokevirtual 4, 3, 25, [205, 207, 1, 16, 208]), (5, .astore_n 1, 1, 0, []), (6, .iconst 1, 1, 0, []), (7, .istore_n 2, 1, 0, []), (8, .iload_n 2, 1, 0, []), (9, .aload_n 0, 1, 0, []), (10, .getfield 2, 3, 11, [107]), (13, .arraylength, 1, 0, []), (14, .if_icmp .ge 37, 3, 0, []), (17, .aload_n 0, 1, 0, []), (18, .getfield 2, 3, 11, [107]), (21, .iload_n 2, 1, 0, []), (22, .iconst 1, 1, 0, []), (23, .isub, 1, 0, []), (24, .aload_n 0, 1, 0, []), (25, .getfield 2, 3, 11, [107]), (28, .iload_n 2, 1, 0, []), (29, .aaload, 1, 0, []), (30, .aastore, 1, 0, []), (31, .iinc 2 1, 3, 0, []), (34, .goto 8, 3, 0, []), (37, .aload_n 0, 1, 0, []), (38, .aload_n 0, 1, 0, []), (39, .getfield 2, 3, 11, [107]), (42, .arraylength, 1, 0, []), (43, .iconst 1, 1, 0, []), (44, .isub, 1, 0, []), (45, .putfield 8, 3, 18, [108]), (48, .aload_n 0, 1, 0, []), (49, .getfield 8, 3, 18, [108]), (52, .ifCond .lt 65, 3, 0, []), (55, .aload_n 0, 1, 0, []), (56, .getfield 2, 3, 11, [107]), (59, .aload_n 0, 1, 0, []), (60, .getfield 8, 3, 18, [108]), (63, .aload_n 1, 1, 0, []), (64, .aastore, 1, 0, []), (65, .return_, 1, 0, [])])
/-- LeaningTrees$History.stateAt(I)LLeaningTrees$Tree; -/
def s_m4 : sM := (yX0_stateAt, cX0_stateAt, 2, (some (.object "LeaningTrees$Tree")), 2, 0, 0, [(0, .iload_n 1, 1, 0, []), (1, .ifCond .lt 22, 3, 0, []), (4, .iload_n 1, 1, 0, []), (5, .aload_n 0, 1, 0, []), (6, .getfield 2, 3, 11, [107]), (9, .arraylength, 1, 0, []), (10, .if_icmp .ge 22, 3, 0, []), (13, .aload_n 0, 1, 0, []), (14, .getfield 2, 3, 11, [107]), (17, .iload_n 1, 1, 0, []), (18, .aaload, 1, 0, []), (19, .goto 23, 3, 0, []), (22, .aconst_null, 1, 0, []), (23, .areturn, 1, 0, [])])
/-- LeaningTrees$OrderReader.<init>()V -/
def s_m5 : sM := (yX1_init, cX1_init, 1, none, 1, 1, 26, [(0, .aload_n 0, 1, 0, []), (1, .monitorenter, 3, 3, [137, 28, 29]), (4, .return_, 1, 0, [])])
/-- LeaningTrees$Pad.<init>()V -/
def s_m17 : sM := (yX2_init, cX2_init, 1, none, 1, 2, 47, [(0, .aload_n 0, 1, 0, []), (1, .monitorenter, 3, 3, [122, 28, 29]), (4, .aload_n 0, 1, 0, []), (5, .new 3, 3, 9, [123, 37, 15]), (8, .dup, 1, 0, []), (9, .bipush 80, 2, 0, []), (11, .invokespecial 21, 3, 11, [124, 41, 15, 42]), (14, .putfield 2050, 3, 14, [125]), (17, .return_, 1, 0, [])])
/-- LeaningTrees$Row.<init>(I)V -/
def s_m21 : sM := (yX3_init, cX3_init, 2, none, 2, 1, 26, [(0, .aload_n 0, 1, 0, []), (1, .monitorenter, 3, 1, [43, 28, 29]), (4, .aload_n 0, 1, 0, []), (5, .iload_n 1, 1, 0, []), (6, .ifCond .ge 13, 3, 0, []), (9, .iconst 0, 1, 0, []), (10, .goto 14, 3, 0, []), (13, .iload_n 1, 1, 0, []), (14, .newarray .int, 2, 0, [48]), (16, .putfield 3074, 3, 7, [44]), (19, .return_, 1, 0, [])])
/-- LeaningTrees$Row.at(I)I -/
def s_m22 : sM := (yX3_at, cX3_at, 2, (some .int), 2, 0, 0, [(0, .iload_n 1, 1, 0, []), (1, .ifCond .lt 22, 3, 0, []), (4, .iload_n 1, 1, 0, []), (5, .aload_n 0, 1, 0, []), (6, .getfield 3074, 3, 7, [44]), (9, .arraylength, 1, 0, []), (10, .if_icmp .ge 22, 3, 0, []), (13, .aload_n 0, 1, 0, []), (14, .getfield 3074, 3, 7, [44]), (17, .iload_n 1, 1, 0, []), (18, .iaload, 1, 0, []), (19, .goto 23, 3, 0, []), (22, .iconst 0, 1, 0, []), (23, .ireturn, 1, 0, [])])
/-- LeaningTrees$Row.write(II)V -/
def s_m23 : sM := (yX3_write, cX3_write, 3, none, 3, 0, 0, [(0, .iload_n 1, 1, 0, []), (1, .ifCond .lt 20, 3, 0, []), (4, .iload_n 1, 1, 0, []), (5, .aload_n 0, 1, 0, []), (6, .getfield 3074, 3, 7, [44]), (9, .arraylength, 1, 0, []), (10, .if_icmp .ge 20, 3, 0, []), (13, .aload_n 0, 1, 0, []), (14, .getfield 3074, 3, 7, [44]), (17, .iload_n 1, 1, 0, []), (18, .iload_n 2, 1, 0, []), (19, .iastore, 1, 0, []), (20, .return_, 1, 0, [])])
/-- LeaningTrees$Row.become(LLeaningTrees$Row;)V -/
def s_m24 : sM := (yX3_become, cX3_become, 2, none, 2, 1, 26, [(0, .aload_n 1, 1, 0, []), (1, .getfield 3074, 3, 7, [44]), (4, .iconst 0, 1, 0, []), (5, .aload_n 0, 1, 0, []), (6, .getfield 3074, 3, 7, [44]), (9, .iconst 0, 1, 0, []), (10, .aload_n 0, 1, 0, []), (11, .getfield 3074, 3, 7, [44]), (14, .arraylength, 1, 0, []), (15, .aload_n 1, 1, 0, []), (16, .getfield 3074, 3, 7, [44]), (19, .arraylength, 1, 0, []), (20, .jsr_w 0, 3, 13, [217, 218, 20, 219]), (23, .monitorexit, 3, 19, [220, 222, 221, 21]), (26, .return_, 1, 0, [])])
/-- LeaningTrees$Row.total(II)I -/
def s_m25 : sM := (yX3_total, cX3_total, 5, (some .int), 3, 1, 21, [(0, .iconst 0, 1, 0, []), (1, .istore_n 3, 1, 0, []), (2, .iload_n 1, 1, 0, []), (3, .istore 4, 2, 0, []), (5, .iload 4, 2, 0, []), (7, .iload_n 2, 1, 0, []), (8, .if_icmp .gt 36, 3, 0, []), (11, .iload 4, 2, 0, []), (13, .aload_n 0, 1, 0, []), (14, .getfield 3074, 3, 7, [44]), (17, .arraylength, 1, 0, []), (18, .if_icmp .ge 36, 3, 0, []), (21, .iload_n 3, 1, 0, []), (22, .aload_n 0, 1, 0, []), (23, .iload 4, 2, 0, []), (25, .invokevirtual 22, 3, 25, [244, 194, 195, 15, 196]), (28, .iadd, 1, 0, []), (29, .istore_n 3, 1, 0, []), (30, .iinc 4 1, 3, 0, []), (33, .goto 5, 3, 0, []), (36, .iload_n 3, 1, 0, []), (37, .ireturn, 1, 0, [])])
/-- LeaningTrees$Row.greatest(II)I -/
def s_m26 : sM := (yX3_greatest, cX3_greatest, 5, (some .int), 3, 1, 26, [(0, .aload_n 0, 1, 0, []), (1, .iload_n 1, 1, 0, []), (2, .invokevirtual 22, 3, 25, [244, 194, 195, 15, 196]), (5, .istore_n 3, 1, 0, []), (6, .iload_n 1, 1, 0, []), (7, .istore 4, 2, 0, []), (9, .iload 4, 2, 0, []), (11, .iload_n 2, 1, 0, []), (12, .if_icmp .gt 42, 3, 0, []), (15, .iload 4, 2, 0, []), (17, .aload_n 0, 1, 0, []), (18, .getfield 3074, 3, 7, [44]), (21, .arraylength, 1, 0, []), (22, .if_icmp .ge 42, 3, 0, []), (25, .iload_n 3, 1, 0, []), (26, .aload_n 0, 1, 0, []), (27, .iload 4, 2, 0, []), (29, .invokevirtual 22, 3, 25, [244, 194, 195, 15, 196]), (32, .jsr 0, 3, 29, [292, 250, 20, 251]), (35, .istore_n 3, 1, 0, []), (36, .iinc 4 1, 3, 0, []), (39, .goto 9, 3, 0, []), (42, .iload_n 3, 1, 0, []), (43, .ireturn, 1, 0, [])])
/-- LeaningTrees$Slot.<init>()V -/
def s_m27 : sM := (yX4_init, cX4_init, 1, none, 1, 3, 68, [(0, .aload_n 0, 1, 0, []), (1, .monitorenter, 3, 1, [153, 28, 29]), (4, .aload_n 0, 1, 0, []), (5, .new 5, 3, 7, [154, 31, 14]), (8, .dup, 1, 0, []), (9, .invokespecial 28, 3, 9, [155, 33, 14, 34]), (12, .putfield 4098, 3, 10, [156]), (15, .return_, 1, 0, [])])
/-- LeaningTrees$Tree.<init>()V -/
def s_m28 : sM := (yX5_init, cX5_init, 2, none, 1, 2, 47, [(0, .aload_n 0, 1, 0, []), (1, .monitorenter, 3, 3, [35, 28, 29]), (4, .aload_n 0, 1, 0, []), (5, .new 3, 3, 9, [36, 37, 15]), (8, .dup, 1, 0, []), (9, .instanceof 0, 3, 11, []), (12, .arraylength, 1, 0, []), (13, .invokespecial 21, 3, 15, [40, 41, 15, 42]), (16, .putfield 5122, 3, 18, [53]), (19, .aload_n 0, 1, 0, []), (20, .new 3, 3, 9, [36, 37, 15]), (23, .dup, 1, 0, []), (24, .bipush 60, 2, 0, []), (26, .invokespecial 21, 3, 15, [40, 41, 15, 42]), (29, .putfield 5130, 3, 24, [55]), (32, .aload_n 0, 1, 0, []), (33, .new 3, 3, 9, [36, 37, 15]), (36, .dup, 1, 0, []), (37, .bipush 60, 2, 0, []), (39, .invokespecial 21, 3, 15, [40, 41, 15, 42]), (42, .putfield 5138, 3, 27, [57]), (45, .aload_n 0, 1, 0, []), (46, .new 3, 3, 9, [36, 37, 15]), (49, .dup, 1, 0, []), (50, .bipush 60, 2, 0, []), (52, .invokespecial 21, 3, 15, [40, 41, 15, 42]), (55, .putfield 5146, 3, 30, [59]), (58, .aload_n 0, 1, 0, []), (59, .new 3, 3, 9, [36, 37, 15]), (62, .dup, 1, 0, []), (63, .bipush 60, 2, 0, []), (65, .invokespecial 21, 3, 15, [40, 41, 15, 42]), (68, .putfield 5154, 3, 33, [61]), (71, .aload_n 0, 1, 0, []), (72, .new 3, 3, 9, [36, 37, 15]), (75, .dup, 1, 0, []), (76, .bipush 60, 2, 0, []), (78, .invokespecial 21, 3, 15, [40, 41, 15, 42]), (81, .putfield 5162, 3, 36, [63]), (84, .iconst 0, 1, 0, []), (85, .istore_n 1, 1, 0, []), (86, .iload_n 1, 1, 0, []), (87, .instanceof 0, 3, 11, []), (90, .arraylength, 1, 0, []), (91, .if_icmp .ge 113, 3, 0, []), (94, .aload_n 0, 1, 0, []), (95, .getfield 5122, 3, 18, [53]), (98, .iload_n 1, 1, 0, []), (99, .instanceof 0, 3, 11, []), (102, .iload_n 1, 1, 0, []), (103, .iaload, 1, 0, []), (104, .invokevirtual 23, 3, 39, [49, 50, 51, 15, 52]), (107, .iinc 1 1, 3, 0, []), (110, .goto 86, 3, 0, []), (113, .return_, 1, 0, [])])
/-- LeaningTrees$Tree.become(LLeaningTrees$Tree;)V -/
def s_m29 : sM := (yX5_become, cX5_become, 2, none, 2, 2, 47, [(0, .aload_n 0, 1, 0, []), (1, .getfield 5122, 3, 18, [53]), (4, .aload_n 1, 1, 0, []), (5, .getfield 5122, 3, 18, [53]), (8, .invokevirtual 24, 3, 43, [213, 214, 215, 15, 216]), (11, .aload_n 0, 1, 0, []), (12, .getfield 5130, 3, 24, [55]), (15, .aload_n 1, 1, 0, []), (16, .getfield 5130, 3, 24, [55]), (19, .invokevirtual 24, 3, 43, [213, 214, 215, 15, 216]), (22, .aload_n 0, 1, 0, []), (23, .getfield 5138, 3, 27, [57]), (26, .aload_n 1, 1, 0, []), (27, .getfield 5138, 3, 27, [57]), (30, .invokevirtual 24, 3, 43, [213, 214, 215, 15, 216]), (33, .aload_n 0, 1, 0, []), (34, .getfield 5146, 3, 30, [59]), (37, .aload_n 1, 1, 0, []), (38, .getfield 5146, 3, 30, [59]), (41, .invokevirtual 24, 3, 43, [213, 214, 215, 15, 216]), (44, .aload_n 0, 1, 0, []), (45, .getfield 5154, 3, 33, [61]), (48, .aload_n 1, 1, 0, []), (49, .getfield 5154, 3, 33, [61]), (52, .invokevirtual 24, 3, 43, [213, 214, 215, 15, 216]), (55, .aload_n 0, 1, 0, []), (56, .getfield 5162, 3, 36, [63]), (59, .aload_n 1, 1, 0, []), (60, .getfield 5162, 3, 36, [63]), (63, .invokevirtual 24, 3, 43, [213, 214, 215, 15, 216]), (66, .aload_n 0, 1, 0, []), (67, .aload_n 1, 1, 0, []), (68, .getfield 5168, 3, 47, [65]), (71, .putfield 5168, 3, 47, [65]), (74, .aload_n 0, 1, 0, []), (75, .aload_n 1, 1, 0, []), (76, .getfield 5176, 3, 51, [67]), (79, .putfield 5176, 3, 51, [67]), (82, .aload_n 0, 1, 0, []), (83, .aload_n 1, 1, 0, []), (84, .getfield 5184, 3, 54, [69]), (87, .putfield 5184, 3, 54, [69]), (90, .aload_n 0, 1, 0, []), (91, .aload_n 1, 1, 0, []), (92, .getfield 5192, 3, 57, [71]), (95, .putfield 5192, 3, 57, [71]), (98, .aload_n 0, 1, 0, []), (99, .aload_n 1, 1, 0, []), (100, .getfield 5200, 3, 60, [73]), (103, .putfield 5200, 3, 60, [73]), (106, .return_, 1, 0, [])])
/-- LeaningTrees$Tree.placeOf(I)I -/
def s_m30 : sM := (yX5_placeOf, cX5_placeOf, 3, (some .int), 2, 1, 21, [(0, .iconst 0, 1, 0, []), (1, .istore_n 2, 1, 0, []), (2, .iload_n 2, 1, 0, []), (3, .aload_n 0, 1, 0, []), (4, .getfield 5168, 3, 47, [65]), (7, .if_icmp .ge 28, 3, 0, []), (10, .aload_n 0, 1, 0, []), (11, .getfield 5130, 3, 24, [55]), (14, .iload_n 2, 1, 0, []), (15, .invokevirtual 22, 3, 63, [193, 194, 195, 15, 196]), (18, .iload_n 1, 1, 0, []), (19, .if_icmp .ge 28, 3, 0, []), (22, .iinc 2 1, 3, 0, []), (25, .goto 2, 3, 0, []), (28, .iload_n 2, 1, 0, []), (29, .ireturn, 1, 0, [])])
/-- LeaningTrees$Tree.nodeOf(I)I -/
def s_m31 : sM := (yX5_nodeOf, cX5_nodeOf, 3, (some .int), 2, 2, 43, [(0, .aload_n 0, 1, 0, []), (1, .iload_n 1, 1, 0, []), (2, .invokevirtual 30, 3, 67, [189, 190, 191, 14, 192]), (5, .istore_n 2, 1, 0, []), (6, .iload_n 2, 1, 0, []), (7, .aload_n 0, 1, 0, []), (8, .getfield 5168, 3, 47, [65]), (11, .if_icmp .ge 30, 3, 0, []), (14, .aload_n 0, 1, 0, []), (15, .getfield 5130, 3, 24, [55]), (18, .iload_n 2, 1, 0, []), (19, .invokevirtual 22, 3, 63, [193, 194, 195, 15, 196]), (22, .iload_n 1, 1, 0, []), (23, .if_icmp .ne 30, 3, 0, []), (26, .iload_n 2, 1, 0, []), (27, .goto 32, 3, 0, []), (30, .bipush (-6), 2, 0, []), (32, .ireturn, 1, 0, [])])
/-- LeaningTrees$Tree.fullNodeOf(I)I -/
def s_m32 : sM := (yX5_fullNodeOf, cX5_fullNodeOf, 3, (some .int), 2, 3, 65, [(0, .aload_n 0, 1, 0, []), (1, .iload_n 1, 1, 0, []), (2, .invokevirtual 31, 3, 70, [227, 186, 187, 14, 188]), (5, .istore_n 2, 1, 0, []), (6, .iload_n 2, 1, 0, []), (7, .bipush (-6), 2, 0, []), (9, .if_icmp .eq 24, 3, 0, []), (12, .aload_n 0, 1, 0, []), (13, .iload_n 2, 1, 0, []), (14, .invokevirtual 33, 3, 73, [256, 257, 258, 14, 259]), (17, .ifCond .eq 24, 3, 0, []), (20, .iload_n 2, 1, 0, []), (21, .goto 26, 3, 0, []), (24, .bipush (-6), 2, 0, []), (26, .ireturn, 1, 0, [])])
/-- LeaningTrees$Tree.isFull(I)Z -/
def s_m33 : sM := (yX5_isFull, cX5_isFull, 2, (some .boolean), 2, 1, 21, [(0, .aload_n 0, 1, 0, []), (1, .getfield 5162, 3, 36, [63]), (4, .iload_n 1, 1, 0, []), (5, .invokevirtual 22, 3, 63, [193, 194, 195, 15, 196]), (8, .iconst 1, 1, 0, []), (9, .if_icmp .ne 16, 3, 0, []), (12, .iconst 1, 1, 0, []), (13, .goto 17, 3, 0, []), (16, .iconst 0, 1, 0, []), (17, .ireturn, 1, 0, [])])
/-- LeaningTrees$Tree.allKeys()I -/
def s_m34 : sM := (yX5_allKeys, cX5_allKeys, 1, (some .int), 1, 2, 45, [(0, .aload_n 0, 1, 0, []), (1, .getfield 5162, 3, 36, [63]), (4, .iconst 0, 1, 0, []), (5, .aload_n 0, 1, 0, []), (6, .getfield 5168, 3, 47, [65]), (9, .iconst 1, 1, 0, []), (10, .isub, 1, 0, []), (11, .invokevirtual 25, 3, 77, [240, 241, 242, 15, 243]), (14, .ireturn, 1, 0, [])])
/-- LeaningTrees$Tree.keysAhead(I)I -/
def s_m35 : sM := (yX5_keysAhead, cX5_keysAhead, 2, (some .int), 2, 2, 45, [(0, .aload_n 0, 1, 0, []), (1, .getfield 5162, 3, 36, [63]), (4, .iconst 0, 1, 0, []), (5, .aload_n 0, 1, 0, []), (6, .iload_n 1, 1, 0, []), (7, .invokevirtual 30, 3, 67, [189, 190, 191, 14, 192]), (10, .iconst 1, 1, 0, []), (11, .isub, 1, 0, []), (12, .invokevirtual 25, 3, 77, [240, 241, 242, 15, 243]), (15, .ireturn, 1, 0, [])])
/-- LeaningTrees$Tree.placeOfKth(I)I -/
def s_m36 : sM := (yX5_placeOfKth, cX5_placeOfKth, 4, (some .int), 2, 2, 42, [(0, .iconst 0, 1, 0, []), (1, .istore_n 2, 1, 0, []), (2, .iconst 0, 1, 0, []), (3, .istore_n 3, 1, 0, []), (4, .iload_n 3, 1, 0, []), (5, .aload_n 0, 1, 0, []), (6, .getfield 5168, 3, 47, [65]), (9, .if_icmp .ge 36, 3, 0, []), (12, .aload_n 0, 1, 0, []), (13, .iload_n 3, 1, 0, []), (14, .invokevirtual 33, 3, 73, [256, 257, 258, 14, 259]), (17, .ifCond .eq 30, 3, 0, []), (20, .iload_n 2, 1, 0, []), (21, .iload_n 1, 1, 0, []), (22, .if_icmp .ne 27, 3, 0, []), (25, .iload_n 3, 1, 0, []), (26, .ireturn, 1, 0, []), (27, .iinc 2 1, 3, 0, []), (30, .iinc 3 1, 3, 0, []), (33, .goto 4, 3, 0, []), (36, .bipush (-6), 2, 0, []), (38, .ireturn, 1, 0, [])])
/-- LeaningTrees$Tree.lowestOf(I)I -/
def s_m37 : sM := (yX5_lowestOf, cX5_lowestOf, 3, (some .int), 2, 1, 21, [(0, .iload_n 1, 1, 0, []), (1, .istore_n 2, 1, 0, []), (2, .iload_n 2, 1, 0, []), (3, .ifCond .le 33, 3, 0, []), (6, .aload_n 0, 1, 0, []), (7, .getfield 5154, 3, 33, [61]), (10, .iload_n 2, 1, 0, []), (11, .iconst 1, 1, 0, []), (12, .isub, 1, 0, []), (13, .invokevirtual 22, 3, 63, [193, 194, 195, 15, 196]), (16, .aload_n 0, 1, 0, []), (17, .getfield 5154, 3, 33, [61]), (20, .iload_n 1, 1, 0, []), (21, .invokevirtual 22, 3, 63, [193, 194, 195, 15, 196]), (24, .if_icmp .le 33, 3, 0, []), (27, .iinc 2 (-1), 3, 0, []), (30, .goto 2, 3, 0, []), (33, .iload_n 2, 1, 0, []), (34, .ireturn, 1, 0, [])])
/-- LeaningTrees$Tree.highestOf(I)I -/
def s_m38 : sM := (yX5_highestOf, cX5_highestOf, 3, (some .int), 2, 1, 21, [(0, .iload_n 1, 1, 0, []), (1, .istore_n 2, 1, 0, []), (2, .iload_n 2, 1, 0, []), (3, .aload_n 0, 1, 0, []), (4, .getfield 5168, 3, 47, [65]), (7, .iconst 1, 1, 0, []), (8, .isub, 1, 0, []), (9, .if_icmp .ge 39, 3, 0, []), (12, .aload_n 0, 1, 0, []), (13, .getfield 5154, 3, 33, [61]), (16, .iload_n 2, 1, 0, []), (17, .iconst 1, 1, 0, []), (18, .iadd, 1, 0, []), (19, .invokevirtual 22, 3, 63, [193, 194, 195, 15, 196]), (22, .aload_n 0, 1, 0, []), (23, .getfield 5154, 3, 33, [61]), (26, .iload_n 1, 1, 0, []), (27, .invokevirtual 22, 3, 63, [193, 194, 195, 15, 196]), (30, .if_icmp .le 39, 3, 0, []), (33, .iinc 2 1, 3, 0, []), (36, .goto 2, 3, 0, []), (39, .iload_n 2, 1, 0, []), (40, .ireturn, 1, 0, [])])
/-- LeaningTrees$Tree.topBetween(III)I -/
def s_m39 : sM := (yX5_topBetween, cX5_topBetween, 5, (some .int), 4, 1, 21, [(0, .iload_n 1, 1, 0, []), (1, .istore 4, 2, 0, []), (3, .iload 4, 2, 0, []), (5, .iload_n 2, 1, 0, []), (6, .if_icmp .ge 28, 3, 0, []), (9, .aload_n 0, 1, 0, []), (10, .getfield 5154, 3, 33, [61]), (13, .iload 4, 2, 0, []), (15, .invokevirtual 22, 3, 63, [193, 194, 195, 15, 196]), (18, .iload_n 3, 1, 0, []), (19, .if_icmp .eq 28, 3, 0, []), (22, .iinc 4 1, 3, 0, []), (25, .goto 3, 3, 0, []), (28, .iload 4, 2, 0, []), (30, .ireturn, 1, 0, [])])
/-- LeaningTrees$Tree.isTooHeavy(II)Z -/
def s_m40 : sM := (yX5_isTooHeavy, cX5_isTooHeavy, 3, (some .boolean), 3, 1, 26, [(0, .bipush 100, 2, 0, []), (2, .iload_n 1, 1, 0, []), (3, .iload_n 2, 1, 0, []), (4, .jsr 0, 3, 81, [249, 250, 20, 251]), (7, .imul, 1, 0, []), (8, .aload_n 0, 1, 0, []), (9, .getfield 5122, 3, 18, [53]), (12, .iconst 0, 1, 0, []), (13, .invokevirtual 22, 3, 63, [193, 194, 195, 15, 196]), (16, .iload_n 1, 1, 0, []), (17, .iload_n 2, 1, 0, []), (18, .iadd, 1, 0, []), (19, .iconst 1, 1, 0, []), (20, .iadd, 1, 0, []), (21, .imul, 1, 0, []), (22, .if_icmp .le 29, 3, 0, []), (25, .iconst 1, 1, 0, []), (26, .goto 30, 3, 0, []), (29, .iconst 0, 1, 0, []), (30, .ireturn, 1, 0, [])])
/-- LeaningTrees$Tree.leans(I)Z -/
def s_m41 : sM := (yX5_leans, cX5_leans, 2, (some .boolean), 2, 2, 48, [(0, .aload_n 0, 1, 0, []), (1, .iload_n 1, 1, 0, []), (2, .aload_n 0, 1, 0, []), (3, .iload_n 1, 1, 0, []), (4, .invokevirtual 37, 3, 86, [232, 233, 234, 14, 235]), (7, .isub, 1, 0, []), (8, .aload_n 0, 1, 0, []), (9, .iload_n 1, 1, 0, []), (10, .invokevirtual 38, 3, 89, [236, 237, 238, 14, 239]), (13, .iload_n 1, 1, 0, []), (14, .isub, 1, 0, []), (15, .invokevirtual 40, 3, 92, [307, 308, 309, 14, 310]), (18, .ireturn, 1, 0, [])])
/-- LeaningTrees$Tree.leaningNodes()I -/
def s_m42 : sM := (yX5_leaningNodes, cX5_leaningNodes, 3, (some .int), 1, 3, 69, [(0, .iconst 0, 1, 0, []), (1, .istore_n 1, 1, 0, []), (2, .iconst 0, 1, 0, []), (3, .istore_n 2, 1, 0, []), (4, .iload_n 2, 1, 0, []), (5, .aload_n 0, 1, 0, []), (6, .getfield 5168, 3, 47, [65]), (9, .if_icmp .ge 34, 3, 0, []), (12, .iload_n 1, 1, 0, []), (13, .aload_n 0, 1, 0, []), (14, .iload_n 2, 1, 0, []), (15, .invokevirtual 41, 3, 96, [303, 304, 305, 14, 306]), (18, .ifCond .eq 25, 3, 0, []), (21, .iconst 1, 1, 0, []), (22, .goto 26, 3, 0, []), (25, .iconst 0, 1, 0, []), (26, .iadd, 1, 0, []), (27, .istore_n 1, 1, 0, []), (28, .iinc 2 1, 3, 0, []), (31, .goto 4, 3, 0, []), (34, .iload_n 1, 1, 0, []), (35, .ireturn, 1, 0, [])])
/-- LeaningTrees$Tree.wouldLeanWithNewAt(I)I -/
def s_m43 : sM := (yX5_wouldLeanWithNewAt, cX5_wouldLeanWithNewAt, 8, (some .int), 2, 2, 48, [(0, .iconst 0, 1, 0, []), (1, .istore_n 2, 1, 0, []), (2, .aload_n 0, 1, 0, []), (3, .getfield 5168, 3, 47, [65]), (6, .iconst 1, 1, 0, []), (7, .isub, 1, 0, []), (8, .istore_n 3, 1, 0, []), (9, .iconst 0, 1, 0, []), (10, .istore 4, 2, 0, []), (12, .iload 4, 2, 0, []), (14, .bipush 60, 2, 0, []), (16, .if_icmp .ge 91, 3, 0, []), (19, .iload_n 2, 1, 0, []), (20, .iload_n 3, 1, 0, []), (21, .if_icmp .gt 91, 3, 0, []), (24, .aload_n 0, 1, 0, []), (25, .iload_n 2, 1, 0, []), (26, .iload_n 3, 1, 0, []), (27, .iload 4, 2, 0, []), (29, .invokevirtual 39, 3, 99, [358, 284, 285, 14, 286]), (32, .istore 5, 2, 0, []), (34, .iload 5, 2, 0, []), (36, .iload_n 2, 1, 0, []), (37, .isub, 1, 0, []), (38, .istore 6, 2, 0, []), (40, .iload_n 3, 1, 0, []), (41, .iload 5, 2, 0, []), (43, .isub, 1, 0, []), (44, .istore 7, 2, 0, []), (46, .iload_n 1, 1, 0, []), (47, .iload 5, 2, 0, []), (49, .if_icmp .gt 63, 3, 0, []), (52, .iinc 6 1, 3, 0, []), (55, .iload 5, 2, 0, []), (57, .iconst 1, 1, 0, []), (58, .isub, 1, 0, []), (59, .istore_n 3, 1, 0, []), (60, .goto 71, 3, 0, []), (63, .iinc 7 1, 3, 0, []), (66, .iload 5, 2, 0, []), (68, .iconst 1, 1, 0, []), (69, .iadd, 1, 0, []), (70, .istore_n 2, 1, 0, []), (71, .aload_n 0, 1, 0, []), (72, .iload 6, 2, 0, []), (74, .iload 7, 2, 0, []), (76, .invokevirtual 40, 3, 92, [307, 308, 309, 14, 310]), (79, .ifCond .eq 85, 3, 0, []), (82, .iload 5, 2, 0, []), (84, .ireturn, 1, 0, []), (85, .iinc 4 1, 3, 0, []), (88, .goto 12, 3, 0, []), (91, .bipush (-6), 2, 0, []), (93, .ireturn, 1, 0, [])])
/-- LeaningTrees$Tree.costOf(I)I -/
def s_m44 : sM := (yX5_costOf, cX5_costOf, 3, (some .int), 2, 3, 75, [(0, .aload_n 0, 1, 0, []), (1, .iload_n 1, 1, 0, []), (2, .invokevirtual 31, 3, 70, [227, 186, 187, 14, 188]), (5, .bipush (-6), 2, 0, []), (7, .if_icmp .eq 12, 3, 0, []), (10, .iconst 0, 1, 0, []), (11, .ireturn, 1, 0, []), (12, .aload_n 0, 1, 0, []), (13, .aload_n 0, 1, 0, []), (14, .iload_n 1, 1, 0, []), (15, .invokevirtual 30, 3, 67, [189, 190, 191, 14, 192]), (18, .invokevirtual 43, 3, 103, [354, 355, 356, 14, 357]), (21, .istore_n 2, 1, 0, []), (22, .iload_n 2, 1, 0, []), (23, .bipush (-6), 2, 0, []), (25, .if_icmp .ne 32, 3, 0, []), (28, .iconst 0, 1, 0, []), (29, .goto 45, 3, 0, []), (32, .aload_n 0, 1, 0, []), (33, .iload_n 2, 1, 0, []), (34, .invokevirtual 38, 3, 89, [236, 237, 238, 14, 239]), (37, .aload_n 0, 1, 0, []), (38, .iload_n 2, 1, 0, []), (39, .invokevirtual 37, 3, 86, [232, 233, 234, 14, 235]), (42, .isub, 1, 0, []), (43, .iconst 2, 1, 0, []), (44, .iadd, 1, 0, []), (45, .ireturn, 1, 0, [])])
/-- LeaningTrees$Tree.hasRoomFor(I)Z -/
def s_m45 : sM := (yX5_hasRoomFor, cX5_hasRoomFor, 2, (some .boolean), 2, 3, 65, [(0, .aload_n 0, 1, 0, []), (1, .getfield 5168, 3, 47, [65]), (4, .bipush 60, 2, 0, []), (6, .if_icmp .lt 19, 3, 0, []), (9, .aload_n 0, 1, 0, []), (10, .iload_n 1, 1, 0, []), (11, .invokevirtual 31, 3, 70, [227, 186, 187, 14, 188]), (14, .bipush (-6), 2, 0, []), (16, .if_icmp .eq 23, 3, 0, []), (19, .iconst 1, 1, 0, []), (20, .goto 24, 3, 0, []), (23, .iconst 0, 1, 0, []), (24, .ireturn, 1, 0, [])])
/-- LeaningTrees$Tree.enter(II)I -/
def s_m46 : sM := (yX5_enter, cX5_enter, 5, (some .int), 3, 4, 95, [(0, .aload_n 0, 1, 0, []), (1, .iload_n 1, 1, 0, []), (2, .invokevirtual 45, 3, 106, [367, 347, 348, 14, 349]), (5, .ifCond .ne 11, 3, 0, []), (8, .bipush (-4), 2, 0, []), (10, .ireturn, 1, 0, []), (11, .aload_n 0, 1, 0, []), (12, .iload_n 1, 1, 0, []), (13, .invokevirtual 30, 3, 67, [189, 190, 191, 14, 192]), (16, .istore_n 3, 1, 0, []), (17, .aload_n 0, 1, 0, []), (18, .iload_n 1, 1, 0, []), (19, .invokevirtual 31, 3, 70, [227, 186, 187, 14, 188]), (22, .bipush (-6), 2, 0, []), (24, .if_icmp .eq 52, 3, 0, []), (27, .aload_n 0, 1, 0, []), (28, .getfield 5138, 3, 27, [57]), (31, .iload_n 3, 1, 0, []), (32, .iload_n 2, 1, 0, []), (33, .invokevirtual 23, 3, 39, [49, 50, 51, 15, 52]), (36, .aload_n 0, 1, 0, []), (37, .getfield 5162, 3, 36, [63]), (40, .iload_n 3, 1, 0, []), (41, .iconst 1, 1, 0, []), (42, .invokevirtual 23, 3, 39, [49, 50, 51, 15, 52]), (45, .aload_n 0, 1, 0, []), (46, .iload_n 3, 1, 0, []), (47, .invokevirtual 49, 3, 109, [368, 370, 9, 14, 371]), (50, .iconst 0, 1, 0, []), (51, .ireturn, 1, 0, []), (52, .aload_n 0, 1, 0, []), (53, .iload_n 3, 1, 0, []), (54, .invokevirtual 43, 3, 103, [354, 355, 356, 14, 357]), (57, .istore 4, 2, 0, []), (59, .aload_n 0, 1, 0, []), (60, .iload_n 3, 1, 0, []), (61, .iload_n 1, 1, 0, []), (62, .iload_n 2, 1, 0, []), (63, .invokevirtual 50, 3, 112, [372, 374, 10, 14, 375]), (66, .aload_n 0, 1, 0, []), (67, .iload_n 3, 1, 0, []), (68, .invokevirtual 49, 3, 109, [368, 370, 9, 14, 371]), (71, .iload 4, 2, 0, []), (73, .bipush (-6), 2, 0, []), (75, .if_icmp .ne 80, 3, 0, []), (78, .iconst 0, 1, 0, []), (79, .ireturn, 1, 0, []), (80, .aload_n 0, 1, 0, []), (81, .iload 4, 2, 0, []), (83, .iload_n 3, 1, 0, []), (84, .if_icmp .ge 92, 3, 0, []), (87, .iload 4, 2, 0, []), (89, .goto 96, 3, 0, []), (92, .iload 4, 2, 0, []), (94, .iconst 1, 1, 0, []), (95, .iadd, 1, 0, []), (96, .invokevirtual 52, 3, 116, [228, 230, 2, 14, 231]), (99, .ireturn, 1, 0, [])])
/-- LeaningTrees$Tree.hollowOut(I)I -/
def s_m47 : sM := (yX5_hollowOut, cX5_hollowOut, 4, (some .int), 2, 4, 95, [(0, .aload_n 0, 1, 0, []), (1, .iload_n 1, 1, 0, []), (2, .invokevirtual 32, 3, 119, [384, 339, 340, 14, 341]), (5, .istore_n 2, 1, 0, []), (6, .iload_n 2, 1, 0, []), (7, .bipush (-6), 2, 0, []), (9, .if_icmp .ne 14, 3, 0, []), (12, .iconst (-1), 1, 0, []), (13, .ireturn, 1, 0, []), (14, .aload_n 0, 1, 0, []), (15, .getfield 5162, 3, 36, [63]), (18, .iload_n 2, 1, 0, []), (19, .iconst 0, 1, 0, []), (20, .invokevirtual 23, 3, 39, [49, 50, 51, 15, 52]), (23, .aload_n 0, 1, 0, []), (24, .iload_n 2, 1, 0, []), (25, .invokevirtual 49, 3, 109, [368, 370, 9, 14, 371]), (28, .aload_n 0, 1, 0, []), (29, .getfield 5168, 3, 47, [65]), (32, .aload_n 0, 1, 0, []), (33, .invokevirtual 34, 3, 122, [385, 276, 277, 14, 278]), (36, .isub, 1, 0, []), (37, .istore_n 3, 1, 0, []), (38, .bipush 100, 2, 0, []), (40, .iload_n 3, 1, 0, []), (41, .imul, 1, 0, []), (42, .aload_n 0, 1, 0, []), (43, .getfield 5122, 3, 18, [53]), (46, .iconst 1, 1, 0, []), (47, .invokevirtual 22, 3, 63, [193, 194, 195, 15, 196]), (50, .aload_n 0, 1, 0, []), (51, .getfield 5168, 3, 47, [65]), (54, .imul, 1, 0, []), (55, .if_icmp .le 77, 3, 0, []), (58, .aload_n 0, 1, 0, []), (59, .aload_n 0, 1, 0, []), (60, .iconst 0, 1, 0, []), (61, .aload_n 0, 1, 0, []), (62, .getfield 5168, 3, 47, [65]), (65, .iconst 1, 1, 0, []), (66, .isub, 1, 0, []), (67, .iconst 0, 1, 0, []), (68, .invokevirtual 39, 3, 99, [358, 284, 285, 14, 286]), (71, .invokevirtual 52, 3, 116, [228, 230, 2, 14, 231]), (74, .goto 78, 3, 0, []), (77, .iconst 0, 1, 0, []), (78, .ireturn, 1, 0, [])])
/-- LeaningTrees$Tree.layAnewFromKey(I)I -/
def s_m48 : sM := (yX5_layAnewFromKey, cX5_layAnewFromKey, 3, (some .int), 2, 4, 95, [(0, .aload_n 0, 1, 0, []), (1, .iload_n 1, 1, 0, []), (2, .invokevirtual 31, 3, 70, [227, 186, 187, 14, 188]), (5, .istore_n 2, 1, 0, []), (6, .iload_n 2, 1, 0, []), (7, .bipush (-6), 2, 0, []), (9, .if_icmp .ne 16, 3, 0, []), (12, .iconst (-1), 1, 0, []), (13, .goto 21, 3, 0, []), (16, .aload_n 0, 1, 0, []), (17, .iload_n 2, 1, 0, []), (18, .invokevirtual 52, 3, 116, [228, 230, 2, 14, 231]), (21, .ireturn, 1, 0, [])])
/-- LeaningTrees$Tree.payOnWayTo(I)V -/
def s_m49 : sM := (yX5_payOnWayTo, cX5_payOnWayTo, 6, none, 2, 2, 45, [(0, .iconst 0, 1, 0, []), (1, .istore_n 2, 1, 0, []), (2, .aload_n 0, 1, 0, []), (3, .getfield 5168, 3, 47, [65]), (6, .iconst 1, 1, 0, []), (7, .isub, 1, 0, []), (8, .istore_n 3, 1, 0, []), (9, .iconst 0, 1, 0, []), (10, .istore 4, 2, 0, []), (12, .iload 4, 2, 0, []), (14, .bipush 60, 2, 0, []), (16, .if_icmp .ge 104, 3, 0, []), (19, .iload_n 2, 1, 0, []), (20, .iload_n 3, 1, 0, []), (21, .if_icmp .gt 104, 3, 0, []), (24, .aload_n 0, 1, 0, []), (25, .iload_n 2, 1, 0, []), (26, .iload_n 3, 1, 0, []), (27, .iload 4, 2, 0, []), (29, .invokevirtual 39, 3, 99, [358, 284, 285, 14, 286]), (32, .istore 5, 2, 0, []), (34, .aload_n 0, 1, 0, []), (35, .getfield 5146, 3, 30, [59]), (38, .iload 5, 2, 0, []), (40, .aload_n 0, 1, 0, []), (41, .getfield 5146, 3, 30, [59]), (44, .iload 5, 2, 0, []), (46, .invokevirtual 22, 3, 63, [193, 194, 195, 15, 196]), (49, .aload_n 0, 1, 0, []), (50, .getfield 5122, 3, 18, [53]), (53, .iconst 2, 1, 0, []), (54, .invokevirtual 22, 3, 63, [193, 194, 195, 15, 196]), (57, .iadd, 1, 0, []), (58, .invokevirtual 23, 3, 39, [49, 50, 51, 15, 52]), (61, .iload 5, 2, 0, []), (63, .iload_n 1, 1, 0, []), (64, .if_icmp .ge 74, 3, 0, []), (67, .iload 5, 2, 0, []), (69, .iconst 1, 1, 0, []), (70, .iadd, 1, 0, []), (71, .goto 75, 3, 0, []), (74, .iload_n 2, 1, 0, []), (75, .istore_n 2, 1, 0, []), (76, .iload 5, 2, 0, []), (78, .iload_n 1, 1, 0, []), (79, .if_icmp .le 89, 3, 0, []), (82, .iload 5, 2, 0, []), (84, .iconst 1, 1, 0, []), (85, .isub, 1, 0, []), (86, .goto 90, 3, 0, []), (89, .iload_n 3, 1, 0, []), (90, .istore_n 3, 1, 0, []), (91, .iload 5, 2, 0, []), (93, .iload_n 1, 1, 0, []), (94, .if_icmp .ne 98, 3, 0, []), (97, .return_, 1, 0, []), (98, .iinc 4 1, 3, 0, []), (101, .goto 12, 3, 0, []), (104, .return_, 1, 0, [])])
/-- LeaningTrees$Tree.makeNode(III)V -/
def s_r50_0 : List sE := [(0, .iload_n 1, 1, 0, []), (1, .ifCond .le 17, 3, 0, []), (4, .aload_n 0, 1, 0, []), (5, .getfield 5154, 3, 33, [61]), (8, .iload_n 1, 1, 0, []), (9, .iconst 1, 1, 0, []), (10, .isub, 1, 0, []), (11, .invokevirtual 22, 3, 63, [193, 194, 195, 15, 196]), (14, .goto 18, 3, 0, []), (17, .iconst (-1), 1, 0, []), (18, .istore 4, 2, 0, []), (20, .iload_n 1, 1, 0, []), (21, .aload_n 0, 1, 0, []), (22, .getfield 5168, 3, 47, [65]), (25, .if_icmp .ge 39, 3, 0, []), (28, .aload_n 0, 1, 0, []), (29, .getfield 5154, 3, 33, [61]), (32, .iload_n 1, 1, 0, []), (33, .invokevirtual 22, 3, 63, [193, 194, 195, 15, 196]), (36, .goto 40, 3, 0, []), (39, .iconst (-1), 1, 0, []), (40, .istore 5, 2, 0, []), (42, .aload_n 0, 1, 0, []), (43, .getfield 5168, 3, 47, [65]), (46, .istore 6, 2, 0, []), (48, .iload 6, 2, 0, []), (50, .iload_n 1, 1, 0, []), (51, .if_icmp .le 70, 3, 0, []), (54, .aload_n 0, 1, 0, []), (55, .iload 6, 2, 0, []), (57, .iconst 1, 1, 0, []), (58, .isub, 1, 0, []), (59, .iload 6, 2, 0, []), (61, .invokevirtual 51, 3, 126, [260, 262, 5, 14, 263]), (64, .iinc 6 (-1), 3, 0, []), (67, .goto 48, 3, 0, []), (70, .aload_n 0, 1, 0, []), (71, .dup, 1, 0, []), (72, .getfield 5168, 3, 47, [65]), (75, .iconst 1, 1, 0, [])]
def s_r50_1 : List sE := [(76, .iadd, 1, 0, []), (77, .putfield 5168, 3, 47, [65]), (80, .aload_n 0, 1, 0, []), (81, .getfield 5130, 3, 24, [55]), (84, .iload_n 1, 1, 0, []), (85, .iload_n 2, 1, 0, []), (86, .invokevirtual 23, 3, 39, [49, 50, 51, 15, 52]), (89, .aload_n 0, 1, 0, []), (90, .getfield 5138, 3, 27, [57]), (93, .iload_n 1, 1, 0, []), (94, .iload_n 3, 1, 0, []), (95, .invokevirtual 23, 3, 39, [49, 50, 51, 15, 52]), (98, .aload_n 0, 1, 0, []), (99, .getfield 5146, 3, 30, [59]), (102, .iload_n 1, 1, 0, []), (103, .iconst 0, 1, 0, []), (104, .invokevirtual 23, 3, 39, [49, 50, 51, 15, 52]), (107, .aload_n 0, 1, 0, []), (108, .getfield 5154, 3, 33, [61]), (111, .iload_n 1, 1, 0, []), (112, .iload 4, 2, 0, []), (114, .iload 5, 2, 0, []), (116, .jsr 0, 3, 81, [249, 250, 20, 251]), (119, .iconst 1, 1, 0, []), (120, .iadd, 1, 0, []), (121, .invokevirtual 23, 3, 39, [49, 50, 51, 15, 52]), (124, .aload_n 0, 1, 0, []), (125, .getfield 5162, 3, 36, [63]), (128, .iload_n 1, 1, 0, []), (129, .iconst 1, 1, 0, []), (130, .invokevirtual 23, 3, 39, [49, 50, 51, 15, 52]), (133, .return_, 1, 0, [])]
def s_m50 : sM := (yX5_makeNode, cX5_makeNode, 7, none, 4, 2, 44, s_r50_0 ++ (s_r50_1))
/-- LeaningTrees$Tree.moveNode(II)V -/
def s_m51 : sM := (yX5_moveNode, cX5_moveNode, 3, none, 3, 1, 22, [(0, .aload_n 0, 1, 0, []), (1, .getfield 5130, 3, 24, [55]), (4, .iload_n 2, 1, 0, []), (5, .aload_n 0, 1, 0, []), (6, .getfield 5130, 3, 24, [55]), (9, .iload_n 1, 1, 0, []), (10, .invokevirtual 22, 3, 63, [193, 194, 195, 15, 196]), (13, .invokevirtual 23, 3, 39, [49, 50, 51, 15, 52]), (16, .aload_n 0, 1, 0, []), (17, .getfield 5138, 3, 27, [57]), (20, .iload_n 2, 1, 0, []), (21, .aload_n 0, 1, 0, []), (22, .getfield 5138, 3, 27, [57]), (25, .iload_n 1, 1, 0, []), (26, .invokevirtual 22, 3, 63, [193, 194, 195, 15, 196]), (29, .invokevirtual 23, 3, 39, [49, 50, 51, 15, 52]), (32, .aload_n 0, 1, 0, []), (33, .getfield 5146, 3, 30, [59]), (36, .iload_n 2, 1, 0, []), (37, .aload_n 0, 1, 0, []), (38, .getfield 5146, 3, 30, [59]), (41, .iload_n 1, 1, 0, []), (42, .invokevirtual 22, 3, 63, [193, 194, 195, 15, 196]), (45, .invokevirtual 23, 3, 39, [49, 50, 51, 15, 52]), (48, .aload_n 0, 1, 0, []), (49, .getfield 5154, 3, 33, [61]), (52, .iload_n 2, 1, 0, []), (53, .aload_n 0, 1, 0, []), (54, .getfield 5154, 3, 33, [61]), (57, .iload_n 1, 1, 0, []), (58, .invokevirtual 22, 3, 63, [193, 194, 195, 15, 196]), (61, .invokevirtual 23, 3, 39, [49, 50, 51, 15, 52]), (64, .aload_n 0, 1, 0, []), (65, .getfield 5162, 3, 36, [63]), (68, .iload_n 2, 1, 0, []), (69, .aload_n 0, 1, 0, []), (70, .getfield 5162, 3, 36, [63]), (73, .iload_n 1, 1, 0, []), (74, .invokevirtual 22, 3, 63, [193, 194, 195, 15, 196]), (77, .invokevirtual 23, 3, 39, [49, 50, 51, 15, 52]), (80, .return_, 1, 0, [])])
/-- LeaningTrees$Tree.layAnew(I)I -/
def s_r52_0 : List sE := [(0, .aload_n 0, 1, 0, []), (1, .iload_n 1, 1, 0, []), (2, .invokevirtual 37, 3, 86, [232, 233, 234, 14, 235]), (5, .istore_n 2, 1, 0, []), (6, .aload_n 0, 1, 0, []), (7, .iload_n 1, 1, 0, []), (8, .invokevirtual 38, 3, 89, [236, 237, 238, 14, 239]), (11, .istore_n 3, 1, 0, []), (12, .aload_n 0, 1, 0, []), (13, .getfield 5154, 3, 33, [61]), (16, .iload_n 1, 1, 0, []), (17, .invokevirtual 22, 3, 63, [193, 194, 195, 15, 196]), (20, .istore 4, 2, 0, []), (22, .iload_n 3, 1, 0, []), (23, .iload_n 2, 1, 0, []), (24, .isub, 1, 0, []), (25, .iconst 1, 1, 0, []), (26, .iadd, 1, 0, []), (27, .istore 5, 2, 0, []), (29, .aload_n 0, 1, 0, []), (30, .aload_n 0, 1, 0, []), (31, .getfield 5146, 3, 30, [59]), (34, .iload_n 2, 1, 0, []), (35, .iload_n 3, 1, 0, []), (36, .invokevirtual 25, 3, 77, [240, 241, 242, 15, 243]), (39, .iload 5, 2, 0, []), (41, .invokevirtual 53, 3, 129, [245, 247, 3, 14, 248]), (44, .aload_n 0, 1, 0, []), (45, .getfield 5162, 3, 36, [63]), (48, .iload_n 2, 1, 0, []), (49, .iload_n 3, 1, 0, []), (50, .invokevirtual 25, 3, 77, [240, 241, 242, 15, 243]), (53, .istore 6, 2, 0, []), (55, .aload_n 0, 1, 0, []), (56, .iload_n 2, 1, 0, []), (57, .iload_n 3, 1, 0, []), (58, .invokevirtual 54, 3, 132, [252, 254, 4, 14, 255]), (61, .iconst 0, 1, 0, []), (62, .istore 7, 2, 0, []), (64, .iload 7, 2, 0, [])]
def s_r52_1 : List sE := [(66, .iload 6, 2, 0, []), (68, .if_icmp .ge 110, 3, 0, []), (71, .aload_n 0, 1, 0, []), (72, .getfield 5154, 3, 33, [61]), (75, .iload_n 2, 1, 0, []), (76, .iload 7, 2, 0, []), (78, .iadd, 1, 0, []), (79, .iload 4, 2, 0, []), (81, .iload 7, 2, 0, []), (83, .iload 6, 2, 0, []), (85, .invokestatic 55, 3, 135, [264, 265, 14, 266]), (88, .iadd, 1, 0, []), (89, .invokevirtual 23, 3, 39, [49, 50, 51, 15, 52]), (92, .aload_n 0, 1, 0, []), (93, .getfield 5146, 3, 30, [59]), (96, .iload_n 2, 1, 0, []), (97, .iload 7, 2, 0, []), (99, .iadd, 1, 0, []), (100, .iconst 0, 1, 0, []), (101, .invokevirtual 23, 3, 39, [49, 50, 51, 15, 52]), (104, .iinc 7 1, 3, 0, []), (107, .goto 64, 3, 0, []), (110, .iload 5, 2, 0, []), (112, .ireturn, 1, 0, [])]
def s_m52 : sM := (yX5_layAnew, cX5_layAnew, 8, (some .int), 2, 3, 68, s_r52_0 ++ (s_r52_1))
/-- LeaningTrees$Tree.spend(II)V -/
def s_m53 : sM := (yX5_spend, cX5_spend, 3, none, 3, 1, 26, [(0, .aload_n 0, 1, 0, []), (1, .dup, 1, 0, []), (2, .getfield 5184, 3, 54, [69]), (5, .iload_n 1, 1, 0, []), (6, .iload_n 2, 1, 0, []), (7, .isub, 1, 0, []), (8, .iadd, 1, 0, []), (9, .putfield 5184, 3, 54, [69]), (12, .aload_n 0, 1, 0, []), (13, .dup, 1, 0, []), (14, .getfield 5176, 3, 51, [67]), (17, .iload_n 2, 1, 0, []), (18, .iadd, 1, 0, []), (19, .putfield 5176, 3, 51, [67]), (22, .aload_n 0, 1, 0, []), (23, .dup, 1, 0, []), (24, .getfield 5192, 3, 57, [71]), (27, .iconst 1, 1, 0, []), (28, .iadd, 1, 0, []), (29, .putfield 5192, 3, 57, [71]), (32, .aload_n 0, 1, 0, []), (33, .aload_n 0, 1, 0, []), (34, .getfield 5200, 3, 60, [73]), (37, .iload_n 2, 1, 0, []), (38, .jsr 0, 3, 81, [249, 250, 20, 251]), (41, .putfield 5200, 3, 60, [73]), (44, .return_, 1, 0, [])])
/-- LeaningTrees$Tree.dropHollow(II)V -/
def s_m54 : sM := (yX5_dropHollow, cX5_dropHollow, 5, none, 3, 2, 44, [(0, .iload_n 1, 1, 0, []), (1, .istore_n 3, 1, 0, []), (2, .iload_n 1, 1, 0, []), (3, .istore 4, 2, 0, []), (5, .iload 4, 2, 0, []), (7, .aload_n 0, 1, 0, []), (8, .getfield 5168, 3, 47, [65]), (11, .if_icmp .ge 45, 3, 0, []), (14, .iload 4, 2, 0, []), (16, .iload_n 2, 1, 0, []), (17, .if_icmp .gt 29, 3, 0, []), (20, .aload_n 0, 1, 0, []), (21, .iload 4, 2, 0, []), (23, .invokevirtual 33, 3, 73, [256, 257, 258, 14, 259]), (26, .ifCond .eq 39, 3, 0, []), (29, .aload_n 0, 1, 0, []), (30, .iload 4, 2, 0, []), (32, .iload_n 3, 1, 0, []), (33, .invokevirtual 51, 3, 126, [260, 262, 5, 14, 263]), (36, .iinc 3 1, 3, 0, []), (39, .iinc 4 1, 3, 0, []), (42, .goto 5, 3, 0, []), (45, .aload_n 0, 1, 0, []), (46, .iload_n 3, 1, 0, []), (47, .putfield 5168, 3, 47, [65]), (50, .return_, 1, 0, [])])
/-- LeaningTrees$Tree.depthLaidEvenly(II)I -/
def s_m55 : sM := (yX5_depthLaidEvenly, cX5_depthLaidEvenly, 6, (some .int), 2, 0, 0, [(0, .iconst 0, 1, 0, []), (1, .istore_n 2, 1, 0, []), (2, .iload_n 1, 1, 0, []), (3, .iconst 1, 1, 0, []), (4, .isub, 1, 0, []), (5, .istore_n 3, 1, 0, []), (6, .iconst 0, 1, 0, []), (7, .istore 4, 2, 0, []), (9, .iload_n 2, 1, 0, []), (10, .iload_n 3, 1, 0, []), (11, .if_icmp .ge 74, 3, 0, []), (14, .iload 4, 2, 0, []), (16, .iload_n 1, 1, 0, []), (17, .if_icmp .ge 74, 3, 0, []), (20, .iload_n 2, 1, 0, []), (21, .iload_n 3, 1, 0, []), (22, .iload_n 2, 1, 0, []), (23, .isub, 1, 0, []), (24, .iconst 2, 1, 0, []), (25, .idiv, 1, 0, []), (26, .iadd, 1, 0, []), (27, .istore 5, 2, 0, []), (29, .iload_n 0, 1, 0, []), (30, .iload 5, 2, 0, []), (32, .if_icmp .ne 38, 3, 0, []), (35, .iload 4, 2, 0, []), (37, .ireturn, 1, 0, []), (38, .iload_n 0, 1, 0, []), (39, .iload 5, 2, 0, []), (41, .if_icmp .le 51, 3, 0, []), (44, .iload 5, 2, 0, []), (46, .iconst 1, 1, 0, []), (47, .iadd, 1, 0, []), (48, .goto 52, 3, 0, []), (51, .iload_n 2, 1, 0, []), (52, .istore_n 2, 1, 0, []), (53, .iload_n 0, 1, 0, []), (54, .iload 5, 2, 0, []), (56, .if_icmp .ge 66, 3, 0, []), (59, .iload 5, 2, 0, []), (61, .iconst 1, 1, 0, []), (62, .isub, 1, 0, []), (63, .goto 67, 3, 0, []), (66, .iload_n 3, 1, 0, []), (67, .istore_n 3, 1, 0, []), (68, .iinc 4 1, 3, 0, []), (71, .goto 9, 3, 0, []), (74, .iload 4, 2, 0, []), (76, .ireturn, 1, 0, [])])
/-- LeaningTrees.<init>()V -/
def s_m56 : sM := (yX6_init, cX6_init, 2, none, 1, 4, 89, [(0, .aload_n 0, 1, 0, []), (1, .monitorenter, 3, 1, [27, 28, 29]), (4, .aload_n 0, 1, 0, []), (5, .new 5, 3, 7, [30, 31, 14]), (8, .dup, 1, 0, []), (9, .invokespecial 28, 3, 9, [32, 33, 14, 34]), (12, .putfield 6146, 3, 10, [162]), (15, .aload_n 0, 1, 0, []), (16, .new 0, 3, 16, [98, 99, 16]), (19, .dup, 1, 0, []), (20, .invokespecial 0, 3, 18, [100, 101, 16, 102]), (23, .putfield 6154, 3, 19, [163]), (26, .aload_n 0, 1, 0, []), (27, .iconst 2, 1, 0, []), (28, .anewarray 4, 3, 23, [115]), (31, .putfield 6162, 3, 25, [164]), (34, .aload_n 0, 1, 0, []), (35, .new 2, 3, 29, [117, 118, 17]), (38, .dup, 1, 0, []), (39, .invokeinterface 17 0, 3, 31, [120, 17, 121]), (42, .putfield 6170, 3, 32, [165]), (45, .aload_n 0, 1, 0, []), (46, .new 1, 3, 36, [132, 133, 18]), (49, .dup, 1, 0, []), (50, .invokeinterface 5 0, 3, 38, [135, 18, 136]), (53, .putfield 6178, 3, 39, [166]), (56, .iconst 0, 1, 0, []), (57, .istore_n 1, 1, 0, []), (58, .iload_n 1, 1, 0, []), (59, .aload_n 0, 1, 0, []), (60, .getfield 6162, 3, 25, [164]), (63, .arraylength, 1, 0, []), (64, .if_icmp .ge 86, 3, 0, []), (67, .aload_n 0, 1, 0, []), (68, .getfield 6162, 3, 25, [164]), (71, .iload_n 1, 1, 0, []), (72, .new 4, 3, 23, [115, 149, 19]), (75, .dup, 1, 0, []), (76, .invokeinterface 27 0, 3, 43, [151, 19, 152]), (79, .aastore, 1, 0, []), (80, .iinc 1 1, 3, 0, []), (83, .goto 58, 3, 0, []), (86, .return_, 1, 0, [])])
/-- LeaningTrees.set(II)I -/
def s_m57 : sM := (yX6_set, cX6_set, 4, (some .int), 3, 4, 90, [(0, .iload_n 1, 1, 0, []), (1, .iload_n 2, 1, 0, []), (2, .invokestatic 80, 3, 44, [390, 391, 13, 392]), (5, .ifCond .ne 11, 3, 0, []), (8, .bipush (-2), 2, 0, []), (10, .ireturn, 1, 0, []), (11, .aload_n 0, 1, 0, []), (12, .getfield 6154, 3, 19, [163]), (15, .aload_n 0, 1, 0, []), (16, .getfield 6146, 3, 10, [162]), (19, .invokevirtual 1, 3, 48, [197, 198, 199, 16, 200]), (22, .aload_n 0, 1, 0, []), (23, .getfield 6146, 3, 10, [162]), (26, .getfield 5122, 3, 52, [54]), (29, .iload_n 1, 1, 0, []), (30, .invokevirtual 22, 3, 56, [287, 194, 195, 15, 196]), (33, .istore_n 3, 1, 0, []), (34, .aload_n 0, 1, 0, []), (35, .getfield 6146, 3, 10, [162]), (38, .getfield 5122, 3, 52, [54]), (41, .iload_n 1, 1, 0, []), (42, .iload_n 2, 1, 0, []), (43, .invokevirtual 23, 3, 62, [397, 50, 51, 15, 52]), (46, .iload_n 3, 1, 0, []), (47, .ireturn, 1, 0, [])])
/-- LeaningTrees.putIn(II)I -/
def s_m58 : sM := (yX6_putIn, cX6_putIn, 3, (some .int), 3, 5, 119, [(0, .iload_n 1, 1, 0, []), (1, .invokestatic 79, 3, 66, [182, 183, 13, 184]), (4, .ifCond .eq 14, 3, 0, []), (7, .iload_n 2, 1, 0, []), (8, .invokestatic 79, 3, 66, [182, 183, 13, 184]), (11, .ifCond .ne 17, 3, 0, []), (14, .bipush (-2), 2, 0, []), (16, .ireturn, 1, 0, []), (17, .aload_n 0, 1, 0, []), (18, .getfield 6146, 3, 10, [162]), (21, .iload_n 1, 1, 0, []), (22, .invokevirtual 45, 3, 70, [346, 347, 348, 14, 349]), (25, .ifCond .ne 31, 3, 0, []), (28, .bipush (-4), 2, 0, []), (30, .ireturn, 1, 0, []), (31, .aload_n 0, 1, 0, []), (32, .getfield 6154, 3, 19, [163]), (35, .aload_n 0, 1, 0, []), (36, .getfield 6146, 3, 10, [162]), (39, .invokevirtual 1, 3, 48, [197, 198, 199, 16, 200]), (42, .aload_n 0, 1, 0, []), (43, .getfield 6146, 3, 10, [162]), (46, .iload_n 1, 1, 0, []), (47, .iload_n 2, 1, 0, []), (48, .invokevirtual 46, 3, 73, [363, 364, 365, 14, 366]), (51, .ireturn, 1, 0, [])])
/-- LeaningTrees.remove(I)I -/
def s_m59 : sM := (yX6_remove, cX6_remove, 2, (some .int), 2, 5, 118, [(0, .iload_n 1, 1, 0, []), (1, .invokestatic 79, 3, 66, [182, 183, 13, 184]), (4, .ifCond .ne 10, 3, 0, []), (7, .bipush (-2), 2, 0, []), (9, .ireturn, 1, 0, []), (10, .aload_n 0, 1, 0, []), (11, .getfield 6146, 3, 10, [162]), (14, .iload_n 1, 1, 0, []), (15, .invokevirtual 32, 3, 77, [338, 339, 340, 14, 341]), (18, .bipush (-6), 2, 0, []), (20, .if_icmp .ne 25, 3, 0, []), (23, .iconst (-1), 1, 0, []), (24, .ireturn, 1, 0, []), (25, .aload_n 0, 1, 0, []), (26, .getfield 6154, 3, 19, [163]), (29, .aload_n 0, 1, 0, []), (30, .getfield 6146, 3, 10, [162]), (33, .invokevirtual 1, 3, 48, [197, 198, 199, 16, 200]), (36, .aload_n 0, 1, 0, []), (37, .getfield 6146, 3, 10, [162]), (40, .iload_n 1, 1, 0, []), (41, .invokevirtual 47, 3, 80, [380, 381, 382, 14, 383]), (44, .ireturn, 1, 0, [])])
/-- LeaningTrees.rebuild(I)I -/
def s_m60 : sM := (yX6_rebuild, cX6_rebuild, 2, (some .int), 2, 5, 117, [(0, .iload_n 1, 1, 0, []), (1, .invokestatic 79, 3, 66, [182, 183, 13, 184]), (4, .ifCond .ne 10, 3, 0, []), (7, .bipush (-2), 2, 0, []), (9, .ireturn, 1, 0, []), (10, .aload_n 0, 1, 0, []), (11, .getfield 6146, 3, 10, [162]), (14, .iload_n 1, 1, 0, []), (15, .invokevirtual 31, 3, 83, [185, 186, 187, 14, 188]), (18, .bipush (-6), 2, 0, []), (20, .if_icmp .ne 25, 3, 0, []), (23, .iconst (-1), 1, 0, []), (24, .ireturn, 1, 0, []), (25, .aload_n 0, 1, 0, []), (26, .getfield 6154, 3, 19, [163]), (29, .aload_n 0, 1, 0, []), (30, .getfield 6146, 3, 10, [162]), (33, .invokevirtual 1, 3, 48, [197, 198, 199, 16, 200]), (36, .aload_n 0, 1, 0, []), (37, .getfield 6146, 3, 10, [162]), (40, .iload_n 1, 1, 0, []), (41, .invokevirtual 48, 3, 86, [223, 224, 225, 14, 226]), (44, .ireturn, 1, 0, [])])
/-- LeaningTrees.value(I)I -/
def s_m61 : sM := (yX6_value, cX6_value, 3, (some .int), 2, 4, 87, [(0, .iload_n 1, 1, 0, []), (1, .invokestatic 79, 3, 66, [182, 183, 13, 184]), (4, .ifCond .ne 10, 3, 0, []), (7, .bipush (-2), 2, 0, []), (9, .ireturn, 1, 0, []), (10, .aload_n 0, 1, 0, []), (11, .getfield 6146, 3, 10, [162]), (14, .iload_n 1, 1, 0, []), (15, .invokevirtual 32, 3, 77, [338, 339, 340, 14, 341]), (18, .istore_n 2, 1, 0, []), (19, .iload_n 2, 1, 0, []), (20, .bipush (-6), 2, 0, []), (22, .if_icmp .ne 30, 3, 0, []), (25, .bipush (-6), 2, 0, []), (27, .goto 41, 3, 0, []), (30, .aload_n 0, 1, 0, []), (31, .getfield 6146, 3, 10, [162]), (34, .getfield 5138, 3, 89, [58]), (37, .iload_n 2, 1, 0, []), (38, .invokevirtual 22, 3, 56, [287, 194, 195, 15, 196]), (41, .ireturn, 1, 0, [])])
/-- LeaningTrees.node(II)I -/
def s_m62 : sM := (yX6_node, cX6_node, 4, (some .int), 3, 4, 94, [(0, .iload_n 1, 1, 0, []), (1, .invokestatic 79, 3, 66, [182, 183, 13, 184]), (4, .ifCond .eq 17, 3, 0, []), (7, .iload_n 2, 1, 0, []), (8, .ifCond .lt 17, 3, 0, []), (11, .iload_n 2, 1, 0, []), (12, .bipush 8, 2, 0, []), (14, .if_icmp .le 20, 3, 0, []), (17, .bipush (-2), 2, 0, []), (19, .ireturn, 1, 0, []), (20, .aload_n 0, 1, 0, []), (21, .getfield 6146, 3, 10, [162]), (24, .iload_n 1, 1, 0, []), (25, .invokevirtual 31, 3, 83, [185, 186, 187, 14, 188]), (28, .istore_n 3, 1, 0, []), (29, .iload_n 3, 1, 0, []), (30, .bipush (-6), 2, 0, []), (32, .if_icmp .ne 39, 3, 0, []), (35, .iconst (-1), 1, 0, []), (36, .goto 45, 3, 0, []), (39, .aload_n 0, 1, 0, []), (40, .iload_n 3, 1, 0, []), (41, .iload_n 2, 1, 0, []), (42, .invokevirtual 82, 3, 92, [405, 407, 11, 13, 408]), (45, .ireturn, 1, 0, [])])
/-- LeaningTrees.count(I)I -/
def s_m63 : sM := (yX6_count, cX6_count, 2, (some .int), 2, 5, 112, [(0, .iload_n 1, 1, 0, []), (1, .ifCond .lt 10, 3, 0, []), (4, .iload_n 1, 1, 0, []), (5, .bipush 14, 2, 0, []), (7, .if_icmp .le 13, 3, 0, []), (10, .bipush (-2), 2, 0, []), (12, .ireturn, 1, 0, []), (13, .iload_n 1, 1, 0, []), (14, .lookupswitch 56 #[(13, 40), (14, 48)], 26, 0, []), (40, .aload_n 0, 1, 0, []), (41, .getfield 6170, 3, 32, [165]), (44, .getfield 2056, 3, 95, [126]), (47, .ireturn, 1, 0, []), (48, .aload_n 0, 1, 0, []), (49, .getfield 6154, 3, 19, [163]), (52, .getfield 8, 3, 99, [109]), (55, .ireturn, 1, 0, []), (56, .iload_n 1, 1, 0, []), (57, .iconst 4, 1, 0, []), (58, .if_icmp .ge 69, 3, 0, []), (61, .aload_n 0, 1, 0, []), (62, .iload_n 1, 1, 0, []), (63, .invokevirtual 83, 3, 100, [271, 273, 6, 13, 274]), (66, .goto 74, 3, 0, []), (69, .aload_n 0, 1, 0, []), (70, .iload_n 1, 1, 0, []), (71, .invokevirtual 84, 3, 103, [293, 295, 8, 13, 296]), (74, .ireturn, 1, 0, [])])
/-- LeaningTrees.rank(I)I -/
def s_m66 : sM := (yX6_rank, cX6_rank, 2, (some .int), 2, 3, 66, [(0, .iload_n 1, 1, 0, []), (1, .invokestatic 79, 3, 66, [182, 183, 13, 184]), (4, .ifCond .eq 18, 3, 0, []), (7, .aload_n 0, 1, 0, []), (8, .getfield 6146, 3, 10, [162]), (11, .iload_n 1, 1, 0, []), (12, .invokevirtual 35, 3, 136, [428, 429, 430, 14, 431]), (15, .goto 20, 3, 0, []), (18, .bipush (-2), 2, 0, []), (20, .ireturn, 1, 0, [])])
/-- LeaningTrees.kth(I)I -/
def s_m67 : sM := (yX6_kth, cX6_kth, 3, (some .int), 2, 3, 65, [(0, .aload_n 0, 1, 0, []), (1, .getfield 6146, 3, 10, [162]), (4, .iload_n 1, 1, 0, []), (5, .invokevirtual 36, 3, 139, [420, 421, 422, 14, 423]), (8, .istore_n 2, 1, 0, []), (9, .iload_n 2, 1, 0, []), (10, .bipush (-6), 2, 0, []), (12, .if_icmp .ne 19, 3, 0, []), (15, .iconst (-1), 1, 0, []), (16, .goto 30, 3, 0, []), (19, .aload_n 0, 1, 0, []), (20, .getfield 6146, 3, 10, [162]), (23, .getfield 5130, 3, 142, [56]), (26, .iload_n 2, 1, 0, []), (27, .invokevirtual 22, 3, 56, [287, 194, 195, 15, 196]), (30, .ireturn, 1, 0, [])])
/-- LeaningTrees.neighbour(II)I -/
def s_m68 : sM := (yX6_neighbour, cX6_neighbour, 6, (some .int), 3, 4, 87, [(0, .iload_n 1, 1, 0, []), (1, .invokestatic 79, 3, 66, [182, 183, 13, 184]), (4, .ifCond .eq 16, 3, 0, []), (7, .iload_n 2, 1, 0, []), (8, .ifCond .eq 19, 3, 0, []), (11, .iload_n 2, 1, 0, []), (12, .iconst 1, 1, 0, []), (13, .if_icmp .eq 19, 3, 0, []), (16, .bipush (-2), 2, 0, []), (18, .ireturn, 1, 0, []), (19, .aload_n 0, 1, 0, []), (20, .getfield 6146, 3, 10, [162]), (23, .iload_n 1, 1, 0, []), (24, .invokevirtual 35, 3, 136, [428, 429, 430, 14, 431]), (27, .istore_n 3, 1, 0, []), (28, .aload_n 0, 1, 0, []), (29, .getfield 6146, 3, 10, [162]), (32, .iload_n 1, 1, 0, []), (33, .invokevirtual 32, 3, 77, [338, 339, 340, 14, 341]), (36, .bipush (-6), 2, 0, []), (38, .if_icmp .ne 45, 3, 0, []), (41, .iconst 0, 1, 0, []), (42, .goto 46, 3, 0, []), (45, .iconst 1, 1, 0, []), (46, .istore 4, 2, 0, []), (48, .aload_n 0, 1, 0, []), (49, .getfield 6146, 3, 10, [162]), (52, .iload_n 2, 1, 0, []), (53, .ifCond .ne 62, 3, 0, []), (56, .iload_n 3, 1, 0, []), (57, .iconst 1, 1, 0, []), (58, .isub, 1, 0, []), (59, .goto 66, 3, 0, []), (62, .iload_n 3, 1, 0, []), (63, .iload 4, 2, 0, []), (65, .iadd, 1, 0, []), (66, .invokevirtual 36, 3, 139, [420, 421, 422, 14, 423]), (69, .istore 5, 2, 0, []), (71, .iload 5, 2, 0, []), (73, .bipush (-6), 2, 0, []), (75, .if_icmp .ne 83, 3, 0, []), (78, .bipush (-6), 2, 0, []), (80, .goto 95, 3, 0, []), (83, .aload_n 0, 1, 0, []), (84, .getfield 6146, 3, 10, [162]), (87, .getfield 5130, 3, 142, [56]), (90, .iload 5, 2, 0, []), (92, .invokevirtual 22, 3, 56, [287, 194, 195, 15, 196]), (95, .ireturn, 1, 0, [])])
/-- LeaningTrees.sum(II)I -/
def s_m69 : sM := (yX6_sum, cX6_sum, 5, (some .int), 3, 2, 43, [(0, .iload_n 1, 1, 0, []), (1, .invokestatic 79, 3, 66, [182, 183, 13, 184]), (4, .ifCond .eq 19, 3, 0, []), (7, .iload_n 2, 1, 0, []), (8, .invokestatic 79, 3, 66, [182, 183, 13, 184]), (11, .ifCond .eq 19, 3, 0, []), (14, .iload_n 2, 1, 0, []), (15, .iload_n 1, 1, 0, []), (16, .if_icmp .ge 22, 3, 0, []), (19, .bipush (-2), 2, 0, []), (21, .ireturn, 1, 0, []), (22, .iconst 0, 1, 0, []), (23, .istore_n 3, 1, 0, []), (24, .aload_n 0, 1, 0, []), (25, .getfield 6146, 3, 10, [162]), (28, .iload_n 1, 1, 0, []), (29, .invokevirtual 30, 3, 145, [440, 190, 191, 14, 192]), (32, .istore 4, 2, 0, []), (34, .iload 4, 2, 0, []), (36, .aload_n 0, 1, 0, []), (37, .getfield 6146, 3, 10, [162]), (40, .getfield 5168, 3, 108, [66]), (43, .if_icmp .ge 99, 3, 0, []), (46, .aload_n 0, 1, 0, []), (47, .getfield 6146, 3, 10, [162]), (50, .getfield 5130, 3, 142, [56]), (53, .iload 4, 2, 0, []), (55, .invokevirtual 22, 3, 56, [287, 194, 195, 15, 196]), (58, .iload_n 2, 1, 0, []), (59, .if_icmp .gt 99, 3, 0, []), (62, .iload_n 3, 1, 0, []), (63, .aload_n 0, 1, 0, []), (64, .getfield 6146, 3, 10, [162]), (67, .iload 4, 2, 0, []), (69, .invokevirtual 33, 3, 148, [411, 257, 258, 14, 259]), (72, .ifCond .eq 90, 3, 0, []), (75, .aload_n 0, 1, 0, []), (76, .getfield 6146, 3, 10, [162]), (79, .getfield 5138, 3, 89, [58]), (82, .iload 4, 2, 0, []), (84, .invokevirtual 22, 3, 56, [287, 194, 195, 15, 196]), (87, .goto 91, 3, 0, []), (90, .iconst 0, 1, 0, []), (91, .iadd, 1, 0, []), (92, .istore_n 3, 1, 0, []), (93, .iinc 4 1, 3, 0, []), (96, .goto 34, 3, 0, []), (99, .iload_n 3, 1, 0, []), (100, .ireturn, 1, 0, [])])
/-- LeaningTrees.wouldCost(I)I -/
def s_m70 : sM := (yX6_wouldCost, cX6_wouldCost, 2, (some .int), 2, 4, 97, [(0, .iload_n 1, 1, 0, []), (1, .invokestatic 79, 3, 66, [182, 183, 13, 184]), (4, .ifCond .ne 10, 3, 0, []), (7, .bipush (-2), 2, 0, []), (9, .ireturn, 1, 0, []), (10, .aload_n 0, 1, 0, []), (11, .getfield 6146, 3, 10, [162]), (14, .iload_n 1, 1, 0, []), (15, .invokevirtual 45, 3, 70, [346, 347, 348, 14, 349]), (18, .ifCond .eq 32, 3, 0, []), (21, .aload_n 0, 1, 0, []), (22, .getfield 6146, 3, 10, [162]), (25, .iload_n 1, 1, 0, []), (26, .invokevirtual 44, 3, 151, [350, 351, 352, 14, 353]), (29, .goto 34, 3, 0, []), (32, .bipush (-4), 2, 0, []), (34, .ireturn, 1, 0, [])])
/-- LeaningTrees.undo()I -/
def s_m76 : sM := (yX6_undo, cX6_undo, 1, (some .int), 1, 4, 90, [(0, .aload_n 0, 1, 0, []), (1, .getfield 6154, 3, 19, [163]), (4, .aload_n 0, 1, 0, []), (5, .getfield 6146, 3, 10, [162]), (8, .invokevirtual 2, 3, 182, [315, 316, 317, 16, 318]), (11, .ifCond .eq 24, 3, 0, []), (14, .aload_n 0, 1, 0, []), (15, .getfield 6154, 3, 19, [163]), (18, .getfield 8, 3, 99, [109]), (21, .goto 26, 3, 0, []), (24, .bipush (-5), 2, 0, []), (26, .ireturn, 1, 0, [])])
/-- LeaningTrees.isNumber(I)Z -/
def s_m79 : sM := (yX6_isNumber, cX6_isNumber, 1, (some .boolean), 1, 0, 0, [(0, .iload_n 0, 1, 0, []), (1, .ifCond .lt 15, 3, 0, []), (4, .iload_n 0, 1, 0, []), (5, .sipush 999, 3, 0, []), (8, .if_icmp .gt 15, 3, 0, []), (11, .iconst 1, 1, 0, []), (12, .goto 16, 3, 0, []), (15, .iconst 0, 1, 0, []), (16, .ireturn, 1, 0, [])])
/-- LeaningTrees.isSetting(II)Z -/
def s_m80 : sM := (yX6_isSetting, cX6_isSetting, 2, (some .boolean), 2, 0, 0, [(0, .iload_n 0, 1, 0, []), (1, .ifCond .lt 20, 3, 0, []), (4, .iload_n 0, 1, 0, []), (5, .getstatic 1, 3, 203, [393]), (8, .arraylength, 1, 0, []), (9, .if_icmp .ge 20, 3, 0, []), (12, .iload_n 0, 1, 0, []), (13, .getstatic 2, 3, 207, [395]), (16, .arraylength, 1, 0, []), (17, .if_icmp .lt 22, 3, 0, []), (20, .iconst 0, 1, 0, []), (21, .ireturn, 1, 0, []), (22, .iload_n 1, 1, 0, []), (23, .getstatic 1, 3, 203, [393]), (26, .iload_n 0, 1, 0, []), (27, .iaload, 1, 0, []), (28, .if_icmp .lt 44, 3, 0, []), (31, .iload_n 1, 1, 0, []), (32, .getstatic 2, 3, 207, [395]), (35, .iload_n 0, 1, 0, []), (36, .iaload, 1, 0, []), (37, .if_icmp .gt 44, 3, 0, []), (40, .iconst 1, 1, 0, []), (41, .goto 45, 3, 0, []), (44, .iconst 0, 1, 0, []), (45, .ireturn, 1, 0, [])])
/-- LeaningTrees.aboutNode(II)I -/
def s_r82_0 : List sE := [(0, .aload_n 0, 1, 0, []), (1, .getfield 6146, 3, 10, [162]), (4, .iload_n 1, 1, 0, []), (5, .invokevirtual 37, 3, 121, [409, 233, 234, 14, 235]), (8, .istore_n 3, 1, 0, []), (9, .aload_n 0, 1, 0, []), (10, .getfield 6146, 3, 10, [162]), (13, .iload_n 1, 1, 0, []), (14, .invokevirtual 38, 3, 124, [410, 237, 238, 14, 239]), (17, .istore 4, 2, 0, []), (19, .aload_n 0, 1, 0, []), (20, .getfield 6146, 3, 10, [162]), (23, .getfield 5154, 3, 111, [62]), (26, .iload_n 1, 1, 0, []), (27, .invokevirtual 22, 3, 56, [287, 194, 195, 15, 196]), (30, .istore 5, 2, 0, []), (32, .iload_n 2, 1, 0, []), (33, .tableswitch 177 0 7 #[80, 93, 107, 114, 117, 129, 146, 160], 47, 0, []), (80, .aload_n 0, 1, 0, []), (81, .iload_n 3, 1, 0, []), (82, .iload_n 1, 1, 0, []), (83, .iconst 1, 1, 0, []), (84, .isub, 1, 0, []), (85, .iload 5, 2, 0, []), (87, .iconst 1, 1, 0, []), (88, .iadd, 1, 0, []), (89, .invokevirtual 85, 3, 210, [279, 281, 7, 13, 282]), (92, .ireturn, 1, 0, []), (93, .aload_n 0, 1, 0, []), (94, .iload_n 1, 1, 0, []), (95, .iconst 1, 1, 0, []), (96, .iadd, 1, 0, []), (97, .iload 4, 2, 0, []), (99, .iload 5, 2, 0, []), (101, .iconst 1, 1, 0, []), (102, .iadd, 1, 0, []), (103, .invokevirtual 85, 3, 210, [279, 281, 7, 13, 282]), (106, .ireturn, 1, 0, []), (107, .iload 4, 2, 0, []), (109, .iload_n 3, 1, 0, [])]
def s_r82_1 : List sE := [(110, .isub, 1, 0, []), (111, .iconst 1, 1, 0, []), (112, .iadd, 1, 0, []), (113, .ireturn, 1, 0, []), (114, .iload 5, 2, 0, []), (116, .ireturn, 1, 0, []), (117, .aload_n 0, 1, 0, []), (118, .getfield 6146, 3, 10, [162]), (121, .getfield 5146, 3, 214, [60]), (124, .iload_n 1, 1, 0, []), (125, .invokevirtual 22, 3, 56, [287, 194, 195, 15, 196]), (128, .ireturn, 1, 0, []), (129, .aload_n 0, 1, 0, []), (130, .getfield 6146, 3, 10, [162]), (133, .iload_n 1, 1, 0, []), (134, .invokevirtual 33, 3, 148, [411, 257, 258, 14, 259]), (137, .ifCond .eq 144, 3, 0, []), (140, .iconst 1, 1, 0, []), (141, .goto 145, 3, 0, []), (144, .iconst 0, 1, 0, []), (145, .ireturn, 1, 0, []), (146, .aload_n 0, 1, 0, []), (147, .getfield 6146, 3, 10, [162]), (150, .getfield 5162, 3, 217, [64]), (153, .iload_n 3, 1, 0, []), (154, .iload 4, 2, 0, []), (156, .invokevirtual 25, 3, 114, [298, 241, 242, 15, 243]), (159, .ireturn, 1, 0, []), (160, .aload_n 0, 1, 0, []), (161, .getfield 6146, 3, 10, [162]), (164, .iload_n 1, 1, 0, []), (165, .invokevirtual 41, 3, 220, [412, 304, 305, 14, 306]), (168, .ifCond .eq 175, 3, 0, []), (171, .iconst 1, 1, 0, []), (172, .goto 176, 3, 0, []), (175, .iconst 0, 1, 0, []), (176, .ireturn, 1, 0, []), (177, .aload_n 0, 1, 0, []), (178, .getfield 6146, 3, 10, [162]), (181, .getfield 5154, 3, 111, [62])]
def s_r82_2 : List sE := [(184, .iload_n 3, 1, 0, []), (185, .iload 4, 2, 0, []), (187, .invokevirtual 26, 3, 223, [288, 289, 290, 15, 291]), (190, .iload 5, 2, 0, []), (192, .isub, 1, 0, []), (193, .ireturn, 1, 0, [])]
def s_m82 : sM := (yX6_aboutNode, cX6_aboutNode, 6, (some .int), 3, 3, 69, s_r82_0 ++ (s_r82_1 ++ (s_r82_2)))
/-- LeaningTrees.shapeOfTree(I)I -/
def s_m83 : sM := (yX6_shapeOfTree, cX6_shapeOfTree, 3, (some .int), 2, 3, 68, [(0, .aload_n 0, 1, 0, []), (1, .getfield 6146, 3, 10, [162]), (4, .getfield 5168, 3, 108, [66]), (7, .iconst 1, 1, 0, []), (8, .isub, 1, 0, []), (9, .istore_n 2, 1, 0, []), (10, .iload_n 1, 1, 0, []), (11, .tableswitch 60 0 2 #[36, 44, 52], 25, 0, []), (36, .aload_n 0, 1, 0, []), (37, .getfield 6146, 3, 10, [162]), (40, .getfield 5168, 3, 108, [66]), (43, .ireturn, 1, 0, []), (44, .aload_n 0, 1, 0, []), (45, .getfield 6146, 3, 10, [162]), (48, .invokevirtual 34, 3, 200, [275, 276, 277, 14, 278]), (51, .ireturn, 1, 0, []), (52, .aload_n 0, 1, 0, []), (53, .iconst 0, 1, 0, []), (54, .iload_n 2, 1, 0, []), (55, .iconst 0, 1, 0, []), (56, .invokevirtual 85, 3, 210, [279, 281, 7, 13, 282]), (59, .ireturn, 1, 0, []), (60, .aload_n 0, 1, 0, []), (61, .getfield 6146, 3, 10, [162]), (64, .getfield 5168, 3, 108, [66]), (67, .ifCond .ne 75, 3, 0, []), (70, .bipush (-6), 2, 0, []), (72, .goto 87, 3, 0, []), (75, .aload_n 0, 1, 0, []), (76, .getfield 6146, 3, 10, [162]), (79, .getfield 5154, 3, 111, [62]), (82, .iconst 0, 1, 0, []), (83, .iload_n 2, 1, 0, []), (84, .invokevirtual 26, 3, 223, [288, 289, 290, 15, 291]), (87, .ireturn, 1, 0, [])])
/-- LeaningTrees.booksOfTree(I)I -/
def s_m84 : sM := (yX6_booksOfTree, cX6_booksOfTree, 2, (some .int), 2, 4, 91, [(0, .iload_n 1, 1, 0, []), (1, .tableswitch 104 4 9 #[40, 48, 59, 80, 88, 96], 39, 0, []), (40, .aload_n 0, 1, 0, []), (41, .getfield 6146, 3, 10, [162]), (44, .getfield 5176, 3, 226, [68]), (47, .ireturn, 1, 0, []), (48, .aload_n 0, 1, 0, []), (49, .getfield 6146, 3, 10, [162]), (52, .getfield 5184, 3, 229, [70]), (55, .ldc 1000000, 2, 232, [297]), (57, .iadd, 1, 0, []), (58, .ireturn, 1, 0, []), (59, .aload_n 0, 1, 0, []), (60, .getfield 6146, 3, 10, [162]), (63, .getfield 5146, 3, 214, [60]), (66, .iconst 0, 1, 0, []), (67, .aload_n 0, 1, 0, []), (68, .getfield 6146, 3, 10, [162]), (71, .getfield 5168, 3, 108, [66]), (74, .iconst 1, 1, 0, []), (75, .isub, 1, 0, []), (76, .invokevirtual 25, 3, 114, [298, 241, 242, 15, 243]), (79, .ireturn, 1, 0, []), (80, .aload_n 0, 1, 0, []), (81, .getfield 6146, 3, 10, [162]), (84, .getfield 5192, 3, 233, [72]), (87, .ireturn, 1, 0, []), (88, .aload_n 0, 1, 0, []), (89, .getfield 6146, 3, 10, [162]), (92, .getfield 5200, 3, 236, [74]), (95, .ireturn, 1, 0, []), (96, .aload_n 0, 1, 0, []), (97, .getfield 6146, 3, 10, [162]), (100, .invokevirtual 42, 3, 239, [299, 300, 301, 14, 302]), (103, .ireturn, 1, 0, []), (104, .aload_n 0, 1, 0, []), (105, .getfield 6146, 3, 10, [162]), (108, .getfield 5122, 3, 52, [54]), (111, .iload_n 1, 1, 0, []), (112, .bipush 10, 2, 0, []), (114, .isub, 1, 0, []), (115, .invokevirtual 22, 3, 56, [287, 194, 195, 15, 196]), (118, .ireturn, 1, 0, [])])
/-- LeaningTrees.keyOfTop(III)I -/
def s_m85 : sM := (yX6_keyOfTop, cX6_keyOfTop, 4, (some .int), 4, 2, 45, [(0, .iload_n 1, 1, 0, []), (1, .iload_n 2, 1, 0, []), (2, .if_icmp .le 10, 3, 0, []), (5, .bipush (-6), 2, 0, []), (7, .goto 30, 3, 0, []), (10, .aload_n 0, 1, 0, []), (11, .getfield 6146, 3, 10, [162]), (14, .getfield 5130, 3, 142, [56]), (17, .aload_n 0, 1, 0, []), (18, .getfield 6146, 3, 10, [162]), (21, .iload_n 1, 1, 0, []), (22, .iload_n 2, 1, 0, []), (23, .iload_n 3, 1, 0, []), (24, .invokevirtual 39, 3, 242, [283, 284, 285, 14, 286]), (27, .invokevirtual 22, 3, 56, [287, 194, 195, 15, 196]), (30, .ireturn, 1, 0, [])])
/-- LeaningTreesLaw.cell([II)I -/
def s_m89 : sM := (yL_cell, cL_cell, 2, (some .int), 2, 0, 0, [(0, .iload_n 1, 1, 0, []), (1, .aload_n 0, 1, 0, []), (2, .arraylength, 1, 0, []), (3, .if_icmp .ge 12, 3, 0, []), (6, .aload_n 0, 1, 0, []), (7, .iload_n 1, 1, 0, []), (8, .iaload, 1, 0, []), (9, .goto 20, 3, 0, []), (12, .ldc 1867459125, 2, 7, [322]), (14, .iload_n 1, 1, 0, []), (15, .sipush 787, 3, 0, []), (18, .iadd, 1, 0, []), (19, .imul, 1, 0, []), (20, .ireturn, 1, 0, [])])
/-- LeaningTreesLaw.up(II)I -/
def s_m90 : sM := (yL_up, cL_up, 2, (some .int), 2, 0, 0, [(0, .iload_n 0, 1, 0, []), (1, .ldc 2147483647, 2, 8, [329]), (3, .iand, 1, 0, []), (4, .iload_n 1, 1, 0, []), (5, .irem, 1, 0, []), (6, .ireturn, 1, 0, [])])
/-- LeaningTreesLaw.paid(LLeaningTrees;)I -/
def s_m91 : sM := (yL_paid, cL_paid, 1, (some .int), 1, 6, 133, [(0, .aload_n 0, 1, 0, []), (1, .iconst 4, 1, 0, []), (2, .invokevirtual 63, 3, 9, [267, 268, 269, 13, 270]), (5, .aload_n 0, 1, 0, []), (6, .iconst 5, 1, 0, []), (7, .invokevirtual 63, 3, 9, [267, 268, 269, 13, 270]), (10, .iadd, 1, 0, []), (11, .ldc 1000000, 2, 15, [333]), (13, .isub, 1, 0, []), (14, .aload_n 0, 1, 0, []), (15, .bipush 6, 2, 0, []), (17, .invokevirtual 63, 3, 9, [267, 268, 269, 13, 270]), (20, .iadd, 1, 0, []), (21, .ireturn, 1, 0, [])])
/-- LeaningTreesLaw.isStep(LLeaningTrees;I)Z -/
def s_r92_0 : List sE := [(0, .iload_n 1, 1, 0, []), (1, .iconst 4, 1, 0, []), (2, .ishr, 1, 0, []), (3, .istore_n 2, 1, 0, []), (4, .iload_n 2, 1, 0, []), (5, .iconst 3, 1, 0, []), (6, .invokestatic 90, 3, 16, [326, 327, 12, 328]), (9, .ifCond .ne 24, 3, 0, []), (12, .iload_n 2, 1, 0, []), (13, .iconst 2, 1, 0, []), (14, .ishr, 1, 0, []), (15, .sipush 1000, 3, 0, []), (18, .invokestatic 90, 3, 16, [326, 327, 12, 328]), (21, .goto 35, 3, 0, []), (24, .bipush 11, 2, 0, []), (26, .iload_n 2, 1, 0, []), (27, .iconst 2, 1, 0, []), (28, .ishr, 1, 0, []), (29, .bipush 60, 2, 0, []), (31, .invokestatic 90, 3, 16, [326, 327, 12, 328]), (34, .imul, 1, 0, []), (35, .istore_n 3, 1, 0, []), (36, .aload_n 0, 1, 0, []), (37, .invokestatic 91, 3, 22, [330, 331, 12, 332]), (40, .istore 4, 2, 0, []), (42, .aload_n 0, 1, 0, []), (43, .iconst 4, 1, 0, []), (44, .invokevirtual 63, 3, 9, [267, 268, 269, 13, 270]), (47, .istore 5, 2, 0, []), (49, .aload_n 0, 1, 0, []), (50, .iconst 1, 1, 0, []), (51, .invokevirtual 63, 3, 9, [267, 268, 269, 13, 270]), (54, .istore 6, 2, 0, []), (56, .aload_n 0, 1, 0, []), (57, .bipush 12, 2, 0, []), (59, .invokevirtual 63, 3, 9, [267, 268, 269, 13, 270]), (62, .istore 7, 2, 0, []), (64, .aload_n 0, 1, 0, []), (65, .iload_n 3, 1, 0, []), (66, .invokevirtual 61, 3, 26, [334, 335, 336, 13, 337])]
def s_r92_1 : List sE := [(69, .bipush (-6), 2, 0, []), (71, .if_icmp .eq 78, 3, 0, []), (74, .iconst 1, 1, 0, []), (75, .goto 79, 3, 0, []), (78, .iconst 0, 1, 0, []), (79, .istore 8, 2, 0, []), (81, .iload_n 1, 1, 0, []), (82, .bipush 14, 2, 0, []), (84, .invokestatic 90, 3, 16, [326, 327, 12, 328]), (87, .istore 9, 2, 0, []), (89, .iload 9, 2, 0, []), (91, .bipush 8, 2, 0, []), (93, .if_icmp .ge 283, 3, 0, []), (96, .aload_n 0, 1, 0, []), (97, .iload_n 3, 1, 0, []), (98, .invokevirtual 70, 3, 29, [342, 343, 344, 13, 345]), (101, .istore 10, 2, 0, []), (103, .aload_n 0, 1, 0, []), (104, .iload_n 3, 1, 0, []), (105, .iload_n 2, 1, 0, []), (106, .bipush 13, 2, 0, []), (108, .ishr, 1, 0, []), (109, .sipush 1000, 3, 0, []), (112, .invokestatic 90, 3, 16, [326, 327, 12, 328]), (115, .invokevirtual 58, 3, 32, [359, 360, 361, 13, 362]), (118, .istore 11, 2, 0, []), (120, .iload 11, 2, 0, []), (122, .bipush (-4), 2, 0, []), (124, .if_icmp .ne 155, 3, 0, []), (127, .iload 10, 2, 0, []), (129, .iload 11, 2, 0, []), (131, .if_icmp .ne 153, 3, 0, []), (134, .aload_n 0, 1, 0, []), (135, .iconst 0, 1, 0, []), (136, .invokevirtual 63, 3, 9, [267, 268, 269, 13, 270]), (139, .bipush 60, 2, 0, []), (141, .if_icmp .ne 153, 3, 0, []), (144, .iload 8, 2, 0, []), (146, .ifCond .ne 153, 3, 0, []), (149, .iconst 1, 1, 0, [])]
def s_r92_2 : List sE := [(150, .goto 154, 3, 0, []), (153, .iconst 0, 1, 0, []), (154, .ireturn, 1, 0, []), (155, .aload_n 0, 1, 0, []), (156, .invokestatic 91, 3, 22, [330, 331, 12, 332]), (159, .iload 4, 2, 0, []), (161, .isub, 1, 0, []), (162, .istore 12, 2, 0, []), (164, .iload 11, 2, 0, []), (166, .iload 10, 2, 0, []), (168, .if_icmp .ne 281, 3, 0, []), (171, .aload_n 0, 1, 0, []), (172, .iconst 4, 1, 0, []), (173, .invokevirtual 63, 3, 9, [267, 268, 269, 13, 270]), (176, .iload 5, 2, 0, []), (178, .iload 11, 2, 0, []), (180, .iadd, 1, 0, []), (181, .if_icmp .ne 281, 3, 0, []), (184, .aload_n 0, 1, 0, []), (185, .iload_n 3, 1, 0, []), (186, .invokevirtual 61, 3, 26, [334, 335, 336, 13, 337]), (189, .iload_n 2, 1, 0, []), (190, .bipush 13, 2, 0, []), (192, .ishr, 1, 0, []), (193, .sipush 1000, 3, 0, []), (196, .invokestatic 90, 3, 16, [326, 327, 12, 328]), (199, .if_icmp .ne 281, 3, 0, []), (202, .aload_n 0, 1, 0, []), (203, .iconst 1, 1, 0, []), (204, .invokevirtual 63, 3, 9, [267, 268, 269, 13, 270]), (207, .iload 6, 2, 0, []), (209, .iload 8, 2, 0, []), (211, .ifCond .eq 218, 3, 0, []), (214, .iconst 0, 1, 0, []), (215, .goto 219, 3, 0, []), (218, .iconst 1, 1, 0, []), (219, .iadd, 1, 0, []), (220, .if_icmp .ne 281, 3, 0, []), (223, .iload 7, 2, 0, []), (225, .ifCond .ne 236, 3, 0, [])]
def s_r92_3 : List sE := [(228, .iload 12, 2, 0, []), (230, .ifCond .ne 281, 3, 0, []), (233, .goto 261, 3, 0, []), (236, .iload 12, 2, 0, []), (238, .iload 7, 2, 0, []), (240, .irem, 1, 0, []), (241, .ifCond .ne 281, 3, 0, []), (244, .iload 12, 2, 0, []), (246, .iload 7, 2, 0, []), (248, .if_icmp .lt 281, 3, 0, []), (251, .iload 12, 2, 0, []), (253, .bipush 60, 2, 0, []), (255, .iload 7, 2, 0, []), (257, .imul, 1, 0, []), (258, .if_icmp .gt 281, 3, 0, []), (261, .iload 11, 2, 0, []), (263, .ifCond .eq 277, 3, 0, []), (266, .aload_n 0, 1, 0, []), (267, .bipush 8, 2, 0, []), (269, .invokevirtual 63, 3, 9, [267, 268, 269, 13, 270]), (272, .iload 11, 2, 0, []), (274, .if_icmp .lt 281, 3, 0, []), (277, .iconst 1, 1, 0, []), (278, .goto 282, 3, 0, []), (281, .iconst 0, 1, 0, []), (282, .ireturn, 1, 0, []), (283, .iload 9, 2, 0, []), (285, .bipush 11, 2, 0, []), (287, .if_icmp .ge 415, 3, 0, []), (290, .aload_n 0, 1, 0, []), (291, .iload_n 3, 1, 0, []), (292, .invokevirtual 59, 3, 35, [376, 377, 378, 13, 379]), (295, .istore 10, 2, 0, []), (297, .iload 10, 2, 0, []), (299, .iconst (-1), 1, 0, []), (300, .if_icmp .ne 314, 3, 0, []), (303, .iload 8, 2, 0, []), (305, .ifCond .ne 312, 3, 0, []), (308, .iconst 1, 1, 0, []), (309, .goto 313, 3, 0, [])]
def s_r92_4 : List sE := [(312, .iconst 0, 1, 0, []), (313, .ireturn, 1, 0, []), (314, .aload_n 0, 1, 0, []), (315, .invokestatic 91, 3, 22, [330, 331, 12, 332]), (318, .iload 4, 2, 0, []), (320, .isub, 1, 0, []), (321, .istore 11, 2, 0, []), (323, .iload 8, 2, 0, []), (325, .ifCond .eq 413, 3, 0, []), (328, .aload_n 0, 1, 0, []), (329, .iload_n 3, 1, 0, []), (330, .invokevirtual 61, 3, 26, [334, 335, 336, 13, 337]), (333, .bipush (-6), 2, 0, []), (335, .if_icmp .ne 413, 3, 0, []), (338, .aload_n 0, 1, 0, []), (339, .iconst 1, 1, 0, []), (340, .invokevirtual 63, 3, 9, [267, 268, 269, 13, 270]), (343, .iload 6, 2, 0, []), (345, .iconst 1, 1, 0, []), (346, .isub, 1, 0, []), (347, .if_icmp .ne 413, 3, 0, []), (350, .aload_n 0, 1, 0, []), (351, .iconst 4, 1, 0, []), (352, .invokevirtual 63, 3, 9, [267, 268, 269, 13, 270]), (355, .iload 5, 2, 0, []), (357, .iload 10, 2, 0, []), (359, .iadd, 1, 0, []), (360, .if_icmp .ne 413, 3, 0, []), (363, .iload 7, 2, 0, []), (365, .ifCond .ne 376, 3, 0, []), (368, .iload 11, 2, 0, []), (370, .ifCond .ne 413, 3, 0, []), (373, .goto 391, 3, 0, []), (376, .iload 11, 2, 0, []), (378, .iload 7, 2, 0, []), (380, .irem, 1, 0, []), (381, .ifCond .ne 413, 3, 0, []), (384, .iload 11, 2, 0, []), (386, .iload 7, 2, 0, []), (388, .if_icmp .lt 413, 3, 0, [])]
def s_r92_5 : List sE := [(391, .iload 10, 2, 0, []), (393, .ifCond .eq 409, 3, 0, []), (396, .aload_n 0, 1, 0, []), (397, .iconst 0, 1, 0, []), (398, .invokevirtual 63, 3, 9, [267, 268, 269, 13, 270]), (401, .aload_n 0, 1, 0, []), (402, .iconst 1, 1, 0, []), (403, .invokevirtual 63, 3, 9, [267, 268, 269, 13, 270]), (406, .if_icmp .ne 413, 3, 0, []), (409, .iconst 1, 1, 0, []), (410, .goto 414, 3, 0, []), (413, .iconst 0, 1, 0, []), (414, .ireturn, 1, 0, []), (415, .iload 9, 2, 0, []), (417, .bipush 12, 2, 0, []), (419, .if_icmp .ge 486, 3, 0, []), (422, .aload_n 0, 1, 0, []), (423, .iload_n 3, 1, 0, []), (424, .invokevirtual 60, 3, 38, [178, 179, 180, 13, 181]), (427, .istore 10, 2, 0, []), (429, .iload 10, 2, 0, []), (431, .iconst (-1), 1, 0, []), (432, .if_icmp .ne 448, 3, 0, []), (435, .iload 8, 2, 0, []), (437, .ifCond .ne 444, 3, 0, []), (440, .iconst 1, 1, 0, []), (441, .goto 485, 3, 0, []), (444, .iconst 0, 1, 0, []), (445, .goto 485, 3, 0, []), (448, .aload_n 0, 1, 0, []), (449, .invokestatic 91, 3, 22, [330, 331, 12, 332]), (452, .iload 4, 2, 0, []), (454, .if_icmp .ne 484, 3, 0, []), (457, .aload_n 0, 1, 0, []), (458, .iconst 4, 1, 0, []), (459, .invokevirtual 63, 3, 9, [267, 268, 269, 13, 270]), (462, .iload 5, 2, 0, []), (464, .iload 10, 2, 0, []), (466, .iadd, 1, 0, []), (467, .if_icmp .ne 484, 3, 0, [])]
def s_r92_6 : List sE := [(470, .aload_n 0, 1, 0, []), (471, .iconst 1, 1, 0, []), (472, .invokevirtual 63, 3, 9, [267, 268, 269, 13, 270]), (475, .iload 6, 2, 0, []), (477, .if_icmp .ne 484, 3, 0, []), (480, .iconst 1, 1, 0, []), (481, .goto 485, 3, 0, []), (484, .iconst 0, 1, 0, []), (485, .ireturn, 1, 0, []), (486, .iload_n 2, 1, 0, []), (487, .iconst 3, 1, 0, []), (488, .invokestatic 90, 3, 16, [326, 327, 12, 328]), (491, .istore 10, 2, 0, []), (493, .iload 10, 2, 0, []), (495, .ifCond .ne 512, 3, 0, []), (498, .bipush 55, 2, 0, []), (500, .iload_n 2, 1, 0, []), (501, .iconst 2, 1, 0, []), (502, .ishr, 1, 0, []), (503, .bipush 41, 2, 0, []), (505, .invokestatic 90, 3, 16, [326, 327, 12, 328]), (508, .iadd, 1, 0, []), (509, .goto 540, 3, 0, []), (512, .iload 10, 2, 0, []), (514, .iconst 1, 1, 0, []), (515, .if_icmp .ne 532, 3, 0, []), (518, .bipush 10, 2, 0, []), (520, .iload_n 2, 1, 0, []), (521, .iconst 2, 1, 0, []), (522, .ishr, 1, 0, []), (523, .bipush 81, 2, 0, []), (525, .invokestatic 90, 3, 16, [326, 327, 12, 328]), (528, .iadd, 1, 0, []), (529, .goto 540, 3, 0, []), (532, .iload_n 2, 1, 0, []), (533, .iconst 2, 1, 0, []), (534, .ishr, 1, 0, []), (535, .bipush 10, 2, 0, []), (537, .invokestatic 90, 3, 16, [326, 327, 12, 328]), (540, .istore 11, 2, 0, [])]
def s_r92_7 : List sE := [(542, .aload_n 0, 1, 0, []), (543, .iload 10, 2, 0, []), (545, .iload 11, 2, 0, []), (547, .invokevirtual 57, 3, 41, [386, 387, 388, 13, 389]), (550, .ifCond .lt 566, 3, 0, []), (553, .aload_n 0, 1, 0, []), (554, .invokestatic 91, 3, 22, [330, 331, 12, 332]), (557, .iload 4, 2, 0, []), (559, .if_icmp .ne 566, 3, 0, []), (562, .iconst 1, 1, 0, []), (563, .goto 567, 3, 0, []), (566, .iconst 0, 1, 0, []), (567, .ireturn, 1, 0, [])]
def s_m92 : sM := (yL_isStep, cL_isStep, 13, (some .boolean), 2, 7, 153, s_r92_0 ++ (s_r92_1 ++ (s_r92_2 ++ (s_r92_3 ++ (s_r92_4 ++ (s_r92_5 ++ (s_r92_6 ++ (s_r92_7))))))))
/-- LeaningTreesLaw.isTree(LLeaningTrees;)Z -/
def s_r93_0 : List sE := [(0, .bipush 62, 2, 0, []), (2, .newarray .int, 2, 0, [48]), (4, .astore_n 1, 1, 0, []), (5, .iconst 0, 1, 0, []), (6, .istore_n 2, 1, 0, []), (7, .iconst 0, 1, 0, []), (8, .istore_n 3, 1, 0, []), (9, .iconst 0, 1, 0, []), (10, .istore 4, 2, 0, []), (12, .iconst 0, 1, 0, []), (13, .istore 5, 2, 0, []), (15, .iconst 0, 1, 0, []), (16, .istore 6, 2, 0, []), (18, .bipush (-6), 2, 0, []), (20, .istore 7, 2, 0, []), (22, .iconst 0, 1, 0, []), (23, .istore 8, 2, 0, []), (25, .iconst 1, 1, 0, []), (26, .istore 9, 2, 0, []), (28, .aload_n 0, 1, 0, []), (29, .iconst 0, 1, 0, []), (30, .invokevirtual 63, 3, 9, [267, 268, 269, 13, 270]), (33, .ifCond .le 84, 3, 0, []), (36, .aload_n 1, 1, 0, []), (37, .iconst 0, 1, 0, []), (38, .aload_n 0, 1, 0, []), (39, .iconst 2, 1, 0, []), (40, .invokevirtual 63, 3, 9, [267, 268, 269, 13, 270]), (43, .iastore, 1, 0, []), (44, .iconst 1, 1, 0, []), (45, .istore_n 2, 1, 0, []), (46, .aload_n 0, 1, 0, []), (47, .aload_n 0, 1, 0, []), (48, .iconst 2, 1, 0, []), (49, .invokevirtual 63, 3, 9, [267, 268, 269, 13, 270]), (52, .iconst 3, 1, 0, []), (53, .invokevirtual 62, 3, 44, [401, 402, 403, 13, 404]), (56, .ifCond .ne 81, 3, 0, []), (59, .aload_n 0, 1, 0, []), (60, .aload_n 0, 1, 0, [])]
def s_r93_1 : List sE := [(61, .iconst 2, 1, 0, []), (62, .invokevirtual 63, 3, 9, [267, 268, 269, 13, 270]), (65, .iconst 2, 1, 0, []), (66, .invokevirtual 62, 3, 44, [401, 402, 403, 13, 404]), (69, .aload_n 0, 1, 0, []), (70, .iconst 0, 1, 0, []), (71, .invokevirtual 63, 3, 9, [267, 268, 269, 13, 270]), (74, .if_icmp .ne 81, 3, 0, []), (77, .iconst 1, 1, 0, []), (78, .goto 82, 3, 0, []), (81, .iconst 0, 1, 0, []), (82, .istore 9, 2, 0, []), (84, .iload_n 2, 1, 0, []), (85, .ifCond .le 507, 3, 0, []), (88, .iload 9, 2, 0, []), (90, .ifCond .eq 507, 3, 0, []), (93, .iinc 2 (-1), 3, 0, []), (96, .aload_n 1, 1, 0, []), (97, .iload_n 2, 1, 0, []), (98, .iaload, 1, 0, []), (99, .istore 10, 2, 0, []), (101, .aload_n 0, 1, 0, []), (102, .iload 10, 2, 0, []), (104, .iconst 0, 1, 0, []), (105, .invokevirtual 62, 3, 44, [401, 402, 403, 13, 404]), (108, .istore 11, 2, 0, []), (110, .aload_n 0, 1, 0, []), (111, .iload 10, 2, 0, []), (113, .iconst 1, 1, 0, []), (114, .invokevirtual 62, 3, 44, [401, 402, 403, 13, 404]), (117, .istore 12, 2, 0, []), (119, .aload_n 0, 1, 0, []), (120, .iload 10, 2, 0, []), (122, .iconst 3, 1, 0, []), (123, .invokevirtual 62, 3, 44, [401, 402, 403, 13, 404]), (126, .istore 13, 2, 0, []), (128, .iconst 1, 1, 0, []), (129, .istore 14, 2, 0, []), (131, .iconst 0, 1, 0, []), (132, .istore 15, 2, 0, [])]
def s_r93_2 : List sE := [(134, .aload_n 0, 1, 0, []), (135, .iload 10, 2, 0, []), (137, .iconst 5, 1, 0, []), (138, .invokevirtual 62, 3, 44, [401, 402, 403, 13, 404]), (141, .istore 16, 2, 0, []), (143, .iconst 0, 1, 0, []), (144, .istore 17, 2, 0, []), (146, .iinc 3 1, 3, 0, []), (149, .iload 4, 2, 0, []), (151, .iload 16, 2, 0, []), (153, .iadd, 1, 0, []), (154, .istore 4, 2, 0, []), (156, .iload 5, 2, 0, []), (158, .aload_n 0, 1, 0, []), (159, .iload 10, 2, 0, []), (161, .iconst 2, 1, 0, []), (162, .invokevirtual 62, 3, 44, [401, 402, 403, 13, 404]), (165, .iadd, 1, 0, []), (166, .istore 5, 2, 0, []), (168, .iload 6, 2, 0, []), (170, .iload 13, 2, 0, []), (172, .iadd, 1, 0, []), (173, .istore 6, 2, 0, []), (175, .iload 13, 2, 0, []), (177, .iload 7, 2, 0, []), (179, .if_icmp .le 187, 3, 0, []), (182, .iload 13, 2, 0, []), (184, .goto 189, 3, 0, []), (187, .iload 7, 2, 0, []), (189, .istore 7, 2, 0, []), (191, .iconst 0, 1, 0, []), (192, .istore 18, 2, 0, []), (194, .iload 18, 2, 0, []), (196, .iconst 2, 1, 0, []), (197, .if_icmp .ge 360, 3, 0, []), (200, .iload 18, 2, 0, []), (202, .ifCond .ne 210, 3, 0, []), (205, .iload 11, 2, 0, []), (207, .goto 212, 3, 0, []), (210, .iload 12, 2, 0, [])]
def s_r93_3 : List sE := [(212, .istore 19, 2, 0, []), (214, .iload 19, 2, 0, []), (216, .bipush (-6), 2, 0, []), (218, .if_icmp .eq 354, 3, 0, []), (221, .aload_n 0, 1, 0, []), (222, .iload 19, 2, 0, []), (224, .iconst 2, 1, 0, []), (225, .invokevirtual 62, 3, 44, [401, 402, 403, 13, 404]), (228, .istore 20, 2, 0, []), (230, .iload 14, 2, 0, []), (232, .iload 20, 2, 0, []), (234, .iadd, 1, 0, []), (235, .istore 14, 2, 0, []), (237, .iload 20, 2, 0, []), (239, .iload 15, 2, 0, []), (241, .if_icmp .le 249, 3, 0, []), (244, .iload 20, 2, 0, []), (246, .goto 251, 3, 0, []), (249, .iload 15, 2, 0, []), (251, .istore 15, 2, 0, []), (253, .iload 16, 2, 0, []), (255, .aload_n 0, 1, 0, []), (256, .iload 19, 2, 0, []), (258, .bipush 6, 2, 0, []), (260, .invokevirtual 62, 3, 44, [401, 402, 403, 13, 404]), (263, .iadd, 1, 0, []), (264, .istore 16, 2, 0, []), (266, .aload_n 0, 1, 0, []), (267, .iload 19, 2, 0, []), (269, .bipush 8, 2, 0, []), (271, .invokevirtual 62, 3, 44, [401, 402, 403, 13, 404]), (274, .iconst 1, 1, 0, []), (275, .iadd, 1, 0, []), (276, .iload 17, 2, 0, []), (278, .if_icmp .le 294, 3, 0, []), (281, .aload_n 0, 1, 0, []), (282, .iload 19, 2, 0, []), (284, .bipush 8, 2, 0, []), (286, .invokevirtual 62, 3, 44, [401, 402, 403, 13, 404]), (289, .iconst 1, 1, 0, [])]
def s_r93_4 : List sE := [(290, .iadd, 1, 0, []), (291, .goto 296, 3, 0, []), (294, .iload 17, 2, 0, []), (296, .istore 17, 2, 0, []), (298, .iload 9, 2, 0, []), (300, .ifCond .eq 343, 3, 0, []), (303, .iload 18, 2, 0, []), (305, .ifCond .ne 318, 3, 0, []), (308, .iload 19, 2, 0, []), (310, .iload 10, 2, 0, []), (312, .if_icmp .ge 343, 3, 0, []), (315, .goto 325, 3, 0, []), (318, .iload 19, 2, 0, []), (320, .iload 10, 2, 0, []), (322, .if_icmp .le 343, 3, 0, []), (325, .aload_n 0, 1, 0, []), (326, .iload 19, 2, 0, []), (328, .iconst 3, 1, 0, []), (329, .invokevirtual 62, 3, 44, [401, 402, 403, 13, 404]), (332, .iload 13, 2, 0, []), (334, .iconst 1, 1, 0, []), (335, .iadd, 1, 0, []), (336, .if_icmp .ne 343, 3, 0, []), (339, .iconst 1, 1, 0, []), (340, .goto 344, 3, 0, []), (343, .iconst 0, 1, 0, []), (344, .istore 9, 2, 0, []), (346, .aload_n 1, 1, 0, []), (347, .iload_n 2, 1, 0, []), (348, .iload 19, 2, 0, []), (350, .iastore, 1, 0, []), (351, .iinc 2 1, 3, 0, []), (354, .iinc 18 1, 3, 0, []), (357, .goto 194, 3, 0, []), (360, .bipush 100, 2, 0, []), (362, .iload 15, 2, 0, []), (364, .imul, 1, 0, []), (365, .aload_n 0, 1, 0, []), (366, .bipush 10, 2, 0, []), (368, .invokevirtual 63, 3, 9, [267, 268, 269, 13, 270])]
def s_r93_5 : List sE := [(371, .iload 14, 2, 0, []), (373, .imul, 1, 0, []), (374, .if_icmp .le 381, 3, 0, []), (377, .iconst 1, 1, 0, []), (378, .goto 382, 3, 0, []), (381, .iconst 0, 1, 0, []), (382, .istore 18, 2, 0, []), (384, .iload 8, 2, 0, []), (386, .iload 18, 2, 0, []), (388, .ifCond .eq 395, 3, 0, []), (391, .iconst 1, 1, 0, []), (392, .goto 396, 3, 0, []), (395, .iconst 0, 1, 0, []), (396, .iadd, 1, 0, []), (397, .istore 8, 2, 0, []), (399, .iload 9, 2, 0, []), (401, .ifCond .eq 501, 3, 0, []), (404, .aload_n 0, 1, 0, []), (405, .iload 10, 2, 0, []), (407, .iconst 2, 1, 0, []), (408, .invokevirtual 62, 3, 44, [401, 402, 403, 13, 404]), (411, .iload 14, 2, 0, []), (413, .if_icmp .ne 501, 3, 0, []), (416, .aload_n 0, 1, 0, []), (417, .iload 10, 2, 0, []), (419, .bipush 6, 2, 0, []), (421, .invokevirtual 62, 3, 44, [401, 402, 403, 13, 404]), (424, .iload 16, 2, 0, []), (426, .if_icmp .ne 501, 3, 0, []), (429, .aload_n 0, 1, 0, []), (430, .iload 10, 2, 0, []), (432, .bipush 8, 2, 0, []), (434, .invokevirtual 62, 3, 44, [401, 402, 403, 13, 404]), (437, .iload 17, 2, 0, []), (439, .if_icmp .ne 501, 3, 0, []), (442, .aload_n 0, 1, 0, []), (443, .iload 10, 2, 0, []), (445, .bipush 7, 2, 0, []), (447, .invokevirtual 62, 3, 44, [401, 402, 403, 13, 404]), (450, .iload 18, 2, 0, [])]
def s_r93_6 : List sE := [(452, .ifCond .eq 459, 3, 0, []), (455, .iconst 1, 1, 0, []), (456, .goto 460, 3, 0, []), (459, .iconst 0, 1, 0, []), (460, .if_icmp .ne 501, 3, 0, []), (463, .aload_n 0, 1, 0, []), (464, .iload 10, 2, 0, []), (466, .invokevirtual 61, 3, 26, [334, 335, 336, 13, 337]), (469, .bipush (-6), 2, 0, []), (471, .if_icmp .ne 478, 3, 0, []), (474, .iconst 1, 1, 0, []), (475, .goto 479, 3, 0, []), (478, .iconst 0, 1, 0, []), (479, .aload_n 0, 1, 0, []), (480, .iload 10, 2, 0, []), (482, .iconst 5, 1, 0, []), (483, .invokevirtual 62, 3, 44, [401, 402, 403, 13, 404]), (486, .ifCond .ne 493, 3, 0, []), (489, .iconst 1, 1, 0, []), (490, .goto 494, 3, 0, []), (493, .iconst 0, 1, 0, []), (494, .if_icmp .ne 501, 3, 0, []), (497, .iconst 1, 1, 0, []), (498, .goto 502, 3, 0, []), (501, .iconst 0, 1, 0, []), (502, .istore 9, 2, 0, []), (504, .goto 84, 3, 0, []), (507, .iload 9, 2, 0, []), (509, .ifCond .eq 565, 3, 0, []), (512, .iload_n 3, 1, 0, []), (513, .aload_n 0, 1, 0, []), (514, .iconst 0, 1, 0, []), (515, .invokevirtual 63, 3, 9, [267, 268, 269, 13, 270]), (518, .if_icmp .ne 565, 3, 0, []), (521, .iload 4, 2, 0, []), (523, .aload_n 0, 1, 0, []), (524, .iconst 1, 1, 0, []), (525, .invokevirtual 63, 3, 9, [267, 268, 269, 13, 270]), (528, .if_icmp .ne 565, 3, 0, []), (531, .iload 5, 2, 0, [])]
def s_r93_7 : List sE := [(533, .iload 6, 2, 0, []), (535, .iload_n 3, 1, 0, []), (536, .iadd, 1, 0, []), (537, .if_icmp .ne 565, 3, 0, []), (540, .iload 7, 2, 0, []), (542, .aload_n 0, 1, 0, []), (543, .iconst 3, 1, 0, []), (544, .invokevirtual 63, 3, 9, [267, 268, 269, 13, 270]), (547, .if_icmp .ne 565, 3, 0, []), (550, .iload 8, 2, 0, []), (552, .aload_n 0, 1, 0, []), (553, .bipush 9, 2, 0, []), (555, .invokevirtual 63, 3, 9, [267, 268, 269, 13, 270]), (558, .if_icmp .ne 565, 3, 0, []), (561, .iconst 1, 1, 0, []), (562, .goto 566, 3, 0, []), (565, .iconst 0, 1, 0, []), (566, .ireturn, 1, 0, [])]
def s_m93 : sM := (yL_isTree, cL_isTree, 21, (some .boolean), 1, 6, 133, s_r93_0 ++ (s_r93_1 ++ (s_r93_2 ++ (s_r93_3 ++ (s_r93_4 ++ (s_r93_5 ++ (s_r93_6 ++ (s_r93_7))))))))
/-- LeaningTreesLaw.areKeys(LLeaningTrees;)Z -/
def s_r94_0 : List sE := [(0, .aload_n 0, 1, 0, []), (1, .iconst 1, 1, 0, []), (2, .invokevirtual 63, 3, 9, [267, 268, 269, 13, 270]), (5, .istore_n 1, 1, 0, []), (6, .iconst 0, 1, 0, []), (7, .istore_n 2, 1, 0, []), (8, .aload_n 0, 1, 0, []), (9, .iload_n 1, 1, 0, []), (10, .invokevirtual 67, 3, 47, [416, 417, 418, 13, 419]), (13, .iconst (-1), 1, 0, []), (14, .if_icmp .ne 30, 3, 0, []), (17, .aload_n 0, 1, 0, []), (18, .iconst (-1), 1, 0, []), (19, .invokevirtual 67, 3, 47, [416, 417, 418, 13, 419]), (22, .iconst (-1), 1, 0, []), (23, .if_icmp .ne 30, 3, 0, []), (26, .iconst 1, 1, 0, []), (27, .goto 31, 3, 0, []), (30, .iconst 0, 1, 0, []), (31, .istore_n 3, 1, 0, []), (32, .iconst 0, 1, 0, []), (33, .istore 4, 2, 0, []), (35, .iload 4, 2, 0, []), (37, .iload_n 1, 1, 0, []), (38, .if_icmp .ge 184, 3, 0, []), (41, .iload_n 3, 1, 0, []), (42, .ifCond .eq 184, 3, 0, []), (45, .aload_n 0, 1, 0, []), (46, .iload 4, 2, 0, []), (48, .invokevirtual 67, 3, 47, [416, 417, 418, 13, 419]), (51, .istore 5, 2, 0, []), (53, .iload_n 2, 1, 0, []), (54, .aload_n 0, 1, 0, []), (55, .iload 5, 2, 0, []), (57, .invokevirtual 61, 3, 26, [334, 335, 336, 13, 337]), (60, .iadd, 1, 0, []), (61, .istore_n 2, 1, 0, []), (62, .aload_n 0, 1, 0, []), (63, .iload 5, 2, 0, []), (65, .invokevirtual 66, 3, 50, [424, 425, 426, 13, 427])]
def s_r94_1 : List sE := [(68, .iload 4, 2, 0, []), (70, .if_icmp .ne 176, 3, 0, []), (73, .iload 4, 2, 0, []), (75, .ifCond .ne 93, 3, 0, []), (78, .aload_n 0, 1, 0, []), (79, .iload 5, 2, 0, []), (81, .iconst 0, 1, 0, []), (82, .invokevirtual 68, 3, 53, [432, 433, 434, 13, 435]), (85, .bipush (-6), 2, 0, []), (87, .if_icmp .ne 176, 3, 0, []), (90, .goto 124, 3, 0, []), (93, .aload_n 0, 1, 0, []), (94, .iload 5, 2, 0, []), (96, .iconst 0, 1, 0, []), (97, .invokevirtual 68, 3, 53, [432, 433, 434, 13, 435]), (100, .aload_n 0, 1, 0, []), (101, .iload 4, 2, 0, []), (103, .iconst 1, 1, 0, []), (104, .isub, 1, 0, []), (105, .invokevirtual 67, 3, 47, [416, 417, 418, 13, 419]), (108, .if_icmp .ne 176, 3, 0, []), (111, .aload_n 0, 1, 0, []), (112, .iload 4, 2, 0, []), (114, .iconst 1, 1, 0, []), (115, .isub, 1, 0, []), (116, .invokevirtual 67, 3, 47, [416, 417, 418, 13, 419]), (119, .iload 5, 2, 0, []), (121, .if_icmp .ge 176, 3, 0, []), (124, .iload 4, 2, 0, []), (126, .iconst 1, 1, 0, []), (127, .iadd, 1, 0, []), (128, .iload_n 1, 1, 0, []), (129, .if_icmp .lt 144, 3, 0, []), (132, .aload_n 0, 1, 0, []), (133, .iload 5, 2, 0, []), (135, .iconst 1, 1, 0, []), (136, .invokevirtual 68, 3, 53, [432, 433, 434, 13, 435]), (139, .bipush (-6), 2, 0, []), (141, .if_icmp .ne 176, 3, 0, []), (144, .aload_n 0, 1, 0, [])]
def s_r94_2 : List sE := [(145, .iconst 0, 1, 0, []), (146, .iload 5, 2, 0, []), (148, .invokevirtual 69, 3, 56, [436, 437, 438, 13, 439]), (151, .iload_n 2, 1, 0, []), (152, .if_icmp .ne 176, 3, 0, []), (155, .aload_n 0, 1, 0, []), (156, .iload 5, 2, 0, []), (158, .iload 5, 2, 0, []), (160, .invokevirtual 69, 3, 56, [436, 437, 438, 13, 439]), (163, .aload_n 0, 1, 0, []), (164, .iload 5, 2, 0, []), (166, .invokevirtual 61, 3, 26, [334, 335, 336, 13, 337]), (169, .if_icmp .ne 176, 3, 0, []), (172, .iconst 1, 1, 0, []), (173, .goto 177, 3, 0, []), (176, .iconst 0, 1, 0, []), (177, .istore_n 3, 1, 0, []), (178, .iinc 4 1, 3, 0, []), (181, .goto 35, 3, 0, []), (184, .iload_n 3, 1, 0, []), (185, .ifCond .eq 204, 3, 0, []), (188, .aload_n 0, 1, 0, []), (189, .iconst 0, 1, 0, []), (190, .sipush 999, 3, 0, []), (193, .invokevirtual 69, 3, 56, [436, 437, 438, 13, 439]), (196, .iload_n 2, 1, 0, []), (197, .if_icmp .ne 204, 3, 0, []), (200, .iconst 1, 1, 0, []), (201, .goto 205, 3, 0, []), (204, .iconst 0, 1, 0, []), (205, .ireturn, 1, 0, [])]
def s_m94 : sM := (yL_areKeys, cL_areKeys, 6, (some .boolean), 1, 6, 133, s_r94_0 ++ (s_r94_1 ++ (s_r94_2)))
/-- LeaningTreesLaw.law([I)Z -/
def s_r95_0 : List sE := [(0, .new 6, 3, 10, [22, 23, 13]), (3, .dup, 1, 0, []), (4, .invokespecial 56, 3, 59, [24, 25, 13, 26]), (7, .astore_n 1, 1, 0, []), (8, .iconst 1, 1, 0, []), (9, .istore_n 2, 1, 0, []), (10, .iconst 0, 1, 0, []), (11, .istore_n 3, 1, 0, []), (12, .iload_n 3, 1, 0, []), (13, .bipush 60, 2, 0, []), (15, .if_icmp .ge 59, 3, 0, []), (18, .iload_n 2, 1, 0, []), (19, .ifCond .eq 59, 3, 0, []), (22, .aload_n 1, 1, 0, []), (23, .aload_n 0, 1, 0, []), (24, .iload_n 3, 1, 0, []), (25, .invokestatic 89, 3, 60, [319, 320, 12, 321])]
def s_r95_1 : List sE := [(28, .invokestatic 92, 3, 64, [323, 324, 12, 325])]
def s_r95_2 : List sE := [(31, .ifCond .eq 51, 3, 0, []), (34, .iload_n 3, 1, 0, []), (35, .iconst 4, 1, 0, []), (36, .irem, 1, 0, []), (37, .ifCond .gt 47, 3, 0, []), (40, .aload_n 1, 1, 0, [])]
def s_r95_3 : List sE := [(41, .invokestatic 93, 3, 68, [398, 399, 12, 400])]
def s_r95_4 : List sE := [(44, .ifCond .eq 51, 3, 0, []), (47, .iconst 1, 1, 0, []), (48, .goto 52, 3, 0, []), (51, .iconst 0, 1, 0, []), (52, .istore_n 2, 1, 0, []), (53, .iinc 3 1, 3, 0, []), (56, .goto 12, 3, 0, []), (59, .iload_n 2, 1, 0, []), (60, .ifCond .eq 81, 3, 0, []), (63, .aload_n 1, 1, 0, [])]
def s_r95_5 : List sE := [(64, .invokestatic 93, 3, 68, [398, 399, 12, 400])]
def s_r95_6 : List sE := [(67, .ifCond .eq 81, 3, 0, []), (70, .aload_n 1, 1, 0, [])]
def s_r95_7 : List sE := [(71, .invokestatic 94, 3, 72, [413, 414, 12, 415])]
def s_r95_8 : List sE := [(74, .ifCond .eq 81, 3, 0, []), (77, .iconst 1, 1, 0, []), (78, .goto 82, 3, 0, []), (81, .iconst 0, 1, 0, []), (82, .istore_n 2, 1, 0, []), (83, .aload_n 1, 1, 0, []), (84, .iconst 1, 1, 0, []), (85, .invokevirtual 63, 3, 9, [267, 268, 269, 13, 270]), (88, .istore_n 3, 1, 0, []), (89, .iconst 0, 1, 0, []), (90, .istore 4, 2, 0, []), (92, .iconst 1, 1, 0, []), (93, .iload 4, 2, 0, []), (95, .ishl, 1, 0, []), (96, .iload_n 3, 1, 0, []), (97, .if_icmp .gt 106, 3, 0, []), (100, .iinc 4 1, 3, 0, []), (103, .goto 92, 3, 0, []), (106, .aload_n 1, 1, 0, []), (107, .iconst 0, 1, 0, []), (108, .invokevirtual 63, 3, 9, [267, 268, 269, 13, 270]), (111, .ifCond .le 192, 3, 0, []), (114, .iload_n 2, 1, 0, []), (115, .ifCond .eq 190, 3, 0, []), (118, .aload_n 1, 1, 0, []), (119, .aload_n 1, 1, 0, []), (120, .iconst 2, 1, 0, []), (121, .invokevirtual 63, 3, 9, [267, 268, 269, 13, 270]), (124, .invokevirtual 60, 3, 38, [178, 179, 180, 13, 181]), (127, .iload_n 3, 1, 0, []), (128, .if_icmp .lt 190, 3, 0, []), (131, .aload_n 1, 1, 0, []), (132, .iconst 0, 1, 0, []), (133, .invokevirtual 63, 3, 9, [267, 268, 269, 13, 270]), (136, .iload_n 3, 1, 0, []), (137, .if_icmp .ne 190, 3, 0, []), (140, .aload_n 1, 1, 0, []), (141, .iconst 3, 1, 0, []), (142, .invokevirtual 63, 3, 9, [267, 268, 269, 13, 270]), (145, .iload_n 3, 1, 0, []), (146, .ifCond .ne 154, 3, 0, []), (149, .bipush (-6), 2, 0, []), (151, .goto 158, 3, 0, []), (154, .iload 4, 2, 0, []), (156, .iconst 1, 1, 0, []), (157, .isub, 1, 0, []), (158, .if_icmp .ne 190, 3, 0, []), (161, .aload_n 1, 1, 0, []), (162, .bipush 6, 2, 0, []), (164, .invokevirtual 63, 3, 9, [267, 268, 269, 13, 270]), (167, .ifCond .ne 190, 3, 0, []), (170, .aload_n 1, 1, 0, []), (171, .invokevirtual 76, 3, 75, [311, 312, 313, 13, 314]), (174, .ifCond .lt 190, 3, 0, []), (177, .aload_n 1, 1, 0, []), (178, .iconst 1, 1, 0, []), (179, .invokevirtual 63, 3, 9, [267, 268, 269, 13, 270]), (182, .iload_n 3, 1, 0, []), (183, .if_icmp .ne 190, 3, 0, []), (186, .iconst 1, 1, 0, []), (187, .goto 191, 3, 0, []), (190, .iconst 0, 1, 0, []), (191, .istore_n 2, 1, 0, []), (192, .iload_n 2, 1, 0, []), (193, .ireturn, 1, 0, [])]
def s_m95 : sM := (x, code, 5, (some .boolean), 1, 8, 185, s_r95_0 ++ (s_r95_1 ++ (s_r95_2 ++ (s_r95_3 ++ (s_r95_4 ++ (s_r95_5 ++ (s_r95_6 ++ (s_r95_7 ++ (s_r95_8)))))))))
def s_l0 : List (sM × Option Nat) := [(s_m0, some 0), (s_m1, some 0), (s_m2, some 0), (s_m3, some 0), (s_m4, some 0), (s_m5, some 1), (s_m22, some 3), (s_m22, some 3), (s_m22, some 3), (s_m22, some 3), (s_m22, some 3), (s_m22, some 3), (s_m22, some 3), (s_m22, some 3), (s_m22, some 3), (s_m22, some 3), (s_m22, some 3), (s_m17, some 2), (s_m22, some 3), (s_m22, some 3)]
def s_l1 : List (sM × Option Nat) := [(s_m22, some 3), (s_m21, some 3), (s_m22, some 3), (s_m23, some 3), (s_m24, some 3), (s_m25, some 3), (s_m26, some 3), (s_m27, some 4), (s_m28, some 5), (s_m29, some 5), (s_m30, some 5), (s_m31, some 5), (s_m32, some 5), (s_m33, some 5), (s_m34, some 5), (s_m35, some 5), (s_m36, some 5), (s_m37, some 5), (s_m38, some 5), (s_m39, some 5)]
def s_l2 : List (sM × Option Nat) := [(s_m40, some 5), (s_m41, some 5), (s_m42, some 5), (s_m43, some 5), (s_m44, some 5), (s_m45, some 5), (s_m46, some 5), (s_m47, some 5), (s_m48, some 5), (s_m49, some 5), (s_m50, some 5), (s_m51, some 5), (s_m52, some 5), (s_m53, some 5), (s_m54, some 5), (s_m55, none), (s_m56, some 6), (s_m57, some 6), (s_m58, some 6), (s_m59, some 6)]
def s_l3 : List (sM × Option Nat) := [(s_m60, some 6), (s_m61, some 6), (s_m62, some 6), (s_m63, some 6), (s_m22, some 3), (s_m22, some 3), (s_m66, some 6), (s_m67, some 6), (s_m68, some 6), (s_m69, some 6), (s_m70, some 6), (s_m22, some 3), (s_m22, some 3), (s_m22, some 3), (s_m22, some 3), (s_m22, some 3), (s_m76, some 6), (s_m22, some 3), (s_m22, some 3), (s_m79, none)]
def s_l4 : List (sM × Option Nat) := [(s_m80, none), (s_m22, some 3), (s_m82, some 6), (s_m83, some 6), (s_m84, some 6), (s_m85, some 6), (s_m22, some 3), (s_m22, some 3), (s_m22, some 3), (s_m89, none), (s_m90, none), (s_m91, none), (s_m92, none), (s_m93, none), (s_m94, none), (s_m95, none)]
def s_ml : List (sM × Option Nat) := s_l0 ++ (s_l1 ++ (s_l2 ++ (s_l3 ++ (s_l4))))
def s_T : sMT := fun k => s_nth s_ml k
end
section
def s_ckm (q : sM × Option Nat) : Bool := (s_cd q.1).all (fun e => s_chk s_S s_T lw_tbl s_host q.1 e) && (plainFor (s_y q.1) && (match q.2 with
  | some c => decide (s_cn s_S c = (s_y q.1).cls) && decide (0 < s_N s_S c)
  | none => true))
theorem s_all2 {f : sE → Bool} {a b : List sE} (ha : a.all f = true) (hb : b.all f = true) : (a ++ b).all f = true := by rw [List.all_append, ha, hb]; rfl
theorem s_ck3 {q : sM × Option Nat} {c : List sE} (hc : s_cd q.1 = c) (h1 : c.all (fun e => s_chk s_S s_T lw_tbl s_host q.1 e) = true) (h2 : (plainFor (s_y q.1) && (match q.2 with | some c => decide (s_cn s_S c = (s_y q.1).cls) && decide (0 < s_N s_S c) | none => true)) = true) : s_ckm q = true := by
  unfold s_ckm
  rw [hc, h1, Bool.true_and]
  exact h2
theorem s_k22 : s_ckm (s_m22, some 3) = true := by decide +kernel
/-- a row whose words are long: they are compared as they are written -/
theorem s_chk_1 {r : sM} {e : sE} (h1 : (decide (decode (s_b r) e.1 = .ok (s_rel e.1 e.2.2.2.1 e.2.1, e.2.2.1)) && (decide (s_ln e.2.1 = 0) || decide (e.2.2.1 = s_ln e.2.1))) = true) (h2 : (s_wds s_S s_T (s_y r).cls e.2.2.2.1 e.2.1).map some = e.2.2.2.2.map (fun i => lw_tbl[i]?)) (h3 : ((s_wds s_S s_T (s_y r).cls e.2.2.2.1 e.2.1).all goodWord && s_sd s_S s_T s_host r e.2.2.2.1 e.2.1 && s_so e.1 e.2.1) = true) : [e].all (fun e => s_chk s_S s_T lw_tbl s_host r e) = true := by
  rw [List.all_cons, List.all_nil, Bool.and_true]
  unfold s_chk
  rw [decide_eq_true h2, h1, Bool.true_and, Bool.true_and]
  exact h3
theorem s_k0 : s_ckm (s_m0, some 0) = true := by decide +kernel
theorem s_k1 : s_ckm (s_m1, some 0) = true := by decide +kernel
theorem s_k2 : s_ckm (s_m2, some 0) = true := by decide +kernel
theorem s_k3 : s_ckm (s_m3, some 0) = true := by decide +kernel
theorem s_k4 : s_ckm (s_m4, some 0) = true := by decide +kernel
theorem s_k5 : s_ckm (s_m5, some 1) = true := by decide +kernel
theorem s_k17 : s_ckm (s_m17, some 2) = true := by decide +kernel
theorem s_k21 : s_ckm (s_m21, some 3) = true := by decide +kernel
theorem s_k23 : s_ckm (s_m23, some 3) = true := by decide +kernel
theorem s_k24 : s_ckm (s_m24, some 3) = true := by decide +kernel
theorem s_k25 : s_ckm (s_m25, some 3) = true := by decide +kernel
theorem s_k26 : s_ckm (s_m26, some 3) = true := by decide +kernel
theorem s_k27 : s_ckm (s_m27, some 4) = true := by decide +kernel
theorem s_k28 : s_ckm (s_m28, some 5) = true := by decide +kernel
theorem s_k29 : s_ckm (s_m29, some 5) = true := by decide +kernel
theorem s_k30 : s_ckm (s_m30, some 5) = true := by decide +kernel
theorem s_k31 : s_ckm (s_m31, some 5) = true := by decide +kernel
theorem s_k32 : s_ckm (s_m32, some 5) = true := by decide +kernel
theorem s_k33 : s_ckm (s_m33, some 5) = true := by decide +kernel
theorem s_k34 : s_ckm (s_m34, some 5) = true := by decide +kernel
theorem s_k35 : s_ckm (s_m35, some 5) = true := by decide +kernel
theorem s_k36 : s_ckm (s_m36, some 5) = true := by decide +kernel
theorem s_k37 : s_ckm (s_m37, some 5) = true := by decide +kernel
theorem s_k38 : s_ckm (s_m38, some 5) = true := by decide +kernel
theorem s_k39 : s_ckm (s_m39, some 5) = true := by decide +kernel
theorem s_k40 : s_ckm (s_m40, some 5) = true := by decide +kernel
theorem s_k41 : s_ckm (s_m41, some 5) = true := by decide +kernel
theorem s_k42 : s_ckm (s_m42, some 5) = true := by decide +kernel
theorem s_k43 : s_ckm (s_m43, some 5) = true := by decide +kernel
theorem s_k44 : s_ckm (s_m44, some 5) = true := by decide +kernel
theorem s_k45 : s_ckm (s_m45, some 5) = true := by decide +kernel
theorem s_k46 : s_ckm (s_m46, some 5) = true := by decide +kernel
theorem s_k47 : s_ckm (s_m47, some 5) = true := by decide +kernel
theorem s_k48 : s_ckm (s_m48, some 5) = true := by decide +kernel
theorem s_k49 : s_ckm (s_m49, some 5) = true := by decide +kernel
theorem s_k50_0 : (s_r50_0).all (fun e => s_chk s_S s_T lw_tbl s_host s_m50 e) = true := by decide +kernel
theorem s_k50_1 : (s_r50_1).all (fun e => s_chk s_S s_T lw_tbl s_host s_m50 e) = true := by decide +kernel
theorem s_k50_x : (plainFor (s_y s_m50) && (match ((s_m50, some 5) : sM × Option Nat).2 with | some c => decide (s_cn s_S c = (s_y s_m50).cls) && decide (0 < s_N s_S c) | none => true)) = true := by decide +kernel
theorem s_k50 : s_ckm (s_m50, some 5) = true := s_ck3 (c := s_cd s_m50) rfl (s_all2 s_k50_0 s_k50_1) s_k50_x
theorem s_k51 : s_ckm (s_m51, some 5) = true := by decide +kernel
theorem s_k52_0 : (s_r52_0).all (fun e => s_chk s_S s_T lw_tbl s_host s_m52 e) = true := by decide +kernel
theorem s_k52_1 : (s_r52_1).all (fun e => s_chk s_S s_T lw_tbl s_host s_m52 e) = true := by decide +kernel
theorem s_k52_x : (plainFor (s_y s_m52) && (match ((s_m52, some 5) : sM × Option Nat).2 with | some c => decide (s_cn s_S c = (s_y s_m52).cls) && decide (0 < s_N s_S c) | none => true)) = true := by decide +kernel
theorem s_k52 : s_ckm (s_m52, some 5) = true := s_ck3 (c := s_cd s_m52) rfl (s_all2 s_k52_0 s_k52_1) s_k52_x
theorem s_k53 : s_ckm (s_m53, some 5) = true := by decide +kernel
theorem s_k54 : s_ckm (s_m54, some 5) = true := by decide +kernel
theorem s_k55 : s_ckm (s_m55, none) = true := by decide +kernel
end
section
theorem s_k56 : s_ckm (s_m56, some 6) = true := by decide +kernel
theorem s_k57 : s_ckm (s_m57, some 6) = true := by decide +kernel
theorem s_k58 : s_ckm (s_m58, some 6) = true := by decide +kernel
theorem s_k59 : s_ckm (s_m59, some 6) = true := by decide +kernel
theorem s_k60 : s_ckm (s_m60, some 6) = true := by decide +kernel
theorem s_k61 : s_ckm (s_m61, some 6) = true := by decide +kernel
theorem s_k62 : s_ckm (s_m62, some 6) = true := by decide +kernel
theorem s_k63 : s_ckm (s_m63, some 6) = true := by decide +kernel
theorem s_k66 : s_ckm (s_m66, some 6) = true := by decide +kernel
theorem s_k67 : s_ckm (s_m67, some 6) = true := by decide +kernel
theorem s_k68 : s_ckm (s_m68, some 6) = true := by decide +kernel
theorem s_k69 : s_ckm (s_m69, some 6) = true := by decide +kernel
theorem s_k70 : s_ckm (s_m70, some 6) = true := by decide +kernel
theorem s_k76 : s_ckm (s_m76, some 6) = true := by decide +kernel
theorem s_k79 : s_ckm (s_m79, none) = true := by decide +kernel
theorem s_k80 : s_ckm (s_m80, none) = true := by decide +kernel
theorem s_k82_0 : (s_r82_0).all (fun e => s_chk s_S s_T lw_tbl s_host s_m82 e) = true := by decide +kernel
theorem s_k82_1 : (s_r82_1).all (fun e => s_chk s_S s_T lw_tbl s_host s_m82 e) = true := by decide +kernel
theorem s_k82_2 : (s_r82_2).all (fun e => s_chk s_S s_T lw_tbl s_host s_m82 e) = true := by decide +kernel
theorem s_k82_x : (plainFor (s_y s_m82) && (match ((s_m82, some 6) : sM × Option Nat).2 with | some c => decide (s_cn s_S c = (s_y s_m82).cls) && decide (0 < s_N s_S c) | none => true)) = true := by decide +kernel
theorem s_k82 : s_ckm (s_m82, some 6) = true := s_ck3 (c := s_cd s_m82) rfl (s_all2 s_k82_0 (s_all2 s_k82_1 s_k82_2)) s_k82_x
theorem s_k83 : s_ckm (s_m83, some 6) = true := by decide +kernel
theorem s_k84 : s_ckm (s_m84, some 6) = true := by decide +kernel
theorem s_k85 : s_ckm (s_m85, some 6) = true := by decide +kernel
theorem s_k89 : s_ckm (s_m89, none) = true := by decide +kernel
theorem s_k90 : s_ckm (s_m90, none) = true := by decide +kernel
theorem s_k91 : s_ckm (s_m91, none) = true := by decide +kernel
end
section
theorem s_k92_0 : (s_r92_0).all (fun e => s_chk s_S s_T lw_tbl s_host s_m92 e) = true := by decide +kernel
theorem s_k92_1 : (s_r92_1).all (fun e => s_chk s_S s_T lw_tbl s_host s_m92 e) = true := by decide +kernel
theorem s_k92_2 : (s_r92_2).all (fun e => s_chk s_S s_T lw_tbl s_host s_m92 e) = true := by decide +kernel
theorem s_k92_3 : (s_r92_3).all (fun e => s_chk s_S s_T lw_tbl s_host s_m92 e) = true := by decide +kernel
theorem s_k92_4 : (s_r92_4).all (fun e => s_chk s_S s_T lw_tbl s_host s_m92 e) = true := by decide +kernel
theorem s_k92_5 : (s_r92_5).all (fun e => s_chk s_S s_T lw_tbl s_host s_m92 e) = true := by decide +kernel
theorem s_k92_6 : (s_r92_6).all (fun e => s_chk s_S s_T lw_tbl s_host s_m92 e) = true := by decide +kernel
theorem s_k92_7 : (s_r92_7).all (fun e => s_chk s_S s_T lw_tbl s_host s_m92 e) = true := by decide +kernel
theorem s_k92_x : (plainFor (s_y s_m92) && (match ((s_m92, none) : sM × Option Nat).2 with | some c => decide (s_cn s_S c = (s_y s_m92).cls) && decide (0 < s_N s_S c) | none => true)) = true := by decide +kernel
theorem s_k92 : s_ckm (s_m92, none) = true := s_ck3 (c := s_cd s_m92) rfl (s_all2 s_k92_0 (s_all2 s_k92_1 (s_all2 s_k92_2 (s_all2 s_k92_3 (s_all2 s_k92_4 (s_all2 s_k92_5 (s_all2 s_k92_6 s_k92_7))))))) s_k92_x
theorem s_k93_0 : (s_r93_0).all (fun e => s_chk s_S s_T lw_tbl s_host s_m93 e) = true := by decide +kernel
theorem s_k93_1 : (s_r93_1).all (fun e => s_chk s_S s_T lw_tbl s_host s_m93 e) = true := by decide +kernel
theorem s_k93_2 : (s_r93_2).all (fun e => s_chk s_S s_T lw_tbl s_host s_m93 e) = true := by decide +kernel
theorem s_k93_3 : (s_r93_3).all (fun e => s_chk s_S s_T lw_tbl s_host s_m93 e) = true := by decide +kernel
theorem s_k93_4 : (s_r93_4).all (fun e => s_chk s_S s_T lw_tbl s_host s_m93 e) = true := by decide +kernel
theorem s_k93_5 : (s_r93_5).all (fun e => s_chk s_S s_T lw_tbl s_host s_m93 e) = true := by decide +kernel
theorem s_k93_6 : (s_r93_6).all (fun e => s_chk s_S s_T lw_tbl s_host s_m93 e) = true := by decide +kernel
theorem s_k93_7 : (s_r93_7).all (fun e => s_chk s_S s_T lw_tbl s_host s_m93 e) = true := by decide +kernel
theorem s_k93_x : (plainFor (s_y s_m93) && (match ((s_m93, none) : sM × Option Nat).2 with | some c => decide (s_cn s_S c = (s_y s_m93).cls) && decide (0 < s_N s_S c) | none => true)) = true := by decide +kernel
theorem s_k93 : s_ckm (s_m93, none) = true := s_ck3 (c := s_cd s_m93) rfl (s_all2 s_k93_0 (s_all2 s_k93_1 (s_all2 s_k93_2 (s_all2 s_k93_3 (s_all2 s_k93_4 (s_all2 s_k93_5 (s_all2 s_k93_6 s_k93_7))))))) s_k93_x
end
section
theorem s_k94_0 : (s_r94_0).all (fun e => s_chk s_S s_T lw_tbl s_host s_m94 e) = true := by decide +kernel
theorem s_k94_1 : (s_r94_1).all (fun e => s_chk s_S s_T lw_tbl s_host s_m94 e) = true := by decide +kernel
theorem s_k94_2 : (s_r94_2).all (fun e => s_chk s_S s_T lw_tbl s_host s_m94 e) = true := by decide +kernel
theorem s_k94_x : (plainFor (s_y s_m94) && (match ((s_m94, none) : sM × Option Nat).2 with | some c => decide (s_cn s_S c = (s_y s_m94).cls) && decide (0 < s_N s_S c) | none => true)) = true := by decide +kernel
theorem s_k94 : s_ckm (s_m94, none) = true := s_ck3 (c := s_cd s_m94) rfl (s_all2 s_k94_0 (s_all2 s_k94_1 s_k94_2)) s_k94_x
theorem s_k95_0 : (s_r95_0).all (fun e => s_chk s_S s_T lw_tbl s_host s_m95 e) = true := by decide +kernel
theorem s_k95_1 : (s_r95_1).all (fun e => s_chk s_S s_T lw_tbl s_host s_m95 e) = true := s_chk_1 (by decide +kernel) rfl (by decide +kernel)
theorem s_k95_2 : (s_r95_2).all (fun e => s_chk s_S s_T lw_tbl s_host s_m95 e) = true := by decide +kernel
theorem s_k95_3 : (s_r95_3).all (fun e => s_chk s_S s_T lw_tbl s_host s_m95 e) = true := s_chk_1 (by decide +kernel) rfl (by decide +kernel)
theorem s_k95_4 : (s_r95_4).all (fun e => s_chk s_S s_T lw_tbl s_host s_m95 e) = true := by decide +kernel
theorem s_k95_5 : (s_r95_5).all (fun e => s_chk s_S s_T lw_tbl s_host s_m95 e) = true := s_chk_1 (by decide +kernel) rfl (by decide +kernel)
theorem s_k95_6 : (s_r95_6).all (fun e => s_chk s_S s_T lw_tbl s_host s_m95 e) = true := by decide +kernel
theorem s_k95_7 : (s_r95_7).all (fun e => s_chk s_S s_T lw_tbl s_host s_m95 e) = true := s_chk_1 (by decide +kernel) rfl (by decide +kernel)
theorem s_k95_8 : (s_r95_8).all (fun e => s_chk s_S s_T lw_tbl s_host s_m95 e) = true := by decide +kernel
theorem s_k95_x : (plainFor (s_y s_m95) && (match ((s_m95, none) : sM × Option Nat).2 with | some c => decide (s_cn s_S c = (s_y s_m95).cls) && decide (0 < s_N s_S c) | none => true)) = true := by decide +kernel
theorem s_k95 : s_ckm (s_m95, none) = true := s_ck3 (c := s_cd s_m95) rfl (s_all2 s_k95_0 (s_all2 s_k95_1 (s_all2 s_k95_2 (s_all2 s_k95_3 (s_all2 s_k95_4 (s_all2 s_k95_5 (s_all2 s_k95_6 (s_all2 s_k95_7 s_k95_8)))))))) s_k95_x
end
section
theorem s_kl0 : ∀ q ∈ s_l0, s_ckm q = true := List.forall_mem_cons.mpr ⟨s_k0, List.forall_mem_cons.mpr ⟨s_k1, List.forall_mem_cons.mpr ⟨s_k2, List.forall_mem_cons.mpr ⟨s_k3, List.forall_mem_cons.mpr ⟨s_k4, List.forall_mem_cons.mpr ⟨s_k5, List.forall_mem_cons.mpr ⟨s_k22, List.forall_mem_cons.mpr ⟨s_k22, List.forall_mem_cons.mpr ⟨s_k22, List.forall_mem_cons.mpr ⟨s_k22, List.forall_mem_cons.mpr ⟨s_k22, List.forall_mem_cons.mpr ⟨s_k22, List.forall_mem_cons.mpr ⟨s_k22, List.forall_mem_cons.mpr ⟨s_k22, List.forall_mem_cons.mpr ⟨s_k22, List.forall_mem_cons.mpr ⟨s_k22, List.forall_mem_cons.mpr ⟨s_k22, List.forall_mem_cons.mpr ⟨s_k17, List.forall_mem_cons.mpr ⟨s_k22, List.forall_mem_cons.mpr ⟨s_k22, fun _ h => absurd h List.not_mem_nil⟩⟩⟩⟩⟩⟩⟩⟩⟩⟩⟩⟩⟩⟩⟩⟩⟩⟩⟩⟩
theorem s_kl1 : ∀ q ∈ s_l1, s_ckm q = true := List.forall_mem_cons.mpr ⟨s_k22, List.forall_mem_cons.mpr ⟨s_k21, List.forall_mem_cons.mpr ⟨s_k22, List.forall_mem_cons.mpr ⟨s_k23, List.forall_mem_cons.mpr ⟨s_k24, List.forall_mem_cons.mpr ⟨s_k25, List.forall_mem_cons.mpr ⟨s_k26, List.forall_mem_cons.mpr ⟨s_k27, List.forall_mem_cons.mpr ⟨s_k28, List.forall_mem_cons.mpr ⟨s_k29, List.forall_mem_cons.mpr ⟨s_k30, List.forall_mem_cons.mpr ⟨s_k31, List.forall_mem_cons.mpr ⟨s_k32, List.forall_mem_cons.mpr ⟨s_k33, List.forall_mem_cons.mpr ⟨s_k34, List.forall_mem_cons.mpr ⟨s_k35, List.forall_mem_cons.mpr ⟨s_k36, List.forall_mem_cons.mpr ⟨s_k37, List.forall_mem_cons.mpr ⟨s_k38, List.forall_mem_cons.mpr ⟨s_k39, fun _ h => absurd h List.not_mem_nil⟩⟩⟩⟩⟩⟩⟩⟩⟩⟩⟩⟩⟩⟩⟩⟩⟩⟩⟩⟩
theorem s_kl2 : ∀ q ∈ s_l2, s_ckm q = true := List.forall_mem_cons.mpr ⟨s_k40, List.forall_mem_cons.mpr ⟨s_k41, List.forall_mem_cons.mpr ⟨s_k42, List.forall_mem_cons.mpr ⟨s_k43, List.forall_mem_cons.mpr ⟨s_k44, List.forall_mem_cons.mpr ⟨s_k45, List.forall_mem_cons.mpr ⟨s_k46, List.forall_mem_cons.mpr ⟨s_k47, List.forall_mem_cons.mpr ⟨s_k48, List.forall_mem_cons.mpr ⟨s_k49, List.forall_mem_cons.mpr ⟨s_k50, List.forall_mem_cons.mpr ⟨s_k51, List.forall_mem_cons.mpr ⟨s_k52, List.forall_mem_cons.mpr ⟨s_k53, List.forall_mem_cons.mpr ⟨s_k54, List.forall_mem_cons.mpr ⟨s_k55, List.forall_mem_cons.mpr ⟨s_k56, List.forall_mem_cons.mpr ⟨s_k57, List.forall_mem_cons.mpr ⟨s_k58, List.forall_mem_cons.mpr ⟨s_k59, fun _ h => absurd h List.not_mem_nil⟩⟩⟩⟩⟩⟩⟩⟩⟩⟩⟩⟩⟩⟩⟩⟩⟩⟩⟩⟩
theorem s_kl3 : ∀ q ∈ s_l3, s_ckm q = true := List.forall_mem_cons.mpr ⟨s_k60, List.forall_mem_cons.mpr ⟨s_k61, List.forall_mem_cons.mpr ⟨s_k62, List.forall_mem_cons.mpr ⟨s_k63, List.forall_mem_cons.mpr ⟨s_k22, List.forall_mem_cons.mpr ⟨s_k22, List.forall_mem_cons.mpr ⟨s_k66, List.forall_mem_cons.mpr ⟨s_k67, List.forall_mem_cons.mpr ⟨s_k68, List.forall_mem_cons.mpr ⟨s_k69, List.forall_mem_cons.mpr ⟨s_k70, List.forall_mem_cons.mpr ⟨s_k22, List.forall_mem_cons.mpr ⟨s_k22, List.forall_mem_cons.mpr ⟨s_k22, List.forall_mem_cons.mpr ⟨s_k22, List.forall_mem_cons.mpr ⟨s_k22, List.forall_mem_cons.mpr ⟨s_k76, List.forall_mem_cons.mpr ⟨s_k22, List.forall_mem_cons.mpr ⟨s_k22, List.forall_mem_cons.mpr ⟨s_k79, fun _ h => absurd h List.not_mem_nil⟩⟩⟩⟩⟩⟩⟩⟩⟩⟩⟩⟩⟩⟩⟩⟩⟩⟩⟩⟩
theorem s_kl4 : ∀ q ∈ s_l4, s_ckm q = true := List.forall_mem_cons.mpr ⟨s_k80, List.forall_mem_cons.mpr ⟨s_k22, List.forall_mem_cons.mpr ⟨s_k82, List.forall_mem_cons.mpr ⟨s_k83, List.forall_mem_cons.mpr ⟨s_k84, List.forall_mem_cons.mpr ⟨s_k85, List.forall_mem_cons.mpr ⟨s_k22, List.forall_mem_cons.mpr ⟨s_k22, List.forall_mem_cons.mpr ⟨s_k22, List.forall_mem_cons.mpr ⟨s_k89, List.forall_mem_cons.mpr ⟨s_k90, List.forall_mem_cons.mpr ⟨s_k91, List.forall_mem_cons.mpr ⟨s_k92, List.forall_mem_cons.mpr ⟨s_k93, List.forall_mem_cons.mpr ⟨s_k94, List.forall_mem_cons.mpr ⟨s_k95, fun _ h => absurd h List.not_mem_nil⟩⟩⟩⟩⟩⟩⟩⟩⟩⟩⟩⟩⟩⟩⟩⟩
theorem s_kml : ∀ q ∈ s_ml, s_ckm q = true := List.forall_mem_append.mpr ⟨s_kl0, List.forall_mem_append.mpr ⟨s_kl1, List.forall_mem_append.mpr ⟨s_kl2, List.forall_mem_append.mpr ⟨s_kl3, s_kl4⟩⟩⟩⟩
theorem s_CK : s_Chk s_S s_T lw_tbl s_host := by
  intro k r cn hk
  have hk : s_nth s_ml k = some (r, cn) := hk
  rw [s_nth_eq] at hk
  have h := s_kml _ (List.mem_of_getElem? hk)
  unfold s_ckm at h
  simp only [Bool.and_eq_true, List.all_eq_true] at h
  refine ⟨h.1, h.2.1, fun c hc => ?_⟩
  subst hc
  have h2 := h.2.2
  simp only [Bool.and_eq_true, decide_eq_true_eq] at h2
  exact h2
end
section
/-! THE CLAIM OUT OF ONE WALK OF THE LAW'S BODY. Your part is whole_start (and what it stands on); all else here is the same for every law, but numbers. -/
def R_law : String := "LeaningTreesLaw"
def lw_P (b : Addr) (xs : List Int32) (args : Array Value) (s : State) : Prop := args = #[.ref b] ∧ s.IntsAt b xs ∧ xs.length ≤ 260 ∧ (Jvm.Cond.and given_1 narrow_1).before args s = true
def lw_Q (_ : Array Value) (s : State) (o : Outcome) (t : State) : Prop := o = .returned (some (.int 1)) ∧ Framed s o t [] 600000 7302250
def lw_Z (below : List Frame) (a : Array Value) (s : State) : State → Prop := fun t => ∃ o, t.status = .running ∧ Ended t below o ∧ lw_Q a s o t
/-- the law's own end, with 1 on the stack, nothing written that was there before, its room as the claim has it -/
theorem lw_ret {p : Program} {l : Launch} {e : Env} {s : State} {m : MethodId} {below : List Frame} {meth : Method} {c : Code} {b : Nat} (hx : p.tables.exec = Jvm.exec) (hb : c.code = code) (hr : meth.sig.returnType = ret) (hlocks : meth.locks = false) {pc : Nat} {H : Heap} {ls : Array Slot} (hdg : decode code pc = .ok (.ireturn, 1)) : W p l e room_1 s m #[Value.ref b] below meth c H [] 600000 7302250 (lw_Z below #[Value.ref b] s) (F0 m pc ls [.int 1]) := by
  intro T hT X
  obtain ⟨fs, hret, hrun, hended, hW, hframe⟩ := X.leave (v := some (.int 1)) (hlocks := hlocks) (fun h => by rw [hr] at h; cases h)
  have hmeth' : T.vm.method? m = some meth := X.method'
  refine ⟨T.setFrames fs, ?_, .returned (some (.int 1)), hrun, hended, rfl, ⟨_, rfl⟩, hW, hframe⟩
  jvm_step X.here [X.here.top, hx, hb, hdg, hmeth', hr, ret, narrow_b1]
  (try refine ⟨rfl, ?_⟩); (try refine ⟨rfl, ?_⟩)
  first | (intro acts; rw [hret _ acts rfl rfl rfl]) | rw [hret _ _ rfl rfl rfl]
  exact Steps.refl _
/-- what holds at the law's entry: the machine, the code, the tables' words (any of lw_tbl by 'hts w (by decide +kernel)'), the script of L ints xs at the cell b, what the Statement gives of the start (any of its parts by flat_of_before) -/
def lw_At (p : Program) (s : State) (m : MethodId) (meth : Method) (c : Code) (b L : Nat) (xs : Nat → Int32) : Prop :=
  p.tables.exec = Jvm.exec ∧ c.code = code ∧ meth.sig.returnType = ret ∧ c.maxLocals = 5 ∧ s.vm.findClass R_law = some m.cls ∧ (∀ w ∈ lw_tbl, w.before #[Value.ref b] s = true) ∧ va_X b L xs s s.heap ∧ b < s.heap.size ∧ meth.locks = false ∧ (Jvm.Cond.and given_1 narrow_1).before #[Value.ref b] s = true
/-! THE LAW'S START: the real walk out of the small machine's run -/
def s_3 (a b c : Int32) : Nat → Int32 := fun j => if j = 0 then a else if j = 1 then b else c
def s_Z0 (xs : Nat → Int32) : Nat → Nat → Int32 := fun i => if i = 0 then s_3 70 40 2 else if i = 1 then s_3 55 10 0 else if i = 2 then s_3 95 90 9 else if i = 3 then xs else fun _ => 0
def s_h0 (L : Nat) (xs : Nat → Int32) : sHp := (s_Z0 xs, fun _ _ => none, [(1, 3), (1, 3), (1, 3), (1, L)])
/-- WHAT IS LEFT: on every script the small machine comes to its end with 1, in its room -/
def s_Goal : Prop := ∀ (L : Nat) (xs : Nat → Int32), L ≤ 260 → ∃ (f : Nat) (h : sHp), s_run s_T f 95 0 [.ref 3, s_no, s_no, s_no, s_no] [] (s_h0 L xs) = some (some (.int 1), h) ∧ h.2.2.length ≤ 600000 ∧ s_sz s_S h.2.2 ≤ 7302250
theorem s_TWhas {w : Jvm.Cond} {i : Nat} (h : lw_tbl[i]? = some w) (hg : goodWord w = true) : w ∈ s_TW lw_tbl := List.mem_filter.mpr ⟨List.mem_of_getElem? h, hg⟩
theorem s_uw {ws : List Jvm.Cond} {pl : List Nat} (h : ws.map some = pl.map (fun i => lw_tbl[i]?)) (hg : ws.all goodWord = true) : ∀ w ∈ ws, w ∈ s_TW lw_tbl := by
  intro w hw
  refine List.mem_filter.mpr ⟨?_, List.all_eq_true.mp hg w hw⟩
  have : some w ∈ pl.map (fun i => lw_tbl[i]?) := by
    rw [← h]
    exact List.mem_map.mpr ⟨w, hw, rfl⟩
  obtain ⟨j, -, hj⟩ := List.mem_map.mp this
  exact List.mem_of_getElem? hj
theorem s_u0 : ∀ w ∈ u_ws RX0 TX0 2, w ∈ s_TW lw_tbl := s_uw (pl := [110, 112]) (by decide +kernel) (by decide +kernel)
theorem s_u1 : ∀ w ∈ u_ws RX1 TX1 5, w ∈ s_TW lw_tbl := s_uw (pl := [138, 140, 142, 144, 146]) (by decide +kernel) (by decide +kernel)
theorem s_u2 : ∀ w ∈ u_ws RX2 TX2 2, w ∈ s_TW lw_tbl := s_uw (pl := [127, 129]) (by decide +kernel) (by decide +kernel)
theorem s_u3 : ∀ w ∈ u_ws RX3 TX3 1, w ∈ s_TW lw_tbl := s_uw (pl := [45]) (by decide +kernel) (by decide +kernel)
theorem s_u4 : ∀ w ∈ u_ws RX4 TX4 2, w ∈ s_TW lw_tbl := s_uw (pl := [157, 159]) (by decide +kernel) (by decide +kernel)
theorem s_u5 : ∀ w ∈ u_ws RX5 TX5 11, w ∈ s_TW lw_tbl := s_uw (pl := [75, 77, 79, 81, 83, 85, 87, 89, 91, 93, 95]) (by decide +kernel) (by decide +kernel)
theorem s_u6 : ∀ w ∈ u_ws RX6 TX6 5, w ∈ s_TW lw_tbl := s_uw (pl := [167, 169, 171, 173, 175]) (by decide +kernel) (by decide +kernel)
theorem s_SOKs : s_SOK s_S (s_TW lw_tbl) := by
  intro c q hq
  have hq : s_vw[c]? = some q := hq
  match c, hq with
  | 0, hq => cases hq; exact ⟨s_u0, tyX0_ok, nmX0⟩
  | 1, hq => cases hq; exact ⟨s_u1, tyX1_ok, nmX1⟩
  | 2, hq => cases hq; exact ⟨s_u2, tyX2_ok, nmX2⟩
  | 3, hq => cases hq; exact ⟨s_u3, tyX3_ok, nmX3⟩
  | 4, hq => cases hq; exact ⟨s_u4, tyX4_ok, nmX4⟩
  | 5, hq => cases hq; exact ⟨s_u5, tyX5_ok, nmX5⟩
  | 6, hq => cases hq; exact ⟨s_u6, tyX6_ok, nmX6⟩
  | k + 7, hq => exact absurd (List.getElem?_eq_some_iff.mp hq).1 (by show ¬ k + 7 < 7; omega)
theorem s_insts : ∀ q ∈ s_vw, Jvm.Cond.instantiable q.1 q.2.2 ∈ lw_tbl := by
  intro q hq
  have hq2 : q ∈ s_vw := hq
  unfold s_vw at hq2
  simp only [List.mem_cons, List.not_mem_nil, or_false] at hq2
  rcases hq2 with rfl | rfl | rfl | rfl | rfl | rfl | rfl
  · exact List.mem_of_getElem? (i := 99) (by decide +kernel)
  · exact List.mem_of_getElem? (i := 133) (by decide +kernel)
  · exact List.mem_of_getElem? (i := 118) (by decide +kernel)
  · exact List.mem_of_getElem? (i := 37) (by decide +kernel)
  · exact List.mem_of_getElem? (i := 149) (by decide +kernel)
  · exact List.mem_of_getElem? (i := 31) (by decide +kernel)
  · exact List.mem_of_getElem? (i := 23) (by decide +kernel)
theorem s_SDs : s_SD s_S := by
  refine ⟨by decide +kernel, fun c k hk => ?_⟩
  rcases Nat.lt_or_ge c 7 with hc | hc
  · have h1 : ∀ c, c < 7 → ∀ k, k < s_N s_S c → defaultValue (s_ty s_S c k) = if s_kd (s_ty s_S c k) = 2 then .null else .int 0 := by decide +kernel
    exact h1 c hc k hk
  · have : s_vw[c]? = none := List.getElem?_eq_none (by exact hc)
    unfold s_N at hk
    rw [show (s_cl s_S)[c]? = none from this] at hk
    exact absurd hk (Nat.not_lt_zero _)
theorem s_FX : s_Fix s_S s_T lw_tbl s_host := ⟨s_SOKs, s_SDs, s_CK, by decide +kernel⟩
theorem s_static {args : Array Value} {s : State} {C n : String} {v0 v1 v2 : Int32} (hl : (Jvm.Cond.laysStatic C n "[I").before args s = true) (hini : (Jvm.Cond.initialized C).before args s = true) (harr : (Jvm.Cond.arrayOf (.static C n "[I") .int).before args s = true) (hlen : (Jvm.Cond.eq (.length (.static C n "[I")) (.int 3)).before args s = true)
    (h0 : (Jvm.Cond.eq (.elem (.static C n "[I") (.int 0)) (.int v0)).before args s = true) (h1 : (Jvm.Cond.eq (.elem (.static C n "[I") (.int 1)) (.int v1)).before args s = true) (h2 : (Jvm.Cond.eq (.elem (.static C n "[I") (.int 2)) (.int v2)).before args s = true) :
    ∃ t : Nat, va_Z C n "[I" (.ref t) (fun q => s.heap.size ≤ q) s s.heap ∧ va_T .int t 3 (fun j => .int (s_3 v0 v1 v2 j)) (fun q => s.heap.size ≤ q) s s.heap := by
  have hA : ∀ a : Nat, a < s.heap.size → ¬ (fun q => s.heap.size ≤ q) a := fun a h => Nat.not_le.mpr h
  obtain ⟨t, ht, hT⟩ := va_Tof (tm := .static C n "[I") (ty := .int) (N := 3) (f := fun j => .int (s_3 v0 v1 v2 j)) (by decide) harr (va_eqt hlen) (fun j hj => by
    match j, hj with
    | 0, _ => exact va_eqt h0
    | 1, _ => exact va_eqt h1
    | 2, _ => exact va_eqt h2) hA
  exact ⟨t, va_Zof hl hini ht hA, hT⟩
theorem s_nwTrue {args : Array Value} {s : State} (hts : ∀ w ∈ lw_tbl, w.before args s = true) : ∀ w ∈ s_nwl, va_Nw w s := by
  intro w hw
  unfold s_nwl at hw
  simp only [List.mem_cons, List.not_mem_nil, or_false] at hw
  rcases hw with rfl | rfl | rfl | rfl | rfl | rfl
  · exact va_tabs rfl rfl (hts _ (List.mem_of_getElem? (i := 119) (by decide +kernel)))
  · exact va_tabs rfl rfl (hts _ (List.mem_of_getElem? (i := 134) (by decide +kernel)))
  · exact va_tabs rfl rfl (hts _ (List.mem_of_getElem? (i := 150) (by decide +kernel)))
  · exact va_tabs rfl rfl (hts _ (List.mem_of_getElem? (i := 38) (by decide +kernel)))
  · exact va_AO.of (hts _ (List.mem_of_getElem? (i := 116) (by decide +kernel)))
  · exact va_AO.of (hts _ (List.mem_of_getElem? (i := 105) (by decide +kernel)))
/-- the small machine's run gives the walk -/
theorem s_whole (HG : s_Goal) {p : Program} {e : Env} {s : State} {m : MethodId} {below : List Frame} {meth : Method} {c : Code} (l : Launch) {b L : Nat} {xs : Nat → Int32} (hL : L ≤ 260) (C0 : lw_At p s m meth c b L xs) : W p l e room_1 s m #[Value.ref b] below meth c s.heap [] 0 0 (lw_Z below #[Value.ref b] s) (entryFrame m ([Value.ref b] : List Value).toArray 5) := by
  obtain ⟨hx, hb, hr, hml, hown, hts, hX, hbl, hlocks, hgv⟩ := C0
  have hs := flat_of_before _ hgv
  obtain ⟨f, h1, hrun, hroom1, hroom2⟩ := HG L xs hL
  obtain ⟨t0, hZ0, hT0⟩ := s_static (C := "LeaningTrees") (n := "FIRST_SETTINGS") (v0 := 70) (v1 := 40) (v2 := 2) (hts _ (List.mem_of_getElem? (i := 39) (by decide +kernel))) (hts _ (List.mem_of_getElem? (i := 13) (by decide +kernel))) (hs _ (by decide +kernel)) (hs _ (by decide +kernel)) (hs _ (by decide +kernel)) (hs _ (by decide +kernel)) (hs _ (by decide +kernel))
  obtain ⟨t1, hZ1, hT1⟩ := s_static (C := "LeaningTrees") (n := "LEAST_SETTINGS") (v0 := 55) (v1 := 10) (v2 := 0) (hts _ (List.mem_of_getElem? (i := 394) (by decide +kernel))) (hts _ (List.mem_of_getElem? (i := 13) (by decide +kernel))) (hs _ (by decide +kernel)) (hs _ (by decide +kernel)) (hs _ (by decide +kernel)) (hs _ (by decide +kernel)) (hs _ (by decide +kernel))
  obtain ⟨t2, hZ2, hT2⟩ := s_static (C := "LeaningTrees") (n := "GREATEST_SETTINGS") (v0 := 95) (v1 := 90) (v2 := 9) (hts _ (List.mem_of_getElem? (i := 396) (by decide +kernel))) (hts _ (List.mem_of_getElem? (i := 13) (by decide +kernel))) (hs _ (by decide +kernel)) (hs _ (by decide +kernel)) (hs _ (by decide +kernel)) (hs _ (by decide +kernel)) (hs _ (by decide +kernel))
  have hcls : ∀ k : Nat, ∃ (cC : ClassId) (iS : Nat → Nat), ∀ q : vw_C, s_vw[k]? = some q → u_Kn s q.1 q.2.1 q.2.2 cC iS := by
    intro k
    cases hk : s_vw[k]? with
    | none => exact ⟨0, fun _ => 0, fun q h => by cases h⟩
    | some q0 =>
      obtain ⟨c0, i0, hK0⟩ := u_known (C := q0.1) (T := q0.2.1) (N := q0.2.2) (n := q0.2.2) (ws := s_TW lw_tbl) (fun w hw => hts w (List.mem_filter.mp hw).1) (s_SOKs k q0 hk).1 (hts _ (s_insts q0 (List.mem_of_getElem? hk)))
      exact ⟨c0, i0, fun q h => by cases h; exact hK0⟩
  obtain ⟨dC, hdC⟩ : ∃ dC : Nat → ClassId, ∀ k : Nat, ∃ iS : Nat → Nat, ∀ q : vw_C, s_vw[k]? = some q → u_Kn s q.1 q.2.1 q.2.2 (dC k) iS := ⟨fun k => Classical.choose (hcls k), fun k => Classical.choose_spec (hcls k)⟩
  obtain ⟨dI, hdI⟩ : ∃ dI : Nat → Nat → Nat, ∀ (k : Nat) (q : vw_C), s_vw[k]? = some q → u_Kn s q.1 q.2.1 q.2.2 (dC k) (dI k) := ⟨fun k => Classical.choose (hdC k), fun k => Classical.choose_spec (hdC k)⟩
  obtain ⟨cI, kI, cmI, hI1, hI2, hI3⟩ := Cond.arrayClass_spec (type := .int) (hts _ (List.mem_of_getElem? (i := 48) (by decide +kernel)))
  have harr : ∀ t : Nat, ∃ cA : ClassId, t ∈ s_rkl → ArrOfT s cA (.object (s_cn s_S t)) ∧ va_RA s cA (.object (s_cn s_S t)) := by
    intro t
    by_cases ht : t ∈ s_rkl
    · have hw : Jvm.Cond.arrayOver (.object (s_cn s_S t)) ∈ lw_tbl := by
        simp only [s_rkl, List.mem_cons, List.not_mem_nil, or_false] at ht
        rcases ht with rfl | rfl
        · exact List.mem_of_getElem? (i := 116) (by decide +kernel)
        · exact List.mem_of_getElem? (i := 105) (by decide +kernel)
      obtain ⟨comp, cA, kA, g1, g2, g3, g4, g5⟩ := Cond.arrayOver_spec (hts _ hw)
      exact ⟨cA, fun _ => ⟨fun n z => ⟨(fun k h => by cases h), kA, g3, comp, g4⟩, kA, comp, g3, g4, g1, g5⟩⟩
    · exact ⟨0, fun h => absurd h ht⟩
  obtain ⟨cA, hcA⟩ : ∃ cA : Nat → ClassId, ∀ t : Nat, t ∈ s_rkl → ArrOfT s (cA t) (.object (s_cn s_S t)) ∧ va_RA s (cA t) (.object (s_cn s_S t)) := ⟨fun t => Classical.choose (harr t), fun t => Classical.choose_spec (harr t)⟩
  let G : s_DG := ((dC, dI), (fun t => if t = 1 then cI else cA (t - 2)), (fun i => if i = 0 then t0 else if i = 1 then t1 else if i = 2 then t2 else if i = 3 then b else s.heap.size + (i - 4)), s.heap.size, (fun i => if i = 3 then L else 3), s_Z0 xs)
  have hA : ∀ a : Nat, a < s.heap.size → ¬ s_A G a := fun a h => Nat.not_le.mpr h
  have hlt : ∀ {t : Nat} {f : Nat → Value} {n : Nat}, va_T .int t n f (fun q => s.heap.size ≤ q) s s.heap → t < s.heap.size := fun hT => by
    obtain ⟨cell, g1, -⟩ := hT
    exact (Array.getElem?_eq_some_iff.mp g1).1
  have hT3 : va_T .int b L (fun j => .int (xs j)) (fun q => s.heap.size ≤ q) s s.heap := by
    obtain ⟨scr, g1, g2, g3, g4, g5⟩ := hX
    exact ⟨scr, g1, g2, g3, Nat.le_of_eq g4.symm, by rw [g4], g5, Nat.not_le.mpr hbl⟩
  have hIn : s_In s_S G s := by
    refine ⟨⟨fun k q h => hdI k q h, fun k q h => ?_⟩, fun i hi => ?_, fun j hj => ?_, fun j => ?_, s_nwTrue hts⟩
    · have hm := List.mem_of_getElem? h
      rcases List.mem_cons.mp hm with rfl | hm
      · exact ⟨fun n z => ⟨(fun k h => by cases h), kI, hI2, cmI, hI3⟩, hI1⟩
      · obtain ⟨t, ht, rfl⟩ := List.mem_map.mp hm
        have hz : s_cA G (t + 2) = cA t := by
          show (if t + 2 = 1 then cI else cA (t + 2 - 2)) = cA t
          rw [if_neg (by omega), Nat.add_sub_cancel]
        rw [hz]
        exact hcA t ht
    · match i, hi with
      | 0, _ => exact ⟨hT0, hlt hT0⟩
      | 1, _ => exact ⟨hT1, hlt hT1⟩
      | 2, _ => exact ⟨hT2, hlt hT2⟩
      | 3, _ => exact ⟨hT3, hlt hT3⟩
    · match j, hj with
      | 0, _ => exact ⟨by decide, hZ0⟩
      | 1, _ => exact ⟨by decide, hZ1⟩
      | 2, _ => exact ⟨by decide, hZ2⟩
    · show (if j + 4 = 0 then t0 else if j + 4 = 1 then t1 else if j + 4 = 2 then t2 else if j + 4 = 3 then b else s.heap.size + (j + 4 - 4)) = s.heap.size + j
      rw [if_neg (by omega), if_neg (by omega), if_neg (by omega), if_neg (by omega), Nat.add_sub_cancel]
  have hW0 : s_Wd s_S G (s_h0 L xs) s.heap := by
    refine ⟨Nat.le_refl 4, fun k q h => ?_, fun i hi => ?_, fun i t n h => ?_⟩
    · have h0 : (s_ws s_S G (s_h0 L xs)) = [] := rfl
      rw [h0] at h
      cases h
    · match i, hi with
      | 0, _ => exact ⟨rfl, rfl⟩
      | 1, _ => exact ⟨rfl, rfl⟩
      | 2, _ => exact ⟨rfl, rfl⟩
      | 3, _ => exact ⟨rfl, rfl⟩
    · match i, h with
      | 0, h => cases h
      | 1, h => cases h
      | 2, h => cases h
      | 3, h => cases h
      | i + 4, h => cases h
  have C : s_Cx s_S G (s_TW lw_tbl) p s m #[Value.ref b] meth c s_m95 := ⟨hx, hb, hml, hown, fun w hw => hts w (List.mem_filter.mp hw).1, hIn, fun z => absurd z (by decide +kernel)⟩
  have hl := lv_entry ([.ref b]) (n := 5) (Nat.le_of_ble_eq_true rfl)
  rw [lg_entry_eq]
  generalize (lg_sl ([.ref b]) ++ List.replicate (5 - (lg_sl ([.ref b])).length) Slot.unset).toArray = ls at hl ⊢
  have hLR : s_LR G ls [.ref 3, s_no, s_no, s_no, s_no] := s_LR_ent (G := G) (vs := [.ref 3]) (n := 5) (Nat.le_of_ble_eq_true rfl) hl
  have key := s_body (G := G) (l := l) s_FX f p e room_1 s m #[Value.ref b] below meth c (lw_Z below #[Value.ref b] s) 95 s_m95 none 4 (s_sz s_S (s_h0 L xs).2.2) 0 [.ref 3, s_no, s_no, s_no, s_no] [] (s_h0 L xs) (some (.int 1), h1) (by rfl) C hrun (Nat.le_of_ble_eq_true rfl) (Nat.le_of_ble_eq_true rfl) rfl (Nat.le_refl 4) (Nat.le_refl 4) (Nat.le_refl _) ⟨by show _ - 4 ≤ 600000; dsimp only; omega, by show _ ≤ 7302250; dsimp only; omega⟩ ?_ hml.symm s.heap [] ls hW0 va_S.rf hLR
  · rw [show (s_h0 L xs).2.2.length - 4 = 0 from rfl, Nat.sub_self] at key
    exact key
  · intro ri pc2 L2 st2 hdg hrx hlen2 H locs ls2 hW2 hS2 hL2
    have hst : ri = .ireturn ∧ st2 = [.int 1] := by
      unfold s_rx at hrx
      split at hrx
      next heq => cases heq
      next heq => cases heq
      next v heq =>
        split at hrx
        · cases hrx; exact ⟨rfl, rfl⟩
        · cases hrx
      next heq => cases heq
      next heq => cases heq
      next heq => cases heq
      · cases hrx
    obtain ⟨rfl, rfl⟩ := hst
    refine va_forget (fun q hq => hS2.2.2 q hq) ?_
    refine W.widen (k := 600000) (n := 7302250) (by show _ - 4 ≤ _; dsimp only; omega) (by dsimp only; omega) ?_
    exact lw_ret hx hb hr hlocks hdg
end
