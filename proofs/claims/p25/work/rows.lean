section
-- ===== PART A: goes FIRST, ahead of the names: the tables' words, and 'selects' of the private methods out of them =====
/-- a private method of a class that the tables say can be made, by its rows of tables_1 -/
def lw_okq (q : MethodName × Nat) : Prop := (q.1.cls ≠ "java/lang/invoke/MethodHandle" ∧ q.1.cls ≠ "java/lang/invoke/VarHandle") ∧ Cond.instantiable q.1.cls q.2 ∈ tables_1 ∧ Cond.privateMethod q.1 ∈ tables_1 ∧ Cond.instanceMethod q.1 ∈ tables_1
theorem lw_p0 : lw_okq (⟨"LeaningTrees$History", "turn", "()V"⟩, 2) := ⟨⟨by decide +kernel, by decide +kernel⟩, List.mem_of_getElem? (i := 87) (by decide +kernel), List.mem_of_getElem? (i := 190) (by decide +kernel), List.mem_of_getElem? (i := 191) (by decide +kernel)⟩
theorem lw_p1 : lw_okq (⟨"LeaningTrees$History", "stateAt", "(I)LLeaningTrees$Tree;"⟩, 2) := ⟨⟨by decide +kernel, by decide +kernel⟩, List.mem_of_getElem? (i := 87) (by decide +kernel), List.mem_of_getElem? (i := 194) (by decide +kernel), List.mem_of_getElem? (i := 195) (by decide +kernel)⟩
theorem lw_p2 : lw_okq (⟨"LeaningTrees$Tree", "layAnew", "(I)I"⟩, 11) := ⟨⟨by decide +kernel, by decide +kernel⟩, List.mem_of_getElem? (i := 19) (by decide +kernel), List.mem_of_getElem? (i := 217) (by decide +kernel), List.mem_of_getElem? (i := 218) (by decide +kernel)⟩
theorem lw_p3 : lw_okq (⟨"LeaningTrees$Tree", "spend", "(II)V"⟩, 11) := ⟨⟨by decide +kernel, by decide +kernel⟩, List.mem_of_getElem? (i := 19) (by decide +kernel), List.mem_of_getElem? (i := 234) (by decide +kernel), List.mem_of_getElem? (i := 235) (by decide +kernel)⟩
theorem lw_p4 : lw_okq (⟨"LeaningTrees$Tree", "dropHollow", "(II)V"⟩, 11) := ⟨⟨by decide +kernel, by decide +kernel⟩, List.mem_of_getElem? (i := 19) (by decide +kernel), List.mem_of_getElem? (i := 241) (by decide +kernel), List.mem_of_getElem? (i := 242) (by decide +kernel)⟩
theorem lw_p5 : lw_okq (⟨"LeaningTrees$Tree", "moveNode", "(II)V"⟩, 11) := ⟨⟨by decide +kernel, by decide +kernel⟩, List.mem_of_getElem? (i := 19) (by decide +kernel), List.mem_of_getElem? (i := 249) (by decide +kernel), List.mem_of_getElem? (i := 250) (by decide +kernel)⟩
theorem lw_p6 : lw_okq (⟨"LeaningTrees", "shapeOfTree", "(I)I"⟩, 5) := ⟨⟨by decide +kernel, by decide +kernel⟩, List.mem_of_getElem? (i := 11) (by decide +kernel), List.mem_of_getElem? (i := 260) (by decide +kernel), List.mem_of_getElem? (i := 261) (by decide +kernel)⟩
theorem lw_p7 : lw_okq (⟨"LeaningTrees", "keyOfTop", "(III)I"⟩, 5) := ⟨⟨by decide +kernel, by decide +kernel⟩, List.mem_of_getElem? (i := 11) (by decide +kernel), List.mem_of_getElem? (i := 268) (by decide +kernel), List.mem_of_getElem? (i := 269) (by decide +kernel)⟩
theorem lw_p8 : lw_okq (⟨"LeaningTrees", "booksOfTree", "(I)I"⟩, 5) := ⟨⟨by decide +kernel, by decide +kernel⟩, List.mem_of_getElem? (i := 11) (by decide +kernel), List.mem_of_getElem? (i := 282) (by decide +kernel), List.mem_of_getElem? (i := 283) (by decide +kernel)⟩
theorem lw_p9 : lw_okq (⟨"LeaningTrees$Tree", "payOnWayTo", "(I)V"⟩, 11) := ⟨⟨by decide +kernel, by decide +kernel⟩, List.mem_of_getElem? (i := 19) (by decide +kernel), List.mem_of_getElem? (i := 357) (by decide +kernel), List.mem_of_getElem? (i := 358) (by decide +kernel)⟩
theorem lw_p10 : lw_okq (⟨"LeaningTrees$Tree", "makeNode", "(III)V"⟩, 11) := ⟨⟨by decide +kernel, by decide +kernel⟩, List.mem_of_getElem? (i := 19) (by decide +kernel), List.mem_of_getElem? (i := 361) (by decide +kernel), List.mem_of_getElem? (i := 362) (by decide +kernel)⟩
theorem lw_p11 : lw_okq (⟨"LeaningTrees", "aboutNode", "(II)I"⟩, 5) := ⟨⟨by decide +kernel, by decide +kernel⟩, List.mem_of_getElem? (i := 11) (by decide +kernel), List.mem_of_getElem? (i := 394) (by decide +kernel), List.mem_of_getElem? (i := 395) (by decide +kernel)⟩
def lw_privs_1 : List (MethodName × Nat) := [(⟨"LeaningTrees$History", "turn", "()V"⟩, 2), (⟨"LeaningTrees$History", "stateAt", "(I)LLeaningTrees$Tree;"⟩, 2), (⟨"LeaningTrees$Tree", "layAnew", "(I)I"⟩, 11), (⟨"LeaningTrees$Tree", "spend", "(II)V"⟩, 11), (⟨"LeaningTrees$Tree", "dropHollow", "(II)V"⟩, 11), (⟨"LeaningTrees$Tree", "moveNode", "(II)V"⟩, 11), (⟨"LeaningTrees", "shapeOfTree", "(I)I"⟩, 5), (⟨"LeaningTrees", "keyOfTop", "(III)I"⟩, 5), (⟨"LeaningTrees", "booksOfTree", "(I)I"⟩, 5), (⟨"LeaningTrees$Tree", "payOnWayTo", "(I)V"⟩, 11), (⟨"LeaningTrees$Tree", "makeNode", "(III)V"⟩, 11), (⟨"LeaningTrees", "aboutNode", "(II)I"⟩, 5)]
theorem lw_r1 : ∀ q ∈ lw_privs_1, lw_okq q := List.forall_mem_cons.mpr ⟨lw_p0, List.forall_mem_cons.mpr ⟨lw_p1, List.forall_mem_cons.mpr ⟨lw_p2, List.forall_mem_cons.mpr ⟨lw_p3, List.forall_mem_cons.mpr ⟨lw_p4, List.forall_mem_cons.mpr ⟨lw_p5, List.forall_mem_cons.mpr ⟨lw_p6, List.forall_mem_cons.mpr ⟨lw_p7, List.forall_mem_cons.mpr ⟨lw_p8, List.forall_mem_cons.mpr ⟨lw_p9, List.forall_mem_cons.mpr ⟨lw_p10, List.forall_mem_cons.mpr ⟨lw_p11, fun _ h => absurd h List.not_mem_nil⟩⟩⟩⟩⟩⟩⟩⟩⟩⟩⟩⟩
def lw_privs : List (MethodName × Nat) := lw_privs_1
def lw_tbl : List Cond := k2_sels lw_privs ++ tables_1
theorem lw_privs_ok : ∀ q ∈ lw_privs, lw_okq q := lw_r1
def RX0 : String := "LeaningTrees$History"
def TX0 : u_T := fun k => match k with
  | 0 => ("LeaningTrees$History", "states", "[LLeaningTrees$Tree;", true)
  | _ => ("LeaningTrees$History", "length", "I", false)
def tyX0 : Nat → FieldType := fun k => match k with
  | 0 => .array (.object "LeaningTrees$Tree")
  | _ => .int
theorem nmX0 : ∀ a, a < 2 → ∀ b, b < 2 → a ≠ b → (TX0 a).2.1 ≠ (TX0 b).2.1 := by decide +kernel
theorem tyX0_ok : ∀ k, k < 2 → parseFieldDescriptor (TX0 k).2.2.1 = some (tyX0 k) := by decide +kernel
abbrev cX0_init : ByteArray := prog_2_method_1_code
def yX0_init : MethodName := ⟨RX0, "<init>", "()V"⟩
abbrev cX0_keep : ByteArray := prog_2_method_2_code
def yX0_keep : MethodName := ⟨RX0, "keep", "(LLeaningTrees$Tree;)V"⟩
abbrev cX0_takeBackInto : ByteArray := prog_2_method_3_code
def yX0_takeBackInto : MethodName := ⟨RX0, "takeBackInto", "(LLeaningTrees$Tree;)Z"⟩
abbrev cX0_turn : ByteArray := prog_2_method_4_code
def yX0_turn : MethodName := ⟨RX0, "turn", "()V"⟩
abbrev cX0_stateAt : ByteArray := prog_2_method_5_code
def yX0_stateAt : MethodName := ⟨RX0, "stateAt", "(I)LLeaningTrees$Tree;"⟩
def RX1 : String := "LeaningTrees$OrderReader"
def TX1 : u_T := fun k => match k with
  | 0 => ("LeaningTrees$OrderReader", "sign", "I", false)
  | 1 => ("LeaningTrees$OrderReader", "stage", "I", false)
  | 2 => ("LeaningTrees$OrderReader", "key", "I", false)
  | 3 => ("LeaningTrees$OrderReader", "number", "I", false)
  | _ => ("LeaningTrees$OrderReader", "hasValue", "Z", false)
def tyX1 : Nat → FieldType := fun k => match k with
  | 0 => .int
  | 1 => .int
  | 2 => .int
  | 3 => .int
  | _ => .boolean
theorem nmX1 : ∀ a, a < 5 → ∀ b, b < 5 → a ≠ b → (TX1 a).2.1 ≠ (TX1 b).2.1 := by decide +kernel
theorem tyX1_ok : ∀ k, k < 5 → parseFieldDescriptor (TX1 k).2.2.1 = some (tyX1 k) := by decide +kernel
abbrev cX1_init : ByteArray := prog_3_method_1_code
def yX1_init : MethodName := ⟨RX1, "<init>", "()V"⟩
def RX2 : String := "LeaningTrees$Pad"
def TX2 : u_T := fun k => match k with
  | 0 => ("LeaningTrees$Pad", "codes", "LLeaningTrees$Row;", true)
  | _ => ("LeaningTrees$Pad", "length", "I", false)
def tyX2 : Nat → FieldType := fun k => match k with
  | 0 => .object "LeaningTrees$Row"
  | _ => .int
theorem nmX2 : ∀ a, a < 2 → ∀ b, b < 2 → a ≠ b → (TX2 a).2.1 ≠ (TX2 b).2.1 := by decide +kernel
theorem tyX2_ok : ∀ k, k < 2 → parseFieldDescriptor (TX2 k).2.2.1 = some (tyX2 k) := by decide +kernel
abbrev cX2_init : ByteArray := prog_4_method_1_code
def yX2_init : MethodName := ⟨RX2, "<init>", "()V"⟩
def RX3 : String := "LeaningTrees$Row"
def TX3 : u_T := fun k => match k with
  | _ => ("LeaningTrees$Row", "cells", "[I", true)
def tyX3 : Nat → FieldType := fun k => match k with
  | _ => .array .int
theorem nmX3 : ∀ a, a < 1 → ∀ b, b < 1 → a ≠ b → (TX3 a).2.1 ≠ (TX3 b).2.1 := by decide +kernel
theorem tyX3_ok : ∀ k, k < 1 → parseFieldDescriptor (TX3 k).2.2.1 = some (tyX3 k) := by decide +kernel
abbrev cX3_init : ByteArray := prog_5_method_1_code
def yX3_init : MethodName := ⟨RX3, "<init>", "(I)V"⟩
abbrev cX3_at : ByteArray := prog_5_method_2_code
def yX3_at : MethodName := ⟨RX3, "at", "(I)I"⟩
abbrev cX3_write : ByteArray := prog_5_method_3_code
def yX3_write : MethodName := ⟨RX3, "write", "(II)V"⟩
abbrev cX3_become : ByteArray := prog_5_method_4_code
def yX3_become : MethodName := ⟨RX3, "become", "(LLeaningTrees$Row;)V"⟩
abbrev cX3_total : ByteArray := prog_5_method_5_code
def yX3_total : MethodName := ⟨RX3, "total", "(II)I"⟩
abbrev cX3_greatest : ByteArray := prog_5_method_6_code
def yX3_greatest : MethodName := ⟨RX3, "greatest", "(II)I"⟩
def RX4 : String := "LeaningTrees$Slot"
def TX4 : u_T := fun k => match k with
  | 0 => ("LeaningTrees$Slot", "tree", "LLeaningTrees$Tree;", true)
  | _ => ("LeaningTrees$Slot", "isSaved", "Z", false)
def tyX4 : Nat → FieldType := fun k => match k with
  | 0 => .object "LeaningTrees$Tree"
  | _ => .boolean
theorem nmX4 : ∀ a, a < 2 → ∀ b, b < 2 → a ≠ b → (TX4 a).2.1 ≠ (TX4 b).2.1 := by decide +kernel
theorem tyX4_ok : ∀ k, k < 2 → parseFieldDescriptor (TX4 k).2.2.1 = some (tyX4 k) := by decide +kernel
abbrev cX4_init : ByteArray := prog_6_method_1_code
def yX4_init : MethodName := ⟨RX4, "<init>", "()V"⟩
def RX5 : String := "LeaningTrees$Tree"
def TX5 : u_T := fun k => match k with
  | 0 => ("LeaningTrees$Tree", "settings", "LLeaningTrees$Row;", true)
  | 1 => ("LeaningTrees$Tree", "keys", "LLeaningTrees$Row;", true)
  | 2 => ("LeaningTrees$Tree", "values", "LLeaningTrees$Row;", true)
  | 3 => ("LeaningTrees$Tree", "paid", "LLeaningTrees$Row;", true)
  | 4 => ("LeaningTrees$Tree", "depths", "LLeaningTrees$Row;", true)
  | 5 => ("LeaningTrees$Tree", "full", "LLeaningTrees$Row;", true)
  | 6 => ("LeaningTrees$Tree", "nodes", "I", false)
  | 7 => ("LeaningTrees$Tree", "work", "I", false)
  | 8 => ("LeaningTrees$Tree", "funds", "I", false)
  | 9 => ("LeaningTrees$Tree", "rebuildings", "I", false)
  | _ => ("LeaningTrees$Tree", "heaviest", "I", false)
def tyX5 : Nat → FieldType := fun k => match k with
  | 0 => .object "LeaningTrees$Row"
  | 1 => .object "LeaningTrees$Row"
  | 2 => .object "LeaningTrees$Row"
  | 3 => .object "LeaningTrees$Row"
  | 4 => .object "LeaningTrees$Row"
  | 5 => .object "LeaningTrees$Row"
  | 6 => .int
  | 7 => .int
  | 8 => .int
  | 9 => .int
  | _ => .int
theorem nmX5 : ∀ a, a < 11 → ∀ b, b < 11 → a ≠ b → (TX5 a).2.1 ≠ (TX5 b).2.1 := by decide +kernel
theorem tyX5_ok : ∀ k, k < 11 → parseFieldDescriptor (TX5 k).2.2.1 = some (tyX5 k) := by decide +kernel
abbrev cX5_init : ByteArray := prog_7_method_1_code
def yX5_init : MethodName := ⟨RX5, "<init>", "()V"⟩
abbrev cX5_become : ByteArray := prog_7_method_2_code
def yX5_become : MethodName := ⟨RX5, "become", "(LLeaningTrees$Tree;)V"⟩
abbrev cX5_placeOf : ByteArray := prog_7_method_3_code
def yX5_placeOf : MethodName := ⟨RX5, "placeOf", "(I)I"⟩
abbrev cX5_nodeOf : ByteArray := prog_7_method_4_code
def yX5_nodeOf : MethodName := ⟨RX5, "nodeOf", "(I)I"⟩
abbrev cX5_fullNodeOf : ByteArray := prog_7_method_5_code
def yX5_fullNodeOf : MethodName := ⟨RX5, "fullNodeOf", "(I)I"⟩
abbrev cX5_isFull : ByteArray := prog_7_method_6_code
def yX5_isFull : MethodName := ⟨RX5, "isFull", "(I)Z"⟩
abbrev cX5_allKeys : ByteArray := prog_7_method_7_code
def yX5_allKeys : MethodName := ⟨RX5, "allKeys", "()I"⟩
abbrev cX5_keysAhead : ByteArray := prog_7_method_8_code
def yX5_keysAhead : MethodName := ⟨RX5, "keysAhead", "(I)I"⟩
abbrev cX5_placeOfKth : ByteArray := prog_7_method_9_code
def yX5_placeOfKth : MethodName := ⟨RX5, "placeOfKth", "(I)I"⟩
abbrev cX5_lowestOf : ByteArray := prog_7_method_10_code
def yX5_lowestOf : MethodName := ⟨RX5, "lowestOf", "(I)I"⟩
abbrev cX5_highestOf : ByteArray := prog_7_method_11_code
def yX5_highestOf : MethodName := ⟨RX5, "highestOf", "(I)I"⟩
abbrev cX5_topBetween : ByteArray := prog_7_method_12_code
def yX5_topBetween : MethodName := ⟨RX5, "topBetween", "(III)I"⟩
abbrev cX5_isTooHeavy : ByteArray := prog_7_method_13_code
def yX5_isTooHeavy : MethodName := ⟨RX5, "isTooHeavy", "(II)Z"⟩
abbrev cX5_leans : ByteArray := prog_7_method_14_code
def yX5_leans : MethodName := ⟨RX5, "leans", "(I)Z"⟩
abbrev cX5_leaningNodes : ByteArray := prog_7_method_15_code
def yX5_leaningNodes : MethodName := ⟨RX5, "leaningNodes", "()I"⟩
abbrev cX5_wouldLeanWithNewAt : ByteArray := prog_7_method_16_code
def yX5_wouldLeanWithNewAt : MethodName := ⟨RX5, "wouldLeanWithNewAt", "(I)I"⟩
abbrev cX5_costOf : ByteArray := prog_7_method_17_code
def yX5_costOf : MethodName := ⟨RX5, "costOf", "(I)I"⟩
abbrev cX5_hasRoomFor : ByteArray := prog_7_method_18_code
def yX5_hasRoomFor : MethodName := ⟨RX5, "hasRoomFor", "(I)Z"⟩
abbrev cX5_enter : ByteArray := prog_7_method_19_code
def yX5_enter : MethodName := ⟨RX5, "enter", "(II)I"⟩
abbrev cX5_hollowOut : ByteArray := prog_7_method_20_code
def yX5_hollowOut : MethodName := ⟨RX5, "hollowOut", "(I)I"⟩
abbrev cX5_layAnewFromKey : ByteArray := prog_7_method_21_code
def yX5_layAnewFromKey : MethodName := ⟨RX5, "layAnewFromKey", "(I)I"⟩
abbrev cX5_payOnWayTo : ByteArray := prog_7_method_22_code
def yX5_payOnWayTo : MethodName := ⟨RX5, "payOnWayTo", "(I)V"⟩
abbrev cX5_makeNode : ByteArray := prog_7_method_23_code
def yX5_makeNode : MethodName := ⟨RX5, "makeNode", "(III)V"⟩
abbrev cX5_moveNode : ByteArray := prog_7_method_24_code
def yX5_moveNode : MethodName := ⟨RX5, "moveNode", "(II)V"⟩
abbrev cX5_layAnew : ByteArray := prog_7_method_25_code
def yX5_layAnew : MethodName := ⟨RX5, "layAnew", "(I)I"⟩
abbrev cX5_spend : ByteArray := prog_7_method_26_code
def yX5_spend : MethodName := ⟨RX5, "spend", "(II)V"⟩
abbrev cX5_dropHollow : ByteArray := prog_7_method_27_code
def yX5_dropHollow : MethodName := ⟨RX5, "dropHollow", "(II)V"⟩
abbrev cX5_depthLaidEvenly : ByteArray := prog_7_method_28_code
def yX5_depthLaidEvenly : MethodName := ⟨RX5, "depthLaidEvenly", "(II)I"⟩
def RX6 : String := "LeaningTrees"
def TX6 : u_T := fun k => match k with
  | 0 => ("LeaningTrees", "now", "LLeaningTrees$Tree;", true)
  | 1 => ("LeaningTrees", "history", "LLeaningTrees$History;", true)
  | 2 => ("LeaningTrees", "slots", "[LLeaningTrees$Slot;", true)
  | 3 => ("LeaningTrees", "pad", "LLeaningTrees$Pad;", true)
  | _ => ("LeaningTrees", "reader", "LLeaningTrees$OrderReader;", true)
def tyX6 : Nat → FieldType := fun k => match k with
  | 0 => .object "LeaningTrees$Tree"
  | 1 => .object "LeaningTrees$History"
  | 2 => .array (.object "LeaningTrees$Slot")
  | 3 => .object "LeaningTrees$Pad"
  | _ => .object "LeaningTrees$OrderReader"
theorem nmX6 : ∀ a, a < 5 → ∀ b, b < 5 → a ≠ b → (TX6 a).2.1 ≠ (TX6 b).2.1 := by decide +kernel
theorem tyX6_ok : ∀ k, k < 5 → parseFieldDescriptor (TX6 k).2.2.1 = some (tyX6 k) := by decide +kernel
abbrev cX6_init : ByteArray := prog_1_method_1_code
def yX6_init : MethodName := ⟨RX6, "<init>", "()V"⟩
abbrev cX6_set : ByteArray := prog_1_method_2_code
def yX6_set : MethodName := ⟨RX6, "set", "(II)I"⟩
abbrev cX6_putIn : ByteArray := prog_1_method_3_code
def yX6_putIn : MethodName := ⟨RX6, "putIn", "(II)I"⟩
abbrev cX6_remove : ByteArray := prog_1_method_4_code
def yX6_remove : MethodName := ⟨RX6, "remove", "(I)I"⟩
abbrev cX6_rebuild : ByteArray := prog_1_method_5_code
def yX6_rebuild : MethodName := ⟨RX6, "rebuild", "(I)I"⟩
abbrev cX6_value : ByteArray := prog_1_method_6_code
def yX6_value : MethodName := ⟨RX6, "value", "(I)I"⟩
abbrev cX6_node : ByteArray := prog_1_method_7_code
def yX6_node : MethodName := ⟨RX6, "node", "(II)I"⟩
abbrev cX6_count : ByteArray := prog_1_method_8_code
def yX6_count : MethodName := ⟨RX6, "count", "(I)I"⟩
abbrev cX6_rank : ByteArray := prog_1_method_11_code
def yX6_rank : MethodName := ⟨RX6, "rank", "(I)I"⟩
abbrev cX6_kth : ByteArray := prog_1_method_12_code
def yX6_kth : MethodName := ⟨RX6, "kth", "(I)I"⟩
abbrev cX6_neighbour : ByteArray := prog_1_method_13_code
def yX6_neighbour : MethodName := ⟨RX6, "neighbour", "(II)I"⟩
abbrev cX6_sum : ByteArray := prog_1_method_14_code
def yX6_sum : MethodName := ⟨RX6, "sum", "(II)I"⟩
abbrev cX6_wouldCost : ByteArray := prog_1_method_15_code
def yX6_wouldCost : MethodName := ⟨RX6, "wouldCost", "(I)I"⟩
abbrev cX6_undo : ByteArray := prog_1_method_21_code
def yX6_undo : MethodName := ⟨RX6, "undo", "()I"⟩
abbrev cX6_isNumber : ByteArray := prog_1_method_24_code
def yX6_isNumber : MethodName := ⟨RX6, "isNumber", "(I)Z"⟩
abbrev cX6_isSetting : ByteArray := prog_1_method_25_code
def yX6_isSetting : MethodName := ⟨RX6, "isSetting", "(II)Z"⟩
abbrev cX6_aboutNode : ByteArray := prog_1_method_27_code
def yX6_aboutNode : MethodName := ⟨RX6, "aboutNode", "(II)I"⟩
abbrev cX6_shapeOfTree : ByteArray := prog_1_method_28_code
def yX6_shapeOfTree : MethodName := ⟨RX6, "shapeOfTree", "(I)I"⟩
abbrev cX6_booksOfTree : ByteArray := prog_1_method_29_code
def yX6_booksOfTree : MethodName := ⟨RX6, "booksOfTree", "(I)I"⟩
abbrev cX6_keyOfTop : ByteArray := prog_1_method_30_code
def yX6_keyOfTop : MethodName := ⟨RX6, "keyOfTop", "(III)I"⟩
def RX7 : String := "LeaningTreesModel"
def TX7 : u_T := fun k => match k with
  | _ => ("", "", "", false)
def tyX7 : Nat → FieldType := fun k => match k with
  | _ => .int
theorem nmX7 : ∀ a, a < 0 → ∀ b, b < 0 → a ≠ b → (TX7 a).2.1 ≠ (TX7 b).2.1 := by decide +kernel
theorem tyX7_ok : ∀ k, k < 0 → parseFieldDescriptor (TX7 k).2.2.1 = some (tyX7 k) := by decide +kernel
def RL : String := "LeaningTreesLaw"
abbrev cL_cell : ByteArray := method_2_code
def yL_cell : MethodName := ⟨RL, "cell", "([II)I"⟩
abbrev cL_up : ByteArray := method_3_code
def yL_up : MethodName := ⟨RL, "up", "(II)I"⟩
abbrev cL_paid : ByteArray := method_4_code
def yL_paid : MethodName := ⟨RL, "paid", "(LLeaningTrees;)I"⟩
abbrev cL_isStep : ByteArray := method_5_code
def yL_isStep : MethodName := ⟨RL, "isStep", "(LLeaningTrees;I)Z"⟩
abbrev cL_isTree : ByteArray := method_6_code
def yL_isTree : MethodName := ⟨RL, "isTree", "(LLeaningTrees;)Z"⟩
abbrev cL_areKeys : ByteArray := method_7_code
def yL_areKeys : MethodName := ⟨RL, "areKeys", "(LLeaningTrees;)Z"⟩
abbrev cL_law : ByteArray := code
def yL_law : MethodName := ⟨RL, "law", "([I)Z"⟩
abbrev s_host : String := "LeaningTrees"
def s_vw : List vw_C := [(RX0, TX0, 2), (RX1, TX1, 5), (RX2, TX2, 2), (RX3, TX3, 1), (RX4, TX4, 2), (RX5, TX5, 11), (RX6, TX6, 5)]
def s_tyf : Nat → Nat → FieldType := fun c => match c with
  | 0 => tyX0
  | 1 => tyX1
  | 2 => tyX2
  | 3 => tyX3
  | 4 => tyX4
  | 5 => tyX5
  | _ => tyX6
def s_snf : Nat → String × String × String := fun j => match j with
  | 0 => ("LeaningTrees", "FIRST_SETTINGS", "[I")
  | 1 => ("LeaningTrees", "LEAST_SETTINGS", "[I")
  | _ => ("LeaningTrees", "GREATEST_SETTINGS", "[I")
def s_nwl : List Jvm.Cond := [.methodLinkNest "LeaningTrees" 31 yX2_init "LeaningTrees", .methodLinkNest "LeaningTrees" 38 yX1_init "LeaningTrees", .methodLinkNest "LeaningTrees" 43 yX4_init "LeaningTrees", .fieldLinkNest "LeaningTrees$Tree" 11 "LeaningTrees" "FIRST_SETTINGS" "[I" "LeaningTrees", .arrayOver (.object RX4), .arrayOver (.object RX5)]
abbrev s_rkl : List Nat := [4, 5]
end
section
/-! THE SMALL MACHINE: a method's walk as a function of pure data. A reference is a number i: 0 .. 3 are arrays that nobody writes (three statics, the script), from 4 on the cells that the run makes, in their order.
    A heap: the ints (cell, place), the references (cell, place), the shapes: (0, c): an object of class c; (1, n): an int array of n; (t + 2, n): an array of n references. -/
abbrev sHp : Type := (Nat → Nat → Int32) × (Nat → Nat → Option Nat) × List (Nat × Nat)
/-- a row of a method's code: pc, the instruction with its links resolved, its length, its pool index, the places of its words -/
abbrev sE : Type := Nat × Instr × Nat × Nat × List Nat
/-- a method: name, bytes, locals, what it returns, how many values it takes (the receiver too), frames and words of locals below it, its rows -/
abbrev sM : Type := MethodName × ByteArray × Nat × Option FieldType × Nat × Nat × Nat × List sE
abbrev s_y (r : sM) : MethodName := r.1
abbrev s_b (r : sM) : ByteArray := r.2.1
abbrev s_mL (r : sM) : Nat := r.2.2.1
abbrev s_rt (r : sM) : Option FieldType := r.2.2.2.1
abbrev s_na (r : sM) : Nat := r.2.2.2.2.1
abbrev s_fr (r : sM) : Nat := r.2.2.2.2.2.1
abbrev s_lo (r : sM) : Nat := r.2.2.2.2.2.2.1
abbrev s_cd (r : sM) : List sE := r.2.2.2.2.2.2.2
def s_nth {α : Type} : List α → Nat → Option α
  | [], _ => none
  | a :: _, 0 => some a
  | _ :: l, n + 1 => s_nth l n
theorem s_nth_eq {α : Type} : ∀ (l : List α) (n : Nat), s_nth l n = l[n]?
  | [], n => by simp [s_nth]
  | a :: l, 0 => by simp [s_nth]
  | a :: l, n + 1 => by rw [s_nth, s_nth_eq l n, List.getElem?_cons_succ]
def s_at : List sE → Nat → Option sE
  | [], _ => none
  | e :: l, pc => if e.1 = pc then some e else s_at l pc
theorem s_at_mem : ∀ {l : List sE} {pc : Nat} {e : sE}, s_at l pc = some e → e ∈ l ∧ e.1 = pc
  | [], pc, e, h => by cases h
  | a :: l, pc, e, h => by
    unfold s_at at h
    split at h
    next hq => cases h; exact ⟨List.mem_cons_self, hq⟩
    next hq => exact ⟨List.mem_cons_of_mem _ (s_at_mem h).1, (s_at_mem h).2⟩
/-- no value: a local that isn't set, or the second half of a long -/
abbrev s_no : Value := .retAddr 0
def s_two : Value → Bool
  | .long _ => true
  | .double _ => true
  | _ => false
theorem s_two_cat (v : Value) : (s_two v = true ↔ v.category = 2) := by cases v <;> simp [s_two, Value.category]
/-- what stands ahead of a place that is written: a long there loses its second half -/
def s_cut : List Value → Nat → List Value
  | [], _ => []
  | l, 0 => l
  | v :: l, 1 => (if s_two v then s_no else v) :: l
  | v :: l, n + 2 => v :: s_cut l (n + 1)
def s_put1 (l : List Value) (i : Nat) (v : Value) : List Value := (s_cut l i).set i v
def s_put2 (l : List Value) (i : Nat) (v : Value) : List Value := ((s_cut l i).set i v).set (i + 1) s_no
/-- the locals at a method's entry -/
def s_ent : List Value → Nat → List Value
  | [], n => List.replicate n s_no
  | v :: vs, n => if s_two v then v :: s_no :: s_ent vs (n - 2) else v :: s_ent vs (n - 1)
def s_upd (Z : Nat → Nat → Int32) (a k : Nat) (x : Int32) : Nat → Nat → Int32 := fun i => if i = a then upd (Z i) k x else Z i
def s_updR (R : Nat → Nat → Option Nat) (a k : Nat) (x : Option Nat) : Nat → Nat → Option Nat := fun i => if i = a then va_up (R i) k x else R i
def s_new (h : sHp) (t n : Nat) : sHp := (fun i => if i = h.2.2.length then (fun _ => 0) else h.1 i, fun i => if i = h.2.2.length then (fun _ => none) else h.2.1 i, h.2.2 ++ [(t, n)])
def s_cnd (c : Jvm.ClassFile.Cond) (x y : Int32) : Bool := match c with
  | .eq => decide (x = y)
  | .ne => decide (x ≠ y)
  | .lt => decide (x < y)
  | .ge => decide (y ≤ x)
  | .gt => decide (y < x)
  | .le => decide (x ≤ y)
abbrev sC : Type := Nat × List Value × List Value × sHp
def s_out (i : Int32) (n : Nat) : Prop := i < 0 ∨ n ≤ i.toNatClampNeg
def s_outb (i : Int32) (n : Nat) : Bool := decide (i < 0) || Nat.ble n i.toNatClampNeg
def s_cat : List Value → Nat
  | [] => 0
  | v :: l => (if s_two v then 2 else 1) + s_cat l
/-- one instruction that calls nothing and returns nothing -/
def s_x (i : Instr) (pc n : Nat) (ls st : List Value) (h : sHp) : Option sC :=
  match i with
  | .iconst v => some (pc + n, ls, .int (Int32.ofInt v) :: st, h)
  | .bipush v => some (pc + n, ls, .int (Int8.ofInt v).toInt32 :: st, h)
  | .sipush v => some (pc + n, ls, .int (Int16.ofInt v).toInt32 :: st, h)
  | .ldc v => some (pc + n, ls, .int (Int32.ofNat v) :: st, h)
  | .ldc_w v => some (pc + n, ls, .int (Int32.ofNat v) :: st, h)
  | .ldc2_w v => some (pc + n, ls, .long (Int64.ofNat v) :: st, h)
  | .ret v => some (pc + n, ls, .float (UInt32.ofNat v) :: st, h)
  | .multianewarray v _ => some (pc + n, ls, .float (UInt32.ofNat v) :: st, h)
  | .putstatic v => some (pc + n, ls, .double (UInt64.ofNat v) :: st, h)
  | .lconst k => some (pc + n, ls, .long (Int64.ofNat k.val) :: st, h)
  | .fconst k => some (pc + n, ls, .float (if k.val = 0 then FP.fconst0 else if k.val = 1 then FP.fconst1 else FP.fconst2) :: st, h)
  | .dconst k => some (pc + n, ls, .double (if k.val = 0 then FP.dconst0 else FP.dconst1) :: st, h)
  | .aconst_null => some (pc + n, ls, .null :: st, h)
  | .iload_n k => (match s_nth ls k.val with | some (.int x) => some (pc + n, ls, .int x :: st, h) | _ => none)
  | .iload k => (match s_nth ls k with | some (.int x) => some (pc + n, ls, .int x :: st, h) | _ => none)
  | .lload_n k => (match s_nth ls k.val with | some (.long x) => some (pc + n, ls, .long x :: st, h) | _ => none)
  | .lload k => (match s_nth ls k with | some (.long x) => some (pc + n, ls, .long x :: st, h) | _ => none)
  | .fload_n k => (match s_nth ls k.val with | some (.float x) => some (pc + n, ls, .float x :: st, h) | _ => none)
  | .dload_n k => (match s_nth ls k.val with | some (.double x) => some (pc + n, ls, .double x :: st, h) | _ => none)
  | .aload_n k => (match s_nth ls k.val with | some (.ref x) => some (pc + n, ls, .ref x :: st, h) | some .null => some (pc + n, ls, .null :: st, h) | _ => none)
  | .aload k => (match s_nth ls k with | some (.ref x) => some (pc + n, ls, .ref x :: st, h) | some .null => some (pc + n, ls, .null :: st, h) | _ => none)
  | .istore_n k => (match st with
    | .int x :: r => if k.val < ls.length then some (pc + n, s_put1 ls k.val (.int x), r, h) else none
    | _ => none)
  | .istore k => (match st with
    | .int x :: r => if k < ls.length then some (pc + n, s_put1 ls k (.int x), r, h) else none
    | _ => none)
  | .fstore_n k => (match st with
    | .float x :: r => if k.val < ls.length then some (pc + n, s_put1 ls k.val (.float x), r, h) else none
    | _ => none)
  | .lstore_n k => (match st with
    | .long x :: r => if k.val + 1 < ls.length then some (pc + n, s_put2 ls k.val (.long x), r, h) else none
    | _ => none)
  | .lstore k => (match st with
    | .long x :: r => if k + 1 < ls.length then some (pc + n, s_put2 ls k (.long x), r, h) else none
    | _ => none)
  | .dstore_n k => (match st with
    | .double x :: r => if k.val + 1 < ls.length then some (pc + n, s_put2 ls k.val (.double x), r, h) else none
    | _ => none)
  | .astore_n k => (match st with
    | .ref x :: r => if k.val < ls.length then some (pc + n, s_put1 ls k.val (.ref x), r, h) else none
    | .null :: r => if k.val < ls.length then some (pc + n, s_put1 ls k.val .null, r, h) else none
    | _ => none)
  | .astore k => (match st with
    | .ref x :: r => if k < ls.length then some (pc + n, s_put1 ls k (.ref x), r, h) else none
    | .null :: r => if k < ls.length then some (pc + n, s_put1 ls k .null, r, h) else none
    | _ => none)
  | .iinc k v => (match s_nth ls k with | some (.int x) => some (pc + n, s_put1 ls k (.int (x + Int32.ofInt v)), st, h) | _ => none)
  | .dup => (match st with
    | v :: r => if s_two v then none else some (pc + n, ls, v :: v :: r, h)
    | _ => none)
  | .pop => (match st with
    | v :: r => if s_two v then none else some (pc + n, ls, r, h)
    | _ => none)
  | .dup2 => (match st with
    | v :: r => if s_two v then some (pc + n, ls, v :: v :: r, h) else (match r with | w :: r2 => if s_two w then none else some (pc + n, ls, v :: w :: v :: w :: r2, h) | [] => none)
    | _ => none)
  | .iadd => (match st with
    | .int y :: .int x :: r => some (pc + n, ls, .int (x + y) :: r, h)
    | _ => none)
  | .isub => (match st with
    | .int y :: .int x :: r => some (pc + n, ls, .int (x - y) :: r, h)
    | _ => none)
  | .imul => (match st with
    | .int y :: .int x :: r => some (pc + n, ls, .int (x * y) :: r, h)
    | _ => none)
  | .iand => (match st with
    | .int y :: .int x :: r => some (pc + n, ls, .int (x &&& y) :: r, h)
    | _ => none)
  | .ior => (match st with
    | .int y :: .int x :: r => some (pc + n, ls, .int (x ||| y) :: r, h)
    | _ => none)
  | .ishl => (match st with
    | .int y :: .int x :: r => some (pc + n, ls, .int (x <<< (y &&& 31)) :: r, h)
    | _ => none)
  | .idiv => (match st with
    | .int y :: .int x :: r => if y = 0 then none else some (pc + n, ls, .int (x / y) :: r, h)
    | _ => none)
  | .irem => (match st with
    | .int y :: .int x :: r => if y = 0 then none else some (pc + n, ls, .int (x - x / y * y) :: r, h)
    | _ => none)
  | .ishr => (match st with
    | .int y :: .int x :: r => some (pc + n, ls, .int (x >>> (y &&& 31)) :: r, h)
    | _ => none)
  | .ladd => (match st with
    | .long y :: .long x :: r => some (pc + n, ls, .long (x + y) :: r, h)
    | _ => none)
  | .lsub => (match st with
    | .long y :: .long x :: r => some (pc + n, ls, .long (x - y) :: r, h)
    | _ => none)
  | .land => (match st with
    | .long y :: .long x :: r => some (pc + n, ls, .long (x &&& y) :: r, h)
    | _ => none)
  | .lor => (match st with
    | .long y :: .long x :: r => some (pc + n, ls, .long (x ||| y) :: r, h)
    | _ => none)
  | .lshl => (match st with
    | .int y :: .long x :: r => some (pc + n, ls, .long (x <<< (y.toInt64 &&& 63)) :: r, h)
    | _ => none)
  | .lushr => (match st with
    | .int y :: .long x :: r => some (pc + n, ls, .long (x.toUInt64 >>> (y.toInt64.toUInt64 &&& Int64.toUInt64 63)).toInt64 :: r, h)
    | _ => none)
  | .i2l => (match st with
    | .int x :: r => some (pc + n, ls, .long x.toInt64 :: r, h)
    | _ => none)
  | .l2i => (match st with
    | .long x :: r => some (pc + n, ls, .int x.toInt32 :: r, h)
    | _ => none)
  | .i2f => (match st with
    | .int x :: r => some (pc + n, ls, .float (FP.i2f x) :: r, h)
    | _ => none)
  | .i2d => (match st with
    | .int x :: r => some (pc + n, ls, .double (FP.i2d x) :: r, h)
    | _ => none)
  | .l2d => (match st with
    | .long x :: r => some (pc + n, ls, .double (FP.l2d x) :: r, h)
    | _ => none)
  | .d2l => (match st with
    | .double x :: r => some (pc + n, ls, .long (FP.d2l x) :: r, h)
    | _ => none)
  | .f2i => (match st with
    | .float x :: r => some (pc + n, ls, .int (FP.f2i x) :: r, h)
    | _ => none)
  | .lcmp => (match st with
    | .long y :: .long x :: r => some (pc + n, ls, .int (lg_cmp x y) :: r, h)
    | _ => none)
  | .fcmp op => (match st with
    | .float y :: .float x :: r => some (pc + n, ls, .int (Op.cmpValue (FP.fcmp x y) op) :: r, h)
    | _ => none)
  | .dcmp op => (match st with
    | .double y :: .double x :: r => some (pc + n, ls, .int (Op.cmpValue (FP.dcmp x y) op) :: r, h)
    | _ => none)
  | .fsub => (match st with
    | .float y :: .float x :: r => if FP.fsub x y &&& 0x7fffffff ≤ 0x7f800000 then some (pc + n, ls, .float (FP.fsub x y) :: r, h) else none
    | _ => none)
  | .fmul => (match st with
    | .float y :: .float x :: r => if FP.fmul x y &&& 0x7fffffff ≤ 0x7f800000 then some (pc + n, ls, .float (FP.fmul x y) :: r, h) else none
    | _ => none)
  | .fdiv => (match st with
    | .float y :: .float x :: r => if FP.fdiv x y &&& 0x7fffffff ≤ 0x7f800000 then some (pc + n, ls, .float (FP.fdiv x y) :: r, h) else none
    | _ => none)
  | .dsub => (match st with
    | .double y :: .double x :: r => if FP.dsub x y &&& 0x7fffffffffffffff ≤ 0x7ff0000000000000 then some (pc + n, ls, .double (FP.dsub x y) :: r, h) else none
    | _ => none)
  | .dmul => (match st with
    | .double y :: .double x :: r => if FP.dmul x y &&& 0x7fffffffffffffff ≤ 0x7ff0000000000000 then some (pc + n, ls, .double (FP.dmul x y) :: r, h) else none
    | _ => none)
  | .ddiv => (match st with
    | .double y :: .double x :: r => if FP.ddiv x y &&& 0x7fffffffffffffff ≤ 0x7ff0000000000000 then some (pc + n, ls, .double (FP.ddiv x y) :: r, h) else none
    | _ => none)
  | .drem => (match st with
    | .double y :: .double x :: r => if FP.drem x y &&& 0x7fffffffffffffff ≤ 0x7ff0000000000000 then some (pc + n, ls, .double (FP.drem x y) :: r, h) else none
    | _ => none)
  | .ifCond c t => (match st with
    | .int x :: r => some (if s_cnd c x 0 = true then t.toNat else pc + n, ls, r, h)
    | _ => none)
  | .if_icmp c t => (match st with
    | .int y :: .int x :: r => some (if s_cnd c x y = true then t.toNat else pc + n, ls, r, h)
    | _ => none)
  | .ifnull t => (match st with
    | .null :: r => some (t.toNat, ls, r, h)
    | .ref _ :: r => some (pc + n, ls, r, h)
    | _ => none)
  | .ifnonnull t => (match st with
    | .null :: r => some (pc + n, ls, r, h)
    | .ref _ :: r => some (t.toNat, ls, r, h)
    | _ => none)
  | .goto t => some (t.toNat, ls, st, h)
  | .tableswitch d lo hi o => (match st with
    | .int x :: r => if x.toInt < lo ∨ hi < x.toInt then some (d.toNat, ls, r, h) else (match s_nth o.toList (x.toInt - lo).toNat with | some t => some (t.toNat, ls, r, h) | none => none)
    | _ => none)
  | .lookupswitch d ps => (match st with
    | .int x :: r => some ((Op.lookupswitch.offset ps.toList d x.toInt).toNat, ls, r, h)
    | _ => none)
  | .getfield e => (match st with
    | .ref a :: r => (match s_nth h.2.2 a with
    | some (0, c) => if c = e / 1024 then (if e % 8 = 2 then (match h.2.1 a (e % 1024 / 8) with | some b => some (pc + n, ls, .ref b :: r, h) | none => some (pc + n, ls, .null :: r, h)) else some (pc + n, ls, .int (h.1 a (e % 1024 / 8)) :: r, h)) else none
    | _ => none)
    | _ => none)
  | .putfield e => (match st with
    | .int x :: .ref a :: r => (match s_nth h.2.2 a with
    | some (0, c) => if c = e / 1024 then (if e % 8 = 0 then some (pc + n, ls, r, (s_upd h.1 a (e % 1024 / 8) x, h.2)) else if e % 8 = 1 then (if x = 0 ∨ x = 1 then some (pc + n, ls, r, (s_upd h.1 a (e % 1024 / 8) x, h.2)) else none) else none) else none
    | _ => none)
    | .ref b :: .ref a :: r => (match s_nth h.2.2 a with
    | some (0, c) => if c = e / 1024 then (if e % 8 = 2 then some (pc + n, ls, r, (h.1, s_updR h.2.1 a (e % 1024 / 8) (some b), h.2.2)) else none) else none
    | _ => none)
    | _ => none)
  | .getstatic j => some (pc + n, ls, .ref j :: st, h)
  | .instanceof j => some (pc + n, ls, .ref j :: st, h)
  | .arraylength => (match st with
    | .ref a :: r => (match s_nth h.2.2 a with
    | some (t + 1, m) => some (pc + n, ls, .int (Int32.ofNat m) :: r, h)
    | _ => none)
    | _ => none)
  | .iaload => (match st with
    | .int i :: .ref a :: r => (match s_nth h.2.2 a with
    | some (1, m) => if s_outb i m = true then none else some (pc + n, ls, .int (h.1 a i.toNatClampNeg) :: r, h)
    | _ => none)
    | _ => none)
  | .iastore => (match st with
    | .int x :: .int i :: .ref a :: r => (match s_nth h.2.2 a with
    | some (1, m) => if s_outb i m = true ∨ a < 4 then none else some (pc + n, ls, r, (s_upd h.1 a i.toNatClampNeg x, h.2))
    | _ => none)
    | _ => none)
  | .aaload => (match st with
    | .int i :: .ref a :: r => (match s_nth h.2.2 a with
    | some (t + 2, m) => if s_outb i m = true ∨ a < 4 then none else (match h.2.1 a i.toNatClampNeg with | some b => some (pc + n, ls, .ref b :: r, h) | none => some (pc + n, ls, .null :: r, h))
    | _ => none)
    | _ => none)
  | .aastore => (match st with
    | .ref b :: .int i :: .ref a :: r => (match s_nth h.2.2 a, s_nth h.2.2 b with
    | some (t + 2, m), some (0, c) => if s_outb i m = true ∨ a < 4 ∨ b < 4 ∨ c ≠ t then none else some (pc + n, ls, r, (h.1, s_updR h.2.1 a i.toNatClampNeg (some b), h.2.2))
    | _, _ => none)
    | _ => none)
  | .new c => some (pc + n, ls, .ref h.2.2.length :: st, s_new h 0 c)
  | .newarray .int => (match st with
    | .int k :: r => if k < 0 ∨ 65536 < k then none else some (pc + n, ls, .ref h.2.2.length :: r, s_new h 1 k.toNatClampNeg)
    | _ => none)
  | .anewarray t => (match st with
    | .int k :: r => if k < 0 ∨ 65536 < k then none else some (pc + n, ls, .ref h.2.2.length :: r, s_new h (t + 2) k.toNatClampNeg)
    | _ => none)
  | .monitorenter => (match st with
    | .ref _ :: r => if 8 < s_cat r then none else some (pc + n, ls, r, h)
    | _ => none)
  | .monitorexit => (match st with
    | .int k :: .int dp :: .ref b :: .int sp :: .ref a :: r => (match s_nth h.2.2 a, s_nth h.2.2 b with
    | some (1, na), some (1, nb) => if 8 < s_cat r ∨ sp < 0 ∨ dp < 0 ∨ k < 0 ∨ na < sp.toNatClampNeg + k.toNatClampNeg ∨ nb < dp.toNatClampNeg + k.toNatClampNeg ∨ a < 4 ∨ b < 4 then none
      else some (pc + n, ls, r, (fun i => if i = b then va_cpy (h.1 a) (h.1 b) sp.toNatClampNeg dp.toNatClampNeg k.toNatClampNeg else h.1 i, h.2))
    | _, _ => none)
    | _ => none)
  | .jsr _ => (match st with
    | .int y :: .int x :: r => if 8 < s_cat r then none else some (pc + n, ls, .int (if x < y then y else x) :: r, h)
    | _ => none)
  | .jsr_w _ => (match st with
    | .int y :: .int x :: r => if 8 < s_cat r then none else some (pc + n, ls, .int (if y < x then y else x) :: r, h)
    | _ => none)
  | .nop => (match st with
    | .double x :: r => if 8 < s_cat r then none else some (pc + n, ls, .long x.toInt64 :: r, h)
    | _ => none)
  | .swap => (match st with
    | .float x :: r => if 8 < s_cat r then none else some (pc + n, ls, .int x.toInt32 :: r, h)
    | _ => none)
  | _ => none
/-- a call's kind: 0 virtual, 1 static, 2 special, 3 special of a nest mate; and the method's number -/
def s_ci : Instr → Option (Nat × Nat)
  | .invokevirtual k => some (0, k)
  | .invokestatic k => some (1, k)
  | .invokespecial k => some (2, k)
  | .invokeinterface k _ => some (3, k)
  | _ => none
/-- what a method hands back -/
def s_rx (i : Instr) (rt : Option FieldType) (st : List Value) : Option (Option Value) :=
  match i, rt, st with
  | .return_, none, [] => some none
  | .ireturn, some .int, [.int v] => some (some (.int v))
  | .ireturn, some .boolean, [.int v] => if v = 0 ∨ v = 1 then some (some (.int v)) else none
  | .lreturn, some .long, [.long v] => some (some (.long v))
  | .areturn, some (.object _), [.ref a] => some (some (.ref a))
  | .areturn, some (.object _), [.null] => some (some .null)
  | _, _, _ => none
/-- may the receiver of a call be this value: an object of the method's own kind -/
def s_rc (kind : Nat) (cn : Option Nat) (h : sHp) (as : List Value) : Bool := match kind with
  | 1 => true
  | 0 => (match as with
    | .ref a :: _ => (match s_nth h.2.2 a, cn with
      | some (0, c), some c2 => Nat.beq c c2
      | _, _ => false)
    | _ => false)
  | _ => (match as with
    | .ref _ :: _ => true
    | _ => false)
def s_run (MT : Nat → Option (sM × Option Nat)) : Nat → Nat → Nat → List Value → List Value → sHp → Option (Option Value × sHp)
  | 0, _, _, _, _, _ => none
  | f + 1, k, pc, ls, st, h => match MT k with
    | none => none
    | some r => match s_at (s_cd r.1) pc with
      | none => none
      | some e => match s_ci e.2.1 with
        | some q => (match MT q.2 with
          | none => none
          | some r2 => if st.length < s_na r2.1 ∨ s_mL r2.1 < s_cat (st.take (s_na r2.1)).reverse ∨ 8 < s_cat (st.drop (s_na r2.1)) ∨ s_rc q.1 r2.2 h (st.take (s_na r2.1)).reverse = false then none
            else (match s_run MT f q.2 0 (s_ent (st.take (s_na r2.1)).reverse (s_mL r2.1)) [] h with
              | none => none
              | some o => s_run MT f k (pc + 3) ls (o.1.toList ++ st.drop (s_na r2.1)) o.2))
        | none => match s_rx e.2.1 (s_rt r.1) st with
          | some v => some (v, h)
          | none => (match s_x e.2.1 pc e.2.2.1 ls st h with
            | none => none
            | some c => s_run MT f k c.1 c.2.1 c.2.2.1 c.2.2.2)
end
section
/-! THE SMALL MACHINE'S HEAP IN THE REAL ONE. S: what is known of the classes; G: what a start adds (class numbers, addresses, the arrays that nobody writes). -/
abbrev s_SG : Type := List vw_C × (Nat → Nat → FieldType) × List Nat × (Nat → String × String × String) × Nat × List Jvm.Cond
abbrev s_cl (S : s_SG) : List vw_C := S.1
abbrev s_ty (S : s_SG) : Nat → Nat → FieldType := S.2.1
/-- the classes of which arrays are made -/
abbrev s_rk (S : s_SG) : List Nat := S.2.2.1
abbrev s_sn (S : s_SG) : Nat → String × String × String := S.2.2.2.1
abbrev s_ns (S : s_SG) : Nat := S.2.2.2.2.1
/-- words that a callee must be told one by one (nest mates, arrays of objects) -/
abbrev s_nw (S : s_SG) : List Jvm.Cond := S.2.2.2.2.2
abbrev s_DG : Type := va_G × (Nat → ClassId) × (Nat → Nat) × Nat × (Nat → Nat) × (Nat → Nat → Int32)
abbrev s_D (G : s_DG) : va_G := G.1
abbrev s_cA (G : s_DG) : Nat → ClassId := G.2.1
abbrev s_ad (G : s_DG) : Nat → Nat := G.2.2.1
abbrev s_B (G : s_DG) : Nat := G.2.2.2.1
abbrev s_Lc (G : s_DG) : Nat → Nat := G.2.2.2.2.1
abbrev s_xs (G : s_DG) : Nat → Nat → Int32 := G.2.2.2.2.2
def s_vc (G : s_DG) : Value → Value
  | .ref i => .ref (s_ad G i)
  | v => v
theorem s_vc_two (G : s_DG) (v : Value) : s_two (s_vc G v) = s_two v := by cases v <;> rfl
theorem s_vc_cat (G : s_DG) (v : Value) : (s_vc G v).category = if s_two v then 2 else 1 := by cases v <;> rfl
theorem s_cat_sum (G : s_DG) : ∀ l : List Value, ((l.map (s_vc G)).map fun v => v.category).sum = s_cat l
  | [] => rfl
  | v :: l => by
    rw [List.map_cons, List.map_cons, List.sum_cons, s_cat_sum G l, s_vc_cat]
    rfl
def s_kd : FieldType → Nat
  | .int => 0
  | .boolean => 1
  | _ => 2
def s_cn (S : s_SG) (c : Nat) : String := match (s_cl S)[c]? with
  | some q => q.1
  | none => ""
def s_F (S : s_SG) (c : Nat) : u_T := match (s_cl S)[c]? with
  | some q => q.2.1
  | none => fun _ => ("", "", "", false)
def s_N (S : s_SG) (c : Nat) : Nat := match (s_cl S)[c]? with
  | some q => q.2.2
  | none => 0
def s_fv (S : s_SG) (G : s_DG) (h : sHp) (i c k : Nat) : Value := if s_kd (s_ty S c k) = 2 then va_rf ((h.2.1 i k).map (s_ad G)) else .int (h.1 i k)
def s_cell (S : s_SG) (G : s_DG) (h : sHp) (i : Nat) : va_E := match h.2.2[i]? with
  | some (0, c) => .inr (c, (List.range (s_N S c)).map (s_fv S G h i c))
  | some (1, n) => .inl (s_cA G 1, n, .inl (h.1 i))
  | some (t + 2, n) => .inl (s_cA G (t + 2), n, .inr (.inr (.inr (.inr (fun k => (h.2.1 i k).map (s_ad G))))))
  | none => .inr (0, [])
def s_ws (S : s_SG) (G : s_DG) (h : sHp) : va_W := (List.range (h.2.2.length - 4)).map fun j => (s_ad G (j + 4), s_cell S G h (j + 4))
def s_tys (S : s_SG) (G : s_DG) : List (ClassId × FieldType) := (s_cA G 1, .int) :: (s_rk S).map fun t => (s_cA G (t + 2), .object (s_cn S t))
def s_A (G : s_DG) : Nat → Prop := fun q => s_B G ≤ q
def s_sz (S : s_SG) : List (Nat × Nat) → Nat
  | [] => 0
  | (0, c) :: l => s_N S c + s_sz S l
  | (_ + 1, n) :: l => n + s_sz S l
theorem s_sz_app (S : s_SG) (q : Nat × Nat) : ∀ l : List (Nat × Nat), s_sz S (l ++ [q]) = s_sz S l + s_sz S [q]
  | [] => by simp [s_sz]
  | (0, c) :: l => by
    rw [List.cons_append, s_sz, s_sz, s_sz_app S q l, Nat.add_assoc]
  | (t + 1, c) :: l => by
    rw [List.cons_append, s_sz, s_sz, s_sz_app S q l, Nat.add_assoc]
/-- the heap h stands in H -/
def s_Wd (S : s_SG) (G : s_DG) (h : sHp) (H : Heap) : Prop := 4 ≤ h.2.2.length ∧ va_P (s_D G) (s_cl S) (s_ws S G h) H ∧ (∀ i : Nat, i < 4 → h.2.2[i]? = some (1, s_Lc G i) ∧ h.1 i = s_xs G i) ∧ ∀ (i t n : Nat), h.2.2[i]? = some (t + 2, n) → t ∈ s_rk S
/-- what a start knows of the tables and of what nobody writes -/
def s_In (S : s_SG) (G : s_DG) (U : State) : Prop := va_K (s_D G) (s_cl S) (s_tys S G) U ∧ (∀ i : Nat, i < 4 → va_T .int (s_ad G i) (s_Lc G i) (fun j => .int (s_xs G i j)) (s_A G) U U.heap ∧ s_ad G i < s_B G) ∧ (∀ j : Nat, j < s_ns S → j < 4 ∧ va_Z (s_sn S j).1 (s_sn S j).2.1 (s_sn S j).2.2 (.ref (s_ad G j)) (s_A G) U U.heap) ∧ (∀ j : Nat, s_ad G (j + 4) = s_B G + j) ∧ ∀ w ∈ s_nw S, va_Nw w U
theorem s_ad_ge {S : s_SG} {G : s_DG} {U : State} (h : s_In S G U) {a : Nat} (ha : 4 ≤ a) : s_ad G a = s_B G + (a - 4) := by
  have := h.2.2.2.1 (a - 4)
  rwa [show a - 4 + 4 = a by omega] at this
theorem s_ws_len (S : s_SG) (G : s_DG) (h : sHp) : (s_ws S G h).length = h.2.2.length - 4 := by simp [s_ws]
theorem s_ws_get (S : s_SG) (G : s_DG) (h : sHp) (j : Nat) : (s_ws S G h)[j]? = if j < h.2.2.length - 4 then some (s_ad G (j + 4), s_cell S G h (j + 4)) else none := by
  unfold s_ws
  rw [List.getElem?_map]
  by_cases q : j < h.2.2.length - 4
  · rw [if_pos q, List.getElem?_range q]; rfl
  · rw [if_neg q, List.getElem?_eq_none (by rw [List.length_range]; omega)]; rfl
theorem s_ws_at (S : s_SG) (G : s_DG) (h : sHp) {a : Nat} (ha : 4 ≤ a) (hl : a < h.2.2.length) : (s_ws S G h)[a - 4]? = some (s_ad G a, s_cell S G h a) := by
  rw [s_ws_get, if_pos (by omega), show a - 4 + 4 = a by omega]
theorem s_ws_D {S : s_SG} {G : s_DG} {U : State} (hI : s_In S G U) (h : sHp) : va_D (s_A G) (s_ws S G h) := by
  have key : ∀ (k : Nat) (q : Nat × va_E), (s_ws S G h)[k]? = some q → q.1 = s_B G + k := by
    intro k q hk
    rw [s_ws_get] at hk
    split at hk
    · cases hk; exact hI.2.2.2.1 k
    · cases hk
  refine ⟨fun i j p q hi hj e => ?_, fun k q hk => ?_⟩
  · have h1 := key i p hi
    have h2 := key j q hj
    omega
  · show s_B G ≤ q.1
    rw [key k q hk]; omega
theorem s_ws_set (S : s_SG) (G : s_DG) {h h2 : sHp} {a : Nat} (ha : 4 ≤ a) (hl : a < h.2.2.length) (hs : h2.2.2 = h.2.2) (ho : ∀ i : Nat, i ≠ a → h2.1 i = h.1 i ∧ h2.2.1 i = h.2.1 i) {e : va_E} (he : e = s_cell S G h2 a) : (s_ws S G h).set (a - 4) (s_ad G a, e) = s_ws S G h2 := by
  apply List.ext_getElem?
  intro j
  rw [s_ws_get S G h2, hs]
  by_cases hj : j = a - 4
  · subst hj
    rw [List.getElem?_set_self (by rw [s_ws_len]; omega), if_pos (by omega), show a - 4 + 4 = a by omega, he]
  · rw [List.getElem?_set_ne (Ne.symm hj), s_ws_get]
    by_cases q : j < h.2.2.length - 4
    · rw [if_pos q, if_pos q]
      obtain ⟨o1, o2⟩ := ho (j + 4) (by omega)
      have : s_cell S G h2 (j + 4) = s_cell S G h (j + 4) := by
        have hf : ∀ c, s_fv S G h2 (j + 4) c = s_fv S G h (j + 4) c := fun c => by funext k; simp only [s_fv, o1, o2]
        simp only [s_cell, hs, o1, o2, hf]
      rw [this]
    · rw [if_neg q, if_neg q]
theorem s_Wd_len {S : s_SG} {G : s_DG} {h : sHp} {H : Heap} (hW : s_Wd S G h H) {a t n : Nat} (hs : s_nth h.2.2 a = some (t, n)) : h.2.2[a]? = some (t, n) ∧ a < h.2.2.length ∧ (t ≠ 1 → 4 ≤ a) := by
  rw [s_nth_eq] at hs
  refine ⟨hs, (List.getElem?_eq_some_iff.mp hs).1, fun ht => ?_⟩
  rcases Nat.lt_or_ge a 4 with q | q
  · have := (hW.2.2.1 a q).1
    rw [this] at hs
    cases hs
    exact absurd rfl ht
  · exact q
theorem s_Wd_put {S : s_SG} {G : s_DG} {h h2 : sHp} {H H1 : Heap} (hW : s_Wd S G h H) {a : Nat} (ha : 4 ≤ a) (hl : a < h.2.2.length) (hs : h2.2.2 = h.2.2) (ho : ∀ i : Nat, i ≠ a → h2.1 i = h.1 i ∧ h2.2.1 i = h.2.1 i) {e : va_E} (he : e = s_cell S G h2 a) (hP : va_P (s_D G) (s_cl S) ((s_ws S G h).set (a - 4) (s_ad G a, e)) H1) : s_Wd S G h2 H1 := by
  rw [s_ws_set S G ha hl hs ho he] at hP
  refine ⟨by rw [hs]; exact hW.1, hP, fun i hi => ?_, fun i t n hi => hW.2.2.2 i t n (by rw [← hs]; exact hi)⟩
  rw [hs, (ho i (by omega)).1]
  exact hW.2.2.1 i hi
theorem s_tys_0 (S : s_SG) (G : s_DG) : (s_tys S G)[0]? = some (s_cA G 1, .int) := rfl
theorem s_tys_r {S : s_SG} (G : s_DG) {t : Nat} (ht : t ∈ s_rk S) : ∃ j : Nat, (s_tys S G)[j]? = some (s_cA G (t + 2), .object (s_cn S t)) := by
  have h : ((s_cA G (t + 2), .object (s_cn S t)) : ClassId × FieldType) ∈ s_tys S G := List.mem_cons_of_mem _ (List.mem_map.mpr ⟨t, ht, rfl⟩)
  exact List.getElem?_of_mem h
/-! the locals -/
def s_as1 (G : s_DG) (i : Nat) : Value → Option (Nat × Value)
  | .retAddr _ => none
  | v => some (i, s_vc G v)
theorem s_as1_eq (G : s_DG) (i : Nat) (v : Value) (q : Nat × Value) : s_as1 G i v = some q ↔ ((∀ a, v ≠ .retAddr a) ∧ q = (i, s_vc G v)) := by
  cases v <;> simp [s_as1, eq_comm]
def s_asc (G : s_DG) (L : List Value) : List (Nat × Value) := (List.range L.length).filterMap fun i => (L[i]?).bind (s_as1 G i)
theorem s_asc_mem {G : s_DG} {L : List Value} {q : Nat × Value} : q ∈ s_asc G L ↔ ∃ v : Value, L[q.1]? = some v ∧ (∀ a, v ≠ .retAddr a) ∧ q.2 = s_vc G v := by
  unfold s_asc
  rw [List.mem_filterMap]
  constructor
  · rintro ⟨i, hi, h⟩
    obtain ⟨v, hv, h2⟩ := Option.bind_eq_some_iff.mp h
    obtain ⟨hn, rfl⟩ := (s_as1_eq G i v q).mp h2
    exact ⟨v, hv, hn, rfl⟩
  · rintro ⟨v, hv, hn, e⟩
    refine ⟨q.1, List.mem_range.mpr (List.getElem?_eq_some_iff.mp hv).1, ?_⟩
    rw [hv]
    exact (s_as1_eq G q.1 v q).mpr ⟨hn, by rw [← e]⟩
def s_LR (G : s_DG) (ls : Array Slot) (L : List Value) : Prop := lv_has ls L.length (s_asc G L)
theorem s_LR_at {G : s_DG} {ls : Array Slot} {L : List Value} (h : s_LR G ls L) {i : Nat} {v : Value} (hv : s_nth L i = some v) (hn : ∀ a, v ≠ .retAddr a) : ls[i]? = some (.val (s_vc G v)) := by
  rw [s_nth_eq] at hv
  exact h.2.2 (i, s_vc G v) (s_asc_mem.mpr ⟨v, hv, hn, rfl⟩)
theorem s_cut_len : ∀ (L : List Value) (i : Nat), (s_cut L i).length = L.length
  | [], _ => by simp [s_cut]
  | _ :: _, 0 => by simp [s_cut]
  | v :: l, 1 => by simp [s_cut]
  | v :: l, n + 2 => by simp [s_cut, s_cut_len l (n + 1)]
theorem s_cut_get : ∀ (L : List Value) (i j : Nat), (s_cut L i)[j]? = if j + 1 = i then (L[j]?).map (fun w => if s_two w then s_no else w) else L[j]?
  | [], i, j => by simp [s_cut]
  | v :: l, 0, j => by
    rw [if_neg (by omega)]
    simp [s_cut]
  | v :: l, 1, 0 => by simp [s_cut]
  | v :: l, 1, j + 1 => by
    rw [if_neg (by omega)]
    simp [s_cut]
  | v :: l, n + 2, 0 => by
    rw [if_neg (by omega)]
    simp [s_cut]
  | v :: l, n + 2, j + 1 => by
    rw [s_cut, List.getElem?_cons_succ, s_cut_get l (n + 1) j, List.getElem?_cons_succ]
    by_cases q : j + 1 = n + 1
    · rw [if_pos q, if_pos (by omega)]
    · rw [if_neg q, if_neg (by omega)]
theorem s_LR_put1 {G : s_DG} {ls : Array Slot} {L : List Value} {i : Nat} {v : Value} (h : lv_has ls L.length ((i, s_vc G v) :: (s_asc G L).filter (fun q => !(q.1 == i) && !(q.1 + 1 == i && q.2.category == 2)))) : s_LR G ls (s_put1 L i v) := by
  have hlen : (s_put1 L i v).length = L.length := by simp [s_put1, s_cut_len]
  unfold s_LR
  rw [hlen]
  refine ⟨h.1, h.2.1, fun q hq => ?_⟩
  obtain ⟨w, hw, hn, e⟩ := s_asc_mem.mp hq
  obtain ⟨j, qv⟩ := q
  dsimp only at hw e
  subst e
  by_cases hj : j = i
  · subst hj
    have hw2 : w = v := by
      have hl : j < (s_cut L j).length := by
        have := (List.getElem?_eq_some_iff.mp hw).1
        rw [hlen] at this
        rw [s_cut_len]; exact this
      rw [s_put1, List.getElem?_set_self hl] at hw
      exact (Option.some.inj hw).symm
    subst hw2
    exact h.2.2 _ List.mem_cons_self
  · rw [s_put1, List.getElem?_set_ne (Ne.symm hj), s_cut_get] at hw
    refine h.2.2 _ (List.mem_cons_of_mem _ (List.mem_filter.mpr ⟨s_asc_mem.mpr ?_, ?_⟩))
    · by_cases q : j + 1 = i
      · rw [if_pos q] at hw
        obtain ⟨w0, h0, h1⟩ := Option.map_eq_some_iff.mp hw
        by_cases h2 : s_two w0 = true
        · rw [if_pos h2] at h1
          exact absurd h1.symm (hn 0)
        · rw [if_neg h2] at h1
          exact ⟨w, by rw [← h1]; exact h0, hn, rfl⟩
      · rw [if_neg q] at hw
        exact ⟨w, hw, hn, rfl⟩
    · have h1 : (j == i) = false := by simpa using hj
      by_cases q : j + 1 = i
      · rw [if_pos q] at hw
        obtain ⟨w0, h0, h1⟩ := Option.map_eq_some_iff.mp hw
        by_cases h2 : s_two w0 = true
        · rw [if_pos h2] at h1
          exact absurd h1.symm (hn 0)
        · rw [if_neg h2] at h1
          subst h1
          have hc : (s_vc G w0).category = 1 := by rw [s_vc_cat, if_neg h2]
          simp [hj, hc]
      · have h2 : (j + 1 == i) = false := by simpa using q
        simp [hj, q]
theorem s_LR_put2 {G : s_DG} {ls : Array Slot} {L : List Value} {i : Nat} {v : Value} (h : lv_has ls L.length ((i, s_vc G v) :: (s_asc G L).filter (fun q => !(q.1 == i) && (!(q.1 == i + 1) && !(q.1 + 1 == i && q.2.category == 2))))) : s_LR G ls (s_put2 L i v) := by
  have hlen : (s_put2 L i v).length = L.length := by simp [s_put2, s_cut_len]
  unfold s_LR
  rw [hlen]
  refine ⟨h.1, h.2.1, fun q hq => ?_⟩
  obtain ⟨w, hw, hn, e⟩ := s_asc_mem.mp hq
  obtain ⟨j, qv⟩ := q
  dsimp only at hw e
  subst e
  by_cases hj2 : j = i + 1
  · subst hj2
    have hl : i + 1 < ((s_cut L i).set i v).length := by
      have := (List.getElem?_eq_some_iff.mp hw).1
      rw [hlen] at this
      rw [List.length_set, s_cut_len]; exact this
    rw [s_put2, List.getElem?_set_self hl] at hw
    exact absurd (Option.some.inj hw).symm (hn 0)
  rw [s_put2, List.getElem?_set_ne (Ne.symm hj2)] at hw
  by_cases hj : j = i
  · subst hj
    have hw2 : w = v := by
      have hl : j < (s_cut L j).length := by
        have := (List.getElem?_eq_some_iff.mp hw).1
        rw [List.length_set] at this; exact this
      rw [List.getElem?_set_self hl] at hw
      exact (Option.some.inj hw).symm
    subst hw2
    exact h.2.2 _ List.mem_cons_self
  · rw [List.getElem?_set_ne (Ne.symm hj), s_cut_get] at hw
    refine h.2.2 _ (List.mem_cons_of_mem _ (List.mem_filter.mpr ⟨s_asc_mem.mpr ?_, ?_⟩))
    · by_cases q : j + 1 = i
      · rw [if_pos q] at hw
        obtain ⟨w0, h0, h1⟩ := Option.map_eq_some_iff.mp hw
        by_cases h2 : s_two w0 = true
        · rw [if_pos h2] at h1
          exact absurd h1.symm (hn 0)
        · rw [if_neg h2] at h1
          exact ⟨w, by rw [← h1]; exact h0, hn, rfl⟩
      · rw [if_neg q] at hw
        exact ⟨w, hw, hn, rfl⟩
    · by_cases q : j + 1 = i
      · rw [if_pos q] at hw
        obtain ⟨w0, h0, h1⟩ := Option.map_eq_some_iff.mp hw
        by_cases h2 : s_two w0 = true
        · rw [if_pos h2] at h1
          exact absurd h1.symm (hn 0)
        · rw [if_neg h2] at h1
          subst h1
          have hc : (s_vc G w0).category = 1 := by rw [s_vc_cat, if_neg h2]
          simp [hj, hj2, hc]
      · simp [hj, hj2, q]
/-- the locals at the entry -/
theorem s_ent_args (G : s_DG) : ∀ (vs : List Value) (n i : Nat) (q : Nat × Value), (∃ w : Value, (s_ent vs n)[q.1]? = some w ∧ (∀ a, w ≠ .retAddr a) ∧ q.2 = s_vc G w) → (q.1 + i, q.2) ∈ lv_args i (vs.map (s_vc G))
  | [], n, i, q, h => by
    obtain ⟨w, hw, hn, -⟩ := h
    unfold s_ent at hw
    rw [List.getElem?_replicate] at hw
    split at hw
    · cases hw; exact absurd rfl (hn 0)
    · cases hw
  | v :: vs, n, i, q, h => by
    obtain ⟨w, hw, hn, e⟩ := h
    obtain ⟨j, qv⟩ := q
    dsimp only at hw e ⊢
    subst e
    rw [List.map_cons, lv_args, s_vc_cat]
    unfold s_ent at hw
    by_cases ht : s_two v = true
    · rw [if_pos ht] at hw
      rw [if_pos ht, if_pos rfl]
      match j, hw with
      | 0, hw =>
        cases hw
        rw [Nat.zero_add]
        exact List.mem_cons_self
      | 1, hw =>
        cases hw
        exact absurd rfl (hn 0)
      | j + 2, hw =>
        have := s_ent_args G vs (n - 2) (i + 2) (j, s_vc G w) ⟨w, hw, hn, rfl⟩
        rw [show j + 2 + i = j + (i + 2) by omega]
        exact List.mem_cons_of_mem _ this
    · rw [if_neg ht] at hw
      rw [if_neg ht, if_neg (by decide)]
      match j, hw with
      | 0, hw =>
        cases hw
        rw [Nat.zero_add]
        exact List.mem_cons_self
      | j + 1, hw =>
        have := s_ent_args G vs (n - 1) (i + 1) (j, s_vc G w) ⟨w, hw, hn, rfl⟩
        rw [show j + 1 + i = j + (i + 1) by omega]
        exact List.mem_cons_of_mem _ this
theorem s_ent_len (G : s_DG) : ∀ (vs : List Value) (n : Nat), (lg_sl (vs.map (s_vc G))).length ≤ n → (s_ent vs n).length = n
  | [], n, _ => by simp [s_ent]
  | v :: vs, n, h => by
    rw [List.map_cons] at h
    unfold lg_sl at h
    rw [List.flatMap_cons, s_vc_cat, List.length_append] at h
    unfold s_ent
    by_cases ht : s_two v = true
    · rw [if_pos ht, if_pos rfl] at h
      rw [if_pos ht, List.length_cons, List.length_cons, s_ent_len G vs (n - 2) (by unfold lg_sl; simp at h ⊢; omega)]
      simp at h; omega
    · rw [if_neg ht, if_neg (by decide)] at h
      rw [if_neg ht, List.length_cons, s_ent_len G vs (n - 1) (by unfold lg_sl; simp at h ⊢; omega)]
      simp at h; omega
theorem s_LR_ent {G : s_DG} {vs : List Value} {n : Nat} {ls : Array Slot} (hl : (lg_sl (vs.map (s_vc G))).length ≤ n) (h : lv_has ls n (lv_args 0 (vs.map (s_vc G)))) : s_LR G ls (s_ent vs n) := by
  unfold s_LR
  rw [s_ent_len G vs n hl]
  refine ⟨h.1, h.2.1, fun q hq => ?_⟩
  have := s_ent_args G vs n 0 q (s_asc_mem.mp hq)
  exact h.2.2 _ this
end
section
/-! ONE INSTRUCTION: what the small machine does, the real one does -/
def s_Cx (S : s_SG) (G : s_DG) (TW : List Jvm.Cond) (p : Program) (s : State) (m : MethodId) (args : Array Value) (meth : Method) (c : Code) (r : sM) : Prop :=
  p.tables.exec = Jvm.exec ∧ c.code = s_b r ∧ c.maxLocals = s_mL r ∧ s.vm.findClass (s_y r).cls = some m.cls ∧ (∀ w ∈ TW, w.before args s = true) ∧ s_In S G s ∧ ((s_y r).name = "<init>" → meth.name = "<init>")
/-- what is fixed of the classes -/
def s_SOK (S : s_SG) (TW : List Jvm.Cond) : Prop := ∀ (c : Nat) (q : vw_C), (s_cl S)[c]? = some q → (∀ w ∈ u_ws q.1 q.2.1 q.2.2, w ∈ TW) ∧ (∀ k : Nat, k < q.2.2 → parseFieldDescriptor (q.2.1 k).2.2.1 = some (s_ty S c k)) ∧ (∀ a : Nat, a < q.2.2 → ∀ b : Nat, b < q.2.2 → a ≠ b → (q.2.1 a).2.1 ≠ (q.2.1 b).2.1)
section STP
variable {p : Program} {l : Launch} {e : Env} {R : Room} {s : State} {m : MethodId} {args : Array Value} {below : List Frame} {meth : Method} {c : Code} {Q : State → Prop}
variable {S : s_SG} {G : s_DG} {TW : List Jvm.Cond} {r : sM} {N0 M0 pc n idx : Nat} {L st : List Value} {h : sHp} {q : sC}
def s_W (S : s_SG) (G : s_DG) (p : Program) (l : Launch) (e : Env) (R : Room) (s : State) (m : MethodId) (args : Array Value) (below : List Frame) (meth : Method) (c : Code) (Q : State → Prop) (N0 M0 : Nat) (pc : Nat) (L st : List Value) (h : sHp) : Prop :=
  L.length = c.maxLocals → ∀ (H : Heap) (locs : List Loc) (ls : Array Slot), s_Wd S G h H → va_S (s_A G) s.heap H locs → s_LR G ls L → W p l e R s m args below meth c H locs (h.2.2.length - N0) (s_sz S h.2.2 - M0) Q (F0 m pc ls (st.map (s_vc G)))
theorem s_put1_len (L : List Value) (i : Nat) (v : Value) : (s_put1 L i v).length = L.length := by simp [s_put1, s_cut_len]
theorem s_put2_len (L : List Value) (i : Nat) (v : Value) : (s_put2 L i v).length = L.length := by simp [s_put2, s_cut_len]
theorem s_vp_in {i : Int32} {k : Nat} (hq : ¬ s_outb i k = true) : vp_in i k := by
  intro h
  apply hq
  unfold s_outb
  rcases h with h | h
  · simp [h]
  · simp [Nat.ble_eq, h]
theorem s_d_iconst {v : Int} (C : s_Cx S G TW p s m args meth c r) (hdg : decode (s_b r) pc = .ok (.iconst v, n)) (hn : n = 1) (hs : s_x (.iconst v) pc n L st h = some q) (k : s_W S G p l e R s m args below meth c Q N0 M0 q.1 q.2.1 q.2.2.1 q.2.2.2) : s_W S G p l e R s m args below meth c Q N0 M0 pc L st h := by
  obtain ⟨hx, hb, hml, hown, hts, hI, hini⟩ := C
  subst hn
  cases hs
  intro hlen H locs ls hW hS hL
  exact lv_iconst hx hb hdg rfl (k hlen H locs ls hW hS hL)
theorem s_d_bipush {v : Int} (C : s_Cx S G TW p s m args meth c r) (hdg : decode (s_b r) pc = .ok (.bipush v, n)) (hn : n = 2) (hs : s_x (.bipush v) pc n L st h = some q) (k : s_W S G p l e R s m args below meth c Q N0 M0 q.1 q.2.1 q.2.2.1 q.2.2.2) : s_W S G p l e R s m args below meth c Q N0 M0 pc L st h := by
  obtain ⟨hx, hb, hml, hown, hts, hI, hini⟩ := C
  subst hn
  cases hs
  intro hlen H locs ls hW hS hL
  exact lv_bipush hx hb hdg rfl (k hlen H locs ls hW hS hL)
theorem s_d_sipush {v : Int} (C : s_Cx S G TW p s m args meth c r) (hdg : decode (s_b r) pc = .ok (.sipush v, n)) (hn : n = 3) (hs : s_x (.sipush v) pc n L st h = some q) (k : s_W S G p l e R s m args below meth c Q N0 M0 q.1 q.2.1 q.2.2.1 q.2.2.2) : s_W S G p l e R s m args below meth c Q N0 M0 pc L st h := by
  obtain ⟨hx, hb, hml, hown, hts, hI, hini⟩ := C
  subst hn
  cases hs
  intro hlen H locs ls hW hS hL
  exact lv_sipush hx hb hdg rfl (k hlen H locs ls hW hS hL)
theorem s_d_lconst {v : Fin 2} (C : s_Cx S G TW p s m args meth c r) (hdg : decode (s_b r) pc = .ok (.lconst v, n)) (hn : n = 1) (hs : s_x (.lconst v) pc n L st h = some q) (k : s_W S G p l e R s m args below meth c Q N0 M0 q.1 q.2.1 q.2.2.1 q.2.2.2) : s_W S G p l e R s m args below meth c Q N0 M0 pc L st h := by
  obtain ⟨hx, hb, hml, hown, hts, hI, hini⟩ := C
  subst hn
  cases hs
  intro hlen H locs ls hW hS hL
  exact lv_lconst hx hb hdg rfl (k hlen H locs ls hW hS hL)
theorem s_d_null (C : s_Cx S G TW p s m args meth c r) (hdg : decode (s_b r) pc = .ok (.aconst_null, n)) (hn : n = 1) (hs : s_x (.aconst_null) pc n L st h = some q) (k : s_W S G p l e R s m args below meth c Q N0 M0 q.1 q.2.1 q.2.2.1 q.2.2.2) : s_W S G p l e R s m args below meth c Q N0 M0 pc L st h := by
  obtain ⟨hx, hb, hml, hown, hts, hI, hini⟩ := C
  subst hn
  cases hs
  intro hlen H locs ls hW hS hL
  exact lv_null hx hb hdg (k hlen H locs ls hW hS hL)
theorem s_d_ldc {v : Nat} (C : s_Cx S G TW p s m args meth c r) (hw : (Jvm.Cond.constant (s_y r).cls idx (Int32.ofNat v)).before args s = true) (hdg : decode (s_b r) pc = .ok (.ldc idx, n)) (hn : n = 2) (hs : s_x (.ldc v) pc n L st h = some q) (k : s_W S G p l e R s m args below meth c Q N0 M0 q.1 q.2.1 q.2.2.1 q.2.2.2) : s_W S G p l e R s m args below meth c Q N0 M0 pc L st h := by
  obtain ⟨hx, hb, hml, hown, hts, hI, hini⟩ := C
  subst hn
  cases hs
  intro hlen H locs ls hW hS hL
  exact lv_ldc hx hb hown hw hdg (k hlen H locs ls hW hS hL)
theorem s_d_ldcw {v : Nat} (C : s_Cx S G TW p s m args meth c r) (hw : (Jvm.Cond.constant (s_y r).cls idx (Int32.ofNat v)).before args s = true) (hdg : decode (s_b r) pc = .ok (.ldc_w idx, n)) (hn : n = 3) (hs : s_x (.ldc_w v) pc n L st h = some q) (k : s_W S G p l e R s m args below meth c Q N0 M0 q.1 q.2.1 q.2.2.1 q.2.2.2) : s_W S G p l e R s m args below meth c Q N0 M0 pc L st h := by
  obtain ⟨hx, hb, hml, hown, hts, hI, hini⟩ := C
  subst hn
  cases hs
  intro hlen H locs ls hW hS hL
  exact lv_ldcw hx hb hown hw hdg (k hlen H locs ls hW hS hL)
theorem s_d_ldc2 {v : Nat} (C : s_Cx S G TW p s m args meth c r) (hw : (Jvm.Cond.constantLong (s_y r).cls idx (Int64.ofNat v)).before args s = true) (hdg : decode (s_b r) pc = .ok (.ldc2_w idx, n)) (hn : n = 3) (hs : s_x (.ldc2_w v) pc n L st h = some q) (k : s_W S G p l e R s m args below meth c Q N0 M0 q.1 q.2.1 q.2.2.1 q.2.2.2) : s_W S G p l e R s m args below meth c Q N0 M0 pc L st h := by
  obtain ⟨hx, hb, hml, hown, hts, hI, hini⟩ := C
  subst hn
  cases hs
  intro hlen H locs ls hW hS hL
  exact lv_ldc2 hx hb hown hw hdg (k hlen H locs ls hW hS hL)
theorem s_d_ldcf {v : Nat} (C : s_Cx S G TW p s m args meth c r) (hw : (Jvm.Cond.constantFloat (s_y r).cls idx (UInt32.ofNat v)).before args s = true) (hdg : decode (s_b r) pc = .ok (.ldc idx, n)) (hn : n = 2) (hs : s_x (.ret v) pc n L st h = some q) (k : s_W S G p l e R s m args below meth c Q N0 M0 q.1 q.2.1 q.2.2.1 q.2.2.2) : s_W S G p l e R s m args below meth c Q N0 M0 pc L st h := by
  obtain ⟨hx, hb, hml, hown, hts, hI, hini⟩ := C
  subst hn
  cases hs
  intro hlen H locs ls hW hS hL
  exact lv_ldcf hx hb hown hw hdg (k hlen H locs ls hW hS hL)
theorem s_d_ldc2d {v : Nat} (C : s_Cx S G TW p s m args meth c r) (hw : (Jvm.Cond.constantDouble (s_y r).cls idx (UInt64.ofNat v)).before args s = true) (hdg : decode (s_b r) pc = .ok (.ldc2_w idx, n)) (hn : n = 3) (hs : s_x (.putstatic v) pc n L st h = some q) (k : s_W S G p l e R s m args below meth c Q N0 M0 q.1 q.2.1 q.2.2.1 q.2.2.2) : s_W S G p l e R s m args below meth c Q N0 M0 pc L st h := by
  obtain ⟨hx, hb, hml, hown, hts, hI, hini⟩ := C
  subst hn
  cases hs
  intro hlen H locs ls hW hS hL
  exact lv_ldc2d hx hb hown hw hdg (k hlen H locs ls hW hS hL)
theorem s_d_fconst {v : Fin 3} (C : s_Cx S G TW p s m args meth c r) (hdg : decode (s_b r) pc = .ok (.fconst v, n)) (hn : n = 1) (hs : s_x (.fconst v) pc n L st h = some q) (k : s_W S G p l e R s m args below meth c Q N0 M0 q.1 q.2.1 q.2.2.1 q.2.2.2) : s_W S G p l e R s m args below meth c Q N0 M0 pc L st h := by
  obtain ⟨hx, hb, hml, hown, hts, hI, hini⟩ := C
  subst hn
  cases hs
  intro hlen H locs ls hW hS hL
  match v, hdg, k with
  | 0, hdg, k => exact lv_fconst0 hx hb hdg (k hlen H locs ls hW hS hL)
  | 1, hdg, k => exact lv_fconst1 hx hb hdg (k hlen H locs ls hW hS hL)
  | 2, hdg, k => exact lv_fconst2 hx hb hdg (k hlen H locs ls hW hS hL)
theorem s_d_dconst {v : Fin 2} (C : s_Cx S G TW p s m args meth c r) (hdg : decode (s_b r) pc = .ok (.dconst v, n)) (hn : n = 1) (hs : s_x (.dconst v) pc n L st h = some q) (k : s_W S G p l e R s m args below meth c Q N0 M0 q.1 q.2.1 q.2.2.1 q.2.2.2) : s_W S G p l e R s m args below meth c Q N0 M0 pc L st h := by
  obtain ⟨hx, hb, hml, hown, hts, hI, hini⟩ := C
  subst hn
  cases hs
  intro hlen H locs ls hW hS hL
  match v, hdg, k with
  | 0, hdg, k => exact lv_dconst0 hx hb hdg (k hlen H locs ls hW hS hL)
  | 1, hdg, k => exact lv_dconst1 hx hb hdg (k hlen H locs ls hW hS hL)
theorem s_d_iload_n {v : Fin 4} (C : s_Cx S G TW p s m args meth c r) (hdg : decode (s_b r) pc = .ok (.iload_n v, n)) (hn : n = 1) (hs : s_x (.iload_n v) pc n L st h = some q) (k : s_W S G p l e R s m args below meth c Q N0 M0 q.1 q.2.1 q.2.2.1 q.2.2.2) : s_W S G p l e R s m args below meth c Q N0 M0 pc L st h := by
  obtain ⟨hx, hb, hml, hown, hts, hI, hini⟩ := C
  subst hn
  dsimp only [s_x] at hs
  split at hs
  next x heq =>
    cases hs
    intro hlen H locs ls hW hS hL
    exact lv_iload_n hx hb hdg rfl (s_LR_at hL heq (fun a z => by cases z)) (k hlen H locs ls hW hS hL)
  · cases hs
theorem s_d_iload {v : Nat} (C : s_Cx S G TW p s m args meth c r) (hdg : decode (s_b r) pc = .ok (.iload v, n)) (hn : n = 2) (hs : s_x (.iload v) pc n L st h = some q) (k : s_W S G p l e R s m args below meth c Q N0 M0 q.1 q.2.1 q.2.2.1 q.2.2.2) : s_W S G p l e R s m args below meth c Q N0 M0 pc L st h := by
  obtain ⟨hx, hb, hml, hown, hts, hI, hini⟩ := C
  subst hn
  dsimp only [s_x] at hs
  split at hs
  next x heq =>
    cases hs
    intro hlen H locs ls hW hS hL
    exact lv_iload hx hb hdg (s_LR_at hL heq (fun a z => by cases z)) (k hlen H locs ls hW hS hL)
  · cases hs
theorem s_d_lload_n {v : Fin 4} (C : s_Cx S G TW p s m args meth c r) (hdg : decode (s_b r) pc = .ok (.lload_n v, n)) (hn : n = 1) (hs : s_x (.lload_n v) pc n L st h = some q) (k : s_W S G p l e R s m args below meth c Q N0 M0 q.1 q.2.1 q.2.2.1 q.2.2.2) : s_W S G p l e R s m args below meth c Q N0 M0 pc L st h := by
  obtain ⟨hx, hb, hml, hown, hts, hI, hini⟩ := C
  subst hn
  dsimp only [s_x] at hs
  split at hs
  next x heq =>
    cases hs
    intro hlen H locs ls hW hS hL
    exact lv_lload_n hx hb hdg rfl (s_LR_at hL heq (fun a z => by cases z)) (k hlen H locs ls hW hS hL)
  · cases hs
theorem s_d_lload {v : Nat} (C : s_Cx S G TW p s m args meth c r) (hdg : decode (s_b r) pc = .ok (.lload v, n)) (hn : n = 2) (hs : s_x (.lload v) pc n L st h = some q) (k : s_W S G p l e R s m args below meth c Q N0 M0 q.1 q.2.1 q.2.2.1 q.2.2.2) : s_W S G p l e R s m args below meth c Q N0 M0 pc L st h := by
  obtain ⟨hx, hb, hml, hown, hts, hI, hini⟩ := C
  subst hn
  dsimp only [s_x] at hs
  split at hs
  next x heq =>
    cases hs
    intro hlen H locs ls hW hS hL
    exact lv_lload hx hb hdg (s_LR_at hL heq (fun a z => by cases z)) (k hlen H locs ls hW hS hL)
  · cases hs
theorem s_d_fload_n {v : Fin 4} (C : s_Cx S G TW p s m args meth c r) (hdg : decode (s_b r) pc = .ok (.fload_n v, n)) (hn : n = 1) (hs : s_x (.fload_n v) pc n L st h = some q) (k : s_W S G p l e R s m args below meth c Q N0 M0 q.1 q.2.1 q.2.2.1 q.2.2.2) : s_W S G p l e R s m args below meth c Q N0 M0 pc L st h := by
  obtain ⟨hx, hb, hml, hown, hts, hI, hini⟩ := C
  subst hn
  dsimp only [s_x] at hs
  split at hs
  next x heq =>
    cases hs
    intro hlen H locs ls hW hS hL
    exact lv_fload_n hx hb hdg rfl (s_LR_at hL heq (fun a z => by cases z)) (k hlen H locs ls hW hS hL)
  · cases hs
theorem s_d_dload_n {v : Fin 4} (C : s_Cx S G TW p s m args meth c r) (hdg : decode (s_b r) pc = .ok (.dload_n v, n)) (hn : n = 1) (hs : s_x (.dload_n v) pc n L st h = some q) (k : s_W S G p l e R s m args below meth c Q N0 M0 q.1 q.2.1 q.2.2.1 q.2.2.2) : s_W S G p l e R s m args below meth c Q N0 M0 pc L st h := by
  obtain ⟨hx, hb, hml, hown, hts, hI, hini⟩ := C
  subst hn
  dsimp only [s_x] at hs
  split at hs
  next x heq =>
    cases hs
    intro hlen H locs ls hW hS hL
    exact lv_dload_n hx hb hdg rfl (s_LR_at hL heq (fun a z => by cases z)) (k hlen H locs ls hW hS hL)
  · cases hs
theorem s_d_aload_n {v : Fin 4} (C : s_Cx S G TW p s m args meth c r) (hdg : decode (s_b r) pc = .ok (.aload_n v, n)) (hn : n = 1) (hs : s_x (.aload_n v) pc n L st h = some q) (k : s_W S G p l e R s m args below meth c Q N0 M0 q.1 q.2.1 q.2.2.1 q.2.2.2) : s_W S G p l e R s m args below meth c Q N0 M0 pc L st h := by
  obtain ⟨hx, hb, hml, hown, hts, hI, hini⟩ := C
  subst hn
  dsimp only [s_x] at hs
  split at hs
  next x heq =>
    cases hs
    intro hlen H locs ls hW hS hL
    exact lv_aload_n hx hb hdg rfl (s_LR_at hL heq (fun a z => by cases z)) (k hlen H locs ls hW hS hL)
  next heq =>
    cases hs
    intro hlen H locs ls hW hS hL
    exact lv_aload_nN hx hb hdg rfl (s_LR_at hL heq (fun a z => by cases z)) (k hlen H locs ls hW hS hL)
  · cases hs
theorem s_d_aload {v : Nat} (C : s_Cx S G TW p s m args meth c r) (hdg : decode (s_b r) pc = .ok (.aload v, n)) (hn : n = 2) (hs : s_x (.aload v) pc n L st h = some q) (k : s_W S G p l e R s m args below meth c Q N0 M0 q.1 q.2.1 q.2.2.1 q.2.2.2) : s_W S G p l e R s m args below meth c Q N0 M0 pc L st h := by
  obtain ⟨hx, hb, hml, hown, hts, hI, hini⟩ := C
  subst hn
  dsimp only [s_x] at hs
  split at hs
  next x heq =>
    cases hs
    intro hlen H locs ls hW hS hL
    exact lv_aload hx hb hdg (s_LR_at hL heq (fun a z => by cases z)) (k hlen H locs ls hW hS hL)
  next heq =>
    cases hs
    intro hlen H locs ls hW hS hL
    exact lv_aloadN hx hb hdg (s_LR_at hL heq (fun a z => by cases z)) (k hlen H locs ls hW hS hL)
  · cases hs
theorem s_d_istore_n {v : Fin 4} (C : s_Cx S G TW p s m args meth c r) (hdg : decode (s_b r) pc = .ok (.istore_n v, n)) (hn : n = 1) (hs : s_x (.istore_n v) pc n L st h = some q) (k : s_W S G p l e R s m args below meth c Q N0 M0 q.1 q.2.1 q.2.2.1 q.2.2.2) : s_W S G p l e R s m args below meth c Q N0 M0 pc L st h := by
  obtain ⟨hx, hb, hml, hown, hts, hI, hini⟩ := C
  subst hn
  dsimp only [s_x] at hs
  split at hs
  · split at hs
    next hlt =>
      cases hs
      intro hlen H locs ls hW hS hL
      exact lv_istore_n hx hb hdg rfl hL hlt rfl (fun ls2 hl2 => k ((s_put1_len _ _ _).trans hlen) H locs ls2 hW hS (s_LR_put1 hl2))
    · cases hs
  · cases hs
theorem s_d_istore {v : Nat} (C : s_Cx S G TW p s m args meth c r) (hdg : decode (s_b r) pc = .ok (.istore v, n)) (hn : n = 2) (hs : s_x (.istore v) pc n L st h = some q) (k : s_W S G p l e R s m args below meth c Q N0 M0 q.1 q.2.1 q.2.2.1 q.2.2.2) : s_W S G p l e R s m args below meth c Q N0 M0 pc L st h := by
  obtain ⟨hx, hb, hml, hown, hts, hI, hini⟩ := C
  subst hn
  dsimp only [s_x] at hs
  split at hs
  · split at hs
    next hlt =>
      cases hs
      intro hlen H locs ls hW hS hL
      exact lv_istore hx hb hdg hL hlt rfl (fun ls2 hl2 => k ((s_put1_len _ _ _).trans hlen) H locs ls2 hW hS (s_LR_put1 hl2))
    · cases hs
  · cases hs
theorem s_d_fstore_n {v : Fin 4} (C : s_Cx S G TW p s m args meth c r) (hdg : decode (s_b r) pc = .ok (.fstore_n v, n)) (hn : n = 1) (hs : s_x (.fstore_n v) pc n L st h = some q) (k : s_W S G p l e R s m args below meth c Q N0 M0 q.1 q.2.1 q.2.2.1 q.2.2.2) : s_W S G p l e R s m args below meth c Q N0 M0 pc L st h := by
  obtain ⟨hx, hb, hml, hown, hts, hI, hini⟩ := C
  subst hn
  dsimp only [s_x] at hs
  split at hs
  · split at hs
    next hlt =>
      cases hs
      intro hlen H locs ls hW hS hL
      exact lv_fstore_n hx hb hdg rfl hL hlt rfl (fun ls2 hl2 => k ((s_put1_len _ _ _).trans hlen) H locs ls2 hW hS (s_LR_put1 hl2))
    · cases hs
  · cases hs
theorem s_d_lstore_n {v : Fin 4} (C : s_Cx S G TW p s m args meth c r) (hdg : decode (s_b r) pc = .ok (.lstore_n v, n)) (hn : n = 1) (hs : s_x (.lstore_n v) pc n L st h = some q) (k : s_W S G p l e R s m args below meth c Q N0 M0 q.1 q.2.1 q.2.2.1 q.2.2.2) : s_W S G p l e R s m args below meth c Q N0 M0 pc L st h := by
  obtain ⟨hx, hb, hml, hown, hts, hI, hini⟩ := C
  subst hn
  dsimp only [s_x] at hs
  split at hs
  · split at hs
    next hlt =>
      cases hs
      intro hlen H locs ls hW hS hL
      exact lv_lstore_n hx hb hdg rfl hL hlt rfl (fun ls2 hl2 => k ((s_put2_len _ _ _).trans hlen) H locs ls2 hW hS (s_LR_put2 hl2))
    · cases hs
  · cases hs
theorem s_d_lstore {v : Nat} (C : s_Cx S G TW p s m args meth c r) (hdg : decode (s_b r) pc = .ok (.lstore v, n)) (hn : n = 2) (hs : s_x (.lstore v) pc n L st h = some q) (k : s_W S G p l e R s m args below meth c Q N0 M0 q.1 q.2.1 q.2.2.1 q.2.2.2) : s_W S G p l e R s m args below meth c Q N0 M0 pc L st h := by
  obtain ⟨hx, hb, hml, hown, hts, hI, hini⟩ := C
  subst hn
  dsimp only [s_x] at hs
  split at hs
  · split at hs
    next hlt =>
      cases hs
      intro hlen H locs ls hW hS hL
      exact lv_lstore hx hb hdg hL hlt rfl (fun ls2 hl2 => k ((s_put2_len _ _ _).trans hlen) H locs ls2 hW hS (s_LR_put2 hl2))
    · cases hs
  · cases hs
theorem s_d_dstore_n {v : Fin 4} (C : s_Cx S G TW p s m args meth c r) (hdg : decode (s_b r) pc = .ok (.dstore_n v, n)) (hn : n = 1) (hs : s_x (.dstore_n v) pc n L st h = some q) (k : s_W S G p l e R s m args below meth c Q N0 M0 q.1 q.2.1 q.2.2.1 q.2.2.2) : s_W S G p l e R s m args below meth c Q N0 M0 pc L st h := by
  obtain ⟨hx, hb, hml, hown, hts, hI, hini⟩ := C
  subst hn
  dsimp only [s_x] at hs
  split at hs
  · split at hs
    next hlt =>
      cases hs
      intro hlen H locs ls hW hS hL
      exact lv_dstore_n hx hb hdg rfl hL hlt rfl (fun ls2 hl2 => k ((s_put2_len _ _ _).trans hlen) H locs ls2 hW hS (s_LR_put2 hl2))
    · cases hs
  · cases hs
theorem s_d_astore_n {v : Fin 4} (C : s_Cx S G TW p s m args meth c r) (hdg : decode (s_b r) pc = .ok (.astore_n v, n)) (hn : n = 1) (hs : s_x (.astore_n v) pc n L st h = some q) (k : s_W S G p l e R s m args below meth c Q N0 M0 q.1 q.2.1 q.2.2.1 q.2.2.2) : s_W S G p l e R s m args below meth c Q N0 M0 pc L st h := by
  obtain ⟨hx, hb, hml, hown, hts, hI, hini⟩ := C
  subst hn
  dsimp only [s_x] at hs
  split at hs
  · split at hs
    next hlt =>
      cases hs
      intro hlen H locs ls hW hS hL
      exact lv_astore_n hx hb hdg rfl hL hlt rfl (fun ls2 hl2 => k ((s_put1_len _ _ _).trans hlen) H locs ls2 hW hS (s_LR_put1 hl2))
    · cases hs
  · split at hs
    next hlt =>
      cases hs
      intro hlen H locs ls hW hS hL
      exact lv_astore_nN hx hb hdg rfl hL hlt rfl (fun ls2 hl2 => k ((s_put1_len _ _ _).trans hlen) H locs ls2 hW hS (s_LR_put1 hl2))
    · cases hs
  · cases hs
theorem s_d_astore {v : Nat} (C : s_Cx S G TW p s m args meth c r) (hdg : decode (s_b r) pc = .ok (.astore v, n)) (hn : n = 2) (hs : s_x (.astore v) pc n L st h = some q) (k : s_W S G p l e R s m args below meth c Q N0 M0 q.1 q.2.1 q.2.2.1 q.2.2.2) : s_W S G p l e R s m args below meth c Q N0 M0 pc L st h := by
  obtain ⟨hx, hb, hml, hown, hts, hI, hini⟩ := C
  subst hn
  dsimp only [s_x] at hs
  split at hs
  · split at hs
    next hlt =>
      cases hs
      intro hlen H locs ls hW hS hL
      exact lv_astore hx hb hdg hL hlt rfl (fun ls2 hl2 => k ((s_put1_len _ _ _).trans hlen) H locs ls2 hW hS (s_LR_put1 hl2))
    · cases hs
  · split at hs
    next hlt =>
      cases hs
      intro hlen H locs ls hW hS hL
      exact lv_astoreN hx hb hdg hL hlt rfl (fun ls2 hl2 => k ((s_put1_len _ _ _).trans hlen) H locs ls2 hW hS (s_LR_put1 hl2))
    · cases hs
  · cases hs
theorem s_d_iinc {v : Nat} {w : Int} (C : s_Cx S G TW p s m args meth c r) (hdg : decode (s_b r) pc = .ok (.iinc v w, n)) (hn : n = 3) (hs : s_x (.iinc v w) pc n L st h = some q) (k : s_W S G p l e R s m args below meth c Q N0 M0 q.1 q.2.1 q.2.2.1 q.2.2.2) : s_W S G p l e R s m args below meth c Q N0 M0 pc L st h := by
  obtain ⟨hx, hb, hml, hown, hts, hI, hini⟩ := C
  subst hn
  dsimp only [s_x] at hs
  split at hs
  next x heq =>
    cases hs
    intro hlen H locs ls hW hS hL
    have hm := s_asc_mem (G := G) (L := L) (q := (v, .int x)) |>.mpr ⟨.int x, by rw [← s_nth_eq]; exact heq, fun a z => (by cases z), rfl⟩
    obtain ⟨j, hj⟩ := List.getElem?_of_mem hm
    have hlt : v < L.length := by rw [s_nth_eq] at heq; exact (List.getElem?_eq_some_iff.mp heq).1
    exact lv_iinc hx hb hdg hL hj rfl hlt rfl (fun ls2 hl2 => k ((s_put1_len _ _ _).trans hlen) H locs ls2 hW hS (s_LR_put1 hl2))
  · cases hs
theorem s_d_iadd (C : s_Cx S G TW p s m args meth c r) (hdg : decode (s_b r) pc = .ok (.iadd, n)) (hn : n = 1) (hs : s_x (.iadd) pc n L st h = some q) (k : s_W S G p l e R s m args below meth c Q N0 M0 q.1 q.2.1 q.2.2.1 q.2.2.2) : s_W S G p l e R s m args below meth c Q N0 M0 pc L st h := by
  obtain ⟨hx, hb, hml, hown, hts, hI, hini⟩ := C
  subst hn
  dsimp only [s_x] at hs
  split at hs
  · cases hs
    intro hlen H locs ls hW hS hL
    exact lv_iadd hx hb hdg (k hlen H locs ls hW hS hL)
  · cases hs
theorem s_d_isub (C : s_Cx S G TW p s m args meth c r) (hdg : decode (s_b r) pc = .ok (.isub, n)) (hn : n = 1) (hs : s_x (.isub) pc n L st h = some q) (k : s_W S G p l e R s m args below meth c Q N0 M0 q.1 q.2.1 q.2.2.1 q.2.2.2) : s_W S G p l e R s m args below meth c Q N0 M0 pc L st h := by
  obtain ⟨hx, hb, hml, hown, hts, hI, hini⟩ := C
  subst hn
  dsimp only [s_x] at hs
  split at hs
  · cases hs
    intro hlen H locs ls hW hS hL
    exact lv_isub hx hb hdg (k hlen H locs ls hW hS hL)
  · cases hs
theorem s_d_imul (C : s_Cx S G TW p s m args meth c r) (hdg : decode (s_b r) pc = .ok (.imul, n)) (hn : n = 1) (hs : s_x (.imul) pc n L st h = some q) (k : s_W S G p l e R s m args below meth c Q N0 M0 q.1 q.2.1 q.2.2.1 q.2.2.2) : s_W S G p l e R s m args below meth c Q N0 M0 pc L st h := by
  obtain ⟨hx, hb, hml, hown, hts, hI, hini⟩ := C
  subst hn
  dsimp only [s_x] at hs
  split at hs
  · cases hs
    intro hlen H locs ls hW hS hL
    exact lv_imul hx hb hdg (k hlen H locs ls hW hS hL)
  · cases hs
theorem s_d_iand (C : s_Cx S G TW p s m args meth c r) (hdg : decode (s_b r) pc = .ok (.iand, n)) (hn : n = 1) (hs : s_x (.iand) pc n L st h = some q) (k : s_W S G p l e R s m args below meth c Q N0 M0 q.1 q.2.1 q.2.2.1 q.2.2.2) : s_W S G p l e R s m args below meth c Q N0 M0 pc L st h := by
  obtain ⟨hx, hb, hml, hown, hts, hI, hini⟩ := C
  subst hn
  dsimp only [s_x] at hs
  split at hs
  · cases hs
    intro hlen H locs ls hW hS hL
    exact lv_iand hx hb hdg (k hlen H locs ls hW hS hL)
  · cases hs
theorem s_d_ior (C : s_Cx S G TW p s m args meth c r) (hdg : decode (s_b r) pc = .ok (.ior, n)) (hn : n = 1) (hs : s_x (.ior) pc n L st h = some q) (k : s_W S G p l e R s m args below meth c Q N0 M0 q.1 q.2.1 q.2.2.1 q.2.2.2) : s_W S G p l e R s m args below meth c Q N0 M0 pc L st h := by
  obtain ⟨hx, hb, hml, hown, hts, hI, hini⟩ := C
  subst hn
  dsimp only [s_x] at hs
  split at hs
  · cases hs
    intro hlen H locs ls hW hS hL
    exact lv_ior hx hb hdg (k hlen H locs ls hW hS hL)
  · cases hs
theorem s_d_ishl (C : s_Cx S G TW p s m args meth c r) (hdg : decode (s_b r) pc = .ok (.ishl, n)) (hn : n = 1) (hs : s_x (.ishl) pc n L st h = some q) (k : s_W S G p l e R s m args below meth c Q N0 M0 q.1 q.2.1 q.2.2.1 q.2.2.2) : s_W S G p l e R s m args below meth c Q N0 M0 pc L st h := by
  obtain ⟨hx, hb, hml, hown, hts, hI, hini⟩ := C
  subst hn
  dsimp only [s_x] at hs
  split at hs
  · cases hs
    intro hlen H locs ls hW hS hL
    exact lv_ishl hx hb hdg (k hlen H locs ls hW hS hL)
  · cases hs
theorem s_d_ishr (C : s_Cx S G TW p s m args meth c r) (hdg : decode (s_b r) pc = .ok (.ishr, n)) (hn : n = 1) (hs : s_x (.ishr) pc n L st h = some q) (k : s_W S G p l e R s m args below meth c Q N0 M0 q.1 q.2.1 q.2.2.1 q.2.2.2) : s_W S G p l e R s m args below meth c Q N0 M0 pc L st h := by
  obtain ⟨hx, hb, hml, hown, hts, hI, hini⟩ := C
  subst hn
  dsimp only [s_x] at hs
  split at hs
  · cases hs
    intro hlen H locs ls hW hS hL
    exact lv_ishr hx hb hdg (k hlen H locs ls hW hS hL)
  · cases hs
theorem s_d_ladd (C : s_Cx S G TW p s m args meth c r) (hdg : decode (s_b r) pc = .ok (.ladd, n)) (hn : n = 1) (hs : s_x (.ladd) pc n L st h = some q) (k : s_W S G p l e R s m args below meth c Q N0 M0 q.1 q.2.1 q.2.2.1 q.2.2.2) : s_W S G p l e R s m args below meth c Q N0 M0 pc L st h := by
  obtain ⟨hx, hb, hml, hown, hts, hI, hini⟩ := C
  subst hn
  dsimp only [s_x] at hs
  split at hs
  · cases hs
    intro hlen H locs ls hW hS hL
    exact lv_ladd hx hb hdg (k hlen H locs ls hW hS hL)
  · cases hs
theorem s_d_lsub (C : s_Cx S G TW p s m args meth c r) (hdg : decode (s_b r) pc = .ok (.lsub, n)) (hn : n = 1) (hs : s_x (.lsub) pc n L st h = some q) (k : s_W S G p l e R s m args below meth c Q N0 M0 q.1 q.2.1 q.2.2.1 q.2.2.2) : s_W S G p l e R s m args below meth c Q N0 M0 pc L st h := by
  obtain ⟨hx, hb, hml, hown, hts, hI, hini⟩ := C
  subst hn
  dsimp only [s_x] at hs
  split at hs
  · cases hs
    intro hlen H locs ls hW hS hL
    exact lv_lsub hx hb hdg (k hlen H locs ls hW hS hL)
  · cases hs
theorem s_d_land (C : s_Cx S G TW p s m args meth c r) (hdg : decode (s_b r) pc = .ok (.land, n)) (hn : n = 1) (hs : s_x (.land) pc n L st h = some q) (k : s_W S G p l e R s m args below meth c Q N0 M0 q.1 q.2.1 q.2.2.1 q.2.2.2) : s_W S G p l e R s m args below meth c Q N0 M0 pc L st h := by
  obtain ⟨hx, hb, hml, hown, hts, hI, hini⟩ := C
  subst hn
  dsimp only [s_x] at hs
  split at hs
  · cases hs
    intro hlen H locs ls hW hS hL
    exact lv_land hx hb hdg (k hlen H locs ls hW hS hL)
  · cases hs
theorem s_d_lor (C : s_Cx S G TW p s m args meth c r) (hdg : decode (s_b r) pc = .ok (.lor, n)) (hn : n = 1) (hs : s_x (.lor) pc n L st h = some q) (k : s_W S G p l e R s m args below meth c Q N0 M0 q.1 q.2.1 q.2.2.1 q.2.2.2) : s_W S G p l e R s m args below meth c Q N0 M0 pc L st h := by
  obtain ⟨hx, hb, hml, hown, hts, hI, hini⟩ := C
  subst hn
  dsimp only [s_x] at hs
  split at hs
  · cases hs
    intro hlen H locs ls hW hS hL
    exact lv_lor hx hb hdg (k hlen H locs ls hW hS hL)
  · cases hs
theorem s_d_lshl (C : s_Cx S G TW p s m args meth c r) (hdg : decode (s_b r) pc = .ok (.lshl, n)) (hn : n = 1) (hs : s_x (.lshl) pc n L st h = some q) (k : s_W S G p l e R s m args below meth c Q N0 M0 q.1 q.2.1 q.2.2.1 q.2.2.2) : s_W S G p l e R s m args below meth c Q N0 M0 pc L st h := by
  obtain ⟨hx, hb, hml, hown, hts, hI, hini⟩ := C
  subst hn
  dsimp only [s_x] at hs
  split at hs
  · cases hs
    intro hlen H locs ls hW hS hL
    exact lv_lshl hx hb hdg rfl (k hlen H locs ls hW hS hL)
  · cases hs
theorem s_d_lushr (C : s_Cx S G TW p s m args meth c r) (hdg : decode (s_b r) pc = .ok (.lushr, n)) (hn : n = 1) (hs : s_x (.lushr) pc n L st h = some q) (k : s_W S G p l e R s m args below meth c Q N0 M0 q.1 q.2.1 q.2.2.1 q.2.2.2) : s_W S G p l e R s m args below meth c Q N0 M0 pc L st h := by
  obtain ⟨hx, hb, hml, hown, hts, hI, hini⟩ := C
  subst hn
  dsimp only [s_x] at hs
  split at hs
  · cases hs
    intro hlen H locs ls hW hS hL
    exact lv_lushr hx hb hdg rfl (k hlen H locs ls hW hS hL)
  · cases hs
theorem s_d_i2l (C : s_Cx S G TW p s m args meth c r) (hdg : decode (s_b r) pc = .ok (.i2l, n)) (hn : n = 1) (hs : s_x (.i2l) pc n L st h = some q) (k : s_W S G p l e R s m args below meth c Q N0 M0 q.1 q.2.1 q.2.2.1 q.2.2.2) : s_W S G p l e R s m args below meth c Q N0 M0 pc L st h := by
  obtain ⟨hx, hb, hml, hown, hts, hI, hini⟩ := C
  subst hn
  dsimp only [s_x] at hs
  split at hs
  · cases hs
    intro hlen H locs ls hW hS hL
    exact lv_i2l hx hb hdg rfl (k hlen H locs ls hW hS hL)
  · cases hs
theorem s_d_l2i (C : s_Cx S G TW p s m args meth c r) (hdg : decode (s_b r) pc = .ok (.l2i, n)) (hn : n = 1) (hs : s_x (.l2i) pc n L st h = some q) (k : s_W S G p l e R s m args below meth c Q N0 M0 q.1 q.2.1 q.2.2.1 q.2.2.2) : s_W S G p l e R s m args below meth c Q N0 M0 pc L st h := by
  obtain ⟨hx, hb, hml, hown, hts, hI, hini⟩ := C
  subst hn
  dsimp only [s_x] at hs
  split at hs
  · cases hs
    intro hlen H locs ls hW hS hL
    exact lv_l2i hx hb hdg rfl (k hlen H locs ls hW hS hL)
  · cases hs
theorem s_d_i2f (C : s_Cx S G TW p s m args meth c r) (hdg : decode (s_b r) pc = .ok (.i2f, n)) (hn : n = 1) (hs : s_x (.i2f) pc n L st h = some q) (k : s_W S G p l e R s m args below meth c Q N0 M0 q.1 q.2.1 q.2.2.1 q.2.2.2) : s_W S G p l e R s m args below meth c Q N0 M0 pc L st h := by
  obtain ⟨hx, hb, hml, hown, hts, hI, hini⟩ := C
  subst hn
  dsimp only [s_x] at hs
  split at hs
  · cases hs
    intro hlen H locs ls hW hS hL
    exact lv_i2f hx hb hdg (k hlen H locs ls hW hS hL)
  · cases hs
theorem s_d_i2d (C : s_Cx S G TW p s m args meth c r) (hdg : decode (s_b r) pc = .ok (.i2d, n)) (hn : n = 1) (hs : s_x (.i2d) pc n L st h = some q) (k : s_W S G p l e R s m args below meth c Q N0 M0 q.1 q.2.1 q.2.2.1 q.2.2.2) : s_W S G p l e R s m args below meth c Q N0 M0 pc L st h := by
  obtain ⟨hx, hb, hml, hown, hts, hI, hini⟩ := C
  subst hn
  dsimp only [s_x] at hs
  split at hs
  · cases hs
    intro hlen H locs ls hW hS hL
    exact lv_i2d hx hb hdg (k hlen H locs ls hW hS hL)
  · cases hs
theorem s_d_l2d (C : s_Cx S G TW p s m args meth c r) (hdg : decode (s_b r) pc = .ok (.l2d, n)) (hn : n = 1) (hs : s_x (.l2d) pc n L st h = some q) (k : s_W S G p l e R s m args below meth c Q N0 M0 q.1 q.2.1 q.2.2.1 q.2.2.2) : s_W S G p l e R s m args below meth c Q N0 M0 pc L st h := by
  obtain ⟨hx, hb, hml, hown, hts, hI, hini⟩ := C
  subst hn
  dsimp only [s_x] at hs
  split at hs
  · cases hs
    intro hlen H locs ls hW hS hL
    exact lv_l2d hx hb hdg (k hlen H locs ls hW hS hL)
  · cases hs
theorem s_d_d2l (C : s_Cx S G TW p s m args meth c r) (hdg : decode (s_b r) pc = .ok (.d2l, n)) (hn : n = 1) (hs : s_x (.d2l) pc n L st h = some q) (k : s_W S G p l e R s m args below meth c Q N0 M0 q.1 q.2.1 q.2.2.1 q.2.2.2) : s_W S G p l e R s m args below meth c Q N0 M0 pc L st h := by
  obtain ⟨hx, hb, hml, hown, hts, hI, hini⟩ := C
  subst hn
  dsimp only [s_x] at hs
  split at hs
  · cases hs
    intro hlen H locs ls hW hS hL
    exact lv_d2l hx hb hdg (k hlen H locs ls hW hS hL)
  · cases hs
theorem s_d_f2i (C : s_Cx S G TW p s m args meth c r) (hdg : decode (s_b r) pc = .ok (.f2i, n)) (hn : n = 1) (hs : s_x (.f2i) pc n L st h = some q) (k : s_W S G p l e R s m args below meth c Q N0 M0 q.1 q.2.1 q.2.2.1 q.2.2.2) : s_W S G p l e R s m args below meth c Q N0 M0 pc L st h := by
  obtain ⟨hx, hb, hml, hown, hts, hI, hini⟩ := C
  subst hn
  dsimp only [s_x] at hs
  split at hs
  · cases hs
    intro hlen H locs ls hW hS hL
    exact lv_f2i hx hb hdg (k hlen H locs ls hW hS hL)
  · cases hs
theorem s_d_lcmp (C : s_Cx S G TW p s m args meth c r) (hdg : decode (s_b r) pc = .ok (.lcmp, n)) (hn : n = 1) (hs : s_x (.lcmp) pc n L st h = some q) (k : s_W S G p l e R s m args below meth c Q N0 M0 q.1 q.2.1 q.2.2.1 q.2.2.2) : s_W S G p l e R s m args below meth c Q N0 M0 pc L st h := by
  obtain ⟨hx, hb, hml, hown, hts, hI, hini⟩ := C
  subst hn
  dsimp only [s_x] at hs
  split at hs
  · cases hs
    intro hlen H locs ls hW hS hL
    exact W.lcmp hx hb hdg (k hlen H locs ls hW hS hL)
  · cases hs
theorem s_d_fcmp {v : CmpOp} (C : s_Cx S G TW p s m args meth c r) (hdg : decode (s_b r) pc = .ok (.fcmp v, n)) (hn : n = 1) (hs : s_x (.fcmp v) pc n L st h = some q) (k : s_W S G p l e R s m args below meth c Q N0 M0 q.1 q.2.1 q.2.2.1 q.2.2.2) : s_W S G p l e R s m args below meth c Q N0 M0 pc L st h := by
  obtain ⟨hx, hb, hml, hown, hts, hI, hini⟩ := C
  subst hn
  dsimp only [s_x] at hs
  split at hs
  · cases hs
    intro hlen H locs ls hW hS hL
    exact lv_fcmp hx hb hdg (k hlen H locs ls hW hS hL)
  · cases hs
theorem s_d_dcmp {v : CmpOp} (C : s_Cx S G TW p s m args meth c r) (hdg : decode (s_b r) pc = .ok (.dcmp v, n)) (hn : n = 1) (hs : s_x (.dcmp v) pc n L st h = some q) (k : s_W S G p l e R s m args below meth c Q N0 M0 q.1 q.2.1 q.2.2.1 q.2.2.2) : s_W S G p l e R s m args below meth c Q N0 M0 pc L st h := by
  obtain ⟨hx, hb, hml, hown, hts, hI, hini⟩ := C
  subst hn
  dsimp only [s_x] at hs
  split at hs
  · cases hs
    intro hlen H locs ls hW hS hL
    exact lv_dcmp hx hb hdg (k hlen H locs ls hW hS hL)
  · cases hs
theorem s_d_idiv (C : s_Cx S G TW p s m args meth c r) (hdg : decode (s_b r) pc = .ok (.idiv, n)) (hn : n = 1) (hs : s_x (.idiv) pc n L st h = some q) (k : s_W S G p l e R s m args below meth c Q N0 M0 q.1 q.2.1 q.2.2.1 q.2.2.2) : s_W S G p l e R s m args below meth c Q N0 M0 pc L st h := by
  obtain ⟨hx, hb, hml, hown, hts, hI, hini⟩ := C
  subst hn
  dsimp only [s_x] at hs
  split at hs
  · split at hs
    · cases hs
    next hc =>
      cases hs
      intro hlen H locs ls hW hS hL
      exact lv_idiv hx hb hdg hc (k hlen H locs ls hW hS hL)
  · cases hs
theorem s_d_irem (C : s_Cx S G TW p s m args meth c r) (hdg : decode (s_b r) pc = .ok (.irem, n)) (hn : n = 1) (hs : s_x (.irem) pc n L st h = some q) (k : s_W S G p l e R s m args below meth c Q N0 M0 q.1 q.2.1 q.2.2.1 q.2.2.2) : s_W S G p l e R s m args below meth c Q N0 M0 pc L st h := by
  obtain ⟨hx, hb, hml, hown, hts, hI, hini⟩ := C
  subst hn
  dsimp only [s_x] at hs
  split at hs
  · split at hs
    · cases hs
    next hc =>
      cases hs
      intro hlen H locs ls hW hS hL
      exact lv_irem hx hb hdg hc (k hlen H locs ls hW hS hL)
  · cases hs
theorem s_d_fsub (C : s_Cx S G TW p s m args meth c r) (hdg : decode (s_b r) pc = .ok (.fsub, n)) (hn : n = 1) (hs : s_x (.fsub) pc n L st h = some q) (k : s_W S G p l e R s m args below meth c Q N0 M0 q.1 q.2.1 q.2.2.1 q.2.2.2) : s_W S G p l e R s m args below meth c Q N0 M0 pc L st h := by
  obtain ⟨hx, hb, hml, hown, hts, hI, hini⟩ := C
  subst hn
  dsimp only [s_x] at hs
  split at hs
  · split at hs
    next hc =>
      cases hs
      intro hlen H locs ls hW hS hL
      exact lv_fsub hx hb hdg hc (k hlen H locs ls hW hS hL)
    · cases hs
  · cases hs
theorem s_d_fmul (C : s_Cx S G TW p s m args meth c r) (hdg : decode (s_b r) pc = .ok (.fmul, n)) (hn : n = 1) (hs : s_x (.fmul) pc n L st h = some q) (k : s_W S G p l e R s m args below meth c Q N0 M0 q.1 q.2.1 q.2.2.1 q.2.2.2) : s_W S G p l e R s m args below meth c Q N0 M0 pc L st h := by
  obtain ⟨hx, hb, hml, hown, hts, hI, hini⟩ := C
  subst hn
  dsimp only [s_x] at hs
  split at hs
  · split at hs
    next hc =>
      cases hs
      intro hlen H locs ls hW hS hL
      exact lv_fmul hx hb hdg hc (k hlen H locs ls hW hS hL)
    · cases hs
  · cases hs
theorem s_d_fdiv (C : s_Cx S G TW p s m args meth c r) (hdg : decode (s_b r) pc = .ok (.fdiv, n)) (hn : n = 1) (hs : s_x (.fdiv) pc n L st h = some q) (k : s_W S G p l e R s m args below meth c Q N0 M0 q.1 q.2.1 q.2.2.1 q.2.2.2) : s_W S G p l e R s m args below meth c Q N0 M0 pc L st h := by
  obtain ⟨hx, hb, hml, hown, hts, hI, hini⟩ := C
  subst hn
  dsimp only [s_x] at hs
  split at hs
  · split at hs
    next hc =>
      cases hs
      intro hlen H locs ls hW hS hL
      exact lv_fdiv hx hb hdg hc (k hlen H locs ls hW hS hL)
    · cases hs
  · cases hs
theorem s_d_dsub (C : s_Cx S G TW p s m args meth c r) (hdg : decode (s_b r) pc = .ok (.dsub, n)) (hn : n = 1) (hs : s_x (.dsub) pc n L st h = some q) (k : s_W S G p l e R s m args below meth c Q N0 M0 q.1 q.2.1 q.2.2.1 q.2.2.2) : s_W S G p l e R s m args below meth c Q N0 M0 pc L st h := by
  obtain ⟨hx, hb, hml, hown, hts, hI, hini⟩ := C
  subst hn
  dsimp only [s_x] at hs
  split at hs
  · split at hs
    next hc =>
      cases hs
      intro hlen H locs ls hW hS hL
      exact lv_dsub hx hb hdg hc (k hlen H locs ls hW hS hL)
    · cases hs
  · cases hs
theorem s_d_dmul (C : s_Cx S G TW p s m args meth c r) (hdg : decode (s_b r) pc = .ok (.dmul, n)) (hn : n = 1) (hs : s_x (.dmul) pc n L st h = some q) (k : s_W S G p l e R s m args below meth c Q N0 M0 q.1 q.2.1 q.2.2.1 q.2.2.2) : s_W S G p l e R s m args below meth c Q N0 M0 pc L st h := by
  obtain ⟨hx, hb, hml, hown, hts, hI, hini⟩ := C
  subst hn
  dsimp only [s_x] at hs
  split at hs
  · split at hs
    next hc =>
      cases hs
      intro hlen H locs ls hW hS hL
      exact lv_dmul hx hb hdg hc (k hlen H locs ls hW hS hL)
    · cases hs
  · cases hs
theorem s_d_ddiv (C : s_Cx S G TW p s m args meth c r) (hdg : decode (s_b r) pc = .ok (.ddiv, n)) (hn : n = 1) (hs : s_x (.ddiv) pc n L st h = some q) (k : s_W S G p l e R s m args below meth c Q N0 M0 q.1 q.2.1 q.2.2.1 q.2.2.2) : s_W S G p l e R s m args below meth c Q N0 M0 pc L st h := by
  obtain ⟨hx, hb, hml, hown, hts, hI, hini⟩ := C
  subst hn
  dsimp only [s_x] at hs
  split at hs
  · split at hs
    next hc =>
      cases hs
      intro hlen H locs ls hW hS hL
      exact lv_ddiv hx hb hdg hc (k hlen H locs ls hW hS hL)
    · cases hs
  · cases hs
theorem s_d_drem (C : s_Cx S G TW p s m args meth c r) (hdg : decode (s_b r) pc = .ok (.drem, n)) (hn : n = 1) (hs : s_x (.drem) pc n L st h = some q) (k : s_W S G p l e R s m args below meth c Q N0 M0 q.1 q.2.1 q.2.2.1 q.2.2.2) : s_W S G p l e R s m args below meth c Q N0 M0 pc L st h := by
  obtain ⟨hx, hb, hml, hown, hts, hI, hini⟩ := C
  subst hn
  dsimp only [s_x] at hs
  split at hs
  · split at hs
    next hc =>
      cases hs
      intro hlen H locs ls hW hS hL
      exact lv_drem hx hb hdg hc (k hlen H locs ls hW hS hL)
    · cases hs
  · cases hs
theorem s_cat1 {v : Value} (h : ¬ s_two v = true) : (s_vc G v).category = 1 := by rw [s_vc_cat, if_neg h]
theorem s_cat2 {v : Value} (h : s_two v = true) : (s_vc G v).category = 2 := by rw [s_vc_cat, if_pos h]
theorem s_d_dup (C : s_Cx S G TW p s m args meth c r) (hdg : decode (s_b r) pc = .ok (.dup, n)) (hn : n = 1) (hs : s_x (.dup) pc n L st h = some q) (k : s_W S G p l e R s m args below meth c Q N0 M0 q.1 q.2.1 q.2.2.1 q.2.2.2) : s_W S G p l e R s m args below meth c Q N0 M0 pc L st h := by
  obtain ⟨hx, hb, hml, hown, hts, hI, hini⟩ := C
  subst hn
  dsimp only [s_x] at hs
  split at hs
  · split at hs
    · cases hs
    next hc =>
      cases hs
      intro hlen H locs ls hW hS hL
      exact lv_dup hx hb hdg (s_cat1 hc) (k hlen H locs ls hW hS hL)
  · cases hs
theorem s_d_pop (C : s_Cx S G TW p s m args meth c r) (hdg : decode (s_b r) pc = .ok (.pop, n)) (hn : n = 1) (hs : s_x (.pop) pc n L st h = some q) (k : s_W S G p l e R s m args below meth c Q N0 M0 q.1 q.2.1 q.2.2.1 q.2.2.2) : s_W S G p l e R s m args below meth c Q N0 M0 pc L st h := by
  obtain ⟨hx, hb, hml, hown, hts, hI, hini⟩ := C
  subst hn
  dsimp only [s_x] at hs
  split at hs
  · split at hs
    · cases hs
    next hc =>
      cases hs
      intro hlen H locs ls hW hS hL
      exact lv_pop hx hb hdg (s_cat1 hc) (k hlen H locs ls hW hS hL)
  · cases hs
theorem s_d_dup2 (C : s_Cx S G TW p s m args meth c r) (hdg : decode (s_b r) pc = .ok (.dup2, n)) (hn : n = 1) (hs : s_x (.dup2) pc n L st h = some q) (k : s_W S G p l e R s m args below meth c Q N0 M0 q.1 q.2.1 q.2.2.1 q.2.2.2) : s_W S G p l e R s m args below meth c Q N0 M0 pc L st h := by
  obtain ⟨hx, hb, hml, hown, hts, hI, hini⟩ := C
  subst hn
  dsimp only [s_x] at hs
  split at hs
  · split at hs
    next hc =>
      cases hs
      intro hlen H locs ls hW hS hL
      exact lv_dup2_2 hx hb hdg (s_cat2 hc) (k hlen H locs ls hW hS hL)
    next hc =>
      split at hs
      · split at hs
        · cases hs
        next hc2 =>
          cases hs
          intro hlen H locs ls hW hS hL
          exact lv_dup2_11 hx hb hdg (s_cat1 hc) (s_cat1 hc2) (k hlen H locs ls hW hS hL)
      · cases hs
  · cases hs
theorem s_d_if_eq {v : Int} (C : s_Cx S G TW p s m args meth c r) (hv : 0 ≤ v) (hdg : decode (s_b r) pc = .ok (.ifCond .eq (v - (pc : Int)), n)) (hn : n = 3) (hs : s_x (.ifCond .eq v) pc n L st h = some q) (k : s_W S G p l e R s m args below meth c Q N0 M0 q.1 q.2.1 q.2.2.1 q.2.2.2) : s_W S G p l e R s m args below meth c Q N0 M0 pc L st h := by
  obtain ⟨hx, hb, hml, hown, hts, hI, hini⟩ := C
  subst hn
  dsimp only [s_x] at hs
  split at hs
  · cases hs
    intro hlen H locs ls hW hS hL
    have k := k hlen H locs ls hW hS hL
    refine lv_if_eq (tgt := v.toNat) hx hb hdg (by omega) (fun hc => ?_) (fun hc => ?_)
    · simp only [s_cnd, decide_eq_true_eq] at k
      rw [if_pos hc] at k
      exact k
    · simp only [s_cnd, decide_eq_true_eq] at k
      rw [if_neg (by first | exact hc | exact not_not_intro hc)] at k
      exact k
  · cases hs
theorem s_d_if_ne {v : Int} (C : s_Cx S G TW p s m args meth c r) (hv : 0 ≤ v) (hdg : decode (s_b r) pc = .ok (.ifCond .ne (v - (pc : Int)), n)) (hn : n = 3) (hs : s_x (.ifCond .ne v) pc n L st h = some q) (k : s_W S G p l e R s m args below meth c Q N0 M0 q.1 q.2.1 q.2.2.1 q.2.2.2) : s_W S G p l e R s m args below meth c Q N0 M0 pc L st h := by
  obtain ⟨hx, hb, hml, hown, hts, hI, hini⟩ := C
  subst hn
  dsimp only [s_x] at hs
  split at hs
  · cases hs
    intro hlen H locs ls hW hS hL
    have k := k hlen H locs ls hW hS hL
    refine lv_if_ne (tgt := v.toNat) hx hb hdg (by omega) (fun hc => ?_) (fun hc => ?_)
    · simp only [s_cnd, decide_eq_true_eq] at k
      rw [if_pos hc] at k
      exact k
    · simp only [s_cnd, decide_eq_true_eq] at k
      rw [if_neg (by first | exact hc | exact not_not_intro hc)] at k
      exact k
  · cases hs
theorem s_d_if_lt {v : Int} (C : s_Cx S G TW p s m args meth c r) (hv : 0 ≤ v) (hdg : decode (s_b r) pc = .ok (.ifCond .lt (v - (pc : Int)), n)) (hn : n = 3) (hs : s_x (.ifCond .lt v) pc n L st h = some q) (k : s_W S G p l e R s m args below meth c Q N0 M0 q.1 q.2.1 q.2.2.1 q.2.2.2) : s_W S G p l e R s m args below meth c Q N0 M0 pc L st h := by
  obtain ⟨hx, hb, hml, hown, hts, hI, hini⟩ := C
  subst hn
  dsimp only [s_x] at hs
  split at hs
  · cases hs
    intro hlen H locs ls hW hS hL
    have k := k hlen H locs ls hW hS hL
    refine lv_if_lt (tgt := v.toNat) hx hb hdg (by omega) (fun hc => ?_) (fun hc => ?_)
    · simp only [s_cnd, decide_eq_true_eq] at k
      rw [if_pos hc] at k
      exact k
    · simp only [s_cnd, decide_eq_true_eq] at k
      rw [if_neg (by first | exact hc | exact not_not_intro hc)] at k
      exact k
  · cases hs
theorem s_d_if_ge {v : Int} (C : s_Cx S G TW p s m args meth c r) (hv : 0 ≤ v) (hdg : decode (s_b r) pc = .ok (.ifCond .ge (v - (pc : Int)), n)) (hn : n = 3) (hs : s_x (.ifCond .ge v) pc n L st h = some q) (k : s_W S G p l e R s m args below meth c Q N0 M0 q.1 q.2.1 q.2.2.1 q.2.2.2) : s_W S G p l e R s m args below meth c Q N0 M0 pc L st h := by
  obtain ⟨hx, hb, hml, hown, hts, hI, hini⟩ := C
  subst hn
  dsimp only [s_x] at hs
  split at hs
  · cases hs
    intro hlen H locs ls hW hS hL
    have k := k hlen H locs ls hW hS hL
    refine lv_if_ge (tgt := v.toNat) hx hb hdg (by omega) (fun hc => ?_) (fun hc => ?_)
    · simp only [s_cnd, decide_eq_true_eq] at k
      rw [if_pos hc] at k
      exact k
    · simp only [s_cnd, decide_eq_true_eq] at k
      rw [if_neg (by first | exact hc | exact not_not_intro hc)] at k
      exact k
  · cases hs
theorem s_d_if_gt {v : Int} (C : s_Cx S G TW p s m args meth c r) (hv : 0 ≤ v) (hdg : decode (s_b r) pc = .ok (.ifCond .gt (v - (pc : Int)), n)) (hn : n = 3) (hs : s_x (.ifCond .gt v) pc n L st h = some q) (k : s_W S G p l e R s m args below meth c Q N0 M0 q.1 q.2.1 q.2.2.1 q.2.2.2) : s_W S G p l e R s m args below meth c Q N0 M0 pc L st h := by
  obtain ⟨hx, hb, hml, hown, hts, hI, hini⟩ := C
  subst hn
  dsimp only [s_x] at hs
  split at hs
  · cases hs
    intro hlen H locs ls hW hS hL
    have k := k hlen H locs ls hW hS hL
    refine lv_if_gt (tgt := v.toNat) hx hb hdg (by omega) (fun hc => ?_) (fun hc => ?_)
    · simp only [s_cnd, decide_eq_true_eq] at k
      rw [if_pos hc] at k
      exact k
    · simp only [s_cnd, decide_eq_true_eq] at k
      rw [if_neg (by first | exact hc | exact not_not_intro hc)] at k
      exact k
  · cases hs
theorem s_d_if_le {v : Int} (C : s_Cx S G TW p s m args meth c r) (hv : 0 ≤ v) (hdg : decode (s_b r) pc = .ok (.ifCond .le (v - (pc : Int)), n)) (hn : n = 3) (hs : s_x (.ifCond .le v) pc n L st h = some q) (k : s_W S G p l e R s m args below meth c Q N0 M0 q.1 q.2.1 q.2.2.1 q.2.2.2) : s_W S G p l e R s m args below meth c Q N0 M0 pc L st h := by
  obtain ⟨hx, hb, hml, hown, hts, hI, hini⟩ := C
  subst hn
  dsimp only [s_x] at hs
  split at hs
  · cases hs
    intro hlen H locs ls hW hS hL
    have k := k hlen H locs ls hW hS hL
    refine lv_if_le (tgt := v.toNat) hx hb hdg (by omega) (fun hc => ?_) (fun hc => ?_)
    · simp only [s_cnd, decide_eq_true_eq] at k
      rw [if_pos hc] at k
      exact k
    · simp only [s_cnd, decide_eq_true_eq] at k
      rw [if_neg (by first | exact hc | exact not_not_intro hc)] at k
      exact k
  · cases hs
theorem s_d_icmp_eq {v : Int} (C : s_Cx S G TW p s m args meth c r) (hv : 0 ≤ v) (hdg : decode (s_b r) pc = .ok (.if_icmp .eq (v - (pc : Int)), n)) (hn : n = 3) (hs : s_x (.if_icmp .eq v) pc n L st h = some q) (k : s_W S G p l e R s m args below meth c Q N0 M0 q.1 q.2.1 q.2.2.1 q.2.2.2) : s_W S G p l e R s m args below meth c Q N0 M0 pc L st h := by
  obtain ⟨hx, hb, hml, hown, hts, hI, hini⟩ := C
  subst hn
  dsimp only [s_x] at hs
  split at hs
  · cases hs
    intro hlen H locs ls hW hS hL
    have k := k hlen H locs ls hW hS hL
    refine lv_icmp_eq (tgt := v.toNat) hx hb hdg (by omega) (fun hc => ?_) (fun hc => ?_)
    · simp only [s_cnd, decide_eq_true_eq] at k
      rw [if_pos hc] at k
      exact k
    · simp only [s_cnd, decide_eq_true_eq] at k
      rw [if_neg (by first | exact hc | exact not_not_intro hc)] at k
      exact k
  · cases hs
theorem s_d_icmp_ne {v : Int} (C : s_Cx S G TW p s m args meth c r) (hv : 0 ≤ v) (hdg : decode (s_b r) pc = .ok (.if_icmp .ne (v - (pc : Int)), n)) (hn : n = 3) (hs : s_x (.if_icmp .ne v) pc n L st h = some q) (k : s_W S G p l e R s m args below meth c Q N0 M0 q.1 q.2.1 q.2.2.1 q.2.2.2) : s_W S G p l e R s m args below meth c Q N0 M0 pc L st h := by
  obtain ⟨hx, hb, hml, hown, hts, hI, hini⟩ := C
  subst hn
  dsimp only [s_x] at hs
  split at hs
  · cases hs
    intro hlen H locs ls hW hS hL
    have k := k hlen H locs ls hW hS hL
    refine lv_icmp_ne (tgt := v.toNat) hx hb hdg (by omega) (fun hc => ?_) (fun hc => ?_)
    · simp only [s_cnd, decide_eq_true_eq] at k
      rw [if_pos hc] at k
      exact k
    · simp only [s_cnd, decide_eq_true_eq] at k
      rw [if_neg (by first | exact hc | exact not_not_intro hc)] at k
      exact k
  · cases hs
theorem s_d_icmp_lt {v : Int} (C : s_Cx S G TW p s m args meth c r) (hv : 0 ≤ v) (hdg : decode (s_b r) pc = .ok (.if_icmp .lt (v - (pc : Int)), n)) (hn : n = 3) (hs : s_x (.if_icmp .lt v) pc n L st h = some q) (k : s_W S G p l e R s m args below meth c Q N0 M0 q.1 q.2.1 q.2.2.1 q.2.2.2) : s_W S G p l e R s m args below meth c Q N0 M0 pc L st h := by
  obtain ⟨hx, hb, hml, hown, hts, hI, hini⟩ := C
  subst hn
  dsimp only [s_x] at hs
  split at hs
  · cases hs
    intro hlen H locs ls hW hS hL
    have k := k hlen H locs ls hW hS hL
    refine lv_icmp_lt (tgt := v.toNat) hx hb hdg (by omega) (fun hc => ?_) (fun hc => ?_)
    · simp only [s_cnd, decide_eq_true_eq] at k
      rw [if_pos hc] at k
      exact k
    · simp only [s_cnd, decide_eq_true_eq] at k
      rw [if_neg (by first | exact hc | exact not_not_intro hc)] at k
      exact k
  · cases hs
theorem s_d_icmp_ge {v : Int} (C : s_Cx S G TW p s m args meth c r) (hv : 0 ≤ v) (hdg : decode (s_b r) pc = .ok (.if_icmp .ge (v - (pc : Int)), n)) (hn : n = 3) (hs : s_x (.if_icmp .ge v) pc n L st h = some q) (k : s_W S G p l e R s m args below meth c Q N0 M0 q.1 q.2.1 q.2.2.1 q.2.2.2) : s_W S G p l e R s m args below meth c Q N0 M0 pc L st h := by
  obtain ⟨hx, hb, hml, hown, hts, hI, hini⟩ := C
  subst hn
  dsimp only [s_x] at hs
  split at hs
  · cases hs
    intro hlen H locs ls hW hS hL
    have k := k hlen H locs ls hW hS hL
    refine lv_icmp_ge (tgt := v.toNat) hx hb hdg (by omega) (fun hc => ?_) (fun hc => ?_)
    · simp only [s_cnd, decide_eq_true_eq] at k
      rw [if_pos hc] at k
      exact k
    · simp only [s_cnd, decide_eq_true_eq] at k
      rw [if_neg (by first | exact hc | exact not_not_intro hc)] at k
      exact k
  · cases hs
theorem s_d_icmp_gt {v : Int} (C : s_Cx S G TW p s m args meth c r) (hv : 0 ≤ v) (hdg : decode (s_b r) pc = .ok (.if_icmp .gt (v - (pc : Int)), n)) (hn : n = 3) (hs : s_x (.if_icmp .gt v) pc n L st h = some q) (k : s_W S G p l e R s m args below meth c Q N0 M0 q.1 q.2.1 q.2.2.1 q.2.2.2) : s_W S G p l e R s m args below meth c Q N0 M0 pc L st h := by
  obtain ⟨hx, hb, hml, hown, hts, hI, hini⟩ := C
  subst hn
  dsimp only [s_x] at hs
  split at hs
  · cases hs
    intro hlen H locs ls hW hS hL
    have k := k hlen H locs ls hW hS hL
    refine lv_icmp_gt (tgt := v.toNat) hx hb hdg (by omega) (fun hc => ?_) (fun hc => ?_)
    · simp only [s_cnd, decide_eq_true_eq] at k
      rw [if_pos hc] at k
      exact k
    · simp only [s_cnd, decide_eq_true_eq] at k
      rw [if_neg (by first | exact hc | exact not_not_intro hc)] at k
      exact k
  · cases hs
theorem s_d_icmp_le {v : Int} (C : s_Cx S G TW p s m args meth c r) (hv : 0 ≤ v) (hdg : decode (s_b r) pc = .ok (.if_icmp .le (v - (pc : Int)), n)) (hn : n = 3) (hs : s_x (.if_icmp .le v) pc n L st h = some q) (k : s_W S G p l e R s m args below meth c Q N0 M0 q.1 q.2.1 q.2.2.1 q.2.2.2) : s_W S G p l e R s m args below meth c Q N0 M0 pc L st h := by
  obtain ⟨hx, hb, hml, hown, hts, hI, hini⟩ := C
  subst hn
  dsimp only [s_x] at hs
  split at hs
  · cases hs
    intro hlen H locs ls hW hS hL
    have k := k hlen H locs ls hW hS hL
    refine lv_icmp_le (tgt := v.toNat) hx hb hdg (by omega) (fun hc => ?_) (fun hc => ?_)
    · simp only [s_cnd, decide_eq_true_eq] at k
      rw [if_pos hc] at k
      exact k
    · simp only [s_cnd, decide_eq_true_eq] at k
      rw [if_neg (by first | exact hc | exact not_not_intro hc)] at k
      exact k
  · cases hs
theorem s_d_goto {v : Int} (C : s_Cx S G TW p s m args meth c r) (hv : 0 ≤ v) (hdg : decode (s_b r) pc = .ok (.goto (v - (pc : Int)), n)) (hn : n = 3) (hs : s_x (.goto v) pc n L st h = some q) (k : s_W S G p l e R s m args below meth c Q N0 M0 q.1 q.2.1 q.2.2.1 q.2.2.2) : s_W S G p l e R s m args below meth c Q N0 M0 pc L st h := by
  obtain ⟨hx, hb, hml, hown, hts, hI, hini⟩ := C
  subst hn
  cases hs
  intro hlen H locs ls hW hS hL
  exact lv_goto hx hb hdg (by omega) (k hlen H locs ls hW hS hL)
theorem s_d_ifnull {v : Int} (C : s_Cx S G TW p s m args meth c r) (hv : 0 ≤ v) (hdg : decode (s_b r) pc = .ok (.ifnull (v - (pc : Int)), n)) (hn : n = 3) (hs : s_x (.ifnull v) pc n L st h = some q) (k : s_W S G p l e R s m args below meth c Q N0 M0 q.1 q.2.1 q.2.2.1 q.2.2.2) : s_W S G p l e R s m args below meth c Q N0 M0 pc L st h := by
  obtain ⟨hx, hb, hml, hown, hts, hI, hini⟩ := C
  subst hn
  dsimp only [s_x] at hs
  split at hs
  · cases hs
    intro hlen H locs ls hW hS hL
    exact lv_ifnullN hx hb hdg (by omega) (k hlen H locs ls hW hS hL)
  · cases hs
    intro hlen H locs ls hW hS hL
    exact lv_ifnull hx hb hdg (k hlen H locs ls hW hS hL)
  · cases hs
theorem s_d_ifnonnull {v : Int} (C : s_Cx S G TW p s m args meth c r) (hv : 0 ≤ v) (hdg : decode (s_b r) pc = .ok (.ifnonnull (v - (pc : Int)), n)) (hn : n = 3) (hs : s_x (.ifnonnull v) pc n L st h = some q) (k : s_W S G p l e R s m args below meth c Q N0 M0 q.1 q.2.1 q.2.2.1 q.2.2.2) : s_W S G p l e R s m args below meth c Q N0 M0 pc L st h := by
  obtain ⟨hx, hb, hml, hown, hts, hI, hini⟩ := C
  subst hn
  dsimp only [s_x] at hs
  split at hs
  · cases hs
    intro hlen H locs ls hW hS hL
    exact lv_ifnonnullN hx hb hdg (k hlen H locs ls hW hS hL)
  · cases hs
    intro hlen H locs ls hW hS hL
    exact lv_ifnonnull hx hb hdg (by omega) (k hlen H locs ls hW hS hL)
  · cases hs
theorem s_d_table {d lo hi : Int} {o : Array Int} (C : s_Cx S G TW p s m args meth c r) (hd : 0 ≤ d) (ho : ∀ t ∈ o.toList, 0 ≤ t) (hdg : decode (s_b r) pc = .ok (.tableswitch (d - (pc : Int)) lo hi (o.map (fun t => t - (pc : Int))), n)) (hs : s_x (.tableswitch d lo hi o) pc n L st h = some q) (k : s_W S G p l e R s m args below meth c Q N0 M0 q.1 q.2.1 q.2.2.1 q.2.2.2) : s_W S G p l e R s m args below meth c Q N0 M0 pc L st h := by
  obtain ⟨hx, hb, hml, hown, hts, hI, hini⟩ := C
  dsimp only [s_x] at hs
  split at hs
  · split at hs
    next hc =>
      cases hs
      intro hlen H locs ls hW hS hL
      exact lv_tableOut hx hb hdg hc (by omega) (k hlen H locs ls hW hS hL)
    next x r0 hc =>
      split at hs
      next t heq =>
        cases hs
        intro hlen H locs ls hW hS hL
        have h1 : ¬ x.toInt < lo := fun z => hc (Or.inl z)
        have h2 : ¬ hi < x.toInt := fun z => hc (Or.inr z)
        rw [s_nth_eq] at heq
        have h3 := ho t (List.mem_of_getElem? heq)
        rw [Array.getElem?_toList] at heq
        exact lv_tableIn (off := t - (pc : Int)) hx hb hdg h1 h2 (by rw [Array.getElem?_map, heq]; rfl) (by omega) (k hlen H locs ls hW hS hL)
      · cases hs
  · cases hs
theorem s_off (d z : Int) (pc : Nat) (hd : 0 ≤ d) : ∀ l : List (Int × Int), (∀ q ∈ l, 0 ≤ q.2) → Op.lookupswitch.offset (l.map fun q => (q.1, q.2 - (pc : Int))) (d - (pc : Int)) z = Op.lookupswitch.offset l d z - (pc : Int) ∧ 0 ≤ Op.lookupswitch.offset l d z
  | [], _ => ⟨rfl, hd⟩
  | (a, b) :: l, hl => by
    have ih := s_off d z pc hd l (fun q hq => hl q (List.mem_cons_of_mem _ hq))
    rw [List.map_cons, Op.lookupswitch.offset_cons, Op.lookupswitch.offset_cons]
    split
    · exact ⟨rfl, hl _ List.mem_cons_self⟩
    · exact ih
theorem s_d_look {d : Int} {o : Array (Int × Int)} (C : s_Cx S G TW p s m args meth c r) (hd : 0 ≤ d) (ho : ∀ t ∈ o.toList, 0 ≤ t.2) (hso : ((o.map fun q => (q.1, q.2 - (pc : Int))).toList.zip ((o.map fun q => (q.1, q.2 - (pc : Int))).toList.drop 1)).all (fun (a, next) => a.1 < next.1) = true) (hdg : decode (s_b r) pc = .ok (.lookupswitch (d - (pc : Int)) (o.map fun q => (q.1, q.2 - (pc : Int))), n)) (hs : s_x (.lookupswitch d o) pc n L st h = some q) (k : s_W S G p l e R s m args below meth c Q N0 M0 q.1 q.2.1 q.2.2.1 q.2.2.2) : s_W S G p l e R s m args below meth c Q N0 M0 pc L st h := by
  obtain ⟨hx, hb, hml, hown, hts, hI, hini⟩ := C
  dsimp only [s_x] at hs
  split at hs
  next x r0 =>
    cases hs
    intro hlen H locs ls hW hS hL
    have h1 := s_off d x.toInt pc hd o.toList ho
    exact lv_lookup (off := Op.lookupswitch.offset o.toList d x.toInt - (pc : Int)) hx hb hdg hso (by rw [← h1.1, Array.toList_map]) (by omega) (k hlen H locs ls hW hS hL)
  · cases hs
end STP
end
section
section HPS
variable {p : Program} {l : Launch} {e : Env} {R : Room} {s : State} {m : MethodId} {args : Array Value} {below : List Frame} {meth : Method} {c : Code} {Q : State → Prop}
variable {S : s_SG} {G : s_DG} {TW : List Jvm.Cond} {r : sM} {N0 M0 pc n idx : Nat} {L st : List Value} {h : sHp} {q : sC}
theorem s_cell_o {i k : Nat} (hi : h.2.2[i]? = some (0, k)) : s_cell S G h i = .inr (k, (List.range (s_N S k)).map (s_fv S G h i k)) := by unfold s_cell; rw [hi]
theorem s_cell_i {i k : Nat} (hi : h.2.2[i]? = some (1, k)) : s_cell S G h i = .inl (s_cA G 1, k, .inl (h.1 i)) := by unfold s_cell; rw [hi]
theorem s_cell_r {i t k : Nat} (hi : h.2.2[i]? = some (t + 2, k)) : s_cell S G h i = .inl (s_cA G (t + 2), k, .inr (.inr (.inr (.inr (fun j => (h.2.1 i j).map (s_ad G)))))) := by unfold s_cell; rw [hi]
theorem s_cl_of {k j : Nat} (hk : j < s_N S k) : ∃ q : vw_C, (s_cl S)[k]? = some q ∧ s_N S k = q.2.2 ∧ s_F S k = q.2.1 ∧ s_cn S k = q.1 := by
  unfold s_N at hk
  cases hq : (s_cl S)[k]? with
  | none => rw [hq] at hk; exact absurd hk (Nat.not_lt_zero _)
  | some q => exact ⟨q, rfl, by unfold s_N; rw [hq], by unfold s_F; rw [hq], by unfold s_cn; rw [hq]⟩
theorem s_fs_at {i k j : Nat} (hj : j < s_N S k) : ((List.range (s_N S k)).map (s_fv S G h i k))[j]? = some (s_fv S G h i k j) := by
  rw [List.getElem?_map, List.getElem?_range hj]; rfl
theorem s_fs_set {h2 : sHp} {i k j : Nat} {v : Value} (hv : s_fv S G h2 i k j = v) (ho : ∀ x, x ≠ j → s_fv S G h2 i k x = s_fv S G h i k x) : ((List.range (s_N S k)).map (s_fv S G h i k)).set j v = (List.range (s_N S k)).map (s_fv S G h2 i k) := by
  apply List.ext_getElem?
  intro x
  by_cases hx : x = j
  · subst hx
    by_cases hl : x < s_N S k
    · rw [List.getElem?_set_self (by simpa using hl), s_fs_at hl, hv]
    · rw [List.getElem?_eq_none (by simpa using hl), List.getElem?_eq_none (by simpa using hl)]
  · rw [List.getElem?_set_ne (Ne.symm hx), List.getElem?_map, List.getElem?_map]
    by_cases hl : x < s_N S k
    · rw [List.getElem?_range hl]
      show some _ = some _
      rw [ho x hx]
    · rw [List.getElem?_eq_none (by simpa using hl)]; rfl
theorem s_d_get {ev : Nat} (C : s_Cx S G TW p s m args meth c r) (SK : s_SOK S TW) (hk : ev % 1024 / 8 < s_N S (ev / 1024)) (hkd : ev % 8 = s_kd (s_ty S (ev / 1024) (ev % 1024 / 8))) (hw : (Jvm.Cond.fieldLink (s_y r).cls idx (s_F S (ev / 1024) (ev % 1024 / 8)).1 (s_F S (ev / 1024) (ev % 1024 / 8)).2.1 (s_F S (ev / 1024) (ev % 1024 / 8)).2.2.1).before args s = true) (hdg : decode (s_b r) pc = .ok (.getfield idx, n)) (hn : n = 3) (hs : s_x (.getfield ev) pc n L st h = some q) (k : s_W S G p l e R s m args below meth c Q N0 M0 q.1 q.2.1 q.2.2.1 q.2.2.2) : s_W S G p l e R s m args below meth c Q N0 M0 pc L st h := by
  obtain ⟨hx, hb, hml, hown, hts, hI, hini⟩ := C
  subst hn
  dsimp only [s_x] at hs
  split at hs
  next a r0 =>
    split at hs
    next c0 heq =>
      split at hs
      next hc0 =>
        subst hc0
        intro hlen H locs ls hW hS hL
        obtain ⟨h1, h2, h3⟩ := s_Wd_len hW heq
        have h4 := h3 (by decide)
        obtain ⟨qc, e1, e2, e3, e4⟩ := s_cl_of hk
        have hk2 : ev % 1024 / 8 < qc.2.2 := by rw [← e2]; exact hk
        rw [e3] at hw
        have hv : s_W S G p l e R s m args below meth c Q N0 M0 (pc + 3) L ((if s_kd (s_ty S (ev / 1024) (ev % 1024 / 8)) = 2 then (match h.2.1 a (ev % 1024 / 8) with | some b => .ref b | none => .null) else .int (h.1 a (ev % 1024 / 8))) :: r0) h := by
          rw [hkd] at hs
          split at hs
          next hkk =>
            rw [if_pos hkk]
            split at hs
            next b hb2 => rw [hb2]; cases hs; exact k
            next hb2 => rw [hb2]; cases hs; exact k
          next hkk =>
            rw [if_neg hkk]
            cases hs
            exact k
        refine va_get (D := s_D G) (ci := ev / 1024) (C := qc.1) (T := qc.2.1) (N := qc.2.2) hx hb hts (SK _ _ e1).1 hown hI.1 hW.2.1 (a - 4) (fs := (List.range (s_N S (ev / 1024))).map (s_fv S G h a (ev / 1024))) (by rw [← s_cell_o h1]; exact s_ws_at S G h h4 h2) e1 (ev % 1024 / 8) hk2 hw (fun _ h9 => h9) (s_fs_at hk) hdg ?_
        have e5 : s_fv S G h a (ev / 1024) (ev % 1024 / 8) = s_vc G (if s_kd (s_ty S (ev / 1024) (ev % 1024 / 8)) = 2 then (match h.2.1 a (ev % 1024 / 8) with | some b => .ref b | none => .null) else .int (h.1 a (ev % 1024 / 8))) := by
          unfold s_fv
          split
          · cases h.2.1 a (ev % 1024 / 8) <;> rfl
          · rfl
        rw [e5]
        exact hv hlen H locs ls hW hS hL
      · cases hs
    · cases hs
  · cases hs
theorem s_put_w {ev a : Nat} {v w : Value} {r0 : List Value} {h2 : sHp} (C : s_Cx S G TW p s m args meth c r) (SK : s_SOK S TW) (hk : ev % 1024 / 8 < s_N S (ev / 1024)) (hfin : (s_F S (ev / 1024) (ev % 1024 / 8)).2.2.2 = true → (s_y r).name = "<init>" ∧ (s_F S (ev / 1024) (ev % 1024 / 8)).1 = (s_y r).cls) (hw : (Jvm.Cond.fieldLink (s_y r).cls idx (s_F S (ev / 1024) (ev % 1024 / 8)).1 (s_F S (ev / 1024) (ev % 1024 / 8)).2.1 (s_F S (ev / 1024) (ev % 1024 / 8)).2.2.1).before args s = true) (hdg : decode (s_b r) pc = .ok (.putfield idx, 3))
    (h1 : h.2.2[a]? = some (0, ev / 1024)) (hl : a < h.2.2.length) (h4 : 4 ≤ a) (hvw : v = s_vc G w) (hn : narrow (s_ty S (ev / 1024) (ev % 1024 / 8)) v = v) (hfit : fits (s_ty S (ev / 1024) (ev % 1024 / 8)) v = true) (hs2 : h2.2.2 = h.2.2) (ho : ∀ i : Nat, i ≠ a → h2.1 i = h.1 i ∧ h2.2.1 i = h.2.1 i) (hv2 : s_fv S G h2 a (ev / 1024) (ev % 1024 / 8) = v) (ho2 : ∀ x, x ≠ ev % 1024 / 8 → s_fv S G h2 a (ev / 1024) x = s_fv S G h a (ev / 1024) x)
    (k : s_W S G p l e R s m args below meth c Q N0 M0 (pc + 3) L r0 h2) : s_W S G p l e R s m args below meth c Q N0 M0 pc L (w :: .ref a :: r0) h := by
  obtain ⟨hx, hb, hml, hown, hts, hI, hini⟩ := C
  intro hlen H locs ls hW hS hL
  obtain ⟨qc, e1, e2, e3, e4⟩ := s_cl_of hk
  have hk2 : ev % 1024 / 8 < qc.2.2 := by rw [← e2]; exact hk
  rw [e3] at hw hfin
  have hd := (SK _ _ e1).2.1 _ hk2
  have hws := s_ws_at S G h h4 hl
  rw [s_cell_o h1] at hws
  have hkk : ∀ (H1 : Heap) (locs1 : List Loc), va_P (s_D G) (s_cl S) ((s_ws S G h).set (a - 4) (s_ad G a, .inr (ev / 1024, ((List.range (s_N S (ev / 1024))).map (s_fv S G h a (ev / 1024))).set (ev % 1024 / 8) v))) H1 → va_D (s_A G) ((s_ws S G h).set (a - 4) (s_ad G a, .inr (ev / 1024, ((List.range (s_N S (ev / 1024))).map (s_fv S G h a (ev / 1024))).set (ev % 1024 / 8) v))) → va_S (s_A G) s.heap H1 locs1 → W p l e R s m args below meth c H1 locs1 (h.2.2.length - N0) (s_sz S h.2.2 - M0) Q (F0 m (pc + 3) ls (r0.map (s_vc G))) := by
    intro H1 locs1 hP1 _ hS1
    have hW1 := s_Wd_put hW h4 hl hs2 ho (e := .inr (ev / 1024, ((List.range (s_N S (ev / 1024))).map (s_fv S G h a (ev / 1024))).set (ev % 1024 / 8) v)) (by rw [s_fs_set hv2 ho2, s_cell_o (by rw [hs2]; exact h1)]) hP1
    have := k hlen H1 locs1 ls hW1 hS1 hL
    rw [hs2] at this
    exact this
  show W p l e R s m args below meth c H locs (h.2.2.length - N0) (s_sz S h.2.2 - M0) Q (F0 m pc ls (s_vc G w :: .ref (s_ad G a) :: r0.map (s_vc G)))
  rw [← hvw]
  have hlen2 : ev % 1024 / 8 < ((List.range (s_N S (ev / 1024))).map (s_fv S G h a (ev / 1024))).length := by simpa using hk
  cases hf : (qc.2.1 (ev % 1024 / 8)).2.2.2 with
  | false => exact va_put (D := s_D G) (ci := ev / 1024) (C := qc.1) (T := qc.2.1) (N := qc.2.2) hx hb hts (SK _ _ e1).1 (s_ty S (ev / 1024)) (SK _ _ e1).2.1 (SK _ _ e1).2.2 hown hI.1 hW.2.1 (s_ws_D hI h) hS (a - 4) hws e1 (ev % 1024 / 8) hk2 hw (fun _ h9 => h9) hf hd hn hfit hlen2 hdg hkk
  | true => exact va_putF (D := s_D G) (ci := ev / 1024) (C := qc.1) (T := qc.2.1) (N := qc.2.2) hx hb hts (SK _ _ e1).1 (s_ty S (ev / 1024)) (SK _ _ e1).2.1 (SK _ _ e1).2.2 hown hI.1 hW.2.1 (s_ws_D hI h) hS (a - 4) hws e1 (ev % 1024 / 8) hk2 hw (fun _ h9 => h9) hf (hini (hfin hf).1) (hfin hf).2 hd hn hfit hlen2 hdg hkk
theorem s_fv_upd {a i k j x : Nat} {v : Int32} (hj : x ≠ j) : s_fv S G (s_upd h.1 a j v, h.2) i k x = s_fv S G h i k x := by
  unfold s_fv
  split
  · rfl
  · show Value.int (s_upd h.1 a j v i x) = _
    unfold s_upd
    split
    · rw [show upd (h.1 i) j v x = h.1 i x from if_neg hj]
    · rfl
theorem s_fv_updR {a i k j x : Nat} {v : Option Nat} (hj : x ≠ j) : s_fv S G (h.1, s_updR h.2.1 a j v, h.2.2) i k x = s_fv S G h i k x := by
  unfold s_fv
  split
  · show va_rf ((s_updR h.2.1 a j v i x).map _) = _
    unfold s_updR
    split
    · rw [show va_up (h.2.1 i) j v x = h.2.1 i x from if_neg hj]
    · rfl
  · rfl
theorem s_d_put {ev : Nat} (C : s_Cx S G TW p s m args meth c r) (SK : s_SOK S TW) (hk : ev % 1024 / 8 < s_N S (ev / 1024)) (hkd : ev % 8 = s_kd (s_ty S (ev / 1024) (ev % 1024 / 8))) (hty : ev % 8 = 2 → ∃ nm, s_ty S (ev / 1024) (ev % 1024 / 8) = .object nm ∨ ∃ t, s_ty S (ev / 1024) (ev % 1024 / 8) = .array t) (hfin : (s_F S (ev / 1024) (ev % 1024 / 8)).2.2.2 = true → (s_y r).name = "<init>" ∧ (s_F S (ev / 1024) (ev % 1024 / 8)).1 = (s_y r).cls) (hw : (Jvm.Cond.fieldLink (s_y r).cls idx (s_F S (ev / 1024) (ev % 1024 / 8)).1 (s_F S (ev / 1024) (ev % 1024 / 8)).2.1 (s_F S (ev / 1024) (ev % 1024 / 8)).2.2.1).before args s = true) (hdg : decode (s_b r) pc = .ok (.putfield idx, n)) (hn : n = 3) (hs : s_x (.putfield ev) pc n L st h = some q) (k : s_W S G p l e R s m args below meth c Q N0 M0 q.1 q.2.1 q.2.2.1 q.2.2.2) : s_W S G p l e R s m args below meth c Q N0 M0 pc L st h := by
  subst hn
  dsimp only [s_x] at hs
  split at hs
  next x a r0 =>
    split at hs
    next c0 heq =>
      split at hs
      next hc0 =>
        subst hc0
        intro hlen H locs ls hW hS hL
        obtain ⟨h1, h2, h3⟩ := s_Wd_len hW heq
        have h4 := h3 (by decide)
        refine s_put_w (v := .int x) (h2 := (s_upd h.1 a (ev % 1024 / 8) x, h.2)) C SK hk hfin hw hdg h1 h2 h4 rfl ?_ ?_ rfl (fun i hi => ⟨if_neg hi, rfl⟩) ?_ (fun x hx => s_fv_upd hx) ?_ hlen H locs ls hW hS hL
        · split at hs
          next h0 => rw [hkd] at h0; cases ht : s_ty S (ev / 1024) (ev % 1024 / 8) <;> rw [ht] at h0 <;> simp [s_kd] at h0 <;> rfl
          next h0 =>
            split at hs
            next h01 =>
              split at hs
              next hx =>
                rw [hkd] at h01
                cases ht : s_ty S (ev / 1024) (ev % 1024 / 8) <;> rw [ht] at h01 <;> simp [s_kd] at h01
                rcases hx with rfl | rfl <;> rfl
              · cases hs
            · cases hs
        · split at hs
          next h0 => rw [hkd] at h0; cases ht : s_ty S (ev / 1024) (ev % 1024 / 8) <;> rw [ht] at h0 <;> simp [s_kd] at h0 <;> rfl
          next h0 =>
            split at hs
            next h01 =>
              split at hs
              next hx =>
                rw [hkd] at h01
                cases ht : s_ty S (ev / 1024) (ev % 1024 / 8) <;> rw [ht] at h01 <;> simp [s_kd] at h01
                rcases hx with rfl | rfl <;> rfl
              · cases hs
            · cases hs
        · have : ¬ s_kd (s_ty S (ev / 1024) (ev % 1024 / 8)) = 2 := by
            rw [← hkd]
            intro z
            rw [if_neg (by omega), if_neg (by omega)] at hs
            cases hs
          unfold s_fv
          rw [if_neg this]
          show Value.int (s_upd h.1 a (ev % 1024 / 8) x a (ev % 1024 / 8)) = _
          simp [s_upd, upd]
        · split at hs
          · cases hs; exact k
          · split at hs
            · split at hs
              · cases hs; exact k
              · cases hs
            · cases hs
      · cases hs
    · cases hs
  next b a r0 =>
    split at hs
    next c0 heq =>
      split at hs
      next hc0 =>
        subst hc0
        split at hs
        next hk2 =>
          cases hs
          intro hlen H locs ls hW hS hL
          obtain ⟨h1, h2, h3⟩ := s_Wd_len hW heq
          have h4 := h3 (by decide)
          obtain ⟨nm, ht⟩ := hty hk2
          refine s_put_w (v := .ref (s_ad G b)) (h2 := (h.1, s_updR h.2.1 a (ev % 1024 / 8) (some b), h.2.2)) C SK hk hfin hw hdg h1 h2 h4 rfl ?_ ?_ rfl (fun i hi => ⟨rfl, if_neg hi⟩) ?_ (fun x hx => s_fv_updR hx) k hlen H locs ls hW hS hL
          · rcases ht with ht | ⟨t, ht⟩ <;> rw [ht] <;> rfl
          · rcases ht with ht | ⟨t, ht⟩ <;> rw [ht] <;> rfl
          · unfold s_fv
            rw [if_pos (by rw [← hkd]; exact hk2)]
            show va_rf ((s_updR h.2.1 a (ev % 1024 / 8) (some b) a (ev % 1024 / 8)).map _) = _
            simp [s_updR, va_up, va_rf]
        · cases hs
      · cases hs
    · cases hs
  · cases hs
theorem s_d_gets {j : Nat} (C : s_Cx S G TW p s m args meth c r) (hj : j < s_ns S) (hw : (Jvm.Cond.fieldLink (s_y r).cls idx (s_sn S j).1 (s_sn S j).2.1 (s_sn S j).2.2).before args s = true) (hdg : decode (s_b r) pc = .ok (.getstatic idx, n)) (hn : n = 3) (hs : s_x (.getstatic j) pc n L st h = some q) (k : s_W S G p l e R s m args below meth c Q N0 M0 q.1 q.2.1 q.2.2.1 q.2.2.2) : s_W S G p l e R s m args below meth c Q N0 M0 pc L st h := by
  obtain ⟨hx, hb, hml, hown, hts, hI, hini⟩ := C
  subst hn
  cases hs
  intro hlen H locs ls hW hS hL
  exact va_gets hx hb (hI.2.2.1 j hj).2 hS hown hw (fun _ h9 => h9) hdg (k hlen H locs ls hW hS hL)
theorem s_d_getsN {j : Nat} {host : String} (C : s_Cx S G TW p s m args meth c r) (hj : j < s_ns S) (hw : va_Nw (.fieldLinkNest (s_y r).cls idx (s_sn S j).1 (s_sn S j).2.1 (s_sn S j).2.2 host) s) (hdg : decode (s_b r) pc = .ok (.getstatic idx, n)) (hn : n = 3) (hs : s_x (.instanceof j) pc n L st h = some q) (k : s_W S G p l e R s m args below meth c Q N0 M0 q.1 q.2.1 q.2.2.1 q.2.2.2) : s_W S G p l e R s m args below meth c Q N0 M0 pc L st h := by
  obtain ⟨hx, hb, hml, hown, hts, hI, hini⟩ := C
  subst hn
  cases hs
  intro hlen H locs ls hW hS hL
  exact va_getsN hx hb (hI.2.2.1 j hj).2 hS hown (va_Nw.use rfl hw) (fun _ h9 => h9) hdg (k hlen H locs ls hW hS hL)
theorem s_d_alen (C : s_Cx S G TW p s m args meth c r) (hdg : decode (s_b r) pc = .ok (.arraylength, n)) (hn : n = 1) (hs : s_x .arraylength pc n L st h = some q) (k : s_W S G p l e R s m args below meth c Q N0 M0 q.1 q.2.1 q.2.2.1 q.2.2.2) : s_W S G p l e R s m args below meth c Q N0 M0 pc L st h := by
  obtain ⟨hx, hb, hml, hown, hts, hI, hini⟩ := C
  subst hn
  dsimp only [s_x] at hs
  split at hs
  next a r0 =>
    split at hs
    next t z heq =>
      cases hs
      intro hlen H locs ls hW hS hL
      obtain ⟨h1, h2, h3⟩ := s_Wd_len hW heq
      have kk := k hlen H locs ls hW hS hL
      rcases Nat.lt_or_ge a 4 with h4 | h4
      · obtain ⟨h5, h6⟩ := hW.2.2.1 a h4
        have e1 := h5.symm.trans h1
        cases e1
        obtain ⟨⟨scr, g1, g2, g3, g4, g5, g6, g7⟩, hlt⟩ := hI.2.1 a h4
        exact W.alen (n := Int32.ofNat (s_Lc G a)) hx hb (by rw [hS.2.1 _ (Array.getElem?_eq_some_iff.mp g1).1 g7]; exact g1) g2 g5 rfl rfl hdg kk
      · have h5 := s_ws_at S G h h4 h2
        match t, h1 with
        | 0, h1 =>
          rw [s_cell_i h1] at h5
          exact va_alen hx hb hI.1 hW.2.1 (a - 4) 0 h5 (s_tys_0 S G) rfl hdg kk
        | t + 1, h1 =>
          rw [s_cell_r h1] at h5
          obtain ⟨j, hj⟩ := s_tys_r G (hW.2.2.2 a t z h1)
          exact va_alen hx hb hI.1 hW.2.1 (a - 4) j h5 hj rfl hdg kk
    · cases hs
  · cases hs
theorem s_d_iald (C : s_Cx S G TW p s m args meth c r) (hdg : decode (s_b r) pc = .ok (.iaload, n)) (hn : n = 1) (hs : s_x .iaload pc n L st h = some q) (k : s_W S G p l e R s m args below meth c Q N0 M0 q.1 q.2.1 q.2.2.1 q.2.2.2) : s_W S G p l e R s m args below meth c Q N0 M0 pc L st h := by
  obtain ⟨hx, hb, hml, hown, hts, hI, hini⟩ := C
  subst hn
  dsimp only [s_x] at hs
  split at hs
  next i a r0 =>
    split at hs
    next z heq =>
      split at hs
      · cases hs
      next ho =>
        cases hs
        intro hlen H locs ls hW hS hL
        obtain ⟨h1, h2, h3⟩ := s_Wd_len hW heq
        have kk := k hlen H locs ls hW hS hL
        rcases Nat.lt_or_ge a 4 with h4 | h4
        · obtain ⟨h5, h6⟩ := hW.2.2.1 a h4
          have e1 := h5.symm.trans h1
          cases e1
          obtain ⟨⟨scr, g1, g2, g3, g4, g5, g6, g7⟩, hlt⟩ := hI.2.1 a h4
          dsimp only at kk
          rw [h6] at kk
          have hin := s_vp_in ho
          have hlt2 : i.toNatClampNeg < s_Lc G a := Nat.not_le.mp fun q => hin (Or.inr q)
          exact W.iald (v := .int (s_xs G a i.toNatClampNeg)) hx hb (by rw [hS.2.1 _ (Array.getElem?_eq_some_iff.mp g1).1 g7]; exact g1) g2 g3 (fun z => hin (z.imp id (fun y => Nat.le_trans g4 y))) (g6 _ hlt2) rfl rfl hdg kk
        · have h5 := s_ws_at S G h h4 h2
          rw [s_cell_i h1] at h5
          exact va_iald hx hb hI.1 hW.2.1 (a - 4) 0 h5 (s_tys_0 S G) (s_vp_in ho) hdg kk
    · cases hs
  · cases hs
theorem s_d_iast (C : s_Cx S G TW p s m args meth c r) (hdg : decode (s_b r) pc = .ok (.iastore, n)) (hn : n = 1) (hs : s_x .iastore pc n L st h = some q) (k : s_W S G p l e R s m args below meth c Q N0 M0 q.1 q.2.1 q.2.2.1 q.2.2.2) : s_W S G p l e R s m args below meth c Q N0 M0 pc L st h := by
  obtain ⟨hx, hb, hml, hown, hts, hI, hini⟩ := C
  subst hn
  dsimp only [s_x] at hs
  split at hs
  next x i a r0 =>
    split at hs
    next z heq =>
      split at hs
      · cases hs
      next ho =>
        cases hs
        intro hlen H locs ls hW hS hL
        obtain ⟨h1, h2, h3⟩ := s_Wd_len hW heq
        have h4 : 4 ≤ a := Nat.not_lt.mp fun y => ho (Or.inr y)
        have h5 := s_ws_at S G h h4 h2
        rw [s_cell_i h1] at h5
        refine va_iast hx hb hI.1 hW.2.1 (s_ws_D hI h) hS (a - 4) 0 h5 (s_tys_0 S G) (s_vp_in fun y => ho (Or.inl y)) hdg (fun H1 locs1 hP1 _ hS1 => ?_)
        exact k hlen H1 locs1 ls (s_Wd_put (h2 := (s_upd h.1 a i.toNatClampNeg x, h.2)) hW h4 h2 rfl (fun j hj => ⟨if_neg hj, rfl⟩) (by rw [s_cell_i (by exact h1)]; show _ = Sum.inl (s_cA G 1, z, Sum.inl (s_upd h.1 a i.toNatClampNeg x a)); unfold s_upd; rw [if_pos rfl]) hP1) hS1 hL
    · cases hs
  · cases hs
theorem s_d_aald (C : s_Cx S G TW p s m args meth c r) (hdg : decode (s_b r) pc = .ok (.aaload, n)) (hn : n = 1) (hs : s_x .aaload pc n L st h = some q) (k : s_W S G p l e R s m args below meth c Q N0 M0 q.1 q.2.1 q.2.2.1 q.2.2.2) : s_W S G p l e R s m args below meth c Q N0 M0 pc L st h := by
  obtain ⟨hx, hb, hml, hown, hts, hI, hini⟩ := C
  subst hn
  dsimp only [s_x] at hs
  split at hs
  next i a r0 =>
    split at hs
    next t z heq =>
      split at hs
      · cases hs
      next ho =>
        intro hlen H locs ls hW hS hL
        obtain ⟨h1, h2, h3⟩ := s_Wd_len hW heq
        have h4 : 4 ≤ a := Nat.not_lt.mp fun y => ho (Or.inr y)
        have h5 := s_ws_at S G h h4 h2
        rw [s_cell_r h1] at h5
        obtain ⟨j, hj⟩ := s_tys_r G (hW.2.2.2 a t z h1)
        refine va_aldq hx hb hI.1 hW.2.1 (a - 4) j h5 hj (s_vp_in fun y => ho (Or.inl y)) hdg ?_
        split at hs
        next b hb2 =>
          cases hs
          rw [hb2]
          exact k hlen H locs ls hW hS hL
        next hb2 =>
          cases hs
          rw [hb2]
          exact k hlen H locs ls hW hS hL
    · cases hs
  · cases hs
theorem s_d_aast (C : s_Cx S G TW p s m args meth c r) (hrk : ∀ t ∈ s_rk S, 0 < s_N S t) (hdg : decode (s_b r) pc = .ok (.aastore, n)) (hn : n = 1) (hs : s_x .aastore pc n L st h = some q) (k : s_W S G p l e R s m args below meth c Q N0 M0 q.1 q.2.1 q.2.2.1 q.2.2.2) : s_W S G p l e R s m args below meth c Q N0 M0 pc L st h := by
  obtain ⟨hx, hb, hml, hown, hts, hI, hini⟩ := C
  subst hn
  dsimp only [s_x] at hs
  split at hs
  next b i a r0 =>
    split at hs
    next t z cc heq heq2 =>
      split at hs
      · cases hs
      next ho =>
        cases hs
        intro hlen H locs ls hW hS hL
        obtain ⟨h1, h2, h3⟩ := s_Wd_len hW heq
        obtain ⟨g1, g2, g3⟩ := s_Wd_len hW heq2
        have h4 : 4 ≤ a := Nat.not_lt.mp fun y => ho (Or.inr (Or.inl y))
        have g4 : 4 ≤ b := Nat.not_lt.mp fun y => ho (Or.inr (Or.inr (Or.inl y)))
        have hct : cc = t := Classical.byContradiction fun y => ho (Or.inr (Or.inr (Or.inr y)))
        subst hct
        have h5 := s_ws_at S G h h4 h2
        rw [s_cell_r h1] at h5
        have g5 := s_ws_at S G h g4 g2
        rw [s_cell_o g1] at g5
        have hmem := hW.2.2.2 a cc z h1
        obtain ⟨j, hj⟩ := s_tys_r G hmem
        obtain ⟨qc, e1, e2, e3, e4⟩ := s_cl_of (hrk _ hmem)
        rw [e4] at hj
        refine va_astq hx hb hI.1 hW.2.1 (s_ws_D hI h) hS (a - 4) j (b - 4) cc h5 hj g5 e1 (s_vp_in fun y => ho (Or.inl y)) hdg (fun H1 locs1 hP1 _ hS1 => ?_)
        refine k hlen H1 locs1 ls (s_Wd_put (h2 := (h.1, s_updR h.2.1 a i.toNatClampNeg (some b), h.2.2)) hW h4 h2 rfl (fun j hj => ⟨rfl, if_neg hj⟩) ?_ hP1) hS1 hL
        rw [s_cell_r (by exact h1)]
        have : (fun x => Option.map (s_ad G) (s_updR h.2.1 a i.toNatClampNeg (some b) a x)) = va_up (fun x => Option.map (s_ad G) (h.2.1 a x)) i.toNatClampNeg (some (s_ad G b)) := by
          funext x
          unfold s_updR va_up
          rw [if_pos rfl]
          by_cases y : x = i.toNatClampNeg
          · rw [if_pos y, if_pos y]; rfl
          · rw [if_neg y, if_neg y]
        show _ = Sum.inl (s_cA G (cc + 2), z, Sum.inr (Sum.inr (Sum.inr (Sum.inr (fun x => Option.map (s_ad G) (s_updR h.2.1 a i.toNatClampNeg (some b) a x))))))
        rw [this]
    · cases hs
  · cases hs
end HPS
end
section
section MKS
variable {p : Program} {l : Launch} {e : Env} {R : Room} {s : State} {m : MethodId} {args : Array Value} {below : List Frame} {meth : Method} {c : Code} {Q : State → Prop}
variable {S : s_SG} {G : s_DG} {TW : List Jvm.Cond} {r : sM} {N0 M0 pc n idx : Nat} {L st : List Value} {h : sHp} {q : sC}
theorem s_cell_new {t k i : Nat} (hi : i < h.2.2.length) : s_cell S G (s_new h t k) i = s_cell S G h i := by
  have e1 : (s_new h t k).2.2[i]? = h.2.2[i]? := by
    show (h.2.2 ++ [(t, k)])[i]? = _
    rw [List.getElem?_append_left hi]
  have e2 : (s_new h t k).1 i = h.1 i := if_neg (by omega)
  have e3 : (s_new h t k).2.1 i = h.2.1 i := if_neg (by omega)
  have e4 : ∀ cc, s_fv S G (s_new h t k) i cc = s_fv S G h i cc := fun cc => by funext x; unfold s_fv; rw [e2, e3]
  unfold s_cell
  rw [e1, e2, e3]
  simp only [e4]
theorem s_ws_new {t k : Nat} (h4 : 4 ≤ h.2.2.length) : s_ws S G (s_new h t k) = s_ws S G h ++ [(s_ad G h.2.2.length, s_cell S G (s_new h t k) h.2.2.length)] := by
  have hl : (s_new h t k).2.2.length = h.2.2.length + 1 := by show (h.2.2 ++ [(t, k)]).length = _; simp
  unfold s_ws
  rw [hl, show h.2.2.length + 1 - 4 = (h.2.2.length - 4) + 1 by omega, List.range_succ, List.map_append]
  congr 1
  · apply List.map_congr_left
    intro j hj
    rw [s_cell_new (by have := List.mem_range.mp hj; omega)]
  · rw [List.map_cons, List.map_nil, show h.2.2.length - 4 + 4 = h.2.2.length by omega]
theorem s_new_at {t k : Nat} : (s_new h t k).2.2[h.2.2.length]? = some (t, k) := by
  show (h.2.2 ++ [(t, k)])[h.2.2.length]? = _
  simp
theorem s_Wd_new {H H1 : Heap} {t k : Nat} (hW : s_Wd S G h H) (hrk : ∀ x, t = x + 2 → x ∈ s_rk S) (hP : va_P (s_D G) (s_cl S) (s_ws S G h ++ [(s_ad G h.2.2.length, s_cell S G (s_new h t k) h.2.2.length)]) H1) : s_Wd S G (s_new h t k) H1 := by
  have hl : (s_new h t k).2.2.length = h.2.2.length + 1 := by show (h.2.2 ++ [(t, k)]).length = _; simp
  have h4 := hW.1
  refine ⟨by rw [hl]; omega, by rw [s_ws_new h4]; exact hP, fun i hi => ?_, fun i x y hi => ?_⟩
  · have e1 : (s_new h t k).2.2[i]? = h.2.2[i]? := by
      show (h.2.2 ++ [(t, k)])[i]? = _
      rw [List.getElem?_append_left (by omega)]
    have e2 : (s_new h t k).1 i = h.1 i := if_neg (by omega)
    rw [e1, e2]
    exact hW.2.2.1 i hi
  · rcases Nat.lt_or_ge i h.2.2.length with z | z
    · have e1 : (s_new h t k).2.2[i]? = h.2.2[i]? := by
        show (h.2.2 ++ [(t, k)])[i]? = _
        rw [List.getElem?_append_left z]
      rw [e1] at hi
      exact hW.2.2.2 i x y hi
    · have hlt := (List.getElem?_eq_some_iff.mp hi).1
      rw [hl] at hlt
      have : i = h.2.2.length := by omega
      subst this
      rw [s_new_at] at hi
      cases hi
      exact hrk x rfl
/-- a new cell comes just behind the others -/
theorem s_at_end {T : State} {H1 : Heap} {locs : List Loc} {k1 n1 a : Nat} {ev : va_E} (hI : s_In S G s) (hsz : s.heap.size = s_B G + (N0 - 4)) (hN : 4 ≤ N0) (hN2 : N0 ≤ h.2.2.length) (hk1 : k1 = h.2.2.length - N0 + 1) (hP : va_P (s_D G) (s_cl S) (s_ws S G h ++ [(a, ev)]) H1) (hD : va_D (s_A G) (s_ws S G h ++ [(a, ev)])) (hT : T.heap = H1) (X : Stand p l e R s m args below meth c T locs k1 n1) : a = s_ad G h.2.2.length := by
  have hlen := s_ws_len S G h
  have hlast : (s_ws S G h ++ [(a, ev)])[h.2.2.length - 4]? = some (a, ev) := by
    rw [← hlen]
    simp
  have h1 := (hP _ _ hlast).lt
  have h2 := X.heapSize
  rw [hT] at h2
  have h3 : s_B G ≤ a := hD.2 _ _ hlast
  rw [s_ad_ge hI (by omega)]
  rcases Nat.lt_or_ge a (s_B G + (h.2.2.length - 4)) with z | z
  · exfalso
    have hj : (s_ws S G h ++ [(a, ev)])[a - s_B G]? = some (s_ad G (a - s_B G + 4), s_cell S G h (a - s_B G + 4)) := by
      rw [List.getElem?_append_left (by omega), s_ws_get, if_pos (by omega)]
    have := hD.1 _ _ _ _ hj hlast (by show s_ad G _ = a; rw [hI.2.2.2.1]; omega)
    omega
  · dsimp only at h1 h3
    omega
theorem s_d_new {ci : Nat} (C : s_Cx S G TW p s m args meth c r) (SK : s_SOK S TW) (hdf : ∀ k, k < s_N S ci → defaultValue (s_ty S ci k) = if s_kd (s_ty S ci k) = 2 then .null else .int 0) (hci : 0 < s_N S ci) (hsz : s.heap.size = s_B G + (N0 - 4)) (hN : 4 ≤ N0) (hN2 : N0 ≤ h.2.2.length) (hM2 : M0 ≤ s_sz S h.2.2) (hroom : q.2.2.2.2.2.length - N0 ≤ R.cells ∧ s_sz S q.2.2.2.2.2 - M0 ≤ R.slots) (hw1 : (Jvm.Cond.classLink (s_y r).cls idx (s_cn S ci)).before args s = true) (hw2 : (Jvm.Cond.instantiable (s_cn S ci) (s_N S ci)).before args s = true) (hw3 : (Jvm.Cond.initialized (s_cn S ci)).before args s = true) (hdg : decode (s_b r) pc = .ok (.new idx, n)) (hn : n = 3) (hs : s_x (.new ci) pc n L st h = some q) (k : s_W S G p l e R s m args below meth c Q N0 M0 q.1 q.2.1 q.2.2.1 q.2.2.2) : s_W S G p l e R s m args below meth c Q N0 M0 pc L st h := by
  obtain ⟨hx, hb, hml, hown, hts, hI, hini⟩ := C
  subst hn
  cases hs
  intro hlen H locs ls hW hS hL
  obtain ⟨qc, e1, e2, e3, e4⟩ := s_cl_of hci
  have hl : (s_new h 0 ci).2.2.length = h.2.2.length + 1 := by show (h.2.2 ++ [(0, ci)]).length = _; simp
  have hz : s_sz S (s_new h 0 ci).2.2 = s_sz S h.2.2 + s_N S ci := by
    show s_sz S (h.2.2 ++ [(0, ci)]) = _
    rw [s_sz_app]; rfl
  dsimp only at hroom k
  rw [hl, hz] at hroom
  rw [e4] at hw1 hw2 hw3
  rw [e2] at hw2
  have h4 := hW.1
  have hcell : s_cell S G (s_new h 0 ci) h.2.2.length = .inr (ci, (List.range (s_N S ci)).map (s_fv S G (s_new h 0 ci) h.2.2.length ci)) := s_cell_o s_new_at
  refine va_new (ci := ci) (fs := (List.range (s_N S ci)).map (s_fv S G (s_new h 0 ci) h.2.2.length ci)) (C := qc.1) (T := qc.2.1) (N := qc.2.2) hx hb hts (SK _ _ e1).1 (s_ty S ci) (SK _ _ e1).2.1 hown hw1 hw2 hw3 hI.1 hW.2.1 (s_ws_D hI h) hS (fun z hz => (by show s_B G ≤ z; omega)) e1 (fun j hj => ?_) (by omega) (by rw [← e2]; omega) hdg (fun a H1 hP1 hD1 hS1 => ?_)
  · rw [← e2] at hj
    rw [hdf j hj]
    unfold vp_V
    rw [List.getD_eq_getElem?_getD, s_fs_at hj]
    show _ = s_fv S G (s_new h 0 ci) h.2.2.length ci j
    unfold s_fv
    have z1 : (s_new h 0 ci).1 h.2.2.length j = 0 := by show (if _ then _ else _ : Nat → Int32) j = 0; rw [if_pos rfl]
    have z2 : (s_new h 0 ci).2.1 h.2.2.length j = none := by show (if _ then _ else _ : Nat → Option Nat) j = none; rw [if_pos rfl]
    rw [z1, z2]
    rfl
  · intro T hT X
    have ha := s_at_end hI hsz hN hN2 rfl hP1 hD1 hT X
    subst ha
    rw [← hcell] at hP1
    have hW1 := s_Wd_new hW (fun x hx => (by cases hx)) hP1
    have kk := k hlen H1 locs ls hW1 hS1 hL
    rw [hl, hz, e2, show h.2.2.length + 1 - N0 = h.2.2.length - N0 + 1 by omega, show s_sz S h.2.2 + qc.2.2 - M0 = s_sz S h.2.2 - M0 + qc.2.2 by omega] at kk
    exact kk T hT X
theorem s_d_newa (C : s_Cx S G TW p s m args meth c r) (hsz : s.heap.size = s_B G + (N0 - 4)) (hN : 4 ≤ N0) (hN2 : N0 ≤ h.2.2.length) (hM2 : M0 ≤ s_sz S h.2.2) (hroom : q.2.2.2.2.2.length - N0 ≤ R.cells ∧ s_sz S q.2.2.2.2.2 - M0 ≤ R.slots) (hw1 : (Jvm.Cond.arrayClass .int).before args s = true) (hdg : decode (s_b r) pc = .ok (.newarray .int, n)) (hn : n = 2) (hs : s_x (.newarray .int) pc n L st h = some q) (k : s_W S G p l e R s m args below meth c Q N0 M0 q.1 q.2.1 q.2.2.1 q.2.2.2) : s_W S G p l e R s m args below meth c Q N0 M0 pc L st h := by
  obtain ⟨hx, hb, hml, hown, hts, hI, hini⟩ := C
  subst hn
  dsimp only [s_x] at hs
  split at hs
  next z r0 =>
    split at hs
    · cases hs
    next hz0 =>
      cases hs
      intro hlen H locs ls hW hS hL
      have hl : (s_new h 1 z.toNatClampNeg).2.2.length = h.2.2.length + 1 := by show (h.2.2 ++ [_]).length = _; simp
      have hz : s_sz S (s_new h 1 z.toNatClampNeg).2.2 = s_sz S h.2.2 + z.toNatClampNeg := by
        show s_sz S (h.2.2 ++ [(1, _)]) = _
        rw [s_sz_app]; rfl
      dsimp only at hroom k
      rw [hl, hz] at hroom
      have h4 := hW.1
      have hcell : s_cell S G (s_new h 1 z.toNatClampNeg) h.2.2.length = .inl (s_cA G 1, z.toNatClampNeg, .inl (fun _ => 0)) := by
        rw [s_cell_i s_new_at]
        have z1 : (s_new h 1 z.toNatClampNeg).1 h.2.2.length = fun _ => 0 := if_pos rfl
        rw [z1]
      have hle : z.toNatClampNeg ≤ 65536 := by
        have h9 : z.toInt ≤ 65536 := Int.not_lt.mp (fun y => hz0 (Or.inr (Int32.lt_iff_toInt_lt.mpr y)))
        show z.toInt.toNat ≤ 65536
        omega
      refine va_newa (atype := .int) (ty := .int) (a0 := (z.toNatClampNeg, .inl (fun _ => 0))) hx hb hw1 rfl hI.1 hW.2.1 (s_ws_D hI h) hS (fun y hy => (by show s_B G ≤ y; omega)) (fun cA => rfl) (fun y => hz0 (Or.inl y)) rfl (by show _ * 4 ≤ _; omega) (by omega) (by omega) hdg (fun a cA H1 hK1 hP1 hD1 hS1 => ?_)
      intro T hT X
      have ha := s_at_end hI hsz hN hN2 rfl hP1 hD1 hT X
      subst ha
      have hcA : cA = s_cA G 1 := by
        have g1 := (hK1.2 (s_tys S G).length (cA, .int) (by simp)).2
        have g2 := (hI.1.2 0 (s_cA G 1, .int) rfl).2
        exact Option.some.inj (g1.symm.trans g2)
      subst hcA
      rw [← hcell] at hP1
      have hW1 := s_Wd_new hW (fun x hx => (by cases hx)) hP1
      have kk := k hlen H1 locs ls hW1 hS1 hL
      rw [hl, hz, show h.2.2.length + 1 - N0 = h.2.2.length - N0 + 1 by omega, show s_sz S h.2.2 + z.toNatClampNeg - M0 = s_sz S h.2.2 - M0 + z.toNatClampNeg by omega] at kk
      exact kk T hT X
  · cases hs
theorem s_d_newq {t : Nat} (C : s_Cx S G TW p s m args meth c r) (ht : t ∈ s_rk S) (hsz : s.heap.size = s_B G + (N0 - 4)) (hN : 4 ≤ N0) (hN2 : N0 ≤ h.2.2.length) (hM2 : M0 ≤ s_sz S h.2.2) (hroom : q.2.2.2.2.2.length - N0 ≤ R.cells ∧ s_sz S q.2.2.2.2.2 - M0 ≤ R.slots) (hw1 : (Jvm.Cond.classLink (s_y r).cls idx (s_cn S t)).before args s = true) (hw2 : va_Nw (.arrayOver (.object (s_cn S t))) s) (hdg : decode (s_b r) pc = .ok (.anewarray idx, n)) (hn : n = 3) (hs : s_x (.anewarray t) pc n L st h = some q) (k : s_W S G p l e R s m args below meth c Q N0 M0 q.1 q.2.1 q.2.2.1 q.2.2.2) : s_W S G p l e R s m args below meth c Q N0 M0 pc L st h := by
  obtain ⟨hx, hb, hml, hown, hts, hI, hini⟩ := C
  subst hn
  dsimp only [s_x] at hs
  split at hs
  next z r0 =>
    split at hs
    · cases hs
    next hz0 =>
      cases hs
      intro hlen H locs ls hW hS hL
      have hl : (s_new h (t + 2) z.toNatClampNeg).2.2.length = h.2.2.length + 1 := by show (h.2.2 ++ [_]).length = _; simp
      have hz : s_sz S (s_new h (t + 2) z.toNatClampNeg).2.2 = s_sz S h.2.2 + z.toNatClampNeg := by
        show s_sz S (h.2.2 ++ [(t + 2, _)]) = _
        rw [s_sz_app]; rfl
      dsimp only at hroom k
      rw [hl, hz] at hroom
      have h4 := hW.1
      have hcell : s_cell S G (s_new h (t + 2) z.toNatClampNeg) h.2.2.length = .inl (s_cA G (t + 2), z.toNatClampNeg, .inr (.inr (.inr (.inr (fun _ => none))))) := by
        rw [s_cell_r s_new_at]
        have z1 : (s_new h (t + 2) z.toNatClampNeg).2.1 h.2.2.length = fun _ => none := if_pos rfl
        rw [z1]
        rfl
      have hle : z.toNatClampNeg ≤ 65536 := by
        have h9 : z.toInt ≤ 65536 := Int.not_lt.mp (fun y => hz0 (Or.inr (Int32.lt_iff_toInt_lt.mpr y)))
        show z.toInt.toNat ≤ 65536
        omega
      refine va_newq hx hb hown hw1 hw2 hI.1 hW.2.1 (s_ws_D hI h) hS (fun y hy => (by show s_B G ≤ y; omega)) (fun y => hz0 (Or.inl y)) rfl (by omega) (by omega) (by omega) hdg (fun a cA H1 hK1 hP1 hD1 hS1 => ?_)
      intro T hT X
      have ha := s_at_end hI hsz hN hN2 rfl hP1 hD1 hT X
      subst ha
      have hcA : cA = s_cA G (t + 2) := by
        obtain ⟨_, _, _, _, _, g1⟩ := (hK1.2 (s_tys S G).length (cA, .object (s_cn S t)) (by simp)).2
        obtain ⟨j, hj⟩ := s_tys_r G ht
        obtain ⟨_, _, _, _, _, g2⟩ := (hI.1.2 j _ hj).2
        exact Option.some.inj (g1.symm.trans g2)
      subst hcA
      rw [← hcell] at hP1
      have hW1 := s_Wd_new hW (fun x hx => (by cases hx; exact ht)) hP1
      have kk := k hlen H1 locs ls hW1 hS1 hL
      rw [hl, hz, show h.2.2.length + 1 - N0 = h.2.2.length - N0 + 1 by omega, show s_sz S h.2.2 + z.toNatClampNeg - M0 = s_sz S h.2.2 - M0 + z.toNatClampNeg by omega] at kk
      exact kk T hT X
  · cases hs
theorem s_d_obj (C : s_Cx S G TW p s m args meth c r) (hRf : 1 ≤ R.frames) (hRl : 26 ≤ R.locals) (hw1 : (Jvm.Cond.methodLink (s_y r).cls idx Lib.objectInit).before args s = true) (hw2 : (Jvm.Cond.instanceMethod Lib.objectInit).before args s = true) (hw3 : (Jvm.Cond.code Lib.objectInit ⟨#[0xb1]⟩ 1 none).before args s = true) (hdg : decode (s_b r) pc = .ok (.invokespecial idx, n)) (hn : n = 3) (hs : s_x (.monitorenter) pc n L st h = some q) (k : s_W S G p l e R s m args below meth c Q N0 M0 q.1 q.2.1 q.2.2.1 q.2.2.2) : s_W S G p l e R s m args below meth c Q N0 M0 pc L st h := by
  obtain ⟨hx, hb, hml, hown, hts, hI, hini⟩ := C
  subst hn
  dsimp only [s_x] at hs
  split at hs
  next a r0 =>
    split at hs
    · cases hs
    next hc =>
      cases hs
      intro hlen H locs ls hW hS hL
      have h1 := s_cat_sum G r0
      refine W.objInit (g := F0 m pc ls (.ref (s_ad G a) :: r0.map (s_vc G))) hx hb hown hw1 hw2 hw3 rfl (by show ls.size = _; rw [hL.1, hlen]) rfl hdg hRf (by show 2 * 0 + _ + 12 ≤ _; omega) ?_
      exact W.eq rfl (k hlen H locs ls hW hS hL)
  · cases hs
theorem s_d_d2r (C : s_Cx S G TW p s m args meth c r) (hRf : 1 ≤ R.frames) (hRl : 26 ≤ R.locals) (hw1 : (Jvm.Cond.methodLink (s_y r).cls idx ⟨"java/lang/Double", "doubleToRawLongBits", "(D)J"⟩).before args s = true) (hw2 : (Jvm.Cond.native ⟨"java/lang/Double", "doubleToRawLongBits", "(D)J"⟩).before args s = true) (hw3 : (Jvm.Cond.static ⟨"java/lang/Double", "doubleToRawLongBits", "(D)J"⟩).before args s = true) (hw4 : (Jvm.Cond.initialized "java/lang/Double").before args s = true) (hdg : decode (s_b r) pc = .ok (.invokestatic idx, n)) (hn : n = 3) (hs : s_x (.nop) pc n L st h = some q) (k : s_W S G p l e R s m args below meth c Q N0 M0 q.1 q.2.1 q.2.2.1 q.2.2.2) : s_W S G p l e R s m args below meth c Q N0 M0 pc L st h := by
  obtain ⟨hx, hb, hml, hown, hts, hI, hini⟩ := C
  subst hn
  dsimp only [s_x] at hs
  split at hs
  next a r0 =>
    split at hs
    · cases hs
    next hc =>
      cases hs
      intro hlen H locs ls hW hS hL
      have h1 := s_cat_sum G r0
      exact vn_d2l hx hb (by rw [hL.1, hlen]) hown hw1 hw2 hw3 hw4 hRf (by omega) hdg (k hlen H locs ls hW hS hL)
  · cases hs
theorem s_d_f2r (C : s_Cx S G TW p s m args meth c r) (hRf : 1 ≤ R.frames) (hRl : 26 ≤ R.locals) (hw1 : (Jvm.Cond.methodLink (s_y r).cls idx ⟨"java/lang/Float", "floatToRawIntBits", "(F)I"⟩).before args s = true) (hw2 : (Jvm.Cond.native ⟨"java/lang/Float", "floatToRawIntBits", "(F)I"⟩).before args s = true) (hw3 : (Jvm.Cond.static ⟨"java/lang/Float", "floatToRawIntBits", "(F)I"⟩).before args s = true) (hw4 : (Jvm.Cond.initialized "java/lang/Float").before args s = true) (hdg : decode (s_b r) pc = .ok (.invokestatic idx, n)) (hn : n = 3) (hs : s_x (.swap) pc n L st h = some q) (k : s_W S G p l e R s m args below meth c Q N0 M0 q.1 q.2.1 q.2.2.1 q.2.2.2) : s_W S G p l e R s m args below meth c Q N0 M0 pc L st h := by
  obtain ⟨hx, hb, hml, hown, hts, hI, hini⟩ := C
  subst hn
  dsimp only [s_x] at hs
  split at hs
  next a r0 =>
    split at hs
    · cases hs
    next hc =>
      cases hs
      intro hlen H locs ls hW hS hL
      have h1 := s_cat_sum G r0
      exact vn_f2i hx hb (by rw [hL.1, hlen]) hown hw1 hw2 hw3 hw4 hRf (by omega) hdg (k hlen H locs ls hW hS hL)
  · cases hs
theorem s_d_acpy (C : s_Cx S G TW p s m args meth c r) (hRf : 1 ≤ R.frames) (hRl : 26 ≤ R.locals) (hw1 : (Jvm.Cond.methodLink (s_y r).cls idx arraycopyName).before args s = true) (hw2 : (Jvm.Cond.native arraycopyName).before args s = true) (hw3 : (Jvm.Cond.static arraycopyName).before args s = true) (hw4 : (Jvm.Cond.initialized "java/lang/System").before args s = true) (hdg : decode (s_b r) pc = .ok (.invokestatic idx, n)) (hn : n = 3) (hs : s_x (.monitorexit) pc n L st h = some q) (k : s_W S G p l e R s m args below meth c Q N0 M0 q.1 q.2.1 q.2.2.1 q.2.2.2) : s_W S G p l e R s m args below meth c Q N0 M0 pc L st h := by
  obtain ⟨hx, hb, hml, hown, hts, hI, hini⟩ := C
  subst hn
  dsimp only [s_x] at hs
  split at hs
  next kn dp b sp a r0 =>
    split at hs
    next na nb heq heq2 =>
      split at hs
      · cases hs
      next hc =>
        cases hs
        intro hlen H locs ls hW hS hL
        simp only [not_or, Nat.not_lt] at hc
        obtain ⟨c1, c2, c3, c4, c5, c6, c7, c8⟩ := hc
        obtain ⟨h1, h2, -⟩ := s_Wd_len hW heq
        obtain ⟨g1, g2, -⟩ := s_Wd_len hW heq2
        have h5 := s_ws_at S G h c7 h2
        rw [s_cell_i h1] at h5
        have g5 := s_ws_at S G h c8 g2
        rw [s_cell_i g1] at g5
        have hcat := s_cat_sum G r0
        have hnf : nativeFrameWords "java/lang/System" "arraycopy" 5 = 7 := by decide +kernel
        refine va_copyi (ty := .int) hx hb (by rw [hL.1, hlen]) hown hw1 hw2 hw3 hw4 hI.1 hW.2.1 (s_ws_D hI h) hS (a - 4) (b - 4) 0 0 h5 g5 (s_tys_0 S G) (s_tys_0 S G) rfl c2 c3 c4 c5 c6 (fun i hi => rfl) hRf (by omega) hdg (fun H1 locs1 hP1 _ hS1 => ?_)
        refine k hlen H1 locs1 ls (s_Wd_put (h2 := (fun i => if i = b then va_cpy (h.1 a) (h.1 b) sp.toNatClampNeg dp.toNatClampNeg kn.toNatClampNeg else h.1 i, h.2)) hW c8 g2 rfl (fun j hj => ⟨if_neg hj, rfl⟩) ?_ hP1) hS1 hL
        rw [s_cell_i (by exact g1)]
        show _ = Sum.inl (s_cA G 1, nb, Sum.inl (if b = b then _ else _))
        rw [if_pos rfl]
    · cases hs
  · cases hs
theorem s_ldcwf {v : UInt32} {cc : ByteArray} {H : Heap} {locs : List Loc} {ls : Array Slot} {rest : List Value} {cells slots : Nat} (hexec : p.tables.exec = Jvm.exec) (hb : c.code = cc) {own : String} {index : Nat} (hown : s.vm.findClass own = some m.cls) (hconst : (Jvm.Cond.constantFloat own index v).before args s = true) (hdg : decode cc pc = .ok (.ldc_w index, 3)) (k : W p l e R s m args below meth c H locs cells slots Q (F0 m (pc + 3) ls (.float v :: rest))) : W p l e R s m args below meth c H locs cells slots Q (F0 m pc ls rest) := by
  intro T hT X
  obtain ⟨t, a, b⟩ := k T hT X
  refine ⟨t, ?_, b⟩
  obtain ⟨k0, cf, hk, hcf, hcp⟩ := Cond.constantFloat_spec hown hconst
  obtain ⟨k', hk', he⟩ := X.warmed.alike.2.2 _ _ hk
  subst hb
  jvm_step X.here [hexec, hdg, ldc_w.wp_float (s := T) (f := F0 m pc ls rest) X.here.top hk' (by rw [he]; exact hcf) hcp]
  exact a
theorem s_d_ldcwf {v z : Nat} (C : s_Cx S G TW p s m args meth c r) (hw : (Jvm.Cond.constantFloat (s_y r).cls idx (UInt32.ofNat v)).before args s = true) (hdg : decode (s_b r) pc = .ok (.ldc_w idx, n)) (hn : n = 3) (hs : s_x (.multianewarray v z) pc n L st h = some q) (k : s_W S G p l e R s m args below meth c Q N0 M0 q.1 q.2.1 q.2.2.1 q.2.2.2) : s_W S G p l e R s m args below meth c Q N0 M0 pc L st h := by
  obtain ⟨hx, hb, hml, hown, hts, hI, hini⟩ := C
  subst hn
  cases hs
  intro hlen H locs ls hW hS hL
  exact s_ldcwf hx hb hown hw hdg (k hlen H locs ls hW hS hL)
theorem s_d_mmax {z : Int} (C : s_Cx S G TW p s m args meth c r) (hRf : 1 ≤ R.frames) (hRl : 26 ≤ R.locals) (hroom : q.2.2.2.2.2.length - N0 ≤ R.cells ∧ s_sz S q.2.2.2.2.2 - M0 ≤ R.slots) (hw1 : (Jvm.Cond.methodLink (s_y r).cls idx Lib.Math.max.name).before args s = true) (hw2 : (Jvm.Cond.static Lib.Math.max.name).before args s = true) (hw3 : (Jvm.Cond.initialized "java/lang/Math").before args s = true) (hw4 : (Jvm.Cond.code Lib.Math.max.name Lib.Math.max.code 2 (some .int)).before args s = true) (hdg : decode (s_b r) pc = .ok (.invokestatic idx, n)) (hn : n = 3) (hs : s_x (.jsr z) pc n L st h = some q) (k : s_W S G p l e R s m args below meth c Q N0 M0 q.1 q.2.1 q.2.2.1 q.2.2.2) : s_W S G p l e R s m args below meth c Q N0 M0 pc L st h := by
  obtain ⟨hx, hb, hml, hown, hts, hI, hini⟩ := C
  subst hn
  dsimp only [s_x] at hs
  split at hs
  next y x r0 =>
    split at hs
    · cases hs
    next hc =>
      cases hs
      intro hlen H locs ls hW hS hL
      have h1 := s_cat_sum G r0
      exact va_mmax hx hb (by rw [hL.1, hlen]) hown hw1 hw2 hw3 hw4 hRf (by omega) hroom.1 hroom.2 hdg (k hlen H locs ls hW hS hL)
  · cases hs
theorem s_d_mmin {z : Int} (C : s_Cx S G TW p s m args meth c r) (hRf : 1 ≤ R.frames) (hRl : 26 ≤ R.locals) (hroom : q.2.2.2.2.2.length - N0 ≤ R.cells ∧ s_sz S q.2.2.2.2.2 - M0 ≤ R.slots) (hw1 : (Jvm.Cond.methodLink (s_y r).cls idx Lib.Math.min.name).before args s = true) (hw2 : (Jvm.Cond.static Lib.Math.min.name).before args s = true) (hw3 : (Jvm.Cond.initialized "java/lang/Math").before args s = true) (hw4 : (Jvm.Cond.code Lib.Math.min.name Lib.Math.min.code 2 (some .int)).before args s = true) (hdg : decode (s_b r) pc = .ok (.invokestatic idx, n)) (hn : n = 3) (hs : s_x (.jsr_w z) pc n L st h = some q) (k : s_W S G p l e R s m args below meth c Q N0 M0 q.1 q.2.1 q.2.2.1 q.2.2.2) : s_W S G p l e R s m args below meth c Q N0 M0 pc L st h := by
  obtain ⟨hx, hb, hml, hown, hts, hI, hini⟩ := C
  subst hn
  dsimp only [s_x] at hs
  split at hs
  next y x r0 =>
    split at hs
    · cases hs
    next hc =>
      cases hs
      intro hlen H locs ls hW hS hL
      have h1 := s_cat_sum G r0
      exact va_mmin hx hb (by rw [hL.1, hlen]) hown hw1 hw2 hw3 hw4 hRf (by omega) hroom.1 hroom.2 hdg (k hlen H locs ls hW hS hL)
  · cases hs
end MKS
end
section
/-! A ROW OF A METHOD'S CODE, CHECKED: its decoding, its words, its side conditions -/
abbrev sMT : Type := Nat → Option (sM × Option Nat)
def s_rel (pc idx : Nat) : Instr → Instr
  | .goto t => .goto (t - (pc : Int))
  | .ifCond c t => .ifCond c (t - (pc : Int))
  | .if_icmp c t => .if_icmp c (t - (pc : Int))
  | .ifnull t => .ifnull (t - (pc : Int))
  | .ifnonnull t => .ifnonnull (t - (pc : Int))
  | .tableswitch d lo hi o => .tableswitch (d - (pc : Int)) lo hi (o.map (fun t => t - (pc : Int)))
  | .lookupswitch d o => .lookupswitch (d - (pc : Int)) (o.map fun q => (q.1, q.2 - (pc : Int)))
  | .getfield _ => .getfield idx
  | .putfield _ => .putfield idx
  | .getstatic _ => .getstatic idx
  | .instanceof _ => .getstatic idx
  | .invokevirtual _ => .invokevirtual idx
  | .invokestatic _ => .invokestatic idx
  | .invokespecial _ => .invokespecial idx
  | .invokeinterface _ _ => .invokespecial idx
  | .monitorenter => .invokespecial idx
  | .monitorexit => .invokestatic idx
  | .nop => .invokestatic idx
  | .jsr _ => .invokestatic idx
  | .jsr_w _ => .invokestatic idx
  | .swap => .invokestatic idx
  | .new _ => .new idx
  | .anewarray _ => .anewarray idx
  | .ldc _ => .ldc idx
  | .ldc_w _ => .ldc_w idx
  | .ldc2_w _ => .ldc2_w idx
  | .ret _ => .ldc idx
  | .multianewarray _ _ => .ldc_w idx
  | .putstatic _ => .ldc2_w idx
  | i => i
/-- the length that an instruction has; 0: any -/
def s_ln : Instr → Nat
  | .bipush _ | .ldc _ | .ret _ | .iload _ | .lload _ | .istore _ | .lstore _ | .aload _ | .astore _ | .newarray _ => 2
  | .sipush _ | .ldc_w _ | .ldc2_w _ | .putstatic _ | .multianewarray _ _ | .iinc _ _ | .goto _ | .ifCond _ _ | .if_icmp _ _ | .ifnull _ | .ifnonnull _ | .getfield _ | .putfield _ | .getstatic _ | .instanceof _ => 3
  | .invokevirtual _ | .invokestatic _ | .invokespecial _ | .invokeinterface _ _ | .monitorenter | .monitorexit | .nop | .jsr _ | .jsr_w _ | .swap | .new _ | .anewarray _ => 3
  | .tableswitch _ _ _ _ | .lookupswitch _ _ => 0
  | _ => 1
def s_dl : MethodName := ⟨"java/lang/Double", "doubleToRawLongBits", "(D)J"⟩
def s_fi : MethodName := ⟨"java/lang/Float", "floatToRawIntBits", "(F)I"⟩
def s_wf (S : s_SG) (own : String) (idx ev : Nat) : Jvm.Cond := .fieldLink own idx (s_F S (ev / 1024) (ev % 1024 / 8)).1 (s_F S (ev / 1024) (ev % 1024 / 8)).2.1 (s_F S (ev / 1024) (ev % 1024 / 8)).2.2.1
def s_wc (MT : sMT) (k : Nat) (f : sM → List Jvm.Cond) : List Jvm.Cond := match MT k with
  | some q => f q.1
  | none => []
def s_wds (S : s_SG) (MT : sMT) (own : String) (idx : Nat) : Instr → List Jvm.Cond
  | .getfield ev => [s_wf S own idx ev]
  | .putfield ev => [s_wf S own idx ev]
  | .getstatic j => [.fieldLink own idx (s_sn S j).1 (s_sn S j).2.1 (s_sn S j).2.2]
  | .invokevirtual k => s_wc MT k fun r => [.methodLink own idx (s_y r), .instanceMethod (s_y r), .selects (s_y r).cls (s_y r) (s_y r), .initialized (s_y r).cls, .code (s_y r) (s_b r) (s_mL r) (s_rt r)]
  | .invokestatic k => s_wc MT k fun r => [.methodLink own idx (s_y r), .static (s_y r), .initialized (s_y r).cls, .code (s_y r) (s_b r) (s_mL r) (s_rt r)]
  | .invokespecial k => s_wc MT k fun r => [.methodLink own idx (s_y r), .instanceMethod (s_y r), .initialized (s_y r).cls, .code (s_y r) (s_b r) (s_mL r) (s_rt r)]
  | .invokeinterface k _ => s_wc MT k fun r => [.instanceMethod (s_y r), .initialized (s_y r).cls, .code (s_y r) (s_b r) (s_mL r) (s_rt r)]
  | .monitorenter => [.methodLink own idx Lib.objectInit, .instanceMethod Lib.objectInit, .code Lib.objectInit ⟨#[0xb1]⟩ 1 none]
  | .monitorexit => [.methodLink own idx arraycopyName, .native arraycopyName, .static arraycopyName, .initialized "java/lang/System"]
  | .jsr _ => [.methodLink own idx Lib.Math.max.name, .static Lib.Math.max.name, .initialized "java/lang/Math", .code Lib.Math.max.name Lib.Math.max.code 2 (some .int)]
  | .jsr_w _ => [.methodLink own idx Lib.Math.min.name, .static Lib.Math.min.name, .initialized "java/lang/Math", .code Lib.Math.min.name Lib.Math.min.code 2 (some .int)]
  | .nop => [.methodLink own idx s_dl, .native s_dl, .static s_dl, .initialized "java/lang/Double"]
  | .swap => [.methodLink own idx s_fi, .native s_fi, .static s_fi, .initialized "java/lang/Float"]
  | .new c => [.classLink own idx (s_cn S c), .instantiable (s_cn S c) (s_N S c), .initialized (s_cn S c)]
  | .newarray _ => [.arrayClass .int]
  | .anewarray t => [.classLink own idx (s_cn S t)]
  | .ldc v => [.constant own idx (Int32.ofNat v)]
  | .ldc_w v => [.constant own idx (Int32.ofNat v)]
  | .ldc2_w v => [.constantLong own idx (Int64.ofNat v)]
  | .ret v => [.constantFloat own idx (UInt32.ofNat v)]
  | .multianewarray v _ => [.constantFloat own idx (UInt32.ofNat v)]
  | .putstatic v => [.constantDouble own idx (UInt64.ofNat v)]
  | _ => []
def s_rfT : FieldType → Bool
  | .object _ => true
  | .array _ => true
  | _ => false
/-- may r call r2 (as: how many arguments beside the receiver) -/
def s_okc (r r2 : sM) (init : Bool) (n : Nat) : Bool := decide (s_fr r2 + 1 ≤ s_fr r) && decide (8 + (s_mL r2 + 11) + s_lo r2 ≤ s_lo r) && decide ((s_y r2).cls ≠ "java/lang/invoke/MethodHandle") && decide ((s_y r2).cls ≠ "java/lang/invoke/VarHandle") && decide ((parseMethodDescriptor (s_y r2).desc).map (fun d => d.parameters.length) = some n) && (!init || (decide ((s_y r2).name = "<init>") && decide (s_rt r2 = none)))
def s_sd (S : s_SG) (MT : sMT) (host : String) (r : sM) (idx : Nat) : Instr → Bool
  | .goto t | .ifCond _ t | .if_icmp _ t | .ifnull t | .ifnonnull t => decide (0 ≤ t)
  | .tableswitch d _ _ o => decide (0 ≤ d) && o.toList.all (fun t => decide (0 ≤ t))
  | .lookupswitch d o => decide (0 ≤ d) && o.toList.all (fun t => decide (0 ≤ t.2))
  | .getfield ev => decide (ev % 1024 / 8 < s_N S (ev / 1024)) && decide (ev % 8 = s_kd (s_ty S (ev / 1024) (ev % 1024 / 8)))
  | .putfield ev => decide (ev % 1024 / 8 < s_N S (ev / 1024)) && decide (ev % 8 = s_kd (s_ty S (ev / 1024) (ev % 1024 / 8))) && (decide (ev % 8 ≠ 2) || s_rfT (s_ty S (ev / 1024) (ev % 1024 / 8))) && (!(s_F S (ev / 1024) (ev % 1024 / 8)).2.2.2 || (decide ((s_y r).name = "<init>") && decide ((s_F S (ev / 1024) (ev % 1024 / 8)).1 = (s_y r).cls)))
  | .getstatic j => decide (j < s_ns S)
  | .instanceof j => decide (j < s_ns S) && decide (Jvm.Cond.fieldLinkNest (s_y r).cls idx (s_sn S j).1 (s_sn S j).2.1 (s_sn S j).2.2 host ∈ s_nw S)
  | .new c => decide (0 < s_N S c)
  | .anewarray t => decide (t ∈ s_rk S) && decide (Jvm.Cond.arrayOver (.object (s_cn S t)) ∈ s_nw S)
  | .newarray a => decide (a = .int)
  | .monitorenter | .monitorexit | .nop | .jsr _ | .jsr_w _ | .swap => decide (1 ≤ s_fr r) && decide (26 ≤ s_lo r)
  | .invokevirtual k => (match MT k with
    | some (r2, some c) => decide (s_na r2 = s_na r2 - 1 + 1) && s_okc r r2 false (s_na r2 - 1) && decide (s_cn S c = (s_y r2).cls) && decide (0 < s_N S c)
    | _ => false)
  | .invokestatic k => (match MT k with
    | some (r2, _) => s_okc r r2 false (s_na r2)
    | _ => false)
  | .invokespecial k => (match MT k with
    | some (r2, _) => decide (s_na r2 = s_na r2 - 1 + 1) && s_okc r r2 true (s_na r2 - 1)
    | _ => false)
  | .invokeinterface k _ => (match MT k with
    | some (r2, _) => decide (s_na r2 = s_na r2 - 1 + 1) && s_okc r r2 true (s_na r2 - 1) && decide (Jvm.Cond.methodLinkNest (s_y r).cls idx (s_y r2) host ∈ s_nw S)
    | _ => false)
  | _ => true
def s_so (pc : Nat) : Instr → Bool
  | .lookupswitch _ o => ((o.map fun q => (q.1, q.2 - (pc : Int))).toList.zip ((o.map fun q => (q.1, q.2 - (pc : Int))).toList.drop 1)).all (fun (a, next) => a.1 < next.1)
  | _ => true
def s_chk (S : s_SG) (MT : sMT) (big : List Jvm.Cond) (host : String) (r : sM) (e : sE) : Bool :=
  decide (decode (s_b r) e.1 = .ok (s_rel e.1 e.2.2.2.1 e.2.1, e.2.2.1)) && (decide (s_ln e.2.1 = 0) || decide (e.2.2.1 = s_ln e.2.1)) && decide ((s_wds S MT (s_y r).cls e.2.2.2.1 e.2.1).map some = e.2.2.2.2.map (fun i => big[i]?)) && (s_wds S MT (s_y r).cls e.2.2.2.1 e.2.1).all goodWord && s_sd S MT host r e.2.2.2.1 e.2.1 && s_so e.1 e.2.1
/-- every row of every method is checked -/
def s_Chk (S : s_SG) (MT : sMT) (big : List Jvm.Cond) (host : String) : Prop := ∀ (k : Nat) (r : sM) (cn : Option Nat), MT k = some (r, cn) → (∀ e ∈ s_cd r, s_chk S MT big host r e = true) ∧ plainFor (s_y r) = true ∧ (∀ c, cn = some c → s_cn S c = (s_y r).cls ∧ 0 < s_N S c)
def s_TW (big : List Jvm.Cond) : List Jvm.Cond := big.filter goodWord
theorem s_TW_good (big : List Jvm.Cond) : ∀ w ∈ s_TW big, goodWord w = true := fun w h => (List.mem_filter.mp h).2
theorem s_wds_in {S : s_SG} {MT : sMT} {big : List Jvm.Cond} {own : String} {idx : Nat} {i : Instr} {pl : List Nat} (h1 : (s_wds S MT own idx i).map some = pl.map (fun i => big[i]?)) (h2 : (s_wds S MT own idx i).all goodWord = true) : ∀ w ∈ s_wds S MT own idx i, w ∈ s_TW big := by
  intro w hw
  refine List.mem_filter.mpr ⟨?_, List.all_eq_true.mp h2 w hw⟩
  have : some w ∈ pl.map (fun i => big[i]?) := by
    rw [← h1]
    exact List.mem_map.mpr ⟨w, hw, rfl⟩
  obtain ⟨j, -, hj⟩ := List.mem_map.mp this
  exact List.mem_of_getElem? hj
/-- what else the classes must show -/
def s_SD (S : s_SG) : Prop := (∀ t ∈ s_rk S, 0 < s_N S t) ∧ (∀ c k, k < s_N S c → defaultValue (s_ty S c k) = if s_kd (s_ty S c k) = 2 then .null else .int 0)
section RNS
variable {p : Program} {l : Launch} {e : Env} {R : Room} {s : State} {m : MethodId} {args : Array Value} {below : List Frame} {meth : Method} {c : Code} {Q : State → Prop}
variable {S : s_SG} {G : s_DG} {MT : sMT} {big : List Jvm.Cond} {host : String} {r : sM} {N0 M0 : Nat} {L st : List Value} {h : sHp} {q : sC}
theorem s_mem1 {a : Jvm.Cond} {l : List Jvm.Cond} : a ∈ a :: l := List.mem_cons_self
/-- ONE STEP -/
theorem s_one {ev : sE} (C : s_Cx S G (s_TW big) p s m args meth c r) (SK : s_SOK S (s_TW big)) (SD : s_SD S) (hck : s_chk S MT big host r ev = true) (hRf : s_fr r ≤ R.frames) (hRl : s_lo r ≤ R.locals) (hsz : s.heap.size = s_B G + (N0 - 4)) (hN : 4 ≤ N0) (hN2 : N0 ≤ h.2.2.length) (hM2 : M0 ≤ s_sz S h.2.2) (hroom : q.2.2.2.2.2.length - N0 ≤ R.cells ∧ s_sz S q.2.2.2.2.2 - M0 ≤ R.slots)
    (hs : s_x ev.2.1 ev.1 ev.2.2.1 L st h = some q) (k : s_W S G p l e R s m args below meth c Q N0 M0 q.1 q.2.1 q.2.2.1 q.2.2.2) : s_W S G p l e R s m args below meth c Q N0 M0 ev.1 L st h := by
  obtain ⟨pc, i, n, idx, pl⟩ := ev
  unfold s_chk at hck
  simp only [Bool.and_eq_true, decide_eq_true_eq, Bool.or_eq_true] at hck
  obtain ⟨⟨⟨⟨⟨hdg, hln⟩, hw1⟩, hw2⟩, hsd⟩, hso⟩ := hck
  have hw := s_wds_in hw1 hw2
  have hts := C.2.2.2.2.1
  have hI := C.2.2.2.2.2.1
  clear hw1 hw2
  dsimp only at hs hdg hln hw hsd hso ⊢
  cases i with
  | iconst v => exact s_d_iconst C hdg (hln.resolve_left (Nat.succ_ne_zero _)) hs k
  | bipush v => exact s_d_bipush C hdg (hln.resolve_left (Nat.succ_ne_zero _)) hs k
  | sipush v => exact s_d_sipush C hdg (hln.resolve_left (Nat.succ_ne_zero _)) hs k
  | ldc v => exact s_d_ldc C (hts _ (hw _ s_mem1)) hdg (hln.resolve_left (Nat.succ_ne_zero _)) hs k
  | ldc_w v => exact s_d_ldcw C (hts _ (hw _ s_mem1)) hdg (hln.resolve_left (Nat.succ_ne_zero _)) hs k
  | ldc2_w v => exact s_d_ldc2 C (hts _ (hw _ s_mem1)) hdg (hln.resolve_left (Nat.succ_ne_zero _)) hs k
  | ret v => exact s_d_ldcf C (hts _ (hw _ s_mem1)) hdg (hln.resolve_left (Nat.succ_ne_zero _)) hs k
  | multianewarray v z => exact s_d_ldcwf C (hts _ (hw _ s_mem1)) hdg (hln.resolve_left (Nat.succ_ne_zero _)) hs k
  | putstatic v => exact s_d_ldc2d C (hts _ (hw _ s_mem1)) hdg (hln.resolve_left (Nat.succ_ne_zero _)) hs k
  | lconst v => exact s_d_lconst C hdg (hln.resolve_left (Nat.succ_ne_zero _)) hs k
  | fconst v => exact s_d_fconst C hdg (hln.resolve_left (Nat.succ_ne_zero _)) hs k
  | dconst v => exact s_d_dconst C hdg (hln.resolve_left (Nat.succ_ne_zero _)) hs k
  | aconst_null => exact s_d_null C hdg (hln.resolve_left (Nat.succ_ne_zero _)) hs k
  | iload_n v => exact s_d_iload_n C hdg (hln.resolve_left (Nat.succ_ne_zero _)) hs k
  | iload v => exact s_d_iload C hdg (hln.resolve_left (Nat.succ_ne_zero _)) hs k
  | lload_n v => exact s_d_lload_n C hdg (hln.resolve_left (Nat.succ_ne_zero _)) hs k
  | lload v => exact s_d_lload C hdg (hln.resolve_left (Nat.succ_ne_zero _)) hs k
  | fload_n v => exact s_d_fload_n C hdg (hln.resolve_left (Nat.succ_ne_zero _)) hs k
  | dload_n v => exact s_d_dload_n C hdg (hln.resolve_left (Nat.succ_ne_zero _)) hs k
  | aload_n v => exact s_d_aload_n C hdg (hln.resolve_left (Nat.succ_ne_zero _)) hs k
  | aload v => exact s_d_aload C hdg (hln.resolve_left (Nat.succ_ne_zero _)) hs k
  | istore_n v => exact s_d_istore_n C hdg (hln.resolve_left (Nat.succ_ne_zero _)) hs k
  | istore v => exact s_d_istore C hdg (hln.resolve_left (Nat.succ_ne_zero _)) hs k
  | fstore_n v => exact s_d_fstore_n C hdg (hln.resolve_left (Nat.succ_ne_zero _)) hs k
  | lstore_n v => exact s_d_lstore_n C hdg (hln.resolve_left (Nat.succ_ne_zero _)) hs k
  | lstore v => exact s_d_lstore C hdg (hln.resolve_left (Nat.succ_ne_zero _)) hs k
  | dstore_n v => exact s_d_dstore_n C hdg (hln.resolve_left (Nat.succ_ne_zero _)) hs k
  | astore_n v => exact s_d_astore_n C hdg (hln.resolve_left (Nat.succ_ne_zero _)) hs k
  | astore v => exact s_d_astore C hdg (hln.resolve_left (Nat.succ_ne_zero _)) hs k
  | iinc v w => exact s_d_iinc C hdg (hln.resolve_left (Nat.succ_ne_zero _)) hs k
  | dup => exact s_d_dup C hdg (hln.resolve_left (Nat.succ_ne_zero _)) hs k
  | pop => exact s_d_pop C hdg (hln.resolve_left (Nat.succ_ne_zero _)) hs k
  | dup2 => exact s_d_dup2 C hdg (hln.resolve_left (Nat.succ_ne_zero _)) hs k
  | iadd => exact s_d_iadd C hdg (hln.resolve_left (Nat.succ_ne_zero _)) hs k
  | isub => exact s_d_isub C hdg (hln.resolve_left (Nat.succ_ne_zero _)) hs k
  | imul => exact s_d_imul C hdg (hln.resolve_left (Nat.succ_ne_zero _)) hs k
  | iand => exact s_d_iand C hdg (hln.resolve_left (Nat.succ_ne_zero _)) hs k
  | ior => exact s_d_ior C hdg (hln.resolve_left (Nat.succ_ne_zero _)) hs k
  | ishl => exact s_d_ishl C hdg (hln.resolve_left (Nat.succ_ne_zero _)) hs k
  | ishr => exact s_d_ishr C hdg (hln.resolve_left (Nat.succ_ne_zero _)) hs k
  | idiv => exact s_d_idiv C hdg (hln.resolve_left (Nat.succ_ne_zero _)) hs k
  | irem => exact s_d_irem C hdg (hln.resolve_left (Nat.succ_ne_zero _)) hs k
  | ladd => exact s_d_ladd C hdg (hln.resolve_left (Nat.succ_ne_zero _)) hs k
  | lsub => exact s_d_lsub C hdg (hln.resolve_left (Nat.succ_ne_zero _)) hs k
  | land => exact s_d_land C hdg (hln.resolve_left (Nat.succ_ne_zero _)) hs k
  | lor => exact s_d_lor C hdg (hln.resolve_left (Nat.succ_ne_zero _)) hs k
  | lshl => exact s_d_lshl C hdg (hln.resolve_left (Nat.succ_ne_zero _)) hs k
  | lushr => exact s_d_lushr C hdg (hln.resolve_left (Nat.succ_ne_zero _)) hs k
  | i2l => exact s_d_i2l C hdg (hln.resolve_left (Nat.succ_ne_zero _)) hs k
  | l2i => exact s_d_l2i C hdg (hln.resolve_left (Nat.succ_ne_zero _)) hs k
  | i2f => exact s_d_i2f C hdg (hln.resolve_left (Nat.succ_ne_zero _)) hs k
  | i2d => exact s_d_i2d C hdg (hln.resolve_left (Nat.succ_ne_zero _)) hs k
  | l2d => exact s_d_l2d C hdg (hln.resolve_left (Nat.succ_ne_zero _)) hs k
  | d2l => exact s_d_d2l C hdg (hln.resolve_left (Nat.succ_ne_zero _)) hs k
  | f2i => exact s_d_f2i C hdg (hln.resolve_left (Nat.succ_ne_zero _)) hs k
  | lcmp => exact s_d_lcmp C hdg (hln.resolve_left (Nat.succ_ne_zero _)) hs k
  | fcmp v => exact s_d_fcmp C hdg (hln.resolve_left (Nat.succ_ne_zero _)) hs k
  | dcmp v => exact s_d_dcmp C hdg (hln.resolve_left (Nat.succ_ne_zero _)) hs k
  | fsub => exact s_d_fsub C hdg (hln.resolve_left (Nat.succ_ne_zero _)) hs k
  | fmul => exact s_d_fmul C hdg (hln.resolve_left (Nat.succ_ne_zero _)) hs k
  | fdiv => exact s_d_fdiv C hdg (hln.resolve_left (Nat.succ_ne_zero _)) hs k
  | dsub => exact s_d_dsub C hdg (hln.resolve_left (Nat.succ_ne_zero _)) hs k
  | dmul => exact s_d_dmul C hdg (hln.resolve_left (Nat.succ_ne_zero _)) hs k
  | ddiv => exact s_d_ddiv C hdg (hln.resolve_left (Nat.succ_ne_zero _)) hs k
  | drem => exact s_d_drem C hdg (hln.resolve_left (Nat.succ_ne_zero _)) hs k
  | ifCond cd v =>
    have hv : 0 ≤ v := of_decide_eq_true hsd
    cases cd with
    | eq => exact s_d_if_eq C hv hdg (hln.resolve_left (Nat.succ_ne_zero _)) hs k
    | ne => exact s_d_if_ne C hv hdg (hln.resolve_left (Nat.succ_ne_zero _)) hs k
    | lt => exact s_d_if_lt C hv hdg (hln.resolve_left (Nat.succ_ne_zero _)) hs k
    | ge => exact s_d_if_ge C hv hdg (hln.resolve_left (Nat.succ_ne_zero _)) hs k
    | gt => exact s_d_if_gt C hv hdg (hln.resolve_left (Nat.succ_ne_zero _)) hs k
    | le => exact s_d_if_le C hv hdg (hln.resolve_left (Nat.succ_ne_zero _)) hs k
  | if_icmp cd v =>
    have hv : 0 ≤ v := of_decide_eq_true hsd
    cases cd with
    | eq => exact s_d_icmp_eq C hv hdg (hln.resolve_left (Nat.succ_ne_zero _)) hs k
    | ne => exact s_d_icmp_ne C hv hdg (hln.resolve_left (Nat.succ_ne_zero _)) hs k
    | lt => exact s_d_icmp_lt C hv hdg (hln.resolve_left (Nat.succ_ne_zero _)) hs k
    | ge => exact s_d_icmp_ge C hv hdg (hln.resolve_left (Nat.succ_ne_zero _)) hs k
    | gt => exact s_d_icmp_gt C hv hdg (hln.resolve_left (Nat.succ_ne_zero _)) hs k
    | le => exact s_d_icmp_le C hv hdg (hln.resolve_left (Nat.succ_ne_zero _)) hs k
  | ifnull v => exact s_d_ifnull C (of_decide_eq_true hsd) hdg (hln.resolve_left (Nat.succ_ne_zero _)) hs k
  | ifnonnull v => exact s_d_ifnonnull C (of_decide_eq_true hsd) hdg (hln.resolve_left (Nat.succ_ne_zero _)) hs k
  | goto v => exact s_d_goto C (of_decide_eq_true hsd) hdg (hln.resolve_left (Nat.succ_ne_zero _)) hs k
  | tableswitch d lo hi o =>
    simp only [s_sd, Bool.and_eq_true, decide_eq_true_eq, List.all_eq_true] at hsd
    exact s_d_table C hsd.1 hsd.2 hdg hs k
  | lookupswitch d o =>
    simp only [s_sd, Bool.and_eq_true, decide_eq_true_eq, List.all_eq_true] at hsd
    exact s_d_look C hsd.1 hsd.2 hso hdg hs k
  | getfield ev =>
    simp only [s_sd, Bool.and_eq_true, decide_eq_true_eq] at hsd
    exact s_d_get C SK hsd.1 hsd.2 (hts _ (hw _ s_mem1)) hdg (hln.resolve_left (Nat.succ_ne_zero _)) hs k
  | putfield ev =>
    simp only [s_sd, Bool.and_eq_true, decide_eq_true_eq, Bool.or_eq_true, Bool.not_eq_true'] at hsd
    refine s_d_put C SK hsd.1.1.1 hsd.1.1.2 (fun h2 => ?_) (fun hf => ?_) (hts _ (hw _ s_mem1)) hdg (hln.resolve_left (Nat.succ_ne_zero _)) hs k
    · have h3 := hsd.1.2.resolve_left (fun z => z h2)
      cases ht : s_ty S (ev / 1024) (ev % 1024 / 8) with
      | object nm => exact ⟨nm, Or.inl rfl⟩
      | array t => exact ⟨"", Or.inr ⟨t, rfl⟩⟩
      | _ => rw [ht] at h3; cases h3
    · exact hsd.2.resolve_left (fun z => by rw [hf] at z; cases z)
  | getstatic j => exact s_d_gets C (of_decide_eq_true hsd) (hts _ (hw _ s_mem1)) hdg (hln.resolve_left (Nat.succ_ne_zero _)) hs k
  | instanceof j =>
    simp only [s_sd, Bool.and_eq_true, decide_eq_true_eq] at hsd
    exact s_d_getsN C hsd.1 (hI.2.2.2.2 _ hsd.2) hdg (hln.resolve_left (Nat.succ_ne_zero _)) hs k
  | arraylength => exact s_d_alen C hdg (hln.resolve_left (Nat.succ_ne_zero _)) hs k
  | iaload => exact s_d_iald C hdg (hln.resolve_left (Nat.succ_ne_zero _)) hs k
  | iastore => exact s_d_iast C hdg (hln.resolve_left (Nat.succ_ne_zero _)) hs k
  | aaload => exact s_d_aald C hdg (hln.resolve_left (Nat.succ_ne_zero _)) hs k
  | aastore => exact s_d_aast C SD.1 hdg (hln.resolve_left (Nat.succ_ne_zero _)) hs k
  | new ci =>
    exact s_d_new C SK (SD.2 ci) (of_decide_eq_true hsd) hsz hN hN2 hM2 hroom (hts _ (hw _ s_mem1)) (hts _ (hw _ (List.mem_cons_of_mem _ s_mem1))) (hts _ (hw _ (List.mem_cons_of_mem _ (List.mem_cons_of_mem _ s_mem1)))) hdg (hln.resolve_left (Nat.succ_ne_zero _)) hs k
  | newarray a =>
    have ha : a = .int := of_decide_eq_true hsd
    subst ha
    exact s_d_newa C hsz hN hN2 hM2 hroom (hts _ (hw _ s_mem1)) hdg (hln.resolve_left (Nat.succ_ne_zero _)) hs k
  | anewarray t =>
    simp only [s_sd, Bool.and_eq_true, decide_eq_true_eq] at hsd
    exact s_d_newq C hsd.1 hsz hN hN2 hM2 hroom (hts _ (hw _ s_mem1)) (hI.2.2.2.2 _ hsd.2) hdg (hln.resolve_left (Nat.succ_ne_zero _)) hs k
  | monitorenter =>
    simp only [s_sd, Bool.and_eq_true, decide_eq_true_eq] at hsd
    exact s_d_obj C (by omega) (by omega) (hts _ (hw _ s_mem1)) (hts _ (hw _ (List.mem_cons_of_mem _ s_mem1))) (hts _ (hw _ (List.mem_cons_of_mem _ (List.mem_cons_of_mem _ s_mem1)))) hdg (hln.resolve_left (Nat.succ_ne_zero _)) hs k
  | monitorexit =>
    simp only [s_sd, Bool.and_eq_true, decide_eq_true_eq] at hsd
    exact s_d_acpy C (by omega) (by omega) (hts _ (hw _ s_mem1)) (hts _ (hw _ (List.mem_cons_of_mem _ s_mem1))) (hts _ (hw _ (List.mem_cons_of_mem _ (List.mem_cons_of_mem _ s_mem1)))) (hts _ (hw _ (List.mem_cons_of_mem _ (List.mem_cons_of_mem _ (List.mem_cons_of_mem _ s_mem1))))) hdg (hln.resolve_left (Nat.succ_ne_zero _)) hs k
  | jsr z =>
    simp only [s_sd, Bool.and_eq_true, decide_eq_true_eq] at hsd
    exact s_d_mmax C (by omega) (by omega) hroom (hts _ (hw _ s_mem1)) (hts _ (hw _ (List.mem_cons_of_mem _ s_mem1))) (hts _ (hw _ (List.mem_cons_of_mem _ (List.mem_cons_of_mem _ s_mem1)))) (hts _ (hw _ (List.mem_cons_of_mem _ (List.mem_cons_of_mem _ (List.mem_cons_of_mem _ s_mem1))))) hdg (hln.resolve_left (Nat.succ_ne_zero _)) hs k
  | jsr_w z =>
    simp only [s_sd, Bool.and_eq_true, decide_eq_true_eq] at hsd
    exact s_d_mmin C (by omega) (by omega) hroom (hts _ (hw _ s_mem1)) (hts _ (hw _ (List.mem_cons_of_mem _ s_mem1))) (hts _ (hw _ (List.mem_cons_of_mem _ (List.mem_cons_of_mem _ s_mem1)))) (hts _ (hw _ (List.mem_cons_of_mem _ (List.mem_cons_of_mem _ (List.mem_cons_of_mem _ s_mem1))))) hdg (hln.resolve_left (Nat.succ_ne_zero _)) hs k
  | nop =>
    simp only [s_sd, Bool.and_eq_true, decide_eq_true_eq] at hsd
    exact s_d_d2r C (by omega) (by omega) (hts _ (hw _ s_mem1)) (hts _ (hw _ (List.mem_cons_of_mem _ s_mem1))) (hts _ (hw _ (List.mem_cons_of_mem _ (List.mem_cons_of_mem _ s_mem1)))) (hts _ (hw _ (List.mem_cons_of_mem _ (List.mem_cons_of_mem _ (List.mem_cons_of_mem _ s_mem1))))) hdg (hln.resolve_left (Nat.succ_ne_zero _)) hs k
  | swap =>
    simp only [s_sd, Bool.and_eq_true, decide_eq_true_eq] at hsd
    exact s_d_f2r C (by omega) (by omega) (hts _ (hw _ s_mem1)) (hts _ (hw _ (List.mem_cons_of_mem _ s_mem1))) (hts _ (hw _ (List.mem_cons_of_mem _ (List.mem_cons_of_mem _ s_mem1)))) (hts _ (hw _ (List.mem_cons_of_mem _ (List.mem_cons_of_mem _ (List.mem_cons_of_mem _ s_mem1))))) hdg (hln.resolve_left (Nat.succ_ne_zero _)) hs k
  | _ => cases hs
end RNS
end
section
/-! THE WHOLE RUN -/
theorem s_x_ext {i : Instr} {pc n : Nat} {L st : List Value} {h : sHp} {q : sC} (hs : s_x i pc n L st h = some q) : ∃ l : List (Nat × Nat), q.2.2.2.2.2 = h.2.2 ++ l := by
  have nil : ∀ {z : sHp}, z.2.2 = h.2.2 → ∃ l : List (Nat × Nat), z.2.2 = h.2.2 ++ l := fun e => ⟨[], by rw [e, List.append_nil]⟩
  cases i <;> dsimp only [s_x] at hs <;> (repeat' split at hs) <;> cases hs <;> first | exact nil rfl | exact ⟨_, rfl⟩
theorem s_run_ext {MT : sMT} : ∀ (f k pc : Nat) (L st : List Value) (h : sHp) (o : Option Value × sHp), s_run MT f k pc L st h = some o → ∃ l : List (Nat × Nat), o.2.2.2 = h.2.2 ++ l
  | 0, _, _, _, _, _, _, hr => by cases hr
  | f + 1, k, pc, L, st, h, o, hr => by
    unfold s_run at hr
    split at hr
    · cases hr
    split at hr
    · cases hr
    split at hr
    · split at hr
      · cases hr
      split at hr
      · cases hr
      split at hr
      · cases hr
      next o1 h1 =>
        obtain ⟨l1, e1⟩ := s_run_ext f _ _ _ _ _ _ h1
        obtain ⟨l2, e2⟩ := s_run_ext f _ _ _ _ _ _ hr
        exact ⟨l1 ++ l2, by rw [e2, e1, List.append_assoc]⟩
    · split at hr
      · cases hr; exact ⟨[], by rw [List.append_nil]⟩
      · split at hr
        · cases hr
        next c1 h1 =>
          obtain ⟨l1, e1⟩ := s_x_ext h1
          obtain ⟨l2, e2⟩ := s_run_ext f _ _ _ _ _ _ hr
          exact ⟨l1 ++ l2, by rw [e2, e1, List.append_assoc]⟩
theorem s_sz_le (S : s_SG) : ∀ a b : List (Nat × Nat), s_sz S a ≤ s_sz S (a ++ b)
  | [], b => Nat.zero_le _
  | (0, c) :: a, b => by
    rw [List.cons_append, s_sz, s_sz]
    exact Nat.add_le_add_left (s_sz_le S a b) _
  | (t + 1, c) :: a, b => by
    rw [List.cons_append, s_sz, s_sz]
    exact Nat.add_le_add_left (s_sz_le S a b) _
theorem s_ext_le {S : s_SG} {h h1 : sHp} (he : ∃ l : List (Nat × Nat), h1.2.2 = h.2.2 ++ l) : h.2.2.length ≤ h1.2.2.length ∧ s_sz S h.2.2 ≤ s_sz S h1.2.2 := by
  obtain ⟨l, e⟩ := he
  rw [e]
  exact ⟨by rw [List.length_append]; omega, s_sz_le S _ _⟩
/-- the words that are told one by one stay true -/
def s_nwk : Jvm.Cond → Bool
  | .methodLinkNest _ _ _ _ => true
  | .fieldLinkNest _ _ _ _ _ _ => true
  | .arrayOver (.object _) => true
  | _ => false
theorem s_nw_warm {w : Jvm.Cond} {s U : State} (hk : s_nwk w = true) (hW : s.WarmedH U.vm) (h : va_Nw w s) : va_Nw w U := by
  cases w with
  | methodLinkNest a i x y => exact va_Nw.warmM hW h
  | fieldLinkNest a i b n d y => exact va_Nw.warmF hW h
  | arrayOver ty => cases ty with
    | object C => exact va_AO.moved (C := C) hW.alike h
    | _ => cases hk
  | _ => cases hk
theorem s_In_moved {S : s_SG} {G : s_DG} {s U : State} (hnw : ∀ w ∈ s_nw S, s_nwk w = true) (hW : s.WarmedH U.vm) (hk : ∀ a : Nat, a < s.heap.size → ¬ s_A G a → U.heap[a]? = s.heap[a]?) (h : s_In S G s) : s_In S G U := by
  obtain ⟨h1, h2, h3, h4, h5⟩ := h
  refine ⟨va_K.moved hW.alike h1, fun i hi => ⟨?_, (h2 i hi).2⟩, fun j hj => ⟨(h3 j hj).1, va_Z.moved hW.alike (va_Z.kept (h3 j hj).2 hk)⟩, h4, fun w hw => s_nw_warm (hnw w hw) hW (h5 w hw)⟩
  exact va_T.moved hW.alike (va_T.kept (h2 i hi).1 hk)
def s_Pc (S : s_SG) (G : s_DG) (as : List Value) (h : sHp) : Array Value → State → Prop := fun v U => v = (as.map (s_vc G)).toArray ∧ s_In S G U ∧ s_Wd S G h U.heap ∧ U.heap.size = s_B G + (h.2.2.length - 4)
def s_Qc (S : s_SG) (G : s_DG) (o : Option Value × sHp) : Array Value → State → Outcome → State → Prop := fun _ st oc t => oc = .returned (o.1.map (s_vc G)) ∧ s_Wd S G o.2 t.heap ∧ va_F (s_A G) st t
def s_wsl (big : List Jvm.Cond) (r : sM) : List Jvm.Cond := .code (s_y r) (s_b r) (s_mL r) (s_rt r) :: s_TW big
def s_rm (S : s_SG) (r : sM) (h h1 : sHp) : Room := { frames := s_fr r, cells := h1.2.2.length - h.2.2.length, slots := s_sz S h1.2.2 - s_sz S h.2.2, locals := s_lo r }
def s_Meets (S : s_SG) (G : s_DG) (big : List Jvm.Cond) (l : Launch) (r : sM) (as : List Value) (h : sHp) (o : Option Value × sHp) : Prop :=
  Met l (s_y r) (s_wsl big r) (s_rm S r h o.2) (s_Pc S G as h) (s_Qc S G o) (o.2.2.2.length - h.2.2.length) (s_sz S o.2.2.2 - s_sz S h.2.2) (s_A G)
/-- all that is fixed -/
def s_Fix (S : s_SG) (MT : sMT) (big : List Jvm.Cond) (host : String) : Prop := s_SOK S (s_TW big) ∧ s_SD S ∧ s_Chk S MT big host ∧ ∀ w ∈ s_nw S, s_nwk w = true
def s_MetAt (S : s_SG) (G : s_DG) (MT : sMT) (big : List Jvm.Cond) (l : Launch) (f : Nat) : Prop :=
  ∀ (k : Nat) (r : sM) (cn : Option Nat) (as : List Value) (h : sHp) (o : Option Value × sHp), MT k = some (r, cn) → s_cat as ≤ s_mL r → s_run MT f k 0 (s_ent as (s_mL r)) [] h = some o → s_Meets S G big l r as h o
def s_BodyAt (S : s_SG) (G : s_DG) (MT : sMT) (big : List Jvm.Cond) (l : Launch) (f : Nat) : Prop :=
  ∀ (p : Program) (e : Env) (R : Room) (s : State) (m : MethodId) (args : Array Value) (below : List Frame) (meth : Method) (c : Code) (Q : State → Prop) (k : Nat) (r : sM) (cn : Option Nat) (N0 M0 pc : Nat) (L st : List Value) (h : sHp) (o : Option Value × sHp),
    MT k = some (r, cn) → s_Cx S G (s_TW big) p s m args meth c r → s_run MT f k pc L st h = some o → s_fr r ≤ R.frames → s_lo r ≤ R.locals → s.heap.size = s_B G + (N0 - 4) → 4 ≤ N0 → N0 ≤ h.2.2.length → M0 ≤ s_sz S h.2.2 → o.2.2.2.length - N0 ≤ R.cells ∧ s_sz S o.2.2.2 - M0 ≤ R.slots →
    (∀ (ri : Instr) (pc2 : Nat) (L2 st2 : List Value), decode (s_b r) pc2 = .ok (ri, 1) → s_rx ri (s_rt r) st2 = some o.1 → s_W S G p l e R s m args below meth c Q N0 M0 pc2 L2 st2 o.2) →
    s_W S G p l e R s m args below meth c Q N0 M0 pc L st h
section SDS
variable {S : s_SG} {G : s_DG} {MT : sMT} {big : List Jvm.Cond} {host : String} {l : Launch}
theorem s_cat_sl (G : s_DG) : ∀ as : List Value, (lg_sl (as.map (s_vc G))).length = s_cat as
  | [] => rfl
  | v :: as => by
    have ih := s_cat_sl G as
    unfold lg_sl at ih ⊢
    rw [List.map_cons, List.flatMap_cons, List.length_append, ih, s_vc_cat, s_cat]
    by_cases ht : s_two v = true
    · rw [if_pos ht, if_pos rfl]; rfl
    · rw [if_neg ht, if_neg (by decide)]; rfl
theorem s_ofWF {l : Launch} {y : MethodName} {ws ws' : List Cond} {rm : Room} {Pc : Array Value → State → Prop} {Qc : Array Value → State → Outcome → State → Prop} {mc ms : Nat} {free : Addr → Prop} {cc : ByteArray} {maxL : Nat} {ret : Option FieldType}
    (hy : plainFor y = true) (hw : ws = Cond.code y cc maxL ret :: ws')
    (body : ∀ p e s m args below meth c s₁, BodyLoose p l y (headSpec ws rm) cc maxL ret e s m args below meth c s₁ → c.maxLocals = maxL → Pc args s →
      W p l e (headSpec ws rm).room s m args below meth c s.heap [] 0 0 (MQ below Qc args s mc ms free) (entryFrame m args maxL)) : Met l y ws rm Pc Qc mc ms free := by
  refine MetFree.of_bodySF (code := cc) (maxLocals := maxL) (ret := ret) hy ?_ ?_
  · intro args s m h hn
    obtain ⟨meth, c, h1, h2, h3, h4, h5, h6, -, -⟩ := Cond.code_spec hn (atoms_spec (ws := ws) h _ (by rw [hw]; exact List.mem_cons_self))
    exact ⟨meth, c, h1, h2, h3, h4, h5, h6⟩
  · intro p e s m args below meth c s₁ B hml hP _
    have hh0 : s₁.heap = s.heap := by rw [B.state]; rfl
    obtain ⟨t, a1, o, b1, b2, b3⟩ := body p e s m args below meth c s₁ B hml hP s₁ hh0 (Stand.of_body B)
    exact ⟨t, o, a1, b1, b2, ⟨b3.1, b3.2⟩⟩
theorem s_met_of_body (FX : s_Fix S MT big host) {f : Nat} (hB : s_BodyAt S G MT big l f) : s_MetAt S G MT big l f := by
  intro k r cn as h o hk hcat hrun
  obtain ⟨SK, SD, CK, NW⟩ := FX
  obtain ⟨ck1, ck2, ck3⟩ := CK k r cn hk
  have hext := s_run_ext _ _ _ _ _ _ _ hrun
  have hle := s_ext_le (S := S) hext
  unfold s_Meets
  refine s_ofWF (cc := s_b r) (maxL := s_mL r) (ret := s_rt r) ck2 rfl ?_
  intro p e s m args below meth c s₁ B hml hv
  obtain ⟨rfl, hI, hW, hsz⟩ := hv
  have hts := atoms_spec (ws := s_wsl big r) B.pre
  have hnm : meth.name = (s_y r).name := (name_of_methodNamed B.named B.method).1
  have C : s_Cx S G (s_TW big) p s m (as.map (s_vc G)).toArray meth c r := ⟨B.exec, B.bytes, hml, findClass_of_methodNamed B.named, fun w hw => hts w (List.mem_cons_of_mem _ hw), hI, fun z => hnm.trans z⟩
  have hsl : (lg_sl (as.map (s_vc G))).length ≤ s_mL r := by rw [s_cat_sl]; exact hcat
  have hl := lv_entry (as.map (s_vc G)) (n := s_mL r) hsl
  rw [lg_entry_eq]
  generalize (lg_sl (as.map (s_vc G)) ++ List.replicate (s_mL r - (lg_sl (as.map (s_vc G))).length) Slot.unset).toArray = ls at hl ⊢
  have hL := s_LR_ent (G := G) hsl hl
  have hlen : (s_ent as (s_mL r)).length = c.maxLocals := (s_ent_len G as _ hsl).trans hml.symm
  have key := hB p e (s_rm S r h o.2) s m (as.map (s_vc G)).toArray below meth c (MQ below (s_Qc S G o) (as.map (s_vc G)).toArray s (o.2.2.2.length - h.2.2.length) (s_sz S o.2.2.2 - s_sz S h.2.2) (s_A G)) k r cn h.2.2.length (s_sz S h.2.2) 0 (s_ent as (s_mL r)) [] h o hk C hrun (Nat.le_refl _) (Nat.le_refl _) hsz hW.1 (Nat.le_refl _) (Nat.le_refl _) ⟨Nat.le_refl _, Nat.le_refl _⟩ ?_ hlen s.heap [] ls hW va_S.rf hL
  · rw [Nat.sub_self, Nat.sub_self] at key
    exact key
  · intro ri pc2 L2 st2 hdg hrx hlen2 H locs ls2 hW2 hS2 hL2
    have hx := B.exec
    have hb := B.bytes
    have hr := B.returns
    have hlk := B.notSynchronized
    unfold s_rx at hrx
    split at hrx
    next hrt =>
      rw [hrt] at hr
      have ho : o.1 = none := (Option.some.inj hrx).symm
      exact W.vret hx hb hr (fun t ht hWm => ⟨by rw [ho]; rfl, by rw [ht]; exact hW2, hS2.F ht⟩) hS2.2.2 hdg hlk
    next v hrt =>
      rw [hrt] at hr
      have ho : o.1 = some (.int v) := (Option.some.inj hrx).symm
      exact W.iret (v := v) hx hb hr (fun t ht hWm => ⟨by rw [ho]; rfl, by rw [ht]; exact hW2, hS2.F ht⟩) hS2.2.2 hdg hlk
    next v hrt =>
      split at hrx
      next h01 =>
        rw [hrt] at hr
        have ho : o.1 = some (.int v) := (Option.some.inj hrx).symm
        exact W.zret (v := v) (ty := .boolean) hx hb hr (by rcases h01 with rfl | rfl <;> rfl) (fun t ht hWm => ⟨by rw [ho]; rfl, by rw [ht]; exact hW2, hS2.F ht⟩) hS2.2.2 hdg hlk
      · cases hrx
    next v hrt =>
      rw [hrt] at hr
      have ho : o.1 = some (.long v) := (Option.some.inj hrx).symm
      exact W.lret (v := v) hx hb hr (fun t ht hWm => ⟨by rw [ho]; rfl, by rw [ht]; exact hW2, hS2.F ht⟩) hS2.2.2 hdg hlk
    next nm a hrt =>
      rw [hrt] at hr
      have ho : o.1 = some (.ref a) := (Option.some.inj hrx).symm
      exact W.aret (v := .ref (s_ad G a)) (rt := .object nm) hx hb hr (Or.inl ⟨nm, rfl⟩) (Or.inr ⟨_, rfl⟩) (fun t ht hWm => ⟨by rw [ho]; rfl, by rw [ht]; exact hW2, hS2.F ht⟩) hS2.2.2 hdg hlk
    next nm hrt =>
      rw [hrt] at hr
      have ho : o.1 = some .null := (Option.some.inj hrx).symm
      exact W.aret (v := .null) (rt := .object nm) hx hb hr (Or.inl ⟨nm, rfl⟩) (Or.inl rfl) (fun t ht hWm => ⟨by rw [ho]; rfl, by rw [ht]; exact hW2, hS2.F ht⟩) hS2.2.2 hdg hlk
    · cases hrx
/-- how many cells there are -/
theorem s_size {s T : State} {p : Program} {e : Env} {R : Room} {m : MethodId} {args : Array Value} {below : List Frame} {meth : Method} {c : Code} {H : Heap} {locs : List Loc} {h : sHp} {N0 n1 : Nat} (hI : s_In S G s) (hsz : s.heap.size = s_B G + (N0 - 4)) (hN : 4 ≤ N0) (hN2 : N0 ≤ h.2.2.length) (hW : s_Wd S G h H) (hS : va_S (s_A G) s.heap H locs) (hT : T.heap = H) (X : Stand p l e R s m args below meth c T locs (h.2.2.length - N0) n1) : H.size = s_B G + (h.2.2.length - 4) := by
  have h2 := X.heapSize
  rw [hT] at h2
  have h3 := hS.1
  rcases Nat.lt_or_ge 4 h.2.2.length with z | z
  · have h4 := s_ws_at S G h (a := h.2.2.length - 1) (by omega) (by omega)
    have h5 := (hW.2.1 _ _ h4).lt
    dsimp only at h5
    rw [s_ad_ge hI (by omega)] at h5
    omega
  · omega
theorem s_blind (NW : ∀ w ∈ s_nw S, s_nwk w = true) (as : List Value) (h : sHp) : FrameBlind (s_Pc S G as h) := by
  intro a U g mk hp
  obtain ⟨h1, h2, h3, h4⟩ := hp
  exact ⟨h1, s_In_moved (U := U.calling g mk a) NW (State.WarmedH.refl U) (fun _ _ _ => rfl) h2, h3, h4⟩
/-- behind a call -/
theorem s_call {p : Program} {e : Env} {R : Room} {s : State} {m : MethodId} {args : Array Value} {below : List Frame} {meth : Method} {c : Code} {Q : State → Prop} {N0 M0 pc : Nat} {L rest : List Value} {st0 : List Value} {h : sHp} {o : Option Value × sHp} {H : Heap} {locs : List Loc} {ls : Array Slot} {a : Array Value}
    (hr : va_Run p l e R s m args below meth c H locs (h.2.2.length - N0) (s_sz S h.2.2 - M0) (o.2.2.2.length - h.2.2.length) (s_sz S o.2.2.2 - s_sz S h.2.2) (F0 m pc ls st0) (rest.map (s_vc G)) (s_Qc S G o a) (s_A G)) (hle : h.2.2.length ≤ o.2.2.2.length ∧ s_sz S h.2.2 ≤ s_sz S o.2.2.2) (hN2 : N0 ≤ h.2.2.length) (hM2 : M0 ≤ s_sz S h.2.2)
    (hlen : L.length = c.maxLocals) (hS : va_S (s_A G) s.heap H locs) (hL : s_LR G ls L) (k : s_W S G p l e R s m args below meth c Q N0 M0 (pc + 3) L (o.1.toList ++ rest) o.2) : W p l e R s m args below meth c H locs (h.2.2.length - N0) (s_sz S h.2.2 - M0) Q (F0 m pc ls st0) := by
  intro T hT X
  obtain ⟨v, st₀, t, T', L1, h0, X', hL1, e1, e2, ⟨hv, hW1, hz, hk⟩, st⟩ := hr T hT X
  have hv : v = o.1.map (s_vc G) := Outcome.returned.inj hv
  subst hv
  rw [h0] at hz hk
  rw [← e1] at hz hk hW1
  have hS1 : va_S (s_A G) s.heap T'.heap (locs ++ L1) := ⟨Nat.le_trans hS.1 hz, fun q h1 h2 => by rw [hk q (Nat.lt_of_lt_of_le h1 hS.1) h2]; exact hS.2.1 q h1 h2, fun q hq => by
    rcases List.mem_append.mp hq with h | h
    · exact hS.2.2 q h
    · exact hL1 q h⟩
  have kk := k hlen T'.heap (locs ++ L1) ls hW1 hS1 hL T' rfl (by
    rw [show o.2.2.2.length - N0 = h.2.2.length - N0 + (o.2.2.2.length - h.2.2.length) by omega, show s_sz S o.2.2.2 - M0 = s_sz S h.2.2 - M0 + (s_sz S o.2.2.2 - s_sz S h.2.2) by omega]
    exact X')
  obtain ⟨t2, a1, b1⟩ := kk
  refine ⟨t2, st t2 ?_, b1⟩
  have : (Option.map (s_vc G) o.1).toList ++ rest.map (s_vc G) = (o.1.toList ++ rest).map (s_vc G) := by
    rw [List.map_append]
    cases o.1 <;> rfl
  rw [this]
  exact a1
end SDS
end
section
section BDS
variable {S : s_SG} {G : s_DG} {MT : sMT} {big : List Jvm.Cond} {host : String} {l : Launch}
theorem s_GI {big ws : List Jvm.Cond} (h : ∀ w ∈ ws, w ∈ s_TW big) : GoodIn (s_TW big) ws := fun w hw => ⟨h w hw, good_of_word (s_TW_good big w (h w hw))⟩
theorem s_split (G : s_DG) (st : List Value) (n : Nat) : st.map (s_vc G) = (((st.take n).reverse).map (s_vc G)).reverse ++ (st.drop n).map (s_vc G) := by
  rw [List.map_reverse, List.reverse_reverse, ← List.map_append, List.take_append_drop]
theorem s_rc_0 {cn : Option Nat} {h : sHp} {as : List Value} (c4 : s_rc 0 cn h as = true) : ∃ (a c : Nat) (as2 : List Value), as = .ref a :: as2 ∧ s_nth h.2.2 a = some (0, c) ∧ cn = some c := by
  simp only [s_rc] at c4
  split at c4
  next a as2 =>
    split at c4
    next cc c2 heq =>
      have hcc : cc = c2 := Nat.eq_of_beq_eq_true c4
      subst hcc
      exact ⟨_, _, _, rfl, heq, rfl⟩
    · cases c4
  · cases c4
theorem s_rc_2 {cn : Option Nat} {h : sHp} {as : List Value} (c4 : s_rc 2 cn h as = true ∨ s_rc 3 cn h as = true) : ∃ (a : Nat) (as2 : List Value), as = .ref a :: as2 := by
  simp only [s_rc, or_self] at c4
  split at c4
  next a as2 => exact ⟨_, _, rfl⟩
  · cases c4
theorem s_body_succ (FX : s_Fix S MT big host) {f : Nat} (hM : s_MetAt S G MT big l f) (hB : s_BodyAt S G MT big l f) : s_BodyAt S G MT big l (f + 1) := by
  intro p e R s m args below meth c Q k r cn N0 M0 pc L st h o hk C hrun hRf hRl hsz hN hN2 hM2 hroom K
  have FX0 := FX
  obtain ⟨SK, SD, CK, NW⟩ := FX
  unfold s_run at hrun
  rw [hk] at hrun
  dsimp only at hrun
  split at hrun
  · cases hrun
  next ev hat =>
  obtain ⟨hmem, hpc⟩ := s_at_mem hat
  subst hpc
  have hck := (CK k r cn hk).1 ev hmem
  split at hrun
  next q hci =>
    split at hrun
    · cases hrun
    next r2p hk2 =>
    split at hrun
    · cases hrun
    next hcond =>
    split at hrun
    · cases hrun
    next o1 h1 =>
    obtain ⟨r2, cn2⟩ := r2p
    dsimp only at hrun h1 hcond
    simp only [not_or, Nat.not_lt, Bool.not_eq_false] at hcond
    obtain ⟨c1, c2, c3, c4⟩ := hcond
    have hle := s_ext_le (S := S) (s_run_ext _ _ _ _ _ _ _ h1)
    have hle2 := s_ext_le (S := S) (s_run_ext _ _ _ _ _ _ _ hrun)
    have Mt := hM q.2 r2 cn2 _ h o1 hk2 c2 h1
    have kk := hB p e R s m args below meth c Q k r cn N0 M0 (ev.1 + 3) L _ o1.2 o hk C hrun hRf hRl hsz hN (Nat.le_trans hN2 hle.1) (Nat.le_trans hM2 hle.2) hroom K
    intro hlen H locs ls hW hS hL T hT X
    have hI := C.2.2.2.2.2.1
    have hsize := s_size hI hsz hN hN2 hW hS hT X
    refine (?_ : W p l e R s m args below meth c H locs (h.2.2.length - N0) (s_sz S h.2.2 - M0) Q (F0 m ev.1 ls (st.map (s_vc G)))) T hT X
    have hx := C.1
    have hb := C.2.1
    have hml := C.2.2.1
    have hown := C.2.2.2.1
    have hts := C.2.2.2.2.1
    have hcat : ((List.map (s_vc G) (st.drop (s_na r2))).map fun v => v.category).sum ≤ 8 := by rw [s_cat_sum]; exact c3
    have hlsz : ls.size = s_mL r := by rw [hL.1, hlen, hml]
    have hpre : ∀ U : State, U.heap = H → s.WarmedH U.vm → s_Pc S G (st.take (s_na r2)).reverse h ((st.take (s_na r2)).reverse.map (s_vc G)).toArray U := fun U hU hWm =>
      ⟨rfl, s_In_moved NW hWm (fun a ha hna => by rw [hU]; exact hS.2.1 a ha hna) hI, by rw [hU]; exact hW, by rw [hU]; exact hsize⟩
    have hfit : h.2.2.length - N0 + (o1.2.2.2.length - h.2.2.length) ≤ R.cells ∧ s_sz S h.2.2 - M0 + (s_sz S o1.2.2.2 - s_sz S h.2.2) ≤ R.slots := by omega
    have hstk := s_split G st (s_na r2)
    unfold s_chk at hck
    simp only [Bool.and_eq_true, decide_eq_true_eq, Bool.or_eq_true] at hck
    obtain ⟨⟨⟨⟨⟨hdg, hln⟩, hw1⟩, hw2⟩, hsd⟩, hso⟩ := hck
    have hw := s_wds_in hw1 hw2
    clear hw1 hw2 hso
    obtain ⟨pc, i, n, idx, pl⟩ := ev
    dsimp only at hdg hln hw hsd hci kk ⊢
    have hlt : (st.take (s_na r2)).reverse.length = s_na r2 := by rw [List.length_reverse, List.length_take]; omega
    generalize hasE : (st.take (s_na r2)).reverse = as at *
    generalize hrsE : st.drop (s_na r2) = rest at *
    cases i with
    | invokevirtual k2 =>
      cases hci
      have hn3 : n = 3 := hln.resolve_left (Nat.succ_ne_zero _)
      subst hn3
      dsimp only at hk2 c4
      dsimp only [s_sd] at hsd
      dsimp only [s_wds, s_wc] at hw
      rw [hk2] at hsd hw
      dsimp only at hsd hw
      obtain ⟨a, cc, as2, rfl, heq, rfl⟩ := s_rc_0 c4
      simp only [s_okc, Bool.and_eq_true, decide_eq_true_eq] at hsd
      obtain ⟨⟨⟨hna, ⟨⟨⟨⟨hf1, hf2⟩, hy1⟩, hy2⟩, hd⟩, -⟩, hcn⟩, hc0⟩ := hsd
      obtain ⟨g1, g2, g3⟩ := s_Wd_len hW heq
      have g4 := g3 (by decide)
      have g5 := s_ws_at S G h g4 g2
      rw [s_cell_o g1] at g5
      obtain ⟨qc, e1, e2, e3, e4⟩ := s_cl_of hc0
      have hrecv := va_recv hI.1 hW.2.1 e1 g5
      rw [← e4, hcn] at hrecv
      refine s_call (o := o1) (rest := rest) (a := ((Value.ref a :: as2).map (s_vc G)).toArray) ?_ hle hN2 hM2 hlen hS hL kk
      exact va_runV (C := (s_y r2).cls) (b := s_ad G a) (As := as2.map (s_vc G)) (rest := rest.map (s_vc G)) (g := F0 m pc ls (st.map (s_vc G))) (Ts := s_TW big) (n := s_na r2 - 1) ⟨hx, hb, hml, hown, hts⟩ Mt (cwV (s_na r2 - 1) hts (s_GI (fun w hq => by
        rcases List.mem_append.mp hq with z | z
        · refine hw w ?_
          simp only [List.mem_cons, List.not_mem_nil, or_false] at z ⊢
          rcases z with z | z | z | z <;> simp [z]
        · rcases List.mem_cons.mp z with z | z
          · refine hw w ?_
            simp [z]
          · exact z)) rfl rfl rfl ⟨rfl, hy1, hy2, hd⟩ ⟨by show s_fr r2 + 1 ≤ _; omega, by show _ + _ + s_lo r2 ≤ _; omega⟩) ⟨s_blind NW _ h, hrecv, hpre⟩ rfl (by rw [List.length_map]; simp only [List.length_cons] at hlt; omega) hlsz (by show st.map (s_vc G) = _; rw [hstk]; simp [s_vc]) (lv_room hcat) hdg hfit
    | invokestatic k2 =>
      cases hci
      have hn3 : n = 3 := hln.resolve_left (Nat.succ_ne_zero _)
      subst hn3
      dsimp only at hk2 c4
      dsimp only [s_sd] at hsd
      dsimp only [s_wds, s_wc] at hw
      rw [hk2] at hsd hw
      dsimp only at hsd hw
      simp only [s_okc, Bool.and_eq_true, decide_eq_true_eq] at hsd
      obtain ⟨⟨⟨⟨⟨hf1, hf2⟩, hy1⟩, hy2⟩, hd⟩, -⟩ := hsd
      refine s_call (o := o1) (rest := rest) (a := (as.map (s_vc G)).toArray) ?_ hle hN2 hM2 hlen hS hL kk
      exact va_runS (As := as.map (s_vc G)) (rest := rest.map (s_vc G)) (g := F0 m pc ls (st.map (s_vc G))) (Ts := s_TW big) (n := s_na r2) ⟨hx, hb, hml, hown, hts⟩ Mt (va_cwS (s_na r2) hts (s_GI (fun w hq => by
            rcases List.mem_append.mp hq with z | z
            · refine hw w ?_
              simp only [List.mem_cons, List.not_mem_nil, or_false] at z ⊢
              rcases z with z | z | z <;> simp [z]
            · rcases List.mem_cons.mp z with z | z
              · refine hw w ?_
                simp [z]
              · exact z)) rfl rfl rfl ⟨hy1, hy2, hd⟩ ⟨by show s_fr r2 + 1 ≤ _; omega, by show _ + _ + s_lo r2 ≤ _; omega⟩) ⟨s_blind NW _ h, hpre⟩ rfl (by rw [List.length_map]; exact hlt) hlsz hstk (lv_room hcat) hdg hfit
    | invokespecial k2 =>
      cases hci
      have hn3 : n = 3 := hln.resolve_left (Nat.succ_ne_zero _)
      subst hn3
      dsimp only at hk2 c4
      dsimp only [s_sd] at hsd
      dsimp only [s_wds, s_wc] at hw
      rw [hk2] at hsd hw
      dsimp only at hsd hw
      obtain ⟨a, as2, rfl⟩ := s_rc_2 (Or.inl c4)
      simp only [s_okc, Bool.and_eq_true, decide_eq_true_eq, Bool.or_eq_true, Bool.not_true, Bool.false_eq_true, false_or] at hsd
      obtain ⟨hna, ⟨⟨⟨⟨hf1, hf2⟩, hy1⟩, hy2⟩, hd⟩, hin1, hin2⟩ := hsd
      rw [hin2] at hw
      have Mt2 : Met l (s_y r2) (.code (s_y r2) (s_b r2) (s_mL r2) none :: s_TW big) (s_rm S r2 h o1.2) (s_Pc S G (.ref a :: as2) h) (s_Qc S G o1) (o1.2.2.2.length - h.2.2.length) (s_sz S o1.2.2.2 - s_sz S h.2.2) (s_A G) := by
        have := Mt
        unfold s_Meets s_wsl at this
        rw [hin2] at this
        exact this
      refine s_call (o := o1) (rest := rest) (a := ((Value.ref a :: as2).map (s_vc G)).toArray) ?_ hle hN2 hM2 hlen hS hL kk
      exact va_runI (b := s_ad G a) (As := as2.map (s_vc G)) (rest := rest.map (s_vc G)) (g := F0 m pc ls (st.map (s_vc G))) (Ts := s_TW big) (n := s_na r2 - 1) ⟨hx, hb, hml, hown, hts⟩ Mt2 (cwI (s_na r2 - 1) hts (s_GI (fun w z => by
          rcases List.mem_cons.mp z with z | z
          · refine hw w ?_
            simp [z]
          · exact z)) rfl rfl rfl (hts _ (hw _ (by simp))) (hts _ (hw _ (by simp))) (hts _ (hw _ (by simp))) hin1 ⟨hy1, hy2, hd⟩ ⟨by show s_fr r2 + 1 ≤ _; omega, by show _ + _ + s_lo r2 ≤ _; omega⟩) ⟨s_blind NW _ h, hpre⟩ rfl (by rw [List.length_map]; simp only [List.length_cons] at hlt; omega) hlsz (by show st.map (s_vc G) = _; rw [hstk]; simp [s_vc]) (lv_room hcat) hdg hfit
    | invokeinterface k2 z2 =>
      cases hci
      have hn3 : n = 3 := hln.resolve_left (Nat.succ_ne_zero _)
      subst hn3
      dsimp only at hk2 c4
      dsimp only [s_sd] at hsd
      dsimp only [s_wds, s_wc] at hw
      rw [hk2] at hsd hw
      dsimp only at hsd hw
      obtain ⟨a, as2, rfl⟩ := s_rc_2 (Or.inr c4)
      simp only [s_okc, Bool.and_eq_true, decide_eq_true_eq, Bool.or_eq_true, Bool.not_true, Bool.false_eq_true, false_or] at hsd
      obtain ⟨⟨hna, ⟨⟨⟨⟨hf1, hf2⟩, hy1⟩, hy2⟩, hd⟩, hin1, hin2⟩, hnw⟩ := hsd
      rw [hin2] at hw
      have Mt2 : Met l (s_y r2) (.code (s_y r2) (s_b r2) (s_mL r2) none :: s_TW big) (s_rm S r2 h o1.2) (s_Pc S G (.ref a :: as2) h) (s_Qc S G o1) (o1.2.2.2.length - h.2.2.length) (s_sz S o1.2.2.2 - s_sz S h.2.2) (s_A G) := by
        have := Mt
        unfold s_Meets s_wsl at this
        rw [hin2] at this
        exact this
      refine s_call (o := o1) (rest := rest) (a := ((Value.ref a :: as2).map (s_vc G)).toArray) ?_ hle hN2 hM2 hlen hS hL kk
      exact va_runIN (host := host) (b := s_ad G a) (As := as2.map (s_vc G)) (rest := rest.map (s_vc G)) (g := F0 m pc ls (st.map (s_vc G))) (Ts := s_TW big) (n := s_na r2 - 1) ⟨hx, hb, hml, hown, hts⟩ Mt2 ⟨va_cnB (s_na r2 - 1) hts (s_GI (fun w z => by
          rcases List.mem_cons.mp z with z | z
          · refine hw w ?_
            simp [z]
          · exact z)) rfl rfl rfl (hI.2.2.2.2 _ hnw) (hts _ (hw _ (by simp))) ⟨hy1, hy2, hd⟩ ⟨by show s_fr r2 + 1 ≤ _; omega, by show _ + _ + s_lo r2 ≤ _; omega⟩, hin1, hts _ (hw _ (by simp))⟩ ⟨s_blind NW _ h, hpre⟩ rfl (by rw [List.length_map]; simp only [List.length_cons] at hlt; omega) hlsz (by show st.map (s_vc G) = _; rw [hstk]; simp [s_vc]) (lv_room hcat) hdg hfit
    | _ => cases hci
  next hci =>
    split at hrun
    next v hrx =>
      cases hrun
      have hdg : decode (s_b r) ev.1 = .ok (ev.2.1, 1) := by
        unfold s_chk at hck
        simp only [Bool.and_eq_true, decide_eq_true_eq, Bool.or_eq_true] at hck
        obtain ⟨⟨⟨⟨⟨hdg, hln⟩, -⟩, -⟩, -⟩, -⟩ := hck
        obtain ⟨pc, i, n, idx, pl⟩ := ev
        dsimp only at hdg hln hrx ⊢
        unfold s_rx at hrx
        split at hrx <;> first
          | (cases hrx; done)
          | (have hn : n = 1 := hln.resolve_left (Nat.succ_ne_zero _)
             subst hn
             exact hdg)
      exact K ev.2.1 ev.1 L st hdg hrx
    next hrx =>
      split at hrun
      · cases hrun
      next q hx1 =>
      have hle2 := s_ext_le (S := S) (s_run_ext _ _ _ _ _ _ _ hrun)
      have hle := s_ext_le (S := S) (s_x_ext hx1)
      have kk := hB p e R s m args below meth c Q k r cn N0 M0 q.1 q.2.1 q.2.2.1 q.2.2.2 o hk C hrun hRf hRl hsz hN (Nat.le_trans hN2 hle.1) (Nat.le_trans hM2 hle.2) hroom K
      exact s_one C SK SD hck hRf hRl hsz hN hN2 hM2 ⟨by omega, by omega⟩ hx1 kk
/-- THE SMALL MACHINE IS RIGHT -/
theorem s_body (FX : s_Fix S MT big host) : ∀ f : Nat, s_BodyAt S G MT big l f
  | 0 => fun p e R s m args below meth c Q k r cn N0 M0 pc L st h o hk C hrun => by cases hrun
  | f + 1 => s_body_succ FX (s_met_of_body FX (s_body FX f)) (s_body FX f)
end BDS
end
section
/-! THE METHODS, printed by wip/p25/gen/tabs.py: pc, instruction with its links resolved, length, pool index, places of its words in lw_tbl -/
def s_S : s_SG := (s_vw, s_tyf, s_rkl, s_snf, 3, s_nwl)
/-- LeaningTrees$History.<init>()V -/
def s_m0 : sM := (yX0_init, cX0_init, 2, none, 1, 3, 68, [(0, .aload_n 0, 1, 0, []), (1, .monitorenter, 3, 3, [103, 28, 29]), (4, .aload_n 0, 1, 0, []), (5, .bipush 6, 2, 0, []), (7, .anewarray 5, 3, 9, [104]), (10, .putfield 2, 3, 11, [107]), (13, .iconst 0, 1, 0, []), (14, .istore_n 1, 1, 0, []), (15, .iload_n 1, 1, 0, []), (16, .aload_n 0, 1, 0, []), (17, .getfield 2, 3, 11, [107]), (20, .arraylength, 1, 0, []), (21, .if_icmp .ge 43, 3, 0, []), (24, .aload_n 0, 1, 0, []), (25, .getfield 2, 3, 11, [107]), (28, .iload_n 1, 1, 0, []), (29, .new 5, 3, 9, [104, 31, 14]), (32, .dup, 1, 0, []), (33, .invokespecial 28, 3, 17, [106, 33, 14, 34]), (36, .aastore, 1, 0, []), (37, .iinc 1 1, 3, 0, []), (40, .goto 15, 3, 0, []), (43, .return_, 1, 0, [])])
/-- LeaningTrees$History.keep(LLeaningTrees$Tree;)V -/
def s_m1 : sM := (yX0_keep, cX0_keep, 3, none, 2, 3, 68, [(0, .aload_n 0, 1, 0, []), (1, .getfield 8, 3, 18, [108]), (4, .aload_n 0, 1, 0, []), (5, .getfield 2, 3, 11, [107]), (8, .arraylength, 1, 0, []), (9, .if_icmp .lt 16, 3, 0, []), (12, .aload_n 0, 1, 0, []), (13, .invokevirtual 3, 3, 22, [201, 203, 0, 16, 204]), (16, .aload_n 0, 1, 0, []), (17, .aload_n 0, 1, 0, []), (18, .getfield 8, 3, 18, [108]), (21, .invokevirtual 4, 3, 25, [205, 207, 1, 16, 208]), (24, .astore_n 2, 1, 0, []), (25, .aload_n 2, 1, 0, []), (26, .ifnull 44, 3, 0, []), (29, .aload_n 2, 1, 0, []), (30, .aload_n 1, 1, 0, []), (31, .invokevirtual 29, 3, 29, [209, 210, 211, 14, 212]), (34, .aload_n 0, 1, 0, []), (35, .dup, 1, 0, []), (36, .getfield 8, 3, 18, [108]), (39, .iconst 1, 1, 0, []), (40, .iadd, 1, 0, []), (41, .putfield 8, 3, 18, [108]), (44, .return_, 1, 0, [])])
/-- LeaningTrees$History.takeBackInto(LLeaningTrees$Tree;)Z -/
def s_m2 : sM := (yX0_takeBackInto, cX0_takeBackInto, 3, (some .boolean), 2, 3, 68, [(0, .aload_n 0, 1, 0, []), (1, .aload_n 0, 1, 0, []), (2, .getfield 8, 3, 18, [108]), (5, .iconst 1, 1, 0, []), (6, .isub, 1, 0, []), (7, .invokevirtual 4, 3, 25, [205, 207, 1, 16, 208]), (10, .astore_n 2, 1, 0, []), (11, .aload_n 2, 1, 0, []), (12, .ifnonnull 17, 3, 0, []), (15, .iconst 0, 1, 0, []), (16, .ireturn, 1, 0, []), (17, .aload_n 1, 1, 0, []), (18, .aload_n 2, 1, 0, []), (19, .invokevirtual 29, 3, 29, [209, 210, 211, 14, 212]), (22, .aload_n 0, 1, 0, []), (23, .dup, 1, 0, []), (24, .getfield 8, 3, 18, [108]), (27, .iconst 1, 1, 0, []), (28, .isub, 1, 0, []), (29, .putfield 8, 3, 18, [108]), (32, .iconst 1, 1, 0, []), (33, .ireturn, 1, 0, [])])
/-- LeaningTrees$History.turn()V -/
def s_m3 : sM := (yX0_turn, cX0_turn, 3, none, 1, 1, 21, [(0, .aload_n 0, 1, 0, []), (1, .iconst 0, 1, 0, []), (2, .invokevirtual 4, 3, 25, [205, 207, 1, 16, 208]), (5, .astore_n 1, 1, 0, []), (6, .iconst 1, 1, 0, []), (7, .istore_n 2, 1, 0, []), (8, .iload_n 2, 1, 0, []), (9, .aload_n 0, 1, 0, []), (10, .getfield 2, 3, 11, [107]), (13, .arraylength, 1, 0, []), (14, .if_icmp .ge 37, 3, 0, []), (17, .aload_n 0, 1, 0, []), (18, .getfield 2, 3, 11, [107]), (21, .iload_n 2, 1, 0, []), (22, .iconst 1, 1, 0, []), (23, .isub, 1, 0, []), (24, .aload_n 0, 1, 0, []), (25, .getfield 2, 3, 11, [107]), (28, .iload_n 2, 1, 0, []), (29, .aaload, 1, 0, []), (30, .aastore, 1, 0, []), (31, .iinc 2 1, 3, 0, []), (34, .goto 8, 3, 0, []), (37, .aload_n 0, 1, 0, []), (38, .aload_n 0, 1, 0, []), (39, .getfield 2, 3, 11, [107]), (42, .arraylength, 1, 0, []), (43, .iconst 1, 1, 0, []), (44, .isub, 1, 0, []), (45, .putfield 8, 3, 18, [108]), (48, .aload_n 0, 1, 0, []), (49, .getfield 8, 3, 18, [108]), (52, .ifCond .lt 65, 3, 0, []), (55, .aload_n 0, 1, 0, []), (56, .getfield 2, 3, 11, [107]), (59, .aload_n 0, 1, 0, []), (60, .getfield 8, 3, 18, [108]), (63, .aload_n 1, 1, 0, []), (64, .aastore, 1, 0, []), (65, .return_, 1, 0, [])])
/-- LeaningTrees$History.stateAt(I)LLeaningTrees$Tree; -/
def s_m4 : sM := (yX0_stateAt, cX0_stateAt, 2, (some (.object "LeaningTrees$Tree")), 2, 0, 0, [(0, .iload_n 1, 1, 0, []), (1, .ifCond .lt 22, 3, 0, []), (4, .iload_n 1, 1, 0, []), (5, .aload_n 0, 1, 0, []), (6, .getfield 2, 3, 11, [107]), (9, .arraylength, 1, 0, []), (10, .if_icmp .ge 22, 3, 0, []), (13, .aload_n 0, 1, 0, []), (14, .getfield 2, 3, 11, [107]), (17, .iload_n 1, 1, 0, []), (18, .aaload, 1, 0, []), (19, .goto 23, 3, 0, []), (22, .aconst_null, 1, 0, []), (23, .areturn, 1, 0, [])])
/-- LeaningTrees$OrderReader.<init>()V -/
def s_m5 : sM := (yX1_init, cX1_init, 1, none, 1, 1, 26, [(0, .aload_n 0, 1, 0, []), (1, .monitorenter, 3, 3, [137, 28, 29]), (4, .return_, 1, 0, [])])
/-- LeaningTrees$Pad.<init>()V -/
def s_m17 : sM := (yX2_init, cX2_init, 1, none, 1, 2, 47, [(0, .aload_n 0, 1, 0, []), (1, .monitorenter, 3, 3, [122, 28, 29]), (4, .aload_n 0, 1, 0, []), (5, .new 3, 3, 9, [123, 37, 15]), (8, .dup, 1, 0, []), (9, .bipush 80, 2, 0, []), (11, .invokespecial 21, 3, 11, [124, 41, 15, 42]), (14, .putfield 2050, 3, 14, [125]), (17, .return_, 1, 0, [])])
/-- LeaningTrees$Row.<init>(I)V -/
def s_m21 : sM := (yX3_init, cX3_init, 2, none, 2, 1, 26, [(0, .aload_n 0, 1, 0, []), (1, .monitorenter, 3, 1, [43, 28, 29]), (4, .aload_n 0, 1, 0, []), (5, .iload_n 1, 1, 0, []), (6, .ifCond .ge 13, 3, 0, []), (9, .iconst 0, 1, 0, []), (10, .goto 14, 3, 0, []), (13, .iload_n 1, 1, 0, []), (14, .newarray .int, 2, 0, [48]), (16, .putfield 3074, 3, 7, [44]), (19, .return_, 1, 0, [])])
/-- LeaningTrees$Row.at(I)I -/
def s_m22 : sM := (yX3_at, cX3_at, 2, (some .int), 2, 0, 0, [(0, .iload_n 1, 1, 0, []), (1, .ifCond .lt 22, 3, 0, []), (4, .iload_n 1, 1, 0, []), (5, .aload_n 0, 1, 0, []), (6, .getfield 3074, 3, 7, [44]), (9, .arraylength, 1, 0, []), (10, .if_icmp .ge 22, 3, 0, []), (13, .aload_n 0, 1, 0, []), (14, .getfield 3074, 3, 7, [44]), (17, .iload_n 1, 1, 0, []), (18, .iaload, 1, 0, []), (19, .goto 23, 3, 0, []), (22, .iconst 0, 1, 0, []), (23, .ireturn, 1, 0, [])])
/-- LeaningTrees$Row.write(II)V -/
def s_m23 : sM := (yX3_write, cX3_write, 3, none, 3, 0, 0, [(0, .iload_n 1, 1, 0, []), (1, .ifCond .lt 20, 3, 0, []), (4, .iload_n 1, 1, 0, []), (5, .aload_n 0, 1, 0, []), (6, .getfield 3074, 3, 7, [44]), (9, .arraylength, 1, 0, []), (10, .if_icmp .ge 20, 3, 0, []), (13, .aload_n 0, 1, 0, []), (14, .getfield 3074, 3, 7, [44]), (17, .iload_n 1, 1, 0, []), (18, .iload_n 2, 1, 0, []), (19, .iastore, 1, 0, []), (20, .return_, 1, 0, [])])
/-- LeaningTrees$Row.become(LLeaningTrees$Row;)V -/
def s_m24 : sM := (yX3_become, cX3_become, 2, none, 2, 1, 26, [(0, .aload_n 1, 1, 0, []), (1, .getfield 3074, 3, 7, [44]), (4, .iconst 0, 1, 0, []), (5, .aload_n 0, 1, 0, []), (6, .getfield 3074, 3, 7, [44]), (9, .iconst 0, 1, 0, []), (10, .aload_n 0, 1, 0, []), (11, .getfield 3074, 3, 7, [44]), (14, .arraylength, 1, 0, []), (15, .aload_n 1, 1, 0, []), (16, .getfield 3074, 3, 7, [44]), (19, .arraylength, 1, 0, []), (20, .jsr_w 0, 3, 13, [217, 218, 20, 219]), (23, .monitorexit, 3, 19, [220, 222, 221, 21]), (26, .return_, 1, 0, [])])
/-- LeaningTrees$Row.total(II)I -/
def s_m25 : sM := (yX3_total, cX3_total, 5, (some .int), 3, 1, 21, [(0, .iconst 0, 1, 0, []), (1, .istore_n 3, 1, 0, []), (2, .iload_n 1, 1, 0, []), (3, .istore 4, 2, 0, []), (5, .iload 4, 2, 0, []), (7, .iload_n 2, 1, 0, []), (8, .if_icmp .gt 36, 3, 0, []), (11, .iload 4, 2, 0, []), (13, .aload_n 0, 1, 0, []), (14, .getfield 3074, 3, 7, [44]), (17, .arraylength, 1, 0, []), (18, .if_icmp .ge 36, 3, 0, []), (21, .iload_n 3, 1, 0, []), (22, .aload_n 0, 1, 0, []), (23, .iload 4, 2, 0, []), (25, .invokevirtual 22, 3, 25, [244, 194, 195, 15, 196]), (28, .iadd, 1, 0, []), (29, .istore_n 3, 1, 0, []), (30, .iinc 4 1, 3, 0, []), (33, .goto 5, 3, 0, []), (36, .iload_n 3, 1, 0, []), (37, .ireturn, 1, 0, [])])
/-- LeaningTrees$Row.greatest(II)I -/
def s_m26 : sM := (yX3_greatest, cX3_greatest, 5, (some .int), 3, 1, 26, [(0, .aload_n 0, 1, 0, []), (1, .iload_n 1, 1, 0, []), (2, .invokevirtual 22, 3, 25, [244, 194, 195, 15, 196]), (5, .istore_n 3, 1, 0, []), (6, .iload_n 1, 1, 0, []), (7, .istore 4, 2, 0, []), (9, .iload 4, 2, 0, []), (11, .iload_n 2, 1, 0, []), (12, .if_icmp .gt 42, 3, 0, []), (15, .iload 4, 2, 0, []), (17, .aload_n 0, 1, 0, []), (18, .getfield 3074, 3, 7, [44]), (21, .arraylength, 1, 0, []), (22, .if_icmp .ge 42, 3, 0, []), (25, .iload_n 3, 1, 0, []), (26, .aload_n 0, 1, 0, []), (27, .iload 4, 2, 0, []), (29, .invokevirtual 22, 3, 25, [244, 194, 195, 15, 196]), (32, .jsr 0, 3, 29, [292, 250, 20, 251]), (35, .istore_n 3, 1, 0, []), (36, .iinc 4 1, 3, 0, []), (39, .goto 9, 3, 0, []), (42, .iload_n 3, 1, 0, []), (43, .ireturn, 1, 0, [])])
/-- LeaningTrees$Slot.<init>()V -/
def s_m27 : sM := (yX4_init, cX4_init, 1, none, 1, 3, 68, [(0, .aload_n 0, 1, 0, []), (1, .monitorenter, 3, 1, [153, 28, 29]), (4, .aload_n 0, 1, 0, []), (5, .new 5, 3, 7, [154, 31, 14]), (8, .dup, 1, 0, []), (9, .invokespecial 28, 3, 9, [155, 33, 14, 34]), (12, .putfield 4098, 3, 10, [156]), (15, .return_, 1, 0, [])])
/-- LeaningTrees$Tree.<init>()V -/
def s_m28 : sM := (yX5_init, cX5_init, 2, none, 1, 2, 47, [(0, .aload_n 0, 1, 0, []), (1, .monitorenter, 3, 3, [35, 28, 29]), (4, .aload_n 0, 1, 0, []), (5, .new 3, 3, 9, [36, 37, 15]), (8, .dup, 1, 0, []), (9, .instanceof 0, 3, 11, []), (12, .arraylength, 1, 0, []), (13, .invokespecial 21, 3, 15, [40, 41, 15, 42]), (16, .putfield 5122, 3, 18, [53]), (19, .aload_n 0, 1, 0, []), (20, .new 3, 3, 9, [36, 37, 15]), (23, .dup, 1, 0, []), (24, .bipush 60, 2, 0, []), (26, .invokespecial 21, 3, 15, [40, 41, 15, 42]), (29, .putfield 5130, 3, 24, [55]), (32, .aload_n 0, 1, 0, []), (33, .new 3, 3, 9, [36, 37, 15]), (36, .dup, 1, 0, []), (37, .bipush 60, 2, 0, []), (39, .invokespecial 21, 3, 15, [40, 41, 15, 42]), (42, .putfield 5138, 3, 27, [57]), (45, .aload_n 0, 1, 0, []), (46, .new 3, 3, 9, [36, 37, 15]), (49, .dup, 1, 0, []), (50, .bipush 60, 2, 0, []), (52, .invokespecial 21, 3, 15, [40, 41, 15, 42]), (55, .putfield 5146, 3, 30, [59]), (58, .aload_n 0, 1, 0, []), (59, .new 3, 3, 9, [36, 37, 15]), (62, .dup, 1, 0, []), (63, .bipush 60, 2, 0, []), (65, .invokespecial 21, 3, 15, [40, 41, 15, 42]), (68, .putfield 5154, 3, 33, [61]), (71, .aload_n 0, 1, 0, []), (72, .new 3, 3, 9, [36, 37, 15]), (75, .dup, 1, 0, []), (76, .bipush 60, 2, 0, []), (78, .invokespecial 21, 3, 15, [40, 41, 15, 42]), (81, .putfield 5162, 3, 36, [63]), (84, .iconst 0, 1, 0, []), (85, .istore_n 1, 1, 0, []), (86, .iload_n 1, 1, 0, []), (87, .instanceof 0, 3, 11, []), (90, .arraylength, 1, 0, []), (91, .if_icmp .ge 113, 3, 0, []), (94, .aload_n 0, 1, 0, []), (95, .getfield 5122, 3, 18, [53]), (98, .iload_n 1, 1, 0, []), (99, .instanceof 0, 3, 11, []), (102, .iload_n 1, 1, 0, []), (103, .iaload, 1, 0, []), (104, .invokevirtual 23, 3, 39, [49, 50, 51, 15, 52]), (107, .iinc 1 1, 3, 0, []), (110, .goto 86, 3, 0, []), (113, .return_, 1, 0, [])])
/-- LeaningTrees$Tree.become(LLeaningTrees$Tree;)V -/
def s_m29 : sM := (yX5_become, cX5_become, 2, none, 2, 2, 47, [(0, .aload_n 0, 1, 0, []), (1, .getfield 5122, 3, 18, [53]), (4, .aload_n 1, 1, 0, []), (5, .getfield 5122, 3, 18, [53]), (8, .invokevirtual 24, 3, 43, [213, 214, 215, 15, 216]), (11, .aload_n 0, 1, 0, []), (12, .getfield 5130, 3, 24, [55]), (15, .aload_n 1, 1, 0, []), (16, .getfield 5130, 3, 24, [55]), (19, .invokevirtual 24, 3, 43, [213, 214, 215, 15, 216]), (22, .aload_n 0, 1, 0, []), (23, .getfield 5138, 3, 27, [57]), (26, .aload_n 1, 1, 0, []), (27, .getfield 5138, 3, 27, [57]), (30, .invokevirtual 24, 3, 43, [213, 214, 215, 15, 216]), (33, .aload_n 0, 1, 0, []), (34, .getfield 5146, 3, 30, [59]), (37, .aload_n 1, 1, 0, []), (38, .getfield 5146, 3, 30, [59]), (41, .invokevirtual 24, 3, 43, [213, 214, 215, 15, 216]), (44, .aload_n 0, 1, 0, []), (45, .getfield 5154, 3, 33, [61]), (48, .aload_n 1, 1, 0, []), (49, .getfield 5154, 3, 33, [61]), (52, .invokevirtual 24, 3, 43, [213, 214, 215, 15, 216]), (55, .aload_n 0, 1, 0, []), (56, .getfield 5162, 3, 36, [63]), (59, .aload_n 1, 1, 0, []), (60, .getfield 5162, 3, 36, [63]), (63, .invokevirtual 24, 3, 43, [213, 214, 215, 15, 216]), (66, .aload_n 0, 1, 0, []), (67, .aload_n 1, 1, 0, []), (68, .getfield 5168, 3, 47, [65]), (71, .putfield 5168, 3, 47, [65]), (74, .aload_n 0, 1, 0, []), (75, .aload_n 1, 1, 0, []), (76, .getfield 5176, 3, 51, [67]), (79, .putfield 5176, 3, 51, [67]), (82, .aload_n 0, 1, 0, []), (83, .aload_n 1, 1, 0, []), (84, .getfield 5184, 3, 54, [69]), (87, .putfield 5184, 3, 54, [69]), (90, .aload_n 0, 1, 0, []), (91, .aload_n 1, 1, 0, []), (92, .getfield 5192, 3, 57, [71]), (95, .putfield 5192, 3, 57, [71]), (98, .aload_n 0, 1, 0, []), (99, .aload_n 1, 1, 0, []), (100, .getfield 5200, 3, 60, [73]), (103, .putfield 5200, 3, 60, [73]), (106, .return_, 1, 0, [])])
/-- LeaningTrees$Tree.placeOf(I)I -/
def s_m30 : sM := (yX5_placeOf, cX5_placeOf, 3, (some .int), 2, 1, 21, [(0, .iconst 0, 1, 0, []), (1, .istore_n 2, 1, 0, []), (2, .iload_n 2, 1, 0, []), (3, .aload_n 0, 1, 0, []), (4, .getfield 5168, 3, 47, [65]), (7, .if_icmp .ge 28, 3, 0, []), (10, .aload_n 0, 1, 0, []), (11, .getfield 5130, 3, 24, [55]), (14, .iload_n 2, 1, 0, []), (15, .invokevirtual 22, 3, 63, [193, 194, 195, 15, 196]), (18, .iload_n 1, 1, 0, []), (19, .if_icmp .ge 28, 3, 0, []), (22, .iinc 2 1, 3, 0, []), (25, .goto 2, 3, 0, []), (28, .iload_n 2, 1, 0, []), (29, .ireturn, 1, 0, [])])
/-- LeaningTrees$Tree.nodeOf(I)I -/
def s_m31 : sM := (yX5_nodeOf, cX5_nodeOf, 3, (some .int), 2, 2, 43, [(0, .aload_n 0, 1, 0, []), (1, .iload_n 1, 1, 0, []), (2, .invokevirtual 30, 3, 67, [189, 190, 191, 14, 192]), (5, .istore_n 2, 1, 0, []), (6, .iload_n 2, 1, 0, []), (7, .aload_n 0, 1, 0, []), (8, .getfield 5168, 3, 47, [65]), (11, .if_icmp .ge 30, 3, 0, []), (14, .aload_n 0, 1, 0, []), (15, .getfield 5130, 3, 24, [55]), (18, .iload_n 2, 1, 0, []), (19, .invokevirtual 22, 3, 63, [193, 194, 195, 15, 196]), (22, .iload_n 1, 1, 0, []), (23, .if_icmp .ne 30, 3, 0, []), (26, .iload_n 2, 1, 0, []), (27, .goto 32, 3, 0, []), (30, .bipush (-6), 2, 0, []), (32, .ireturn, 1, 0, [])])
/-- LeaningTrees$Tree.fullNodeOf(I)I -/
def s_m32 : sM := (yX5_fullNodeOf, cX5_fullNodeOf, 3, (some .int), 2, 3, 65, [(0, .aload_n 0, 1, 0, []), (1, .iload_n 1, 1, 0, []), (2, .invokevirtual 31, 3, 70, [227, 186, 187, 14, 188]), (5, .istore_n 2, 1, 0, []), (6, .iload_n 2, 1, 0, []), (7, .bipush (-6), 2, 0, []), (9, .if_icmp .eq 24, 3, 0, []), (12, .aload_n 0, 1, 0, []), (13, .iload_n 2, 1, 0, []), (14, .invokevirtual 33, 3, 73, [256, 257, 258, 14, 259]), (17, .ifCond .eq 24, 3, 0, []), (20, .iload_n 2, 1, 0, []), (21, .goto 26, 3, 0, []), (24, .bipush (-6), 2, 0, []), (26, .ireturn, 1, 0, [])])
/-- LeaningTrees$Tree.isFull(I)Z -/
def s_m33 : sM := (yX5_isFull, cX5_isFull, 2, (some .boolean), 2, 1, 21, [(0, .aload_n 0, 1, 0, []), (1, .getfield 5162, 3, 36, [63]), (4, .iload_n 1, 1, 0, []), (5, .invokevirtual 22, 3, 63, [193, 194, 195, 15, 196]), (8, .iconst 1, 1, 0, []), (9, .if_icmp .ne 16, 3, 0, []), (12, .iconst 1, 1, 0, []), (13, .goto 17, 3, 0, []), (16, .iconst 0, 1, 0, []), (17, .ireturn, 1, 0, [])])
/-- LeaningTrees$Tree.allKeys()I -/
def s_m34 : sM := (yX5_allKeys, cX5_allKeys, 1, (some .int), 1, 2, 45, [(0, .aload_n 0, 1, 0, []), (1, .getfield 5162, 3, 36, [63]), (4, .iconst 0, 1, 0, []), (5, .aload_n 0, 1, 0, []), (6, .getfield 5168, 3, 47, [65]), (9, .iconst 1, 1, 0, []), (10, .isub, 1, 0, []), (11, .invokevirtual 25, 3, 77, [240, 241, 242, 15, 243]), (14, .ireturn, 1, 0, [])])
/-- LeaningTrees$Tree.keysAhead(I)I -/
def s_m35 : sM := (yX5_keysAhead, cX5_keysAhead, 2, (some .int), 2, 2, 45, [(0, .aload_n 0, 1, 0, []), (1, .getfield 5162, 3, 36, [63]), (4, .iconst 0, 1, 0, []), (5, .aload_n 0, 1, 0, []), (6, .iload_n 1, 1, 0, []), (7, .invokevirtual 30, 3, 67, [189, 190, 191, 14, 192]), (10, .iconst 1, 1, 0, []), (11, .isub, 1, 0, []), (12, .invokevirtual 25, 3, 77, [240, 241, 242, 15, 243]), (15, .ireturn, 1, 0, [])])
/-- LeaningTrees$Tree.placeOfKth(I)I -/
def s_m36 : sM := (yX5_placeOfKth, cX5_placeOfKth, 4, (some .int), 2, 2, 42, [(0, .iconst 0, 1, 0, []), (1, .istore_n 2, 1, 0, []), (2, .iconst 0, 1, 0, []), (3, .istore_n 3, 1, 0, []), (4, .iload_n 3, 1, 0, []), (5, .aload_n 0, 1, 0, []), (6, .getfield 5168, 3, 47, [65]), (9, .if_icmp .ge 36, 3, 0, []), (12, .aload_n 0, 1, 0, []), (13, .iload_n 3, 1, 0, []), (14, .invokevirtual 33, 3, 73, [256, 257, 258, 14, 259]), (17, .ifCond .eq 30, 3, 0, []), (20, .iload_n 2, 1, 0, []), (21, .iload_n 1, 1, 0, []), (22, .if_icmp .ne 27, 3, 0, []), (25, .iload_n 3, 1, 0, []), (26, .ireturn, 1, 0, []), (27, .iinc 2 1, 3, 0, []), (30, .iinc 3 1, 3, 0, []), (33, .goto 4, 3, 0, []), (36, .bipush (-6), 2, 0, []), (38, .ireturn, 1, 0, [])])
/-- LeaningTrees$Tree.lowestOf(I)I -/
def s_m37 : sM := (yX5_lowestOf, cX5_lowestOf, 3, (some .int), 2, 1, 21, [(0, .iload_n 1, 1, 0, []), (1, .istore_n 2, 1, 0, []), (2, .iload_n 2, 1, 0, []), (3, .ifCond .le 33, 3, 0, []), (6, .aload_n 0, 1, 0, []), (7, .getfield 5154, 3, 33, [61]), (10, .iload_n 2, 1, 0, []), (11, .iconst 1, 1, 0, []), (12, .isub, 1, 0, []), (13, .invokevirtual 22, 3, 63, [193, 194, 195, 15, 196]), (16, .aload_n 0, 1, 0, []), (17, .getfield 5154, 3, 33, [61]), (20, .iload_n 1, 1, 0, []), (21, .invokevirtual 22, 3, 63, [193, 194, 195, 15, 196]), (24, .if_icmp .le 33, 3, 0, []), (27, .iinc 2 (-1), 3, 0, []), (30, .goto 2, 3, 0, []), (33, .iload_n 2, 1, 0, []), (34, .ireturn, 1, 0, [])])
/-- LeaningTrees$Tree.highestOf(I)I -/
def s_m38 : sM := (yX5_highestOf, cX5_highestOf, 3, (some .int), 2, 1, 21, [(0, .iload_n 1, 1, 0, []), (1, .istore_n 2, 1, 0, []), (2, .iload_n 2, 1, 0, []), (3, .aload_n 0, 1, 0, []), (4, .getfield 5168, 3, 47, [65]), (7, .iconst 1, 1, 0, []), (8, .isub, 1, 0, []), (9, .if_icmp .ge 39, 3, 0, []), (12, .aload_n 0, 1, 0, []), (13, .getfield 5154, 3, 33, [61]), (16, .iload_n 2, 1, 0, []), (17, .iconst 1, 1, 0, []), (18, .iadd, 1, 0, []), (19, .invokevirtual 22, 3, 63, [193, 194, 195, 15, 196]), (22, .aload_n 0, 1, 0, []), (23, .getfield 5154, 3, 33, [61]), (26, .iload_n 1, 1, 0, []), (27, .invokevirtual 22, 3, 63, [193, 194, 195, 15, 196]), (30, .if_icmp .le 39, 3, 0, []), (33, .iinc 2 1, 3, 0, []), (36, .goto 2, 3, 0, []), (39, .iload_n 2, 1, 0, []), (40, .ireturn, 1, 0, [])])
/-- LeaningTrees$Tree.topBetween(III)I -/
def s_m39 : sM := (yX5_topBetween, cX5_topBetween, 5, (some .int), 4, 1, 21, [(0, .iload_n 1, 1, 0, []), (1, .istore 4, 2, 0, []), (3, .iload 4, 2, 0, []), (5, .iload_n 2, 1, 0, []), (6, .if_icmp .ge 28, 3, 0, []), (9, .aload_n 0, 1, 0, []), (10, .getfield 5154, 3, 33, [61]), (13, .iload 4, 2, 0, []), (15, .invokevirtual 22, 3, 63, [193, 194, 195, 15, 196]), (18, .iload_n 3, 1, 0, []), (19, .if_icmp .eq 28, 3, 0, []), (22, .iinc 4 1, 3, 0, []), (25, .goto 3, 3, 0, []), (28, .iload 4, 2, 0, []), (30, .ireturn, 1, 0, [])])
/-- LeaningTrees$Tree.isTooHeavy(II)Z -/
def s_m40 : sM := (yX5_isTooHeavy, cX5_isTooHeavy, 3, (some .boolean), 3, 1, 26, [(0, .bipush 100, 2, 0, []), (2, .iload_n 1, 1, 0, []), (3, .iload_n 2, 1, 0, []), (4, .jsr 0, 3, 81, [249, 250, 20, 251]), (7, .imul, 1, 0, []), (8, .aload_n 0, 1, 0, []), (9, .getfield 5122, 3, 18, [53]), (12, .iconst 0, 1, 0, []), (13, .invokevirtual 22, 3, 63, [193, 194, 195, 15, 196]), (16, .iload_n 1, 1, 0, []), (17, .iload_n 2, 1, 0, []), (18, .iadd, 1, 0, []), (19, .iconst 1, 1, 0, []), (20, .iadd, 1, 0, []), (21, .imul, 1, 0, []), (22, .if_icmp .le 29, 3, 0, []), (25, .iconst 1, 1, 0, []), (26, .goto 30, 3, 0, []), (29, .iconst 0, 1, 0, []), (30, .ireturn, 1, 0, [])])
/-- LeaningTrees$Tree.leans(I)Z -/
def s_m41 : sM := (yX5_leans, cX5_leans, 2, (some .boolean), 2, 2, 48, [(0, .aload_n 0, 1, 0, []), (1, .iload_n 1, 1, 0, []), (2, .aload_n 0, 1, 0, []), (3, .iload_n 1, 1, 0, []), (4, .invokevirtual 37, 3, 86, [232, 233, 234, 14, 235]), (7, .isub, 1, 0, []), (8, .aload_n 0, 1, 0, []), (9, .iload_n 1, 1, 0, []), (10, .invokevirtual 38, 3, 89, [236, 237, 238, 14, 239]), (13, .iload_n 1, 1, 0, []), (14, .isub, 1, 0, []), (15, .invokevirtual 40, 3, 92, [307, 308, 309, 14, 310]), (18, .ireturn, 1, 0, [])])
/-- LeaningTrees$Tree.leaningNodes()I -/
def s_m42 : sM := (yX5_leaningNodes, cX5_leaningNodes, 3, (some .int), 1, 3, 69, [(0, .iconst 0, 1, 0, []), (1, .istore_n 1, 1, 0, []), (2, .iconst 0, 1, 0, []), (3, .istore_n 2, 1, 0, []), (4, .iload_n 2, 1, 0, []), (5, .aload_n 0, 1, 0, []), (6, .getfield 5168, 3, 47, [65]), (9, .if_icmp .ge 34, 3, 0, []), (12, .iload_n 1, 1, 0, []), (13, .aload_n 0, 1, 0, []), (14, .iload_n 2, 1, 0, []), (15, .invokevirtual 41, 3, 96, [303, 304, 305, 14, 306]), (18, .ifCond .eq 25, 3, 0, []), (21, .iconst 1, 1, 0, []), (22, .goto 26, 3, 0, []), (25, .iconst 0, 1, 0, []), (26, .iadd, 1, 0, []), (27, .istore_n 1, 1, 0, []), (28, .iinc 2 1, 3, 0, []), (31, .goto 4, 3, 0, []), (34, .iload_n 1, 1, 0, []), (35, .ireturn, 1, 0, [])])
/-- LeaningTrees$Tree.wouldLeanWithNewAt(I)I -/
def s_m43 : sM := (yX5_wouldLeanWithNewAt, cX5_wouldLeanWithNewAt, 8, (some .int), 2, 2, 48, [(0, .iconst 0, 1, 0, []), (1, .istore_n 2, 1, 0, []), (2, .aload_n 0, 1, 0, []), (3, .getfield 5168, 3, 47, [65]), (6, .iconst 1, 1, 0, []), (7, .isub, 1, 0, []), (8, .istore_n 3, 1, 0, []), (9, .iconst 0, 1, 0, []), (10, .istore 4, 2, 0, []), (12, .iload 4, 2, 0, []), (14, .bipush 60, 2, 0, []), (16, .if_icmp .ge 91, 3, 0, []), (19, .iload_n 2, 1, 0, []), (20, .iload_n 3, 1, 0, []), (21, .if_icmp .gt 91, 3, 0, []), (24, .aload_n 0, 1, 0, []), (25, .iload_n 2, 1, 0, []), (26, .iload_n 3, 1, 0, []), (27, .iload 4, 2, 0, []), (29, .invokevirtual 39, 3, 99, [358, 284, 285, 14, 286]), (32, .istore 5, 2, 0, []), (34, .iload 5, 2, 0, []), (36, .iload_n 2, 1, 0, []), (37, .isub, 1, 0, []), (38, .istore 6, 2, 0, []), (40, .iload_n 3, 1, 0, []), (41, .iload 5, 2, 0, []), (43, .isub, 1, 0, []), (44, .istore 7, 2, 0, []), (46, .iload_n 1, 1, 0, []), (47, .iload 5, 2, 0, []), (49, .if_icmp .gt 63, 3, 0, []), (52, .iinc 6 1, 3, 0, []), (55, .iload 5, 2, 0, []), (57, .iconst 1, 1, 0, []), (58, .isub, 1, 0, []), (59, .istore_n 3, 1, 0, []), (60, .goto 71, 3, 0, []), (63, .iinc 7 1, 3, 0, []), (66, .iload 5, 2, 0, []), (68, .iconst 1, 1, 0, []), (69, .iadd, 1, 0, []), (70, .istore_n 2, 1, 0, []), (71, .aload_n 0, 1, 0, []), (72, .iload 6, 2, 0, []), (74, .iload 7, 2, 0, []), (76, .invokevirtual 40, 3, 92, [307, 308, 309, 14, 310]), (79, .ifCond .eq 85, 3, 0, []), (82, .iload 5, 2, 0, []), (84, .ireturn, 1, 0, []), (85, .iinc 4 1, 3, 0, []), (88, .goto 12, 3, 0, []), (91, .bipush (-6), 2, 0, []), (93, .ireturn, 1, 0, [])])
/-- LeaningTrees$Tree.costOf(I)I -/
def s_m44 : sM := (yX5_costOf, cX5_costOf, 3, (some .int), 2, 3, 75, [(0, .aload_n 0, 1, 0, []), (1, .iload_n 1, 1, 0, []), (2, .invokevirtual 31, 3, 70, [227, 186, 187, 14, 188]), (5, .bipush (-6), 2, 0, []), (7, .if_icmp .eq 12, 3, 0, []), (10, .iconst 0, 1, 0, []), (11, .ireturn, 1, 0, []), (12, .aload_n 0, 1, 0, []), (13, .aload_n 0, 1, 0, []), (14, .iload_n 1, 1, 0, []), (15, .invokevirtual 30, 3, 67, [189, 190, 191, 14, 192]), (18, .invokevirtual 43, 3, 103, [354, 355, 356, 14, 357]), (21, .istore_n 2, 1, 0, []), (22, .iload_n 2, 1, 0, []), (23, .bipush (-6), 2, 0, []), (25, .if_icmp .ne 32, 3, 0, []), (28, .iconst 0, 1, 0, []), (29, .goto 45, 3, 0, []), (32, .aload_n 0, 1, 0, []), (33, .iload_n 2, 1, 0, []), (34, .invokevirtual 38, 3, 89, [236, 237, 238, 14, 239]), (37, .aload_n 0, 1, 0, []), (38, .iload_n 2, 1, 0, []), (39, .invokevirtual 37, 3, 86, [232, 233, 234, 14, 235]), (42, .isub, 1, 0, []), (43, .iconst 2, 1, 0, []), (44, .iadd, 1, 0, []), (45, .ireturn, 1, 0, [])])
/-- LeaningTrees$Tree.hasRoomFor(I)Z -/
def s_m45 : sM := (yX5_hasRoomFor, cX5_hasRoomFor, 2, (some .boolean), 2, 3, 65, [(0, .aload_n 0, 1, 0, []), (1, .getfield 5168, 3, 47, [65]), (4, .bipush 60, 2, 0, []), (6, .if_icmp .lt 19, 3, 0, []), (9, .aload_n 0, 1, 0, []), (10, .iload_n 1, 1, 0, []), (11, .invokevirtual 31, 3, 70, [227, 186, 187, 14, 188]), (14, .bipush (-6), 2, 0, []), (16, .if_icmp .eq 23, 3, 0, []), (19, .iconst 1, 1, 0, []), (20, .goto 24, 3, 0, []), (23, .iconst 0, 1, 0, []), (24, .ireturn, 1, 0, [])])
/-- LeaningTrees$Tree.enter(II)I -/
def s_m46 : sM := (yX5_enter, cX5_enter, 5, (some .int), 3, 4, 95, [(0, .aload_n 0, 1, 0, []), (1, .iload_n 1, 1, 0, []), (2, .invokevirtual 45, 3, 106, [367, 347, 348, 14, 349]), (5, .ifCond .ne 11, 3, 0, []), (8, .bipush (-4), 2, 0, []), (10, .ireturn, 1, 0, []), (11, .aload_n 0, 1, 0, []), (12, .iload_n 1, 1, 0, []), (13, .invokevirtual 30, 3, 67, [189, 190, 191, 14, 192]), (16, .istore_n 3, 1, 0, []), (17, .aload_n 0, 1, 0, []), (18, .iload_n 1, 1, 0, []), (19, .invokevirtual 31, 3, 70, [227, 186, 187, 14, 188]), (22, .bipush (-6), 2, 0, []), (24, .if_icmp .eq 52, 3, 0, []), (27, .aload_n 0, 1, 0, []), (28, .getfield 5138, 3, 27, [57]), (31, .iload_n 3, 1, 0, []), (32, .iload_n 2, 1, 0, []), (33, .invokevirtual 23, 3, 39, [49, 50, 51, 15, 52]), (36, .aload_n 0, 1, 0, []), (37, .getfield 5162, 3, 36, [63]), (40, .iload_n 3, 1, 0, []), (41, .iconst 1, 1, 0, []), (42, .invokevirtual 23, 3, 39, [49, 50, 51, 15, 52]), (45, .aload_n 0, 1, 0, []), (46, .iload_n 3, 1, 0, []), (47, .invokevirtual 49, 3, 109, [368, 370, 9, 14, 371]), (50, .iconst 0, 1, 0, []), (51, .ireturn, 1, 0, []), (52, .aload_n 0, 1, 0, []), (53, .iload_n 3, 1, 0, []), (54, .invokevirtual 43, 3, 103, [354, 355, 356, 14, 357]), (57, .istore 4, 2, 0, []), (59, .aload_n 0, 1, 0, []), (60, .iload_n 3, 1, 0, []), (61, .iload_n 1, 1, 0, []), (62, .iload_n 2, 1, 0, []), (63, .invokevirtual 50, 3, 112, [372, 374, 10, 14, 375]), (66, .aload_n 0, 1, 0, []), (67, .iload_n 3, 1, 0, []), (68, .invokevirtual 49, 3, 109, [368, 370, 9, 14, 371]), (71, .iload 4, 2, 0, []), (73, .bipush (-6), 2, 0, []), (75, .if_icmp .ne 80, 3, 0, []), (78, .iconst 0, 1, 0, []), (79, .ireturn, 1, 0, []), (80, .aload_n 0, 1, 0, []), (81, .iload 4, 2, 0, []), (83, .iload_n 3, 1, 0, []), (84, .if_icmp .ge 92, 3, 0, []), (87, .iload 4, 2, 0, []), (89, .goto 96, 3, 0, []), (92, .iload 4, 2, 0, []), (94, .iconst 1, 1, 0, []), (95, .iadd, 1, 0, []), (96, .invokevirtual 52, 3, 116, [228, 230, 2, 14, 231]), (99, .ireturn, 1, 0, [])])
/-- LeaningTrees$Tree.hollowOut(I)I -/
def s_m47 : sM := (yX5_hollowOut, cX5_hollowOut, 4, (some .int), 2, 4, 95, [(0, .aload_n 0, 1, 0, []), (1, .iload_n 1, 1, 0, []), (2, .invokevirtual 32, 3, 119, [384, 339, 340, 14, 341]), (5, .istore_n 2, 1, 0, []), (6, .iload_n 2, 1, 0, []), (7, .bipush (-6), 2, 0, []), (9, .if_icmp .ne 14, 3, 0, []), (12, .iconst (-1), 1, 0, []), (13, .ireturn, 1, 0, []), (14, .aload_n 0, 1, 0, []), (15, .getfield 5162, 3, 36, [63]), (18, .iload_n 2, 1, 0, []), (19, .iconst 0, 1, 0, []), (20, .invokevirtual 23, 3, 39, [49, 50, 51, 15, 52]), (23, .aload_n 0, 1, 0, []), (24, .iload_n 2, 1, 0, []), (25, .invokevirtual 49, 3, 109, [368, 370, 9, 14, 371]), (28, .aload_n 0, 1, 0, []), (29, .getfield 5168, 3, 47, [65]), (32, .aload_n 0, 1, 0, []), (33, .invokevirtual 34, 3, 122, [385, 276, 277, 14, 278]), (36, .isub, 1, 0, []), (37, .istore_n 3, 1, 0, []), (38, .bipush 100, 2, 0, []), (40, .iload_n 3, 1, 0, []), (41, .imul, 1, 0, []), (42, .aload_n 0, 1, 0, []), (43, .getfield 5122, 3, 18, [53]), (46, .iconst 1, 1, 0, []), (47, .invokevirtual 22, 3, 63, [193, 194, 195, 15, 196]), (50, .aload_n 0, 1, 0, []), (51, .getfield 5168, 3, 47, [65]), (54, .imul, 1, 0, []), (55, .if_icmp .le 77, 3, 0, []), (58, .aload_n 0, 1, 0, []), (59, .aload_n 0, 1, 0, []), (60, .iconst 0, 1, 0, []), (61, .aload_n 0, 1, 0, []), (62, .getfield 5168, 3, 47, [65]), (65, .iconst 1, 1, 0, []), (66, .isub, 1, 0, []), (67, .iconst 0, 1, 0, []), (68, .invokevirtual 39, 3, 99, [358, 284, 285, 14, 286]), (71, .invokevirtual 52, 3, 116, [228, 230, 2, 14, 231]), (74, .goto 78, 3, 0, []), (77, .iconst 0, 1, 0, []), (78, .ireturn, 1, 0, [])])
/-- LeaningTrees$Tree.layAnewFromKey(I)I -/
def s_m48 : sM := (yX5_layAnewFromKey, cX5_layAnewFromKey, 3, (some .int), 2, 4, 95, [(0, .aload_n 0, 1, 0, []), (1, .iload_n 1, 1, 0, []), (2, .invokevirtual 31, 3, 70, [227, 186, 187, 14, 188]), (5, .istore_n 2, 1, 0, []), (6, .iload_n 2, 1, 0, []), (7, .bipush (-6), 2, 0, []), (9, .if_icmp .ne 16, 3, 0, []), (12, .iconst (-1), 1, 0, []), (13, .goto 21, 3, 0, []), (16, .aload_n 0, 1, 0, []), (17, .iload_n 2, 1, 0, []), (18, .invokevirtual 52, 3, 116, [228, 230, 2, 14, 231]), (21, .ireturn, 1, 0, [])])
/-- LeaningTrees$Tree.payOnWayTo(I)V -/
def s_m49 : sM := (yX5_payOnWayTo, cX5_payOnWayTo, 6, none, 2, 2, 45, [(0, .iconst 0, 1, 0, []), (1, .istore_n 2, 1, 0, []), (2, .aload_n 0, 1, 0, []), (3, .getfield 5168, 3, 47, [65]), (6, .iconst 1, 1, 0, []), (7, .isub, 1, 0, []), (8, .istore_n 3, 1, 0, []), (9, .iconst 0, 1, 0, []), (10, .istore 4, 2, 0, []), (12, .iload 4, 2, 0, []), (14, .bipush 60, 2, 0, []), (16, .if_icmp .ge 104, 3, 0, []), (19, .iload_n 2, 1, 0, []), (20, .iload_n 3, 1, 0, []), (21, .if_icmp .gt 104, 3, 0, []), (24, .aload_n 0, 1, 0, []), (25, .iload_n 2, 1, 0, []), (26, .iload_n 3, 1, 0, []), (27, .iload 4, 2, 0, []), (29, .invokevirtual 39, 3, 99, [358, 284, 285, 14, 286]), (32, .istore 5, 2, 0, []), (34, .aload_n 0, 1, 0, []), (35, .getfield 5146, 3, 30, [59]), (38, .iload 5, 2, 0, []), (40, .aload_n 0, 1, 0, []), (41, .getfield 5146, 3, 30, [59]), (44, .iload 5, 2, 0, []), (46, .invokevirtual 22, 3, 63, [193, 194, 195, 15, 196]), (49, .aload_n 0, 1, 0, []), (50, .getfield 5122, 3, 18, [53]), (53, .iconst 2, 1, 0, []), (54, .invokevirtual 22, 3, 63, [193, 194, 195, 15, 196]), (57, .iadd, 1, 0, []), (58, .invokevirtual 23, 3, 39, [49, 50, 51, 15, 52]), (61, .iload 5, 2, 0, []), (63, .iload_n 1, 1, 0, []), (64, .if_icmp .ge 74, 3, 0, []), (67, .iload 5, 2, 0, []), (69, .iconst 1, 1, 0, []), (70, .iadd, 1, 0, []), (71, .goto 75, 3, 0, []), (74, .iload_n 2, 1, 0, []), (75, .istore_n 2, 1, 0, []), (76, .iload 5, 2, 0, []), (78, .iload_n 1, 1, 0, []), (79, .if_icmp .le 89, 3, 0, []), (82, .iload 5, 2, 0, []), (84, .iconst 1, 1, 0, []), (85, .isub, 1, 0, []), (86, .goto 90, 3, 0, []), (89, .iload_n 3, 1, 0, []), (90, .istore_n 3, 1, 0, []), (91, .iload 5, 2, 0, []), (93, .iload_n 1, 1, 0, []), (94, .if_icmp .ne 98, 3, 0, []), (97, .return_, 1, 0, []), (98, .iinc 4 1, 3, 0, []), (101, .goto 12, 3, 0, []), (104, .return_, 1, 0, [])])
/-- LeaningTrees$Tree.makeNode(III)V -/
def s_r50_0 : List sE := [(0, .iload_n 1, 1, 0, []), (1, .ifCond .le 17, 3, 0, []), (4, .aload_n 0, 1, 0, []), (5, .getfield 5154, 3, 33, [61]), (8, .iload_n 1, 1, 0, []), (9, .iconst 1, 1, 0, []), (10, .isub, 1, 0, []), (11, .invokevirtual 22, 3, 63, [193, 194, 195, 15, 196]), (14, .goto 18, 3, 0, []), (17, .iconst (-1), 1, 0, []), (18, .istore 4, 2, 0, []), (20, .iload_n 1, 1, 0, []), (21, .aload_n 0, 1, 0, []), (22, .getfield 5168, 3, 47, [65]), (25, .if_icmp .ge 39, 3, 0, []), (28, .aload_n 0, 1, 0, []), (29, .getfield 5154, 3, 33, [61]), (32, .iload_n 1, 1, 0, []), (33, .invokevirtual 22, 3, 63, [193, 194, 195, 15, 196]), (36, .goto 40, 3, 0, []), (39, .iconst (-1), 1, 0, []), (40, .istore 5, 2, 0, []), (42, .aload_n 0, 1, 0, []), (43, .getfield 5168, 3, 47, [65]), (46, .istore 6, 2, 0, []), (48, .iload 6, 2, 0, []), (50, .iload_n 1, 1, 0, []), (51, .if_icmp .le 70, 3, 0, []), (54, .aload_n 0, 1, 0, []), (55, .iload 6, 2, 0, []), (57, .iconst 1, 1, 0, []), (58, .isub, 1, 0, []), (59, .iload 6, 2, 0, []), (61, .invokevirtual 51, 3, 126, [260, 262, 5, 14, 263]), (64, .iinc 6 (-1), 3, 0, []), (67, .goto 48, 3, 0, []), (70, .aload_n 0, 1, 0, []), (71, .dup, 1, 0, []), (72, .getfield 5168, 3, 47, [65]), (75, .iconst 1, 1, 0, [])]
def s_r50_1 : List sE := [(76, .iadd, 1, 0, []), (77, .putfield 5168, 3, 47, [65]), (80, .aload_n 0, 1, 0, []), (81, .getfield 5130, 3, 24, [55]), (84, .iload_n 1, 1, 0, []), (85, .iload_n 2, 1, 0, []), (86, .invokevirtual 23, 3, 39, [49, 50, 51, 15, 52]), (89, .aload_n 0, 1, 0, []), (90, .getfield 5138, 3, 27, [57]), (93, .iload_n 1, 1, 0, []), (94, .iload_n 3, 1, 0, []), (95, .invokevirtual 23, 3, 39, [49, 50, 51, 15, 52]), (98, .aload_n 0, 1, 0, []), (99, .getfield 5146, 3, 30, [59]), (102, .iload_n 1, 1, 0, []), (103, .iconst 0, 1, 0, []), (104, .invokevirtual 23, 3, 39, [49, 50, 51, 15, 52]), (107, .aload_n 0, 1, 0, []), (108, .getfield 5154, 3, 33, [61]), (111, .iload_n 1, 1, 0, []), (112, .iload 4, 2, 0, []), (114, .iload 5, 2, 0, []), (116, .jsr 0, 3, 81, [249, 250, 20, 251]), (119, .iconst 1, 1, 0, []), (120, .iadd, 1, 0, []), (121, .invokevirtual 23, 3, 39, [49, 50, 51, 15, 52]), (124, .aload_n 0, 1, 0, []), (125, .getfield 5162, 3, 36, [63]), (128, .iload_n 1, 1, 0, []), (129, .iconst 1, 1, 0, []), (130, .invokevirtual 23, 3, 39, [49, 50, 51, 15, 52]), (133, .return_, 1, 0, [])]
def s_m50 : sM := (yX5_makeNode, cX5_makeNode, 7, none, 4, 2, 44, s_r50_0 ++ (s_r50_1))
/-- LeaningTrees$Tree.moveNode(II)V -/
def s_m51 : sM := (yX5_moveNode, cX5_moveNode, 3, none, 3, 1, 22, [(0, .aload_n 0, 1, 0, []), (1, .getfield 5130, 3, 24, [55]), (4, .iload_n 2, 1, 0, []), (5, .aload_n 0, 1, 0, []), (6, .getfield 5130, 3, 24, [55]), (9, .iload_n 1, 1, 0, []), (10, .invokevirtual 22, 3, 63, [193, 194, 195, 15, 196]), (13, .invokevirtual 23, 3, 39, [49, 50, 51, 15, 52]), (16, .aload_n 0, 1, 0, []), (17, .getfield 5138, 3, 27, [57]), (20, .iload_n 2, 1, 0, []), (21, .aload_n 0, 1, 0, []), (22, .getfield 5138, 3, 27, [57]), (25, .iload_n 1, 1, 0, []), (26, .invokevirtual 22, 3, 63, [193, 194, 195, 15, 196]), (29, .invokevirtual 23, 3, 39, [49, 50, 51, 15, 52]), (32, .aload_n 0, 1, 0, []), (33, .getfield 5146, 3, 30, [59]), (36, .iload_n 2, 1, 0, []), (37, .aload_n 0, 1, 0, []), (38, .getfield 5146, 3, 30, [59]), (41, .iload_n 1, 1, 0, []), (42, .invokevirtual 22, 3, 63, [193, 194, 195, 15, 196]), (45, .invokevirtual 23, 3, 39, [49, 50, 51, 15, 52]), (48, .aload_n 0, 1, 0, []), (49, .getfield 5154, 3, 33, [61]), (52, .iload_n 2, 1, 0, []), (53, .aload_n 0, 1, 0, []), (54, .getfield 5154, 3, 33, [61]), (57, .iload_n 1, 1, 0, []), (58, .invokevirtual 22, 3, 63, [193, 194, 195, 15, 196]), (61, .invokevirtual 23, 3, 39, [49, 50, 51, 15, 52]), (64, .aload_n 0, 1, 0, []), (65, .getfield 5162, 3, 36, [63]), (68, .iload_n 2, 1, 0, []), (69, .aload_n 0, 1, 0, []), (70, .getfield 5162, 3, 36, [63]), (73, .iload_n 1, 1, 0, []), (74, .invokevirtual 22, 3, 63, [193, 194, 195, 15, 196]), (77, .invokevirtual 23, 3, 39, [49, 50, 51, 15, 52]), (80, .return_, 1, 0, [])])
/-- LeaningTrees$Tree.layAnew(I)I -/
def s_r52_0 : List sE := [(0, .aload_n 0, 1, 0, []), (1, .iload_n 1, 1, 0, []), (2, .invokevirtual 37, 3, 86, [232, 233, 234, 14, 235]), (5, .istore_n 2, 1, 0, []), (6, .aload_n 0, 1, 0, []), (7, .iload_n 1, 1, 0, []), (8, .invokevirtual 38, 3, 89, [236, 237, 238, 14, 239]), (11, .istore_n 3, 1, 0, []), (12, .aload_n 0, 1, 0, []), (13, .getfield 5154, 3, 33, [61]), (16, .iload_n 1, 1, 0, []), (17, .invokevirtual 22, 3, 63, [193, 194, 195, 15, 196]), (20, .istore 4, 2, 0, []), (22, .iload_n 3, 1, 0, []), (23, .iload_n 2, 1, 0, []), (24, .isub, 1, 0, []), (25, .iconst 1, 1, 0, []), (26, .iadd, 1, 0, []), (27, .istore 5, 2, 0, []), (29, .aload_n 0, 1, 0, []), (30, .aload_n 0, 1, 0, []), (31, .getfield 5146, 3, 30, [59]), (34, .iload_n 2, 1, 0, []), (35, .iload_n 3, 1, 0, []), (36, .invokevirtual 25, 3, 77, [240, 241, 242, 15, 243]), (39, .iload 5, 2, 0, []), (41, .invokevirtual 53, 3, 129, [245, 247, 3, 14, 248]), (44, .aload_n 0, 1, 0, []), (45, .getfield 5162, 3, 36, [63]), (48, .iload_n 2, 1, 0, []), (49, .iload_n 3, 1, 0, []), (50, .invokevirtual 25, 3, 77, [240, 241, 242, 15, 243]), (53, .istore 6, 2, 0, []), (55, .aload_n 0, 1, 0, []), (56, .iload_n 2, 1, 0, []), (57, .iload_n 3, 1, 0, []), (58, .invokevirtual 54, 3, 132, [252, 254, 4, 14, 255]), (61, .iconst 0, 1, 0, []), (62, .istore 7, 2, 0, []), (64, .iload 7, 2, 0, [])]
def s_r52_1 : List sE := [(66, .iload 6, 2, 0, []), (68, .if_icmp .ge 110, 3, 0, []), (71, .aload_n 0, 1, 0, []), (72, .getfield 5154, 3, 33, [61]), (75, .iload_n 2, 1, 0, []), (76, .iload 7, 2, 0, []), (78, .iadd, 1, 0, []), (79, .iload 4, 2, 0, []), (81, .iload 7, 2, 0, []), (83, .iload 6, 2, 0, []), (85, .invokestatic 55, 3, 135, [264, 265, 14, 266]), (88, .iadd, 1, 0, []), (89, .invokevirtual 23, 3, 39, [49, 50, 51, 15, 52]), (92, .aload_n 0, 1, 0, []), (93, .getfield 5146, 3, 30, [59]), (96, .iload_n 2, 1, 0, []), (97, .iload 7, 2, 0, []), (99, .iadd, 1, 0, []), (100, .iconst 0, 1, 0, []), (101, .invokevirtual 23, 3, 39, [49, 50, 51, 15, 52]), (104, .iinc 7 1, 3, 0, []), (107, .goto 64, 3, 0, []), (110, .iload 5, 2, 0, []), (112, .ireturn, 1, 0, [])]
def s_m52 : sM := (yX5_layAnew, cX5_layAnew, 8, (some .int), 2, 3, 68, s_r52_0 ++ (s_r52_1))
/-- LeaningTrees$Tree.spend(II)V -/
def s_m53 : sM := (yX5_spend, cX5_spend, 3, none, 3, 1, 26, [(0, .aload_n 0, 1, 0, []), (1, .dup, 1, 0, []), (2, .getfield 5184, 3, 54, [69]), (5, .iload_n 1, 1, 0, []), (6, .iload_n 2, 1, 0, []), (7, .isub, 1, 0, []), (8, .iadd, 1, 0, []), (9, .putfield 5184, 3, 54, [69]), (12, .aload_n 0, 1, 0, []), (13, .dup, 1, 0, []), (14, .getfield 5176, 3, 51, [67]), (17, .iload_n 2, 1, 0, []), (18, .iadd, 1, 0, []), (19, .putfield 5176, 3, 51, [67]), (22, .aload_n 0, 1, 0, []), (23, .dup, 1, 0, []), (24, .getfield 5192, 3, 57, [71]), (27, .iconst 1, 1, 0, []), (28, .iadd, 1, 0, []), (29, .putfield 5192, 3, 57, [71]), (32, .aload_n 0, 1, 0, []), (33, .aload_n 0, 1, 0, []), (34, .getfield 5200, 3, 60, [73]), (37, .iload_n 2, 1, 0, []), (38, .jsr 0, 3, 81, [249, 250, 20, 251]), (41, .putfield 5200, 3, 60, [73]), (44, .return_, 1, 0, [])])
/-- LeaningTrees$Tree.dropHollow(II)V -/
def s_m54 : sM := (yX5_dropHollow, cX5_dropHollow, 5, none, 3, 2, 44, [(0, .iload_n 1, 1, 0, []), (1, .istore_n 3, 1, 0, []), (2, .iload_n 1, 1, 0, []), (3, .istore 4, 2, 0, []), (5, .iload 4, 2, 0, []), (7, .aload_n 0, 1, 0, []), (8, .getfield 5168, 3, 47, [65]), (11, .if_icmp .ge 45, 3, 0, []), (14, .iload 4, 2, 0, []), (16, .iload_n 2, 1, 0, []), (17, .if_icmp .gt 29, 3, 0, []), (20, .aload_n 0, 1, 0, []), (21, .iload 4, 2, 0, []), (23, .invokevirtual 33, 3, 73, [256, 257, 258, 14, 259]), (26, .ifCond .eq 39, 3, 0, []), (29, .aload_n 0, 1, 0, []), (30, .iload 4, 2, 0, []), (32, .iload_n 3, 1, 0, []), (33, .invokevirtual 51, 3, 126, [260, 262, 5, 14, 263]), (36, .iinc 3 1, 3, 0, []), (39, .iinc 4 1, 3, 0, []), (42, .goto 5, 3, 0, []), (45, .aload_n 0, 1, 0, []), (46, .iload_n 3, 1, 0, []), (47, .putfield 5168, 3, 47, [65]), (50, .return_, 1, 0, [])])
/-- LeaningTrees$Tree.depthLaidEvenly(II)I -/
def s_m55 : sM := (yX5_depthLaidEvenly, cX5_depthLaidEvenly, 6, (some .int), 2, 0, 0, [(0, .iconst 0, 1, 0, []), (1, .istore_n 2, 1, 0, []), (2, .iload_n 1, 1, 0, []), (3, .iconst 1, 1, 0, []), (4, .isub, 1, 0, []), (5, .istore_n 3, 1, 0, []), (6, .iconst 0, 1, 0, []), (7, .istore 4, 2, 0, []), (9, .iload_n 2, 1, 0, []), (10, .iload_n 3, 1, 0, []), (11, .if_icmp .ge 74, 3, 0, []), (14, .iload 4, 2, 0, []), (16, .iload_n 1, 1, 0, []), (17, .if_icmp .ge 74, 3, 0, []), (20, .iload_n 2, 1, 0, []), (21, .iload_n 3, 1, 0, []), (22, .iload_n 2, 1, 0, []), (23, .isub, 1, 0, []), (24, .iconst 2, 1, 0, []), (25, .idiv, 1, 0, []), (26, .iadd, 1, 0, []), (27, .istore 5, 2, 0, []), (29, .iload_n 0, 1, 0, []), (30, .iload 5, 2, 0, []), (32, .if_icmp .ne 38, 3, 0, []), (35, .iload 4, 2, 0, []), (37, .ireturn, 1, 0, []), (38, .iload_n 0, 1, 0, []), (39, .iload 5, 2, 0, []), (41, .if_icmp .le 51, 3, 0, []), (44, .iload 5, 2, 0, []), (46, .iconst 1, 1, 0, []), (47, .iadd, 1, 0, []), (48, .goto 52, 3, 0, []), (51, .iload_n 2, 1, 0, []), (52, .istore_n 2, 1, 0, []), (53, .iload_n 0, 1, 0, []), (54, .iload 5, 2, 0, []), (56, .if_icmp .ge 66, 3, 0, []), (59, .iload 5, 2, 0, []), (61, .iconst 1, 1, 0, []), (62, .isub, 1, 0, []), (63, .goto 67, 3, 0, []), (66, .iload_n 3, 1, 0, []), (67, .istore_n 3, 1, 0, []), (68, .iinc 4 1, 3, 0, []), (71, .goto 9, 3, 0, []), (74, .iload 4, 2, 0, []), (76, .ireturn, 1, 0, [])])
/-- LeaningTrees.<init>()V -/
def s_m56 : sM := (yX6_init, cX6_init, 2, none, 1, 4, 89, [(0, .aload_n 0, 1, 0, []), (1, .monitorenter, 3, 1, [27, 28, 29]), (4, .aload_n 0, 1, 0, []), (5, .new 5, 3, 7, [30, 31, 14]), (8, .dup, 1, 0, []), (9, .invokespecial 28, 3, 9, [32, 33, 14, 34]), (12, .putfield 6146, 3, 10, [162]), (15, .aload_n 0, 1, 0, []), (16, .new 0, 3, 16, [98, 99, 16]), (19, .dup, 1, 0, []), (20, .invokespecial 0, 3, 18, [100, 101, 16, 102]), (23, .putfield 6154, 3, 19, [163]), (26, .aload_n 0, 1, 0, []), (27, .iconst 2, 1, 0, []), (28, .anewarray 4, 3, 23, [115]), (31, .putfield 6162, 3, 25, [164]), (34, .aload_n 0, 1, 0, []), (35, .new 2, 3, 29, [117, 118, 17]), (38, .dup, 1, 0, []), (39, .invokeinterface 17 0, 3, 31, [120, 17, 121]), (42, .putfield 6170, 3, 32, [165]), (45, .aload_n 0, 1, 0, []), (46, .new 1, 3, 36, [132, 133, 18]), (49, .dup, 1, 0, []), (50, .invokeinterface 5 0, 3, 38, [135, 18, 136]), (53, .putfield 6178, 3, 39, [166]), (56, .iconst 0, 1, 0, []), (57, .istore_n 1, 1, 0, []), (58, .iload_n 1, 1, 0, []), (59, .aload_n 0, 1, 0, []), (60, .getfield 6162, 3, 25, [164]), (63, .arraylength, 1, 0, []), (64, .if_icmp .ge 86, 3, 0, []), (67, .aload_n 0, 1, 0, []), (68, .getfield 6162, 3, 25, [164]), (71, .iload_n 1, 1, 0, []), (72, .new 4, 3, 23, [115, 149, 19]), (75, .dup, 1, 0, []), (76, .invokeinterface 27 0, 3, 43, [151, 19, 152]), (79, .aastore, 1, 0, []), (80, .iinc 1 1, 3, 0, []), (83, .goto 58, 3, 0, []), (86, .return_, 1, 0, [])])
/-- LeaningTrees.set(II)I -/
def s_m57 : sM := (yX6_set, cX6_set, 4, (some .int), 3, 4, 90, [(0, .iload_n 1, 1, 0, []), (1, .iload_n 2, 1, 0, []), (2, .invokestatic 80, 3, 44, [390, 391, 13, 392]), (5, .ifCond .ne 11, 3, 0, []), (8, .bipush (-2), 2, 0, []), (10, .ireturn, 1, 0, []), (11, .aload_n 0, 1, 0, []), (12, .getfield 6154, 3, 19, [163]), (15, .aload_n 0, 1, 0, []), (16, .getfield 6146, 3, 10, [162]), (19, .invokevirtual 1, 3, 48, [197, 198, 199, 16, 200]), (22, .aload_n 0, 1, 0, []), (23, .getfield 6146, 3, 10, [162]), (26, .getfield 5122, 3, 52, [54]), (29, .iload_n 1, 1, 0, []), (30, .invokevirtual 22, 3, 56, [287, 194, 195, 15, 196]), (33, .istore_n 3, 1, 0, []), (34, .aload_n 0, 1, 0, []), (35, .getfield 6146, 3, 10, [162]), (38, .getfield 5122, 3, 52, [54]), (41, .iload_n 1, 1, 0, []), (42, .iload_n 2, 1, 0, []), (43, .invokevirtual 23, 3, 62, [397, 50, 51, 15, 52]), (46, .iload_n 3, 1, 0, []), (47, .ireturn, 1, 0, [])])
/-- LeaningTrees.putIn(II)I -/
def s_m58 : sM := (yX6_putIn, cX6_putIn, 3, (some .int), 3, 5, 119, [(0, .iload_n 1, 1, 0, []), (1, .invokestatic 79, 3, 66, [182, 183, 13, 184]), (4, .ifCond .eq 14, 3, 0, []), (7, .iload_n 2, 1, 0, []), (8, .invokestatic 79, 3, 66, [182, 183, 13, 184]), (11, .ifCond .ne 17, 3, 0, []), (14, .bipush (-2), 2, 0, []), (16, .ireturn, 1, 0, []), (17, .aload_n 0, 1, 0, []), (18, .getfield 6146, 3, 10, [162]), (21, .iload_n 1, 1, 0, []), (22, .invokevirtual 45, 3, 70, [346, 347, 348, 14, 349]), (25, .ifCond .ne 31, 3, 0, []), (28, .bipush (-4), 2, 0, []), (30, .ireturn, 1, 0, []), (31, .aload_n 0, 1, 0, []), (32, .getfield 6154, 3, 19, [163]), (35, .aload_n 0, 1, 0, []), (36, .getfield 6146, 3, 10, [162]), (39, .invokevirtual 1, 3, 48, [197, 198, 199, 16, 200]), (42, .aload_n 0, 1, 0, []), (43, .getfield 6146, 3, 10, [162]), (46, .iload_n 1, 1, 0, []), (47, .iload_n 2, 1, 0, []), (48, .invokevirtual 46, 3, 73, [363, 364, 365, 14, 366]), (51, .ireturn, 1, 0, [])])
/-- LeaningTrees.remove(I)I -/
def s_m59 : sM := (yX6_remove, cX6_remove, 2, (some .int), 2, 5, 118, [(0, .iload_n 1, 1, 0, []), (1, .invokestatic 79, 3, 66, [182, 183, 13, 184]), (4, .ifCond .ne 10, 3, 0, []), (7, .bipush (-2), 2, 0, []), (9, .ireturn, 1, 0, []), (10, .aload_n 0, 1, 0, []), (11, .getfield 6146, 3, 10, [162]), (14, .iload_n 1, 1, 0, []), (15, .invokevirtual 32, 3, 77, [338, 339, 340, 14, 341]), (18, .bipush (-6), 2, 0, []), (20, .if_icmp .ne 25, 3, 0, []), (23, .iconst (-1), 1, 0, []), (24, .ireturn, 1, 0, []), (25, .aload_n 0, 1, 0, []), (26, .getfield 6154, 3, 19, [163]), (29, .aload_n 0, 1, 0, []), (30, .getfield 6146, 3, 10, [162]), (33, .invokevirtual 1, 3, 48, [197, 198, 199, 16, 200]), (36, .aload_n 0, 1, 0, []), (37, .getfield 6146, 3, 10, [162]), (40, .iload_n 1, 1, 0, []), (41, .invokevirtual 47, 3, 80, [380, 381, 382, 14, 383]), (44, .ireturn, 1, 0, [])])
/-- LeaningTrees.rebuild(I)I -/
def s_m60 : sM := (yX6_rebuild, cX6_rebuild, 2, (some .int), 2, 5, 117, [(0, .iload_n 1, 1, 0, []), (1, .invokestatic 79, 3, 66, [182, 183, 13, 184]), (4, .ifCond .ne 10, 3, 0, []), (7, .bipush (-2), 2, 0, []), (9, .ireturn, 1, 0, []), (10, .aload_n 0, 1, 0, []), (11, .getfield 6146, 3, 10, [162]), (14, .iload_n 1, 1, 0, []), (15, .invokevirtual 31, 3, 83, [185, 186, 187, 14, 188]), (18, .bipush (-6), 2, 0, []), (20, .if_icmp .ne 25, 3, 0, []), (23, .iconst (-1), 1, 0, []), (24, .ireturn, 1, 0, []), (25, .aload_n 0, 1, 0, []), (26, .getfield 6154, 3, 19, [163]), (29, .aload_n 0, 1, 0, []), (30, .getfield 6146, 3, 10, [162]), (33, .invokevirtual 1, 3, 48, [197, 198, 199, 16, 200]), (36, .aload_n 0, 1, 0, []), (37, .getfield 6146, 3, 10, [162]), (40, .iload_n 1, 1, 0, []), (41, .invokevirtual 48, 3, 86, [223, 224, 225, 14, 226]), (44, .ireturn, 1, 0, [])])
/-- LeaningTrees.value(I)I -/
def s_m61 : sM := (yX6_value, cX6_value, 3, (some .int), 2, 4, 87, [(0, .iload_n 1, 1, 0, []), (1, .invokestatic 79, 3, 66, [182, 183, 13, 184]), (4, .ifCond .ne 10, 3, 0, []), (7, .bipush (-2), 2, 0, []), (9, .ireturn, 1, 0, []), (10, .aload_n 0, 1, 0, []), (11, .getfield 6146, 3, 10, [162]), (14, .iload_n 1, 1, 0, []), (15, .invokevirtual 32, 3, 77, [338, 339, 340, 14, 341]), (18, .istore_n 2, 1, 0, []), (19, .iload_n 2, 1, 0, []), (20, .bipush (-6), 2, 0, []), (22, .if_icmp .ne 30, 3, 0, []), (25, .bipush (-6), 2, 0, []), (27, .goto 41, 3, 0, []), (30, .aload_n 0, 1, 0, []), (31, .getfield 6146, 3, 10, [162]), (34, .getfield 5138, 3, 89, [58]), (37, .iload_n 2, 1, 0, []), (38, .invokevirtual 22, 3, 56, [287, 194, 195, 15, 196]), (41, .ireturn, 1, 0, [])])
/-- LeaningTrees.node(II)I -/
def s_m62 : sM := (yX6_node, cX6_node, 4, (some .int), 3, 4, 94, [(0, .iload_n 1, 1, 0, []), (1, .invokestatic 79, 3, 66, [182, 183, 13, 184]), (4, .ifCond .eq 17, 3, 0, []), (7, .iload_n 2, 1, 0, []), (8, .ifCond .lt 17, 3, 0, []), (11, .iload_n 2, 1, 0, []), (12, .bipush 8, 2, 0, []), (14, .if_icmp .le 20, 3, 0, []), (17, .bipush (-2), 2, 0, []), (19, .ireturn, 1, 0, []), (20, .aload_n 0, 1, 0, []), (21, .getfield 6146, 3, 10, [162]), (24, .iload_n 1, 1, 0, []), (25, .invokevirtual 31, 3, 83, [185, 186, 187, 14, 188]), (28, .istore_n 3, 1, 0, []), (29, .iload_n 3, 1, 0, []), (30, .bipush (-6), 2, 0, []), (32, .if_icmp .ne 39, 3, 0, []), (35, .iconst (-1), 1, 0, []), (36, .goto 45, 3, 0, []), (39, .aload_n 0, 1, 0, []), (40, .iload_n 3, 1, 0, []), (41, .iload_n 2, 1, 0, []), (42, .invokevirtual 82, 3, 92, [405, 407, 11, 13, 408]), (45, .ireturn, 1, 0, [])])
/-- LeaningTrees.count(I)I -/
def s_m63 : sM := (yX6_count, cX6_count, 2, (some .int), 2, 5, 112, [(0, .iload_n 1, 1, 0, []), (1, .ifCond .lt 10, 3, 0, []), (4, .iload_n 1, 1, 0, []), (5, .bipush 14, 2, 0, []), (7, .if_icmp .le 13, 3, 0, []), (10, .bipush (-2), 2, 0, []), (12, .ireturn, 1, 0, []), (13, .iload_n 1, 1, 0, []), (14, .lookupswitch 56 #[(13, 40), (14, 48)], 26, 0, []), (40, .aload_n 0, 1, 0, []), (41, .getfield 6170, 3, 32, [165]), (44, .getfield 2056, 3, 95, [126]), (47, .ireturn, 1, 0, []), (48, .aload_n 0, 1, 0, []), (49, .getfield 6154, 3, 19, [163]), (52, .getfield 8, 3, 99, [109]), (55, .ireturn, 1, 0, []), (56, .iload_n 1, 1, 0, []), (57, .iconst 4, 1, 0, []), (58, .if_icmp .ge 69, 3, 0, []), (61, .aload_n 0, 1, 0, []), (62, .iload_n 1, 1, 0, []), (63, .invokevirtual 83, 3, 100, [271, 273, 6, 13, 274]), (66, .goto 74, 3, 0, []), (69, .aload_n 0, 1, 0, []), (70, .iload_n 1, 1, 0, []), (71, .invokevirtual 84, 3, 103, [293, 295, 8, 13, 296]), (74, .ireturn, 1, 0, [])])
/-- LeaningTrees.rank(I)I -/
def s_m66 : sM := (yX6_rank, cX6_rank, 2, (some .int), 2, 3, 66, [(0, .iload_n 1, 1, 0, []), (1, .invokestatic 79, 3, 66, [182, 183, 13, 184]), (4, .ifCond .eq 18, 3, 0, []), (7, .aload_n 0, 1, 0, []), (8, .getfield 6146, 3, 10, [162]), (11, .iload_n 1, 1, 0, []), (12, .invokevirtual 35, 3, 136, [428, 429, 430, 14, 431]), (15, .goto 20, 3, 0, []), (18, .bipush (-2), 2, 0, []), (20, .ireturn, 1, 0, [])])
/-- LeaningTrees.kth(I)I -/
def s_m67 : sM := (yX6_kth, cX6_kth, 3, (some .int), 2, 3, 65, [(0, .aload_n 0, 1, 0, []), (1, .getfield 6146, 3, 10, [162]), (4, .iload_n 1, 1, 0, []), (5, .invokevirtual 36, 3, 139, [420, 421, 422, 14, 423]), (8, .istore_n 2, 1, 0, []), (9, .iload_n 2, 1, 0, []), (10, .bipush (-6), 2, 0, []), (12, .if_icmp .ne 19, 3, 0, []), (15, .iconst (-1), 1, 0, []), (16, .goto 30, 3, 0, []), (19, .aload_n 0, 1, 0, []), (20, .getfield 6146, 3, 10, [162]), (23, .getfield 5130, 3, 142, [56]), (26, .iload_n 2, 1, 0, []), (27, .invokevirtual 22, 3, 56, [287, 194, 195, 15, 196]), (30, .ireturn, 1, 0, [])])
/-- LeaningTrees.neighbour(II)I -/
def s_m68 : sM := (yX6_neighbour, cX6_neighbour, 6, (some .int), 3, 4, 87, [(0, .iload_n 1, 1, 0, []), (1, .invokestatic 79, 3, 66, [182, 183, 13, 184]), (4, .ifCond .eq 16, 3, 0, []), (7, .iload_n 2, 1, 0, []), (8, .ifCond .eq 19, 3, 0, []), (11, .iload_n 2, 1, 0, []), (12, .iconst 1, 1, 0, []), (13, .if_icmp .eq 19, 3, 0, []), (16, .bipush (-2), 2, 0, []), (18, .ireturn, 1, 0, []), (19, .aload_n 0, 1, 0, []), (20, .getfield 6146, 3, 10, [162]), (23, .iload_n 1, 1, 0, []), (24, .invokevirtual 35, 3, 136, [428, 429, 430, 14, 431]), (27, .istore_n 3, 1, 0, []), (28, .aload_n 0, 1, 0, []), (29, .getfield 6146, 3, 10, [162]), (32, .iload_n 1, 1, 0, []), (33, .invokevirtual 32, 3, 77, [338, 339, 340, 14, 341]), (36, .bipush (-6), 2, 0, []), (38, .if_icmp .ne 45, 3, 0, []), (41, .iconst 0, 1, 0, []), (42, .goto 46, 3, 0, []), (45, .iconst 1, 1, 0, []), (46, .istore 4, 2, 0, []), (48, .aload_n 0, 1, 0, []), (49, .getfield 6146, 3, 10, [162]), (52, .iload_n 2, 1, 0, []), (53, .ifCond .ne 62, 3, 0, []), (56, .iload_n 3, 1, 0, []), (57, .iconst 1, 1, 0, []), (58, .isub, 1, 0, []), (59, .goto 66, 3, 0, []), (62, .iload_n 3, 1, 0, []), (63, .iload 4, 2, 0, []), (65, .iadd, 1, 0, []), (66, .invokevirtual 36, 3, 139, [420, 421, 422, 14, 423]), (69, .istore 5, 2, 0, []), (71, .iload 5, 2, 0, []), (73, .bipush (-6), 2, 0, []), (75, .if_icmp .ne 83, 3, 0, []), (78, .bipush (-6), 2, 0, []), (80, .goto 95, 3, 0, []), (83, .aload_n 0, 1, 0, []), (84, .getfield 6146, 3, 10, [162]), (87, .getfield 5130, 3, 142, [56]), (90, .iload 5, 2, 0, []), (92, .invokevirtual 22, 3, 56, [287, 194, 195, 15, 196]), (95, .ireturn, 1, 0, [])])
/-- LeaningTrees.sum(II)I -/
def s_m69 : sM := (yX6_sum, cX6_sum, 5, (some .int), 3, 2, 43, [(0, .iload_n 1, 1, 0, []), (1, .invokestatic 79, 3, 66, [182, 183, 13, 184]), (4, .ifCond .eq 19, 3, 0, []), (7, .iload_n 2, 1, 0, []), (8, .invokestatic 79, 3, 66, [182, 183, 13, 184]), (11, .ifCond .eq 19, 3, 0, []), (14, .iload_n 2, 1, 0, []), (15, .iload_n 1, 1, 0, []), (16, .if_icmp .ge 22, 3, 0, []), (19, .bipush (-2), 2, 0, []), (21, .ireturn, 1, 0, []), (22, .iconst 0, 1, 0, []), (23, .istore_n 3, 1, 0, []), (24, .aload_n 0, 1, 0, []), (25, .getfield 6146, 3, 10, [162]), (28, .iload_n 1, 1, 0, []), (29, .invokevirtual 30, 3, 145, [440, 190, 191, 14, 192]), (32, .istore 4, 2, 0, []), (34, .iload 4, 2, 0, []), (36, .aload_n 0, 1, 0, []), (37, .getfield 6146, 3, 10, [162]), (40, .getfield 5168, 3, 108, [66]), (43, .if_icmp .ge 99, 3, 0, []), (46, .aload_n 0, 1, 0, []), (47, .getfield 6146, 3, 10, [162]), (50, .getfield 5130, 3, 142, [56]), (53, .iload 4, 2, 0, []), (55, .invokevirtual 22, 3, 56, [287, 194, 195, 15, 196]), (58, .iload_n 2, 1, 0, []), (59, .if_icmp .gt 99, 3, 0, []), (62, .iload_n 3, 1, 0, []), (63, .aload_n 0, 1, 0, []), (64, .getfield 6146, 3, 10, [162]), (67, .iload 4, 2, 0, []), (69, .invokevirtual 33, 3, 148, [411, 257, 258, 14, 259]), (72, .ifCond .eq 90, 3, 0, []), (75, .aload_n 0, 1, 0, []), (76, .getfield 6146, 3, 10, [162]), (79, .getfield 5138, 3, 89, [58]), (82, .iload 4, 2, 0, []), (84, .invokevirtual 22, 3, 56, [287, 194, 195, 15, 196]), (87, .goto 91, 3, 0, []), (90, .iconst 0, 1, 0, []), (91, .iadd, 1, 0, []), (92, .istore_n 3, 1, 0, []), (93, .iinc 4 1, 3, 0, []), (96, .goto 34, 3, 0, []), (99, .iload_n 3, 1, 0, []), (100, .ireturn, 1, 0, [])])
/-- LeaningTrees.wouldCost(I)I -/
def s_m70 : sM := (yX6_wouldCost, cX6_wouldCost, 2, (some .int), 2, 4, 97, [(0, .iload_n 1, 1, 0, []), (1, .invokestatic 79, 3, 66, [182, 183, 13, 184]), (4, .ifCond .ne 10, 3, 0, []), (7, .bipush (-2), 2, 0, []), (9, .ireturn, 1, 0, []), (10, .aload_n 0, 1, 0, []), (11, .getfield 6146, 3, 10, [162]), (14, .iload_n 1, 1, 0, []), (15, .invokevirtual 45, 3, 70, [346, 347, 348, 14, 349]), (18, .ifCond .eq 32, 3, 0, []), (21, .aload_n 0, 1, 0, []), (22, .getfield 6146, 3, 10, [162]), (25, .iload_n 1, 1, 0, []), (26, .invokevirtual 44, 3, 151, [350, 351, 352, 14, 353]), (29, .goto 34, 3, 0, []), (32, .bipush (-4), 2, 0, []), (34, .ireturn, 1, 0, [])])
/-- LeaningTrees.undo()I -/
def s_m76 : sM := (yX6_undo, cX6_undo, 1, (some .int), 1, 4, 90, [(0, .aload_n 0, 1, 0, []), (1, .getfield 6154, 3, 19, [163]), (4, .aload_n 0, 1, 0, []), (5, .getfield 6146, 3, 10, [162]), (8, .invokevirtual 2, 3, 182, [315, 316, 317, 16, 318]), (11, .ifCond .eq 24, 3, 0, []), (14, .aload_n 0, 1, 0, []), (15, .getfield 6154, 3, 19, [163]), (18, .getfield 8, 3, 99, [109]), (21, .goto 26, 3, 0, []), (24, .bipush (-5), 2, 0, []), (26, .ireturn, 1, 0, [])])
/-- LeaningTrees.isNumber(I)Z -/
def s_m79 : sM := (yX6_isNumber, cX6_isNumber, 1, (some .boolean), 1, 0, 0, [(0, .iload_n 0, 1, 0, []), (1, .ifCond .lt 15, 3, 0, []), (4, .iload_n 0, 1, 0, []), (5, .sipush 999, 3, 0, []), (8, .if_icmp .gt 15, 3, 0, []), (11, .iconst 1, 1, 0, []), (12, .goto 16, 3, 0, []), (15, .iconst 0, 1, 0, []), (16, .ireturn, 1, 0, [])])
/-- LeaningTrees.isSetting(II)Z -/
def s_m80 : sM := (yX6_isSetting, cX6_isSetting, 2, (some .boolean), 2, 0, 0, [(0, .iload_n 0, 1, 0, []), (1, .ifCond .lt 20, 3, 0, []), (4, .iload_n 0, 1, 0, []), (5, .getstatic 1, 3, 203, [393]), (8, .arraylength, 1, 0, []), (9, .if_icmp .ge 20, 3, 0, []), (12, .iload_n 0, 1, 0, []), (13, .getstatic 2, 3, 207, [395]), (16, .arraylength, 1, 0, []), (17, .if_icmp .lt 22, 3, 0, []), (20, .iconst 0, 1, 0, []), (21, .ireturn, 1, 0, []), (22, .iload_n 1, 1, 0, []), (23, .getstatic 1, 3, 203, [393]), (26, .iload_n 0, 1, 0, []), (27, .iaload, 1, 0, []), (28, .if_icmp .lt 44, 3, 0, []), (31, .iload_n 1, 1, 0, []), (32, .getstatic 2, 3, 207, [395]), (35, .iload_n 0, 1, 0, []), (36, .iaload, 1, 0, []), (37, .if_icmp .gt 44, 3, 0, []), (40, .iconst 1, 1, 0, []), (41, .goto 45, 3, 0, []), (44, .iconst 0, 1, 0, []), (45, .ireturn, 1, 0, [])])
/-- LeaningTrees.aboutNode(II)I -/
def s_r82_0 : List sE := [(0, .aload_n 0, 1, 0, []), (1, .getfield 6146, 3, 10, [162]), (4, .iload_n 1, 1, 0, []), (5, .invokevirtual 37, 3, 121, [409, 233, 234, 14, 235]), (8, .istore_n 3, 1, 0, []), (9, .aload_n 0, 1, 0, []), (10, .getfield 6146, 3, 10, [162]), (13, .iload_n 1, 1, 0, []), (14, .invokevirtual 38, 3, 124, [410, 237, 238, 14, 239]), (17, .istore 4, 2, 0, []), (19, .aload_n 0, 1, 0, []), (20, .getfield 6146, 3, 10, [162]), (23, .getfield 5154, 3, 111, [62]), (26, .iload_n 1, 1, 0, []), (27, .invokevirtual 22, 3, 56, [287, 194, 195, 15, 196]), (30, .istore 5, 2, 0, []), (32, .iload_n 2, 1, 0, []), (33, .tableswitch 177 0 7 #[80, 93, 107, 114, 117, 129, 146, 160], 47, 0, []), (80, .aload_n 0, 1, 0, []), (81, .iload_n 3, 1, 0, []), (82, .iload_n 1, 1, 0, []), (83, .iconst 1, 1, 0, []), (84, .isub, 1, 0, []), (85, .iload 5, 2, 0, []), (87, .iconst 1, 1, 0, []), (88, .iadd, 1, 0, []), (89, .invokevirtual 85, 3, 210, [279, 281, 7, 13, 282]), (92, .ireturn, 1, 0, []), (93, .aload_n 0, 1, 0, []), (94, .iload_n 1, 1, 0, []), (95, .iconst 1, 1, 0, []), (96, .iadd, 1, 0, []), (97, .iload 4, 2, 0, []), (99, .iload 5, 2, 0, []), (101, .iconst 1, 1, 0, []), (102, .iadd, 1, 0, []), (103, .invokevirtual 85, 3, 210, [279, 281, 7, 13, 282]), (106, .ireturn, 1, 0, []), (107, .iload 4, 2, 0, []), (109, .iload_n 3, 1, 0, [])]
def s_r82_1 : List sE := [(110, .isub, 1, 0, []), (111, .iconst 1, 1, 0, []), (112, .iadd, 1, 0, []), (113, .ireturn, 1, 0, []), (114, .iload 5, 2, 0, []), (116, .ireturn, 1, 0, []), (117, .aload_n 0, 1, 0, []), (118, .getfield 6146, 3, 10, [162]), (121, .getfield 5146, 3, 214, [60]), (124, .iload_n 1, 1, 0, []), (125, .invokevirtual 22, 3, 56, [287, 194, 195, 15, 196]), (128, .ireturn, 1, 0, []), (129, .aload_n 0, 1, 0, []), (130, .getfield 6146, 3, 10, [162]), (133, .iload_n 1, 1, 0, []), (134, .invokevirtual 33, 3, 148, [411, 257, 258, 14, 259]), (137, .ifCond .eq 144, 3, 0, []), (140, .iconst 1, 1, 0, []), (141, .goto 145, 3, 0, []), (144, .iconst 0, 1, 0, []), (145, .ireturn, 1, 0, []), (146, .aload_n 0, 1, 0, []), (147, .getfield 6146, 3, 10, [162]), (150, .getfield 5162, 3, 217, [64]), (153, .iload_n 3, 1, 0, []), (154, .iload 4, 2, 0, []), (156, .invokevirtual 25, 3, 114, [298, 241, 242, 15, 243]), (159, .ireturn, 1, 0, []), (160, .aload_n 0, 1, 0, []), (161, .getfield 6146, 3, 10, [162]), (164, .iload_n 1, 1, 0, []), (165, .invokevirtual 41, 3, 220, [412, 304, 305, 14, 306]), (168, .ifCond .eq 175, 3, 0, []), (171, .iconst 1, 1, 0, []), (172, .goto 176, 3, 0, []), (175, .iconst 0, 1, 0, []), (176, .ireturn, 1, 0, []), (177, .aload_n 0, 1, 0, []), (178, .getfield 6146, 3, 10, [162]), (181, .getfield 5154, 3, 111, [62])]
def s_r82_2 : List sE := [(184, .iload_n 3, 1, 0, []), (185, .iload 4, 2, 0, []), (187, .invokevirtual 26, 3, 223, [288, 289, 290, 15, 291]), (190, .iload 5, 2, 0, []), (192, .isub, 1, 0, []), (193, .ireturn, 1, 0, [])]
def s_m82 : sM := (yX6_aboutNode, cX6_aboutNode, 6, (some .int), 3, 3, 69, s_r82_0 ++ (s_r82_1 ++ (s_r82_2)))
/-- LeaningTrees.shapeOfTree(I)I -/
def s_m83 : sM := (yX6_shapeOfTree, cX6_shapeOfTree, 3, (some .int), 2, 3, 68, [(0, .aload_n 0, 1, 0, []), (1, .getfield 6146, 3, 10, [162]), (4, .getfield 5168, 3, 108, [66]), (7, .iconst 1, 1, 0, []), (8, .isub, 1, 0, []), (9, .istore_n 2, 1, 0, []), (10, .iload_n 1, 1, 0, []), (11, .tableswitch 60 0 2 #[36, 44, 52], 25, 0, []), (36, .aload_n 0, 1, 0, []), (37, .getfield 6146, 3, 10, [162]), (40, .getfield 5168, 3, 108, [66]), (43, .ireturn, 1, 0, []), (44, .aload_n 0, 1, 0, []), (45, .getfield 6146, 3, 10, [162]), (48, .invokevirtual 34, 3, 200, [275, 276, 277, 14, 278]), (51, .ireturn, 1, 0, []), (52, .aload_n 0, 1, 0, []), (53, .iconst 0, 1, 0, []), (54, .iload_n 2, 1, 0, []), (55, .iconst 0, 1, 0, []), (56, .invokevirtual 85, 3, 210, [279, 281, 7, 13, 282]), (59, .ireturn, 1, 0, []), (60, .aload_n 0, 1, 0, []), (61, .getfield 6146, 3, 10, [162]), (64, .getfield 5168, 3, 108, [66]), (67, .ifCond .ne 75, 3, 0, []), (70, .bipush (-6), 2, 0, []), (72, .goto 87, 3, 0, []), (75, .aload_n 0, 1, 0, []), (76, .getfield 6146, 3, 10, [162]), (79, .getfield 5154, 3, 111, [62]), (82, .iconst 0, 1, 0, []), (83, .iload_n 2, 1, 0, []), (84, .invokevirtual 26, 3, 223, [288, 289, 290, 15, 291]), (87, .ireturn, 1, 0, [])])
/-- LeaningTrees.booksOfTree(I)I -/
def s_m84 : sM := (yX6_booksOfTree, cX6_booksOfTree, 2, (some .int), 2, 4, 91, [(0, .iload_n 1, 1, 0, []), (1, .tableswitch 104 4 9 #[40, 48, 59, 80, 88, 96], 39, 0, []), (40, .aload_n 0, 1, 0, []), (41, .getfield 6146, 3, 10, [162]), (44, .getfield 5176, 3, 226, [68]), (47, .ireturn, 1, 0, []), (48, .aload_n 0, 1, 0, []), (49, .getfield 6146, 3, 10, [162]), (52, .getfield 5184, 3, 229, [70]), (55, .ldc 1000000, 2, 232, [297]), (57, .iadd, 1, 0, []), (58, .ireturn, 1, 0, []), (59, .aload_n 0, 1, 0, []), (60, .getfield 6146, 3, 10, [162]), (63, .getfield 5146, 3, 214, [60]), (66, .iconst 0, 1, 0, []), (67, .aload_n 0, 1, 0, []), (68, .getfield 6146, 3, 10, [162]), (71, .getfield 5168, 3, 108, [66]), (74, .iconst 1, 1, 0, []), (75, .isub, 1, 0, []), (76, .invokevirtual 25, 3, 114, [298, 241, 242, 15, 243]), (79, .ireturn, 1, 0, []), (80, .aload_n 0, 1, 0, []), (81, .getfield 6146, 3, 10, [162]), (84, .getfield 5192, 3, 233, [72]), (87, .ireturn, 1, 0, []), (88, .aload_n 0, 1, 0, []), (89, .getfield 6146, 3, 10, [162]), (92, .getfield 5200, 3, 236, [74]), (95, .ireturn, 1, 0, []), (96, .aload_n 0, 1, 0, []), (97, .getfield 6146, 3, 10, [162]), (100, .invokevirtual 42, 3, 239, [299, 300, 301, 14, 302]), (103, .ireturn, 1, 0, []), (104, .aload_n 0, 1, 0, []), (105, .getfield 6146, 3, 10, [162]), (108, .getfield 5122, 3, 52, [54]), (111, .iload_n 1, 1, 0, []), (112, .bipush 10, 2, 0, []), (114, .isub, 1, 0, []), (115, .invokevirtual 22, 3, 56, [287, 194, 195, 15, 196]), (118, .ireturn, 1, 0, [])])
/-- LeaningTrees.keyOfTop(III)I -/
def s_m85 : sM := (yX6_keyOfTop, cX6_keyOfTop, 4, (some .int), 4, 2, 45, [(0, .iload_n 1, 1, 0, []), (1, .iload_n 2, 1, 0, []), (2, .if_icmp .le 10, 3, 0, []), (5, .bipush (-6), 2, 0, []), (7, .goto 30, 3, 0, []), (10, .aload_n 0, 1, 0, []), (11, .getfield 6146, 3, 10, [162]), (14, .getfield 5130, 3, 142, [56]), (17, .aload_n 0, 1, 0, []), (18, .getfield 6146, 3, 10, [162]), (21, .iload_n 1, 1, 0, []), (22, .iload_n 2, 1, 0, []), (23, .iload_n 3, 1, 0, []), (24, .invokevirtual 39, 3, 242, [283, 284, 285, 14, 286]), (27, .invokevirtual 22, 3, 56, [287, 194, 195, 15, 196]), (30, .ireturn, 1, 0, [])])
/-- LeaningTreesLaw.cell([II)I -/
def s_m89 : sM := (yL_cell, cL_cell, 2, (some .int), 2, 0, 0, [(0, .iload_n 1, 1, 0, []), (1, .aload_n 0, 1, 0, []), (2, .arraylength, 1, 0, []), (3, .if_icmp .ge 12, 3, 0, []), (6, .aload_n 0, 1, 0, []), (7, .iload_n 1, 1, 0, []), (8, .iaload, 1, 0, []), (9, .goto 20, 3, 0, []), (12, .ldc 1867459125, 2, 7, [322]), (14, .iload_n 1, 1, 0, []), (15, .sipush 787, 3, 0, []), (18, .iadd, 1, 0, []), (19, .imul, 1, 0, []), (20, .ireturn, 1, 0, [])])
/-- LeaningTreesLaw.up(II)I -/
def s_m90 : sM := (yL_up, cL_up, 2, (some .int), 2, 0, 0, [(0, .iload_n 0, 1, 0, []), (1, .ldc 2147483647, 2, 8, [329]), (3, .iand, 1, 0, []), (4, .iload_n 1, 1, 0, []), (5, .irem, 1, 0, []), (6, .ireturn, 1, 0, [])])
/-- LeaningTreesLaw.paid(LLeaningTrees;)I -/
def s_m91 : sM := (yL_paid, cL_paid, 1, (some .int), 1, 6, 133, [(0, .aload_n 0, 1, 0, []), (1, .iconst 4, 1, 0, []), (2, .invokevirtual 63, 3, 9, [267, 268, 269, 13, 270]), (5, .aload_n 0, 1, 0, []), (6, .iconst 5, 1, 0, []), (7, .invokevirtual 63, 3, 9, [267, 268, 269, 13, 270]), (10, .iadd, 1, 0, []), (11, .ldc 1000000, 2, 15, [333]), (13, .isub, 1, 0, []), (14, .aload_n 0, 1, 0, []), (15, .bipush 6, 2, 0, []), (17, .invokevirtual 63, 3, 9, [267, 268, 269, 13, 270]), (20, .iadd, 1, 0, []), (21, .ireturn, 1, 0, [])])
/-- LeaningTreesLaw.isStep(LLeaningTrees;I)Z -/
def s_r92_0 : List sE := [(0, .iload_n 1, 1, 0, []), (1, .iconst 4, 1, 0, []), (2, .ishr, 1, 0, []), (3, .istore_n 2, 1, 0, []), (4, .iload_n 2, 1, 0, []), (5, .iconst 3, 1, 0, []), (6, .invokestatic 90, 3, 16, [326, 327, 12, 328]), (9, .ifCond .ne 24, 3, 0, []), (12, .iload_n 2, 1, 0, []), (13, .iconst 2, 1, 0, []), (14, .ishr, 1, 0, []), (15, .sipush 1000, 3, 0, []), (18, .invokestatic 90, 3, 16, [326, 327, 12, 328]), (21, .goto 35, 3, 0, []), (24, .bipush 11, 2, 0, []), (26, .iload_n 2, 1, 0, []), (27, .iconst 2, 1, 0, []), (28, .ishr, 1, 0, []), (29, .bipush 60, 2, 0, []), (31, .invokestatic 90, 3, 16, [326, 327, 12, 328]), (34, .imul, 1, 0, []), (35, .istore_n 3, 1, 0, []), (36, .aload_n 0, 1, 0, []), (37, .invokestatic 91, 3, 22, [330, 331, 12, 332]), (40, .istore 4, 2, 0, []), (42, .aload_n 0, 1, 0, []), (43, .iconst 4, 1, 0, []), (44, .invokevirtual 63, 3, 9, [267, 268, 269, 13, 270]), (47, .istore 5, 2, 0, []), (49, .aload_n 0, 1, 0, []), (50, .iconst 1, 1, 0, []), (51, .invokevirtual 63, 3, 9, [267, 268, 269, 13, 270]), (54, .istore 6, 2, 0, []), (56, .aload_n 0, 1, 0, []), (57, .bipush 12, 2, 0, []), (59, .invokevirtual 63, 3, 9, [267, 268, 269, 13, 270]), (62, .istore 7, 2, 0, []), (64, .aload_n 0, 1, 0, []), (65, .iload_n 3, 1, 0, []), (66, .invokevirtual 61, 3, 26, [334, 335, 336, 13, 337])]
def s_r92_1 : List sE := [(69, .bipush (-6), 2, 0, []), (71, .if_icmp .eq 78, 3, 0, []), (74, .iconst 1, 1, 0, []), (75, .goto 79, 3, 0, []), (78, .iconst 0, 1, 0, []), (79, .istore 8, 2, 0, []), (81, .iload_n 1, 1, 0, []), (82, .bipush 14, 2, 0, []), (84, .invokestatic 90, 3, 16, [326, 327, 12, 328]), (87, .istore 9, 2, 0, []), (89, .iload 9, 2, 0, []), (91, .bipush 8, 2, 0, []), (93, .if_icmp .ge 283, 3, 0, []), (96, .aload_n 0, 1, 0, []), (97, .iload_n 3, 1, 0, []), (98, .invokevirtual 70, 3, 29, [342, 343, 344, 13, 345]), (101, .istore 10, 2, 0, []), (103, .aload_n 0, 1, 0, []), (104, .iload_n 3, 1, 0, []), (105, .iload_n 2, 1, 0, []), (106, .bipush 13, 2, 0, []), (108, .ishr, 1, 0, []), (109, .sipush 1000, 3, 0, []), (112, .invokestatic 90, 3, 16, [326, 327, 12, 328]), (115, .invokevirtual 58, 3, 32, [359, 360, 361, 13, 362]), (118, .istore 11, 2, 0, []), (120, .iload 11, 2, 0, []), (122, .bipush (-4), 2, 0, []), (124, .if_icmp .ne 155, 3, 0, []), (127, .iload 10, 2, 0, []), (129, .iload 11, 2, 0, []), (131, .if_icmp .ne 153, 3, 0, []), (134, .aload_n 0, 1, 0, []), (135, .iconst 0, 1, 0, []), (136, .invokevirtual 63, 3, 9, [267, 268, 269, 13, 270]), (139, .bipush 60, 2, 0, []), (141, .if_icmp .ne 153, 3, 0, []), (144, .iload 8, 2, 0, []), (146, .ifCond .ne 153, 3, 0, []), (149, .iconst 1, 1, 0, [])]
def s_r92_2 : List sE := [(150, .goto 154, 3, 0, []), (153, .iconst 0, 1, 0, []), (154, .ireturn, 1, 0, []), (155, .aload_n 0, 1, 0, []), (156, .invokestatic 91, 3, 22, [330, 331, 12, 332]), (159, .iload 4, 2, 0, []), (161, .isub, 1, 0, []), (162, .istore 12, 2, 0, []), (164, .iload 11, 2, 0, []), (166, .iload 10, 2, 0, []), (168, .if_icmp .ne 281, 3, 0, []), (171, .aload_n 0, 1, 0, []), (172, .iconst 4, 1, 0, []), (173, .invokevirtual 63, 3, 9, [267, 268, 269, 13, 270]), (176, .iload 5, 2, 0, []), (178, .iload 11, 2, 0, []), (180, .iadd, 1, 0, []), (181, .if_icmp .ne 281, 3, 0, []), (184, .aload_n 0, 1, 0, []), (185, .iload_n 3, 1, 0, []), (186, .invokevirtual 61, 3, 26, [334, 335, 336, 13, 337]), (189, .iload_n 2, 1, 0, []), (190, .bipush 13, 2, 0, []), (192, .ishr, 1, 0, []), (193, .sipush 1000, 3, 0, []), (196, .invokestatic 90, 3, 16, [326, 327, 12, 328]), (199, .if_icmp .ne 281, 3, 0, []), (202, .aload_n 0, 1, 0, []), (203, .iconst 1, 1, 0, []), (204, .invokevirtual 63, 3, 9, [267, 268, 269, 13, 270]), (207, .iload 6, 2, 0, []), (209, .iload 8, 2, 0, []), (211, .ifCond .eq 218, 3, 0, []), (214, .iconst 0, 1, 0, []), (215, .goto 219, 3, 0, []), (218, .iconst 1, 1, 0, []), (219, .iadd, 1, 0, []), (220, .if_icmp .ne 281, 3, 0, []), (223, .iload 7, 2, 0, []), (225, .ifCond .ne 236, 3, 0, [])]
def s_r92_3 : List sE := [(228, .iload 12, 2, 0, []), (230, .ifCond .ne 281, 3, 0, []), (233, .goto 261, 3, 0, []), (236, .iload 12, 2, 0, []), (238, .iload 7, 2, 0, []), (240, .irem, 1, 0, []), (241, .ifCond .ne 281, 3, 0, []), (244, .iload 12, 2, 0, []), (246, .iload 7, 2, 0, []), (248, .if_icmp .lt 281, 3, 0, []), (251, .iload 12, 2, 0, []), (253, .bipush 60, 2, 0, []), (255, .iload 7, 2, 0, []), (257, .imul, 1, 0, []), (258, .if_icmp .gt 281, 3, 0, []), (261, .iload 11, 2, 0, []), (263, .ifCond .eq 277, 3, 0, []), (266, .aload_n 0, 1, 0, []), (267, .bipush 8, 2, 0, []), (269, .invokevirtual 63, 3, 9, [267, 268, 269, 13, 270]), (272, .iload 11, 2, 0, []), (274, .if_icmp .lt 281, 3, 0, []), (277, .iconst 1, 1, 0, []), (278, .goto 282, 3, 0, []), (281, .iconst 0, 1, 0, []), (282, .ireturn, 1, 0, []), (283, .iload 9, 2, 0, []), (285, .bipush 11, 2, 0, []), (287, .if_icmp .ge 415, 3, 0, []), (290, .aload_n 0, 1, 0, []), (291, .iload_n 3, 1, 0, []), (292, .invokevirtual 59, 3, 35, [376, 377, 378, 13, 379]), (295, .istore 10, 2, 0, []), (297, .iload 10, 2, 0, []), (299, .iconst (-1), 1, 0, []), (300, .if_icmp .ne 314, 3, 0, []), (303, .iload 8, 2, 0, []), (305, .ifCond .ne 312, 3, 0, []), (308, .iconst 1, 1, 0, []), (309, .goto 313, 3, 0, [])]
def s_r92_4 : List sE := [(312, .iconst 0, 1, 0, []), (313, .ireturn, 1, 0, []), (314, .aload_n 0, 1, 0, []), (315, .invokestatic 91, 3, 22, [330, 331, 12, 332]), (318, .iload 4, 2, 0, []), (320, .isub, 1, 0, []), (321, .istore 11, 2, 0, []), (323, .iload 8, 2, 0, []), (325, .ifCond .eq 413, 3, 0, []), (328, .aload_n 0, 1, 0, []), (329, .iload_n 3, 1, 0, []), (330, .invokevirtual 61, 3, 26, [334, 335, 336, 13, 337]), (333, .bipush (-6), 2, 0, []), (335, .if_icmp .ne 413, 3, 0, []), (338, .aload_n 0, 1, 0, []), (339, .iconst 1, 1, 0, []), (340, .invokevirtual 63, 3, 9, [267, 268, 269, 13, 270]), (343, .iload 6, 2, 0, []), (345, .iconst 1, 1, 0, []), (346, .isub, 1, 0, []), (347, .if_icmp .ne 413, 3, 0, []), (350, .aload_n 0, 1, 0, []), (351, .iconst 4, 1, 0, []), (352, .invokevirtual 63, 3, 9, [267, 268, 269, 13, 270]), (355, .iload 5, 2, 0, []), (357, .iload 10, 2, 0, []), (359, .iadd, 1, 0, []), (360, .if_icmp .ne 413, 3, 0, []), (363, .iload 7, 2, 0, []), (365, .ifCond .ne 376, 3, 0, []), (368, .iload 11, 2, 0, []), (370, .ifCond .ne 413, 3, 0, []), (373, .goto 391, 3, 0, []), (376, .iload 11, 2, 0, []), (378, .iload 7, 2, 0, []), (380, .irem, 1, 0, []), (381, .ifCond .ne 413, 3, 0, []), (384, .iload 11, 2, 0, []), (386, .iload 7, 2, 0, []), (388, .if_icmp .lt 413, 3, 0, [])]
def s_r92_5 : List sE := [(391, .iload 10, 2, 0, []), (393, .ifCond .eq 409, 3, 0, []), (396, .aload_n 0, 1, 0, []), (397, .iconst 0, 1, 0, []), (398, .invokevirtual 63, 3, 9, [267, 268, 269, 13, 270]), (401, .aload_n 0, 1, 0, []), (402, .iconst 1, 1, 0, []), (403, .invokevirtual 63, 3, 9, [267, 268, 269, 13, 270]), (406, .if_icmp .ne 413, 3, 0, []), (409, .iconst 1, 1, 0, []), (410, .goto 414, 3, 0, []), (413, .iconst 0, 1, 0, []), (414, .ireturn, 1, 0, []), (415, .iload 9, 2, 0, []), (417, .bipush 12, 2, 0, []), (419, .if_icmp .ge 486, 3, 0, []), (422, .aload_n 0, 1, 0, []), (423, .iload_n 3, 1, 0, []), (424, .invokevirtual 60, 3, 38, [178, 179, 180, 13, 181]), (427, .istore 10, 2, 0, []), (429, .iload 10, 2, 0, []), (431, .iconst (-1), 1, 0, []), (432, .if_icmp .ne 448, 3, 0, []), (435, .iload 8, 2, 0, []), (437, .ifCond .ne 444, 3, 0, []), (440, .iconst 1, 1, 0, []), (441, .goto 485, 3, 0, []), (444, .iconst 0, 1, 0, []), (445, .goto 485, 3, 0, []), (448, .aload_n 0, 1, 0, []), (449, .invokestatic 91, 3, 22, [330, 331, 12, 332]), (452, .iload 4, 2, 0, []), (454, .if_icmp .ne 484, 3, 0, []), (457, .aload_n 0, 1, 0, []), (458, .iconst 4, 1, 0, []), (459, .invokevirtual 63, 3, 9, [267, 268, 269, 13, 270]), (462, .iload 5, 2, 0, []), (464, .iload 10, 2, 0, []), (466, .iadd, 1, 0, []), (467, .if_icmp .ne 484, 3, 0, [])]
def s_r92_6 : List sE := [(470, .aload_n 0, 1, 0, []), (471, .iconst 1, 1, 0, []), (472, .invokevirtual 63, 3, 9, [267, 268, 269, 13, 270]), (475, .iload 6, 2, 0, []), (477, .if_icmp .ne 484, 3, 0, []), (480, .iconst 1, 1, 0, []), (481, .goto 485, 3, 0, []), (484, .iconst 0, 1, 0, []), (485, .ireturn, 1, 0, []), (486, .iload_n 2, 1, 0, []), (487, .iconst 3, 1, 0, []), (488, .invokestatic 90, 3, 16, [326, 327, 12, 328]), (491, .istore 10, 2, 0, []), (493, .iload 10, 2, 0, []), (495, .ifCond .ne 512, 3, 0, []), (498, .bipush 55, 2, 0, []), (500, .iload_n 2, 1, 0, []), (501, .iconst 2, 1, 0, []), (502, .ishr, 1, 0, []), (503, .bipush 41, 2, 0, []), (505, .invokestatic 90, 3, 16, [326, 327, 12, 328]), (508, .iadd, 1, 0, []), (509, .goto 540, 3, 0, []), (512, .iload 10, 2, 0, []), (514, .iconst 1, 1, 0, []), (515, .if_icmp .ne 532, 3, 0, []), (518, .bipush 10, 2, 0, []), (520, .iload_n 2, 1, 0, []), (521, .iconst 2, 1, 0, []), (522, .ishr, 1, 0, []), (523, .bipush 81, 2, 0, []), (525, .invokestatic 90, 3, 16, [326, 327, 12, 328]), (528, .iadd, 1, 0, []), (529, .goto 540, 3, 0, []), (532, .iload_n 2, 1, 0, []), (533, .iconst 2, 1, 0, []), (534, .ishr, 1, 0, []), (535, .bipush 10, 2, 0, []), (537, .invokestatic 90, 3, 16, [326, 327, 12, 328]), (540, .istore 11, 2, 0, [])]
def s_r92_7 : List sE := [(542, .aload_n 0, 1, 0, []), (543, .iload 10, 2, 0, []), (545, .iload 11, 2, 0, []), (547, .invokevirtual 57, 3, 41, [386, 387, 388, 13, 389]), (550, .ifCond .lt 566, 3, 0, []), (553, .aload_n 0, 1, 0, []), (554, .invokestatic 91, 3, 22, [330, 331, 12, 332]), (557, .iload 4, 2, 0, []), (559, .if_icmp .ne 566, 3, 0, []), (562, .iconst 1, 1, 0, []), (563, .goto 567, 3, 0, []), (566, .iconst 0, 1, 0, []), (567, .ireturn, 1, 0, [])]
def s_m92 : sM := (yL_isStep, cL_isStep, 13, (some .boolean), 2, 7, 153, s_r92_0 ++ (s_r92_1 ++ (s_r92_2 ++ (s_r92_3 ++ (s_r92_4 ++ (s_r92_5 ++ (s_r92_6 ++ (s_r92_7))))))))
/-- LeaningTreesLaw.isTree(LLeaningTrees;)Z -/
def s_r93_0 : List sE := [(0, .bipush 62, 2, 0, []), (2, .newarray .int, 2, 0, [48]), (4, .astore_n 1, 1, 0, []), (5, .iconst 0, 1, 0, []), (6, .istore_n 2, 1, 0, []), (7, .iconst 0, 1, 0, []), (8, .istore_n 3, 1, 0, []), (9, .iconst 0, 1, 0, []), (10, .istore 4, 2, 0, []), (12, .iconst 0, 1, 0, []), (13, .istore 5, 2, 0, []), (15, .iconst 0, 1, 0, []), (16, .istore 6, 2, 0, []), (18, .bipush (-6), 2, 0, []), (20, .istore 7, 2, 0, []), (22, .iconst 0, 1, 0, []), (23, .istore 8, 2, 0, []), (25, .iconst 1, 1, 0, []), (26, .istore 9, 2, 0, []), (28, .aload_n 0, 1, 0, []), (29, .iconst 0, 1, 0, []), (30, .invokevirtual 63, 3, 9, [267, 268, 269, 13, 270]), (33, .ifCond .le 84, 3, 0, []), (36, .aload_n 1, 1, 0, []), (37, .iconst 0, 1, 0, []), (38, .aload_n 0, 1, 0, []), (39, .iconst 2, 1, 0, []), (40, .invokevirtual 63, 3, 9, [267, 268, 269, 13, 270]), (43, .iastore, 1, 0, []), (44, .iconst 1, 1, 0, []), (45, .istore_n 2, 1, 0, []), (46, .aload_n 0, 1, 0, []), (47, .aload_n 0, 1, 0, []), (48, .iconst 2, 1, 0, []), (49, .invokevirtual 63, 3, 9, [267, 268, 269, 13, 270]), (52, .iconst 3, 1, 0, []), (53, .invokevirtual 62, 3, 44, [401, 402, 403, 13, 404]), (56, .ifCond .ne 81, 3, 0, []), (59, .aload_n 0, 1, 0, []), (60, .aload_n 0, 1, 0, [])]
def s_r93_1 : List sE := [(61, .iconst 2, 1, 0, []), (62, .invokevirtual 63, 3, 9, [267, 268, 269, 13, 270]), (65, .iconst 2, 1, 0, []), (66, .invokevirtual 62, 3, 44, [401, 402, 403, 13, 404]), (69, .aload_n 0, 1, 0, []), (70, .iconst 0, 1, 0, []), (71, .invokevirtual 63, 3, 9, [267, 268, 269, 13, 270]), (74, .if_icmp .ne 81, 3, 0, []), (77, .iconst 1, 1, 0, []), (78, .goto 82, 3, 0, []), (81, .iconst 0, 1, 0, []), (82, .istore 9, 2, 0, []), (84, .iload_n 2, 1, 0, []), (85, .ifCond .le 507, 3, 0, []), (88, .iload 9, 2, 0, []), (90, .ifCond .eq 507, 3, 0, []), (93, .iinc 2 (-1), 3, 0, []), (96, .aload_n 1, 1, 0, []), (97, .iload_n 2, 1, 0, []), (98, .iaload, 1, 0, []), (99, .istore 10, 2, 0, []), (101, .aload_n 0, 1, 0, []), (102, .iload 10, 2, 0, []), (104, .iconst 0, 1, 0, []), (105, .invokevirtual 62, 3, 44, [401, 402, 403, 13, 404]), (108, .istore 11, 2, 0, []), (110, .aload_n 0, 1, 0, []), (111, .iload 10, 2, 0, []), (113, .iconst 1, 1, 0, []), (114, .invokevirtual 62, 3, 44, [401, 402, 403, 13, 404]), (117, .istore 12, 2, 0, []), (119, .aload_n 0, 1, 0, []), (120, .iload 10, 2, 0, []), (122, .iconst 3, 1, 0, []), (123, .invokevirtual 62, 3, 44, [401, 402, 403, 13, 404]), (126, .istore 13, 2, 0, []), (128, .iconst 1, 1, 0, []), (129, .istore 14, 2, 0, []), (131, .iconst 0, 1, 0, []), (132, .istore 15, 2, 0, [])]
def s_r93_2 : List sE := [(134, .aload_n 0, 1, 0, []), (135, .iload 10, 2, 0, []), (137, .iconst 5, 1, 0, []), (138, .invokevirtual 62, 3, 44, [401, 402, 403, 13, 404]), (141, .istore 16, 2, 0, []), (143, .iconst 0, 1, 0, []), (144, .istore 17, 2, 0, []), (146, .iinc 3 1, 3, 0, []), (149, .iload 4, 2, 0, []), (151, .iload 16, 2, 0, []), (153, .iadd, 1, 0, []), (154, .istore 4, 2, 0, []), (156, .iload 5, 2, 0, []), (158, .aload_n 0, 1, 0, []), (159, .iload 10, 2, 0, []), (161, .iconst 2, 1, 0, []), (162, .invokevirtual 62, 3, 44, [401, 402, 403, 13, 404]), (165, .iadd, 1, 0, []), (166, .istore 5, 2, 0, []), (168, .iload 6, 2, 0, []), (170, .iload 13, 2, 0, []), (172, .iadd, 1, 0, []), (173, .istore 6, 2, 0, []), (175, .iload 13, 2, 0, []), (177, .iload 7, 2, 0, []), (179, .if_icmp .le 187, 3, 0, []), (182, .iload 13, 2, 0, []), (184, .goto 189, 3, 0, []), (187, .iload 7, 2, 0, []), (189, .istore 7, 2, 0, []), (191, .iconst 0, 1, 0, []), (192, .istore 18, 2, 0, []), (194, .iload 18, 2, 0, []), (196, .iconst 2, 1, 0, []), (197, .if_icmp .ge 360, 3, 0, []), (200, .iload 18, 2, 0, []), (202, .ifCond .ne 210, 3, 0, []), (205, .iload 11, 2, 0, []), (207, .goto 212, 3, 0, []), (210, .iload 12, 2, 0, [])]
def s_r93_3 : List sE := [(212, .istore 19, 2, 0, []), (214, .iload 19, 2, 0, []), (216, .bipush (-6), 2, 0, []), (218, .if_icmp .eq 354, 3, 0, []), (221, .aload_n 0, 1, 0, []), (222, .iload 19, 2, 0, []), (224, .iconst 2, 1, 0, []), (225, .invokevirtual 62, 3, 44, [401, 402, 403, 13, 404]), (228, .istore 20, 2, 0, []), (230, .iload 14, 2, 0, []), (232, .iload 20, 2, 0, []), (234, .iadd, 1, 0, []), (235, .istore 14, 2, 0, []), (237, .iload 20, 2, 0, []), (239, .iload 15, 2, 0, []), (241, .if_icmp .le 249, 3, 0, []), (244, .iload 20, 2, 0, []), (246, .goto 251, 3, 0, []), (249, .iload 15, 2, 0, []), (251, .istore 15, 2, 0, []), (253, .iload 16, 2, 0, []), (255, .aload_n 0, 1, 0, []), (256, .iload 19, 2, 0, []), (258, .bipush 6, 2, 0, []), (260, .invokevirtual 62, 3, 44, [401, 402, 403, 13, 404]), (263, .iadd, 1, 0, []), (264, .istore 16, 2, 0, []), (266, .aload_n 0, 1, 0, []), (267, .iload 19, 2, 0, []), (269, .bipush 8, 2, 0, []), (271, .invokevirtual 62, 3, 44, [401, 402, 403, 13, 404]), (274, .iconst 1, 1, 0, []), (275, .iadd, 1, 0, []), (276, .iload 17, 2, 0, []), (278, .if_icmp .le 294, 3, 0, []), (281, .aload_n 0, 1, 0, []), (282, .iload 19, 2, 0, []), (284, .bipush 8, 2, 0, []), (286, .invokevirtual 62, 3, 44, [401, 402, 403, 13, 404]), (289, .iconst 1, 1, 0, [])]
def s_r93_4 : List sE := [(290, .iadd, 1, 0, []), (291, .goto 296, 3, 0, []), (294, .iload 17, 2, 0, []), (296, .istore 17, 2, 0, []), (298, .iload 9, 2, 0, []), (300, .ifCond .eq 343, 3, 0, []), (303, .iload 18, 2, 0, []), (305, .ifCond .ne 318, 3, 0, []), (308, .iload 19, 2, 0, []), (310, .iload 10, 2, 0, []), (312, .if_icmp .ge 343, 3, 0, []), (315, .goto 325, 3, 0, []), (318, .iload 19, 2, 0, []), (320, .iload 10, 2, 0, []), (322, .if_icmp .le 343, 3, 0, []), (325, .aload_n 0, 1, 0, []), (326, .iload 19, 2, 0, []), (328, .iconst 3, 1, 0, []), (329, .invokevirtual 62, 3, 44, [401, 402, 403, 13, 404]), (332, .iload 13, 2, 0, []), (334, .iconst 1, 1, 0, []), (335, .iadd, 1, 0, []), (336, .if_icmp .ne 343, 3, 0, []), (339, .iconst 1, 1, 0, []), (340, .goto 344, 3, 0, []), (343, .iconst 0, 1, 0, []), (344, .istore 9, 2, 0, []), (346, .aload_n 1, 1, 0, []), (347, .iload_n 2, 1, 0, []), (348, .iload 19, 2, 0, []), (350, .iastore, 1, 0, []), (351, .iinc 2 1, 3, 0, []), (354, .iinc 18 1, 3, 0, []), (357, .goto 194, 3, 0, []), (360, .bipush 100, 2, 0, []), (362, .iload 15, 2, 0, []), (364, .imul, 1, 0, []), (365, .aload_n 0, 1, 0, []), (366, .bipush 10, 2, 0, []), (368, .invokevirtual 63, 3, 9, [267, 268, 269, 13, 270])]
def s_r93_5 : List sE := [(371, .iload 14, 2, 0, []), (373, .imul, 1, 0, []), (374, .if_icmp .le 381, 3, 0, []), (377, .iconst 1, 1, 0, []), (378, .goto 382, 3, 0, []), (381, .iconst 0, 1, 0, []), (382, .istore 18, 2, 0, []), (384, .iload 8, 2, 0, []), (386, .iload 18, 2, 0, []), (388, .ifCond .eq 395, 3, 0, []), (391, .iconst 1, 1, 0, []), (392, .goto 396, 3, 0, []), (395, .iconst 0, 1, 0, []), (396, .iadd, 1, 0, []), (397, .istore 8, 2, 0, []), (399, .iload 9, 2, 0, []), (401, .ifCond .eq 501, 3, 0, []), (404, .aload_n 0, 1, 0, []), (405, .iload 10, 2, 0, []), (407, .iconst 2, 1, 0, []), (408, .invokevirtual 62, 3, 44, [401, 402, 403, 13, 404]), (411, .iload 14, 2, 0, []), (413, .if_icmp .ne 501, 3, 0, []), (416, .aload_n 0, 1, 0, []), (417, .iload 10, 2, 0, []), (419, .bipush 6, 2, 0, []), (421, .invokevirtual 62, 3, 44, [401, 402, 403, 13, 404]), (424, .iload 16, 2, 0, []), (426, .if_icmp .ne 501, 3, 0, []), (429, .aload_n 0, 1, 0, []), (430, .iload 10, 2, 0, []), (432, .bipush 8, 2, 0, []), (434, .invokevirtual 62, 3, 44, [401, 402, 403, 13, 404]), (437, .iload 17, 2, 0, []), (439, .if_icmp .ne 501, 3, 0, []), (442, .aload_n 0, 1, 0, []), (443, .iload 10, 2, 0, []), (445, .bipush 7, 2, 0, []), (447, .invokevirtual 62, 3, 44, [401, 402, 403, 13, 404]), (450, .iload 18, 2, 0, [])]
def s_r93_6 : List sE := [(452, .ifCond .eq 459, 3, 0, []), (455, .iconst 1, 1, 0, []), (456, .goto 460, 3, 0, []), (459, .iconst 0, 1, 0, []), (460, .if_icmp .ne 501, 3, 0, []), (463, .aload_n 0, 1, 0, []), (464, .iload 10, 2, 0, []), (466, .invokevirtual 61, 3, 26, [334, 335, 336, 13, 337]), (469, .bipush (-6), 2, 0, []), (471, .if_icmp .ne 478, 3, 0, []), (474, .iconst 1, 1, 0, []), (475, .goto 479, 3, 0, []), (478, .iconst 0, 1, 0, []), (479, .aload_n 0, 1, 0, []), (480, .iload 10, 2, 0, []), (482, .iconst 5, 1, 0, []), (483, .invokevirtual 62, 3, 44, [401, 402, 403, 13, 404]), (486, .ifCond .ne 493, 3, 0, []), (489, .iconst 1, 1, 0, []), (490, .goto 494, 3, 0, []), (493, .iconst 0, 1, 0, []), (494, .if_icmp .ne 501, 3, 0, []), (497, .iconst 1, 1, 0, []), (498, .goto 502, 3, 0, []), (501, .iconst 0, 1, 0, []), (502, .istore 9, 2, 0, []), (504, .goto 84, 3, 0, []), (507, .iload 9, 2, 0, []), (509, .ifCond .eq 565, 3, 0, []), (512, .iload_n 3, 1, 0, []), (513, .aload_n 0, 1, 0, []), (514, .iconst 0, 1, 0, []), (515, .invokevirtual 63, 3, 9, [267, 268, 269, 13, 270]), (518, .if_icmp .ne 565, 3, 0, []), (521, .iload 4, 2, 0, []), (523, .aload_n 0, 1, 0, []), (524, .iconst 1, 1, 0, []), (525, .invokevirtual 63, 3, 9, [267, 268, 269, 13, 270]), (528, .if_icmp .ne 565, 3, 0, []), (531, .iload 5, 2, 0, [])]
def s_r93_7 : List sE := [(533, .iload 6, 2, 0, []), (535, .iload_n 3, 1, 0, []), (536, .iadd, 1, 0, []), (537, .if_icmp .ne 565, 3, 0, []), (540, .iload 7, 2, 0, []), (542, .aload_n 0, 1, 0, []), (543, .iconst 3, 1, 0, []), (544, .invokevirtual 63, 3, 9, [267, 268, 269, 13, 270]), (547, .if_icmp .ne 565, 3, 0, []), (550, .iload 8, 2, 0, []), (552, .aload_n 0, 1, 0, []), (553, .bipush 9, 2, 0, []), (555, .invokevirtual 63, 3, 9, [267, 268, 269, 13, 270]), (558, .if_icmp .ne 565, 3, 0, []), (561, .iconst 1, 1, 0, []), (562, .goto 566, 3, 0, []), (565, .iconst 0, 1, 0, []), (566, .ireturn, 1, 0, [])]
def s_m93 : sM := (yL_isTree, cL_isTree, 21, (some .boolean), 1, 6, 133, s_r93_0 ++ (s_r93_1 ++ (s_r93_2 ++ (s_r93_3 ++ (s_r93_4 ++ (s_r93_5 ++ (s_r93_6 ++ (s_r93_7))))))))
/-- LeaningTreesLaw.areKeys(LLeaningTrees;)Z -/
def s_r94_0 : List sE := [(0, .aload_n 0, 1, 0, []), (1, .iconst 1, 1, 0, []), (2, .invokevirtual 63, 3, 9, [267, 268, 269, 13, 270]), (5, .istore_n 1, 1, 0, []), (6, .iconst 0, 1, 0, []), (7, .istore_n 2, 1, 0, []), (8, .aload_n 0, 1, 0, []), (9, .iload_n 1, 1, 0, []), (10, .invokevirtual 67, 3, 47, [416, 417, 418, 13, 419]), (13, .iconst (-1), 1, 0, []), (14, .if_icmp .ne 30, 3, 0, []), (17, .aload_n 0, 1, 0, []), (18, .iconst (-1), 1, 0, []), (19, .invokevirtual 67, 3, 47, [416, 417, 418, 13, 419]), (22, .iconst (-1), 1, 0, []), (23, .if_icmp .ne 30, 3, 0, []), (26, .iconst 1, 1, 0, []), (27, .goto 31, 3, 0, []), (30, .iconst 0, 1, 0, []), (31, .istore_n 3, 1, 0, []), (32, .iconst 0, 1, 0, []), (33, .istore 4, 2, 0, []), (35, .iload 4, 2, 0, []), (37, .iload_n 1, 1, 0, []), (38, .if_icmp .ge 184, 3, 0, []), (41, .iload_n 3, 1, 0, []), (42, .ifCond .eq 184, 3, 0, []), (45, .aload_n 0, 1, 0, []), (46, .iload 4, 2, 0, []), (48, .invokevirtual 67, 3, 47, [416, 417, 418, 13, 419]), (51, .istore 5, 2, 0, []), (53, .iload_n 2, 1, 0, []), (54, .aload_n 0, 1, 0, []), (55, .iload 5, 2, 0, []), (57, .invokevirtual 61, 3, 26, [334, 335, 336, 13, 337]), (60, .iadd, 1, 0, []), (61, .istore_n 2, 1, 0, []), (62, .aload_n 0, 1, 0, []), (63, .iload 5, 2, 0, []), (65, .invokevirtual 66, 3, 50, [424, 425, 426, 13, 427])]
def s_r94_1 : List sE := [(68, .iload 4, 2, 0, []), (70, .if_icmp .ne 176, 3, 0, []), (73, .iload 4, 2, 0, []), (75, .ifCond .ne 93, 3, 0, []), (78, .aload_n 0, 1, 0, []), (79, .iload 5, 2, 0, []), (81, .iconst 0, 1, 0, []), (82, .invokevirtual 68, 3, 53, [432, 433, 434, 13, 435]), (85, .bipush (-6), 2, 0, []), (87, .if_icmp .ne 176, 3, 0, []), (90, .goto 124, 3, 0, []), (93, .aload_n 0, 1, 0, []), (94, .iload 5, 2, 0, []), (96, .iconst 0, 1, 0, []), (97, .invokevirtual 68, 3, 53, [432, 433, 434, 13, 435]), (100, .aload_n 0, 1, 0, []), (101, .iload 4, 2, 0, []), (103, .iconst 1, 1, 0, []), (104, .isub, 1, 0, []), (105, .invokevirtual 67, 3, 47, [416, 417, 418, 13, 419]), (108, .if_icmp .ne 176, 3, 0, []), (111, .aload_n 0, 1, 0, []), (112, .iload 4, 2, 0, []), (114, .iconst 1, 1, 0, []), (115, .isub, 1, 0, []), (116, .invokevirtual 67, 3, 47, [416, 417, 418, 13, 419]), (119, .iload 5, 2, 0, []), (121, .if_icmp .ge 176, 3, 0, []), (124, .iload 4, 2, 0, []), (126, .iconst 1, 1, 0, []), (127, .iadd, 1, 0, []), (128, .iload_n 1, 1, 0, []), (129, .if_icmp .lt 144, 3, 0, []), (132, .aload_n 0, 1, 0, []), (133, .iload 5, 2, 0, []), (135, .iconst 1, 1, 0, []), (136, .invokevirtual 68, 3, 53, [432, 433, 434, 13, 435]), (139, .bipush (-6), 2, 0, []), (141, .if_icmp .ne 176, 3, 0, []), (144, .aload_n 0, 1, 0, [])]
def s_r94_2 : List sE := [(145, .iconst 0, 1, 0, []), (146, .iload 5, 2, 0, []), (148, .invokevirtual 69, 3, 56, [436, 437, 438, 13, 439]), (151, .iload_n 2, 1, 0, []), (152, .if_icmp .ne 176, 3, 0, []), (155, .aload_n 0, 1, 0, []), (156, .iload 5, 2, 0, []), (158, .iload 5, 2, 0, []), (160, .invokevirtual 69, 3, 56, [436, 437, 438, 13, 439]), (163, .aload_n 0, 1, 0, []), (164, .iload 5, 2, 0, []), (166, .invokevirtual 61, 3, 26, [334, 335, 336, 13, 337]), (169, .if_icmp .ne 176, 3, 0, []), (172, .iconst 1, 1, 0, []), (173, .goto 177, 3, 0, []), (176, .iconst 0, 1, 0, []), (177, .istore_n 3, 1, 0, []), (178, .iinc 4 1, 3, 0, []), (181, .goto 35, 3, 0, []), (184, .iload_n 3, 1, 0, []), (185, .ifCond .eq 204, 3, 0, []), (188, .aload_n 0, 1, 0, []), (189, .iconst 0, 1, 0, []), (190, .sipush 999, 3, 0, []), (193, .invokevirtual 69, 3, 56, [436, 437, 438, 13, 439]), (196, .iload_n 2, 1, 0, []), (197, .if_icmp .ne 204, 3, 0, []), (200, .iconst 1, 1, 0, []), (201, .goto 205, 3, 0, []), (204, .iconst 0, 1, 0, []), (205, .ireturn, 1, 0, [])]
def s_m94 : sM := (yL_areKeys, cL_areKeys, 6, (some .boolean), 1, 6, 133, s_r94_0 ++ (s_r94_1 ++ (s_r94_2)))
/-- LeaningTreesLaw.law([I)Z -/
def s_r95_0 : List sE := [(0, .new 6, 3, 10, [22, 23, 13]), (3, .dup, 1, 0, []), (4, .invokespecial 56, 3, 59, [24, 25, 13, 26]), (7, .astore_n 1, 1, 0, []), (8, .iconst 1, 1, 0, []), (9, .istore_n 2, 1, 0, []), (10, .iconst 0, 1, 0, []), (11, .istore_n 3, 1, 0, []), (12, .iload_n 3, 1, 0, []), (13, .bipush 60, 2, 0, []), (15, .if_icmp .ge 59, 3, 0, []), (18, .iload_n 2, 1, 0, []), (19, .ifCond .eq 59, 3, 0, []), (22, .aload_n 1, 1, 0, []), (23, .aload_n 0, 1, 0, []), (24, .iload_n 3, 1, 0, []), (25, .invokestatic 89, 3, 60, [319, 320, 12, 321])]
def s_r95_1 : List sE := [(28, .invokestatic 92, 3, 64, [323, 324, 12, 325])]
def s_r95_2 : List sE := [(31, .ifCond .eq 51, 3, 0, []), (34, .iload_n 3, 1, 0, []), (35, .iconst 4, 1, 0, []), (36, .irem, 1, 0, []), (37, .ifCond .gt 47, 3, 0, []), (40, .aload_n 1, 1, 0, [])]
def s_r95_3 : List sE := [(41, .invokestatic 93, 3, 68, [398, 399, 12, 400])]
def s_r95_4 : List sE := [(44, .ifCond .eq 51, 3, 0, []), (47, .iconst 1, 1, 0, []), (48, .goto 52, 3, 0, []), (51, .iconst 0, 1, 0, []), (52, .istore_n 2, 1, 0, []), (53, .iinc 3 1, 3, 0, []), (56, .goto 12, 3, 0, []), (59, .iload_n 2, 1, 0, []), (60, .ifCond .eq 81, 3, 0, []), (63, .aload_n 1, 1, 0, [])]
def s_r95_5 : List sE := [(64, .invokestatic 93, 3, 68, [398, 399, 12, 400])]
def s_r95_6 : List sE := [(67, .ifCond .eq 81, 3, 0, []), (70, .aload_n 1, 1, 0, [])]
def s_r95_7 : List sE := [(71, .invokestatic 94, 3, 72, [413, 414, 12, 415])]
def s_r95_8 : List sE := [(74, .ifCond .eq 81, 3, 0, []), (77, .iconst 1, 1, 0, []), (78, .goto 82, 3, 0, []), (81, .iconst 0, 1, 0, []), (82, .istore_n 2, 1, 0, []), (83, .aload_n 1, 1, 0, []), (84, .iconst 1, 1, 0, []), (85, .invokevirtual 63, 3, 9, [267, 268, 269, 13, 270]), (88, .istore_n 3, 1, 0, []), (89, .iconst 0, 1, 0, []), (90, .istore 4, 2, 0, []), (92, .iconst 1, 1, 0, []), (93, .iload 4, 2, 0, []), (95, .ishl, 1, 0, []), (96, .iload_n 3, 1, 0, []), (97, .if_icmp .gt 106, 3, 0, []), (100, .iinc 4 1, 3, 0, []), (103, .goto 92, 3, 0, []), (106, .aload_n 1, 1, 0, []), (107, .iconst 0, 1, 0, []), (108, .invokevirtual 63, 3, 9, [267, 268, 269, 13, 270]), (111, .ifCond .le 192, 3, 0, []), (114, .iload_n 2, 1, 0, []), (115, .ifCond .eq 190, 3, 0, []), (118, .aload_n 1, 1, 0, []), (119, .aload_n 1, 1, 0, []), (120, .iconst 2, 1, 0, []), (121, .invokevirtual 63, 3, 9, [267, 268, 269, 13, 270]), (124, .invokevirtual 60, 3, 38, [178, 179, 180, 13, 181]), (127, .iload_n 3, 1, 0, []), (128, .if_icmp .lt 190, 3, 0, []), (131, .aload_n 1, 1, 0, []), (132, .iconst 0, 1, 0, []), (133, .invokevirtual 63, 3, 9, [267, 268, 269, 13, 270]), (136, .iload_n 3, 1, 0, []), (137, .if_icmp .ne 190, 3, 0, []), (140, .aload_n 1, 1, 0, []), (141, .iconst 3, 1, 0, []), (142, .invokevirtual 63, 3, 9, [267, 268, 269, 13, 270]), (145, .iload_n 3, 1, 0, []), (146, .ifCond .ne 154, 3, 0, []), (149, .bipush (-6), 2, 0, []), (151, .goto 158, 3, 0, []), (154, .iload 4, 2, 0, []), (156, .iconst 1, 1, 0, []), (157, .isub, 1, 0, []), (158, .if_icmp .ne 190, 3, 0, []), (161, .aload_n 1, 1, 0, []), (162, .bipush 6, 2, 0, []), (164, .invokevirtual 63, 3, 9, [267, 268, 269, 13, 270]), (167, .ifCond .ne 190, 3, 0, []), (170, .aload_n 1, 1, 0, []), (171, .invokevirtual 76, 3, 75, [311, 312, 313, 13, 314]), (174, .ifCond .lt 190, 3, 0, []), (177, .aload_n 1, 1, 0, []), (178, .iconst 1, 1, 0, []), (179, .invokevirtual 63, 3, 9, [267, 268, 269, 13, 270]), (182, .iload_n 3, 1, 0, []), (183, .if_icmp .ne 190, 3, 0, []), (186, .iconst 1, 1, 0, []), (187, .goto 191, 3, 0, []), (190, .iconst 0, 1, 0, []), (191, .istore_n 2, 1, 0, []), (192, .iload_n 2, 1, 0, []), (193, .ireturn, 1, 0, [])]
def s_m95 : sM := (x, code, 5, (some .boolean), 1, 8, 185, s_r95_0 ++ (s_r95_1 ++ (s_r95_2 ++ (s_r95_3 ++ (s_r95_4 ++ (s_r95_5 ++ (s_r95_6 ++ (s_r95_7 ++ (s_r95_8)))))))))
def s_l0 : List (sM × Option Nat) := [(s_m0, some 0), (s_m1, some 0), (s_m2, some 0), (s_m3, some 0), (s_m4, some 0), (s_m5, some 1), (s_m22, some 3), (s_m22, some 3), (s_m22, some 3), (s_m22, some 3), (s_m22, some 3), (s_m22, some 3), (s_m22, some 3), (s_m22, some 3), (s_m22, some 3), (s_m22, some 3), (s_m22, some 3), (s_m17, some 2), (s_m22, some 3), (s_m22, some 3)]
def s_l1 : List (sM × Option Nat) := [(s_m22, some 3), (s_m21, some 3), (s_m22, some 3), (s_m23, some 3), (s_m24, some 3), (s_m25, some 3), (s_m26, some 3), (s_m27, some 4), (s_m28, some 5), (s_m29, some 5), (s_m30, some 5), (s_m31, some 5), (s_m32, some 5), (s_m33, some 5), (s_m34, some 5), (s_m35, some 5), (s_m36, some 5), (s_m37, some 5), (s_m38, some 5), (s_m39, some 5)]
def s_l2 : List (sM × Option Nat) := [(s_m40, some 5), (s_m41, some 5), (s_m42, some 5), (s_m43, some 5), (s_m44, some 5), (s_m45, some 5), (s_m46, some 5), (s_m47, some 5), (s_m48, some 5), (s_m49, some 5), (s_m50, some 5), (s_m51, some 5), (s_m52, some 5), (s_m53, some 5), (s_m54, some 5), (s_m55, none), (s_m56, some 6), (s_m57, some 6), (s_m58, some 6), (s_m59, some 6)]
def s_l3 : List (sM × Option Nat) := [(s_m60, some 6), (s_m61, some 6), (s_m62, some 6), (s_m63, some 6), (s_m22, some 3), (s_m22, some 3), (s_m66, some 6), (s_m67, some 6), (s_m68, some 6), (s_m69, some 6), (s_m70, some 6), (s_m22, some 3), (s_m22, some 3), (s_m22, some 3), (s_m22, some 3), (s_m22, some 3), (s_m76, some 6), (s_m22, some 3), (s_m22, some 3), (s_m79, none)]
def s_l4 : List (sM × Option Nat) := [(s_m80, none), (s_m22, some 3), (s_m82, some 6), (s_m83, some 6), (s_m84, some 6), (s_m85, some 6), (s_m22, some 3), (s_m22, some 3), (s_m22, some 3), (s_m89, none), (s_m90, none), (s_m91, none), (s_m92, none), (s_m93, none), (s_m94, none), (s_m95, none)]
def s_ml : List (sM × Option Nat) := s_l0 ++ (s_l1 ++ (s_l2 ++ (s_l3 ++ (s_l4))))
def s_T : sMT := fun k => s_nth s_ml k
end
section
def s_ckm (q : sM × Option Nat) : Bool := (s_cd q.1).all (fun e => s_chk s_S s_T lw_tbl s_host q.1 e) && (plainFor (s_y q.1) && (match q.2 with
  | some c => decide (s_cn s_S c = (s_y q.1).cls) && decide (0 < s_N s_S c)
  | none => true))
theorem s_all2 {f : sE → Bool} {a b : List sE} (ha : a.all f = true) (hb : b.all f = true) : (a ++ b).all f = true := by rw [List.all_append, ha, hb]; rfl
theorem s_ck3 {q : sM × Option Nat} {c : List sE} (hc : s_cd q.1 = c) (h1 : c.all (fun e => s_chk s_S s_T lw_tbl s_host q.1 e) = true) (h2 : (plainFor (s_y q.1) && (match q.2 with | some c => decide (s_cn s_S c = (s_y q.1).cls) && decide (0 < s_N s_S c) | none => true)) = true) : s_ckm q = true := by
  unfold s_ckm
  rw [hc, h1, Bool.true_and]
  exact h2
theorem s_k22 : s_ckm (s_m22, some 3) = true := by decide +kernel
/-- a row whose words are long: they are compared as they are written -/
theorem s_chk_1 {r : sM} {e : sE} (h1 : (decide (decode (s_b r) e.1 = .ok (s_rel e.1 e.2.2.2.1 e.2.1, e.2.2.1)) && (decide (s_ln e.2.1 = 0) || decide (e.2.2.1 = s_ln e.2.1))) = true) (h2 : (s_wds s_S s_T (s_y r).cls e.2.2.2.1 e.2.1).map some = e.2.2.2.2.map (fun i => lw_tbl[i]?)) (h3 : ((s_wds s_S s_T (s_y r).cls e.2.2.2.1 e.2.1).all goodWord && s_sd s_S s_T s_host r e.2.2.2.1 e.2.1 && s_so e.1 e.2.1) = true) : [e].all (fun e => s_chk s_S s_T lw_tbl s_host r e) = true := by
  rw [List.all_cons, List.all_nil, Bool.and_true]
  unfold s_chk
  rw [decide_eq_true h2, h1, Bool.true_and, Bool.true_and]
  exact h3
theorem s_k0 : s_ckm (s_m0, some 0) = true := by decide +kernel
theorem s_k1 : s_ckm (s_m1, some 0) = true := by decide +kernel
theorem s_k2 : s_ckm (s_m2, some 0) = true := by decide +kernel
theorem s_k3 : s_ckm (s_m3, some 0) = true := by decide +kernel
theorem s_k4 : s_ckm (s_m4, some 0) = true := by decide +kernel
theorem s_k5 : s_ckm (s_m5, some 1) = true := by decide +kernel
theorem s_k17 : s_ckm (s_m17, some 2) = true := by decide +kernel
theorem s_k21 : s_ckm (s_m21, some 3) = true := by decide +kernel
theorem s_k23 : s_ckm (s_m23, some 3) = true := by decide +kernel
theorem s_k24 : s_ckm (s_m24, some 3) = true := by decide +kernel
theorem s_k25 : s_ckm (s_m25, some 3) = true := by decide +kernel
theorem s_k26 : s_ckm (s_m26, some 3) = true := by decide +kernel
theorem s_k27 : s_ckm (s_m27, some 4) = true := by decide +kernel
theorem s_k28 : s_ckm (s_m28, some 5) = true := by decide +kernel
theorem s_k29 : s_ckm (s_m29, some 5) = true := by decide +kernel
theorem s_k30 : s_ckm (s_m30, some 5) = true := by decide +kernel
theorem s_k31 : s_ckm (s_m31, some 5) = true := by decide +kernel
theorem s_k32 : s_ckm (s_m32, some 5) = true := by decide +kernel
theorem s_k33 : s_ckm (s_m33, some 5) = true := by decide +kernel
theorem s_k34 : s_ckm (s_m34, some 5) = true := by decide +kernel
theorem s_k35 : s_ckm (s_m35, some 5) = true := by decide +kernel
theorem s_k36 : s_ckm (s_m36, some 5) = true := by decide +kernel
theorem s_k37 : s_ckm (s_m37, some 5) = true := by decide +kernel
theorem s_k38 : s_ckm (s_m38, some 5) = true := by decide +kernel
theorem s_k39 : s_ckm (s_m39, some 5) = true := by decide +kernel
theorem s_k40 : s_ckm (s_m40, some 5) = true := by decide +kernel
theorem s_k41 : s_ckm (s_m41, some 5) = true := by decide +kernel
theorem s_k42 : s_ckm (s_m42, some 5) = true := by decide +kernel
theorem s_k43 : s_ckm (s_m43, some 5) = true := by decide +kernel
theorem s_k44 : s_ckm (s_m44, some 5) = true := by decide +kernel
theorem s_k45 : s_ckm (s_m45, some 5) = true := by decide +kernel
theorem s_k46 : s_ckm (s_m46, some 5) = true := by decide +kernel
theorem s_k47 : s_ckm (s_m47, some 5) = true := by decide +kernel
theorem s_k48 : s_ckm (s_m48, some 5) = true := by decide +kernel
theorem s_k49 : s_ckm (s_m49, some 5) = true := by decide +kernel
theorem s_k50_0 : (s_r50_0).all (fun e => s_chk s_S s_T lw_tbl s_host s_m50 e) = true := by decide +kernel
theorem s_k50_1 : (s_r50_1).all (fun e => s_chk s_S s_T lw_tbl s_host s_m50 e) = true := by decide +kernel
theorem s_k50_x : (plainFor (s_y s_m50) && (match ((s_m50, some 5) : sM × Option Nat).2 with | some c => decide (s_cn s_S c = (s_y s_m50).cls) && decide (0 < s_N s_S c) | none => true)) = true := by decide +kernel
theorem s_k50 : s_ckm (s_m50, some 5) = true := s_ck3 (c := s_cd s_m50) rfl (s_all2 s_k50_0 s_k50_1) s_k50_x
theorem s_k51 : s_ckm (s_m51, some 5) = true := by decide +kernel
theorem s_k52_0 : (s_r52_0).all (fun e => s_chk s_S s_T lw_tbl s_host s_m52 e) = true := by decide +kernel
theorem s_k52_1 : (s_r52_1).all (fun e => s_chk s_S s_T lw_tbl s_host s_m52 e) = true := by decide +kernel
theorem s_k52_x : (plainFor (s_y s_m52) && (match ((s_m52, some 5) : sM × Option Nat).2 with | some c => decide (s_cn s_S c = (s_y s_m52).cls) && decide (0 < s_N s_S c) | none => true)) = true := by decide +kernel
theorem s_k52 : s_ckm (s_m52, some 5) = true := s_ck3 (c := s_cd s_m52) rfl (s_all2 s_k52_0 s_k52_1) s_k52_x
theorem s_k53 : s_ckm (s_m53, some 5) = true := by decide +kernel
theorem s_k54 : s_ckm (s_m54, some 5) = true := by decide +kernel
theorem s_k55 : s_ckm (s_m55, none) = true := by decide +kernel
end
section
theorem s_k56 : s_ckm (s_m56, some 6) = true := by decide +kernel
theorem s_k57 : s_ckm (s_m57, some 6) = true := by decide +kernel
theorem s_k58 : s_ckm (s_m58, some 6) = true := by decide +kernel
theorem s_k59 : s_ckm (s_m59, some 6) = true := by decide +kernel
theorem s_k60 : s_ckm (s_m60, some 6) = true := by decide +kernel
theorem s_k61 : s_ckm (s_m61, some 6) = true := by decide +kernel
theorem s_k62 : s_ckm (s_m62, some 6) = true := by decide +kernel
theorem s_k63 : s_ckm (s_m63, some 6) = true := by decide +kernel
theorem s_k66 : s_ckm (s_m66, some 6) = true := by decide +kernel
theorem s_k67 : s_ckm (s_m67, some 6) = true := by decide +kernel
theorem s_k68 : s_ckm (s_m68, some 6) = true := by decide +kernel
theorem s_k69 : s_ckm (s_m69, some 6) = true := by decide +kernel
theorem s_k70 : s_ckm (s_m70, some 6) = true := by decide +kernel
theorem s_k76 : s_ckm (s_m76, some 6) = true := by decide +kernel
theorem s_k79 : s_ckm (s_m79, none) = true := by decide +kernel
theorem s_k80 : s_ckm (s_m80, none) = true := by decide +kernel
theorem s_k82_0 : (s_r82_0).all (fun e => s_chk s_S s_T lw_tbl s_host s_m82 e) = true := by decide +kernel
theorem s_k82_1 : (s_r82_1).all (fun e => s_chk s_S s_T lw_tbl s_host s_m82 e) = true := by decide +kernel
theorem s_k82_2 : (s_r82_2).all (fun e => s_chk s_S s_T lw_tbl s_host s_m82 e) = true := by decide +kernel
theorem s_k82_x : (plainFor (s_y s_m82) && (match ((s_m82, some 6) : sM × Option Nat).2 with | some c => decide (s_cn s_S c = (s_y s_m82).cls) && decide (0 < s_N s_S c) | none => true)) = true := by decide +kernel
theorem s_k82 : s_ckm (s_m82, some 6) = true := s_ck3 (c := s_cd s_m82) rfl (s_all2 s_k82_0 (s_all2 s_k82_1 s_k82_2)) s_k82_x
theorem s_k83 : s_ckm (s_m83, some 6) = true := by decide +kernel
theorem s_k84 : s_ckm (s_m84, some 6) = true := by decide +kernel
theorem s_k85 : s_ckm (s_m85, some 6) = true := by decide +kernel
theorem s_k89 : s_ckm (s_m89, none) = true := by decide +kernel
theorem s_k90 : s_ckm (s_m90, none) = true := by decide +kernel
theorem s_k91 : s_ckm (s_m91, none) = true := by decide +kernel
end
section
theorem s_k92_0 : (s_r92_0).all (fun e => s_chk s_S s_T lw_tbl s_host s_m92 e) = true := by decide +kernel
theorem s_k92_1 : (s_r92_1).all (fun e => s_chk s_S s_T lw_tbl s_host s_m92 e) = true := by decide +kernel
theorem s_k92_2 : (s_r92_2).all (fun e => s_chk s_S s_T lw_tbl s_host s_m92 e) = true := by decide +kernel
theorem s_k92_3 : (s_r92_3).all (fun e => s_chk s_S s_T lw_tbl s_host s_m92 e) = true := by decide +kernel
theorem s_k92_4 : (s_r92_4).all (fun e => s_chk s_S s_T lw_tbl s_host s_m92 e) = true := by decide +kernel
theorem s_k92_5 : (s_r92_5).all (fun e => s_chk s_S s_T lw_tbl s_host s_m92 e) = true := by decide +kernel
theorem s_k92_6 : (s_r92_6).all (fun e => s_chk s_S s_T lw_tbl s_host s_m92 e) = true := by decide +kernel
theorem s_k92_7 : (s_r92_7).all (fun e => s_chk s_S s_T lw_tbl s_host s_m92 e) = true := by decide +kernel
theorem s_k92_x : (plainFor (s_y s_m92) && (match ((s_m92, none) : sM × Option Nat).2 with | some c => decide (s_cn s_S c = (s_y s_m92).cls) && decide (0 < s_N s_S c) | none => true)) = true := by decide +kernel
theorem s_k92 : s_ckm (s_m92, none) = true := s_ck3 (c := s_cd s_m92) rfl (s_all2 s_k92_0 (s_all2 s_k92_1 (s_all2 s_k92_2 (s_all2 s_k92_3 (s_all2 s_k92_4 (s_all2 s_k92_5 (s_all2 s_k92_6 s_k92_7))))))) s_k92_x
theorem s_k93_0 : (s_r93_0).all (fun e => s_chk s_S s_T lw_tbl s_host s_m93 e) = true := by decide +kernel
theorem s_k93_1 : (s_r93_1).all (fun e => s_chk s_S s_T lw_tbl s_host s_m93 e) = true := by decide +kernel
theorem s_k93_2 : (s_r93_2).all (fun e => s_chk s_S s_T lw_tbl s_host s_m93 e) = true := by decide +kernel
theorem s_k93_3 : (s_r93_3).all (fun e => s_chk s_S s_T lw_tbl s_host s_m93 e) = true := by decide +kernel
theorem s_k93_4 : (s_r93_4).all (fun e => s_chk s_S s_T lw_tbl s_host s_m93 e) = true := by decide +kernel
theorem s_k93_5 : (s_r93_5).all (fun e => s_chk s_S s_T lw_tbl s_host s_m93 e) = true := by decide +kernel
theorem s_k93_6 : (s_r93_6).all (fun e => s_chk s_S s_T lw_tbl s_host s_m93 e) = true := by decide +kernel
theorem s_k93_7 : (s_r93_7).all (fun e => s_chk s_S s_T lw_tbl s_host s_m93 e) = true := by decide +kernel
theorem s_k93_x : (plainFor (s_y s_m93) && (match ((s_m93, none) : sM × Option Nat).2 with | some c => decide (s_cn s_S c = (s_y s_m93).cls) && decide (0 < s_N s_S c) | none => true)) = true := by decide +kernel
theorem s_k93 : s_ckm (s_m93, none) = true := s_ck3 (c := s_cd s_m93) rfl (s_all2 s_k93_0 (s_all2 s_k93_1 (s_all2 s_k93_2 (s_all2 s_k93_3 (s_all2 s_k93_4 (s_all2 s_k93_5 (s_all2 s_k93_6 s_k93_7))))))) s_k93_x
end
section
theorem s_k94_0 : (s_r94_0).all (fun e => s_chk s_S s_T lw_tbl s_host s_m94 e) = true := by decide +kernel
theorem s_k94_1 : (s_r94_1).all (fun e => s_chk s_S s_T lw_tbl s_host s_m94 e) = true := by decide +kernel
theorem s_k94_2 : (s_r94_2).all (fun e => s_chk s_S s_T lw_tbl s_host s_m94 e) = true := by decide +kernel
theorem s_k94_x : (plainFor (s_y s_m94) && (match ((s_m94, none) : sM × Option Nat).2 with | some c => decide (s_cn s_S c = (s_y s_m94).cls) && decide (0 < s_N s_S c) | none => true)) = true := by decide +kernel
theorem s_k94 : s_ckm (s_m94, none) = true := s_ck3 (c := s_cd s_m94) rfl (s_all2 s_k94_0 (s_all2 s_k94_1 s_k94_2)) s_k94_x
theorem s_k95_0 : (s_r95_0).all (fun e => s_chk s_S s_T lw_tbl s_host s_m95 e) = true := by decide +kernel
theorem s_k95_1 : (s_r95_1).all (fun e => s_chk s_S s_T lw_tbl s_host s_m95 e) = true := s_chk_1 (by decide +kernel) rfl (by decide +kernel)
theorem s_k95_2 : (s_r95_2).all (fun e => s_chk s_S s_T lw_tbl s_host s_m95 e) = true := by decide +kernel
theorem s_k95_3 : (s_r95_3).all (fun e => s_chk s_S s_T lw_tbl s_host s_m95 e) = true := s_chk_1 (by decide +kernel) rfl (by decide +kernel)
theorem s_k95_4 : (s_r95_4).all (fun e => s_chk s_S s_T lw_tbl s_host s_m95 e) = true := by decide +kernel
theorem s_k95_5 : (s_r95_5).all (fun e => s_chk s_S s_T lw_tbl s_host s_m95 e) = true := s_chk_1 (by decide +kernel) rfl (by decide +kernel)
theorem s_k95_6 : (s_r95_6).all (fun e => s_chk s_S s_T lw_tbl s_host s_m95 e) = true := by decide +kernel
theorem s_k95_7 : (s_r95_7).all (fun e => s_chk s_S s_T lw_tbl s_host s_m95 e) = true := s_chk_1 (by decide +kernel) rfl (by decide +kernel)
theorem s_k95_8 : (s_r95_8).all (fun e => s_chk s_S s_T lw_tbl s_host s_m95 e) = true := by decide +kernel
theorem s_k95_x : (plainFor (s_y s_m95) && (match ((s_m95, none) : sM × Option Nat).2 with | some c => decide (s_cn s_S c = (s_y s_m95).cls) && decide (0 < s_N s_S c) | none => true)) = true := by decide +kernel
theorem s_k95 : s_ckm (s_m95, none) = true := s_ck3 (c := s_cd s_m95) rfl (s_all2 s_k95_0 (s_all2 s_k95_1 (s_all2 s_k95_2 (s_all2 s_k95_3 (s_all2 s_k95_4 (s_all2 s_k95_5 (s_all2 s_k95_6 (s_all2 s_k95_7 s_k95_8)))))))) s_k95_x
end
section
theorem s_kl0 : ∀ q ∈ s_l0, s_ckm q = true := List.forall_mem_cons.mpr ⟨s_k0, List.forall_mem_cons.mpr ⟨s_k1, List.forall_mem_cons.mpr ⟨s_k2, List.forall_mem_cons.mpr ⟨s_k3, List.forall_mem_cons.mpr ⟨s_k4, List.forall_mem_cons.mpr ⟨s_k5, List.forall_mem_cons.mpr ⟨s_k22, List.forall_mem_cons.mpr ⟨s_k22, List.forall_mem_cons.mpr ⟨s_k22, List.forall_mem_cons.mpr ⟨s_k22, List.forall_mem_cons.mpr ⟨s_k22, List.forall_mem_cons.mpr ⟨s_k22, List.forall_mem_cons.mpr ⟨s_k22, List.forall_mem_cons.mpr ⟨s_k22, List.forall_mem_cons.mpr ⟨s_k22, List.forall_mem_cons.mpr ⟨s_k22, List.forall_mem_cons.mpr ⟨s_k22, List.forall_mem_cons.mpr ⟨s_k17, List.forall_mem_cons.mpr ⟨s_k22, List.forall_mem_cons.mpr ⟨s_k22, fun _ h => absurd h List.not_mem_nil⟩⟩⟩⟩⟩⟩⟩⟩⟩⟩⟩⟩⟩⟩⟩⟩⟩⟩⟩⟩
theorem s_kl1 : ∀ q ∈ s_l1, s_ckm q = true := List.forall_mem_cons.mpr ⟨s_k22, List.forall_mem_cons.mpr ⟨s_k21, List.forall_mem_cons.mpr ⟨s_k22, List.forall_mem_cons.mpr ⟨s_k23, List.forall_mem_cons.mpr ⟨s_k24, List.forall_mem_cons.mpr ⟨s_k25, List.forall_mem_cons.mpr ⟨s_k26, List.forall_mem_cons.mpr ⟨s_k27, List.forall_mem_cons.mpr ⟨s_k28, List.forall_mem_cons.mpr ⟨s_k29, List.forall_mem_cons.mpr ⟨s_k30, List.forall_mem_cons.mpr ⟨s_k31, List.forall_mem_cons.mpr ⟨s_k32, List.forall_mem_cons.mpr ⟨s_k33, List.forall_mem_cons.mpr ⟨s_k34, List.forall_mem_cons.mpr ⟨s_k35, List.forall_mem_cons.mpr ⟨s_k36, List.forall_mem_cons.mpr ⟨s_k37, List.forall_mem_cons.mpr ⟨s_k38, List.forall_mem_cons.mpr ⟨s_k39, fun _ h => absurd h List.not_mem_nil⟩⟩⟩⟩⟩⟩⟩⟩⟩⟩⟩⟩⟩⟩⟩⟩⟩⟩⟩⟩
theorem s_kl2 : ∀ q ∈ s_l2, s_ckm q = true := List.forall_mem_cons.mpr ⟨s_k40, List.forall_mem_cons.mpr ⟨s_k41, List.forall_mem_cons.mpr ⟨s_k42, List.forall_mem_cons.mpr ⟨s_k43, List.forall_mem_cons.mpr ⟨s_k44, List.forall_mem_cons.mpr ⟨s_k45, List.forall_mem_cons.mpr ⟨s_k46, List.forall_mem_cons.mpr ⟨s_k47, List.forall_mem_cons.mpr ⟨s_k48, List.forall_mem_cons.mpr ⟨s_k49, List.forall_mem_cons.mpr ⟨s_k50, List.forall_mem_cons.mpr ⟨s_k51, List.forall_mem_cons.mpr ⟨s_k52, List.forall_mem_cons.mpr ⟨s_k53, List.forall_mem_cons.mpr ⟨s_k54, List.forall_mem_cons.mpr ⟨s_k55, List.forall_mem_cons.mpr ⟨s_k56, List.forall_mem_cons.mpr ⟨s_k57, List.forall_mem_cons.mpr ⟨s_k58, List.forall_mem_cons.mpr ⟨s_k59, fun _ h => absurd h List.not_mem_nil⟩⟩⟩⟩⟩⟩⟩⟩⟩⟩⟩⟩⟩⟩⟩⟩⟩⟩⟩⟩
theorem s_kl3 : ∀ q ∈ s_l3, s_ckm q = true := List.forall_mem_cons.mpr ⟨s_k60, List.forall_mem_cons.mpr ⟨s_k61, List.forall_mem_cons.mpr ⟨s_k62, List.forall_mem_cons.mpr ⟨s_k63, List.forall_mem_cons.mpr ⟨s_k22, List.forall_mem_cons.mpr ⟨s_k22, List.forall_mem_cons.mpr ⟨s_k66, List.forall_mem_cons.mpr ⟨s_k67, List.forall_mem_cons.mpr ⟨s_k68, List.forall_mem_cons.mpr ⟨s_k69, List.forall_mem_cons.mpr ⟨s_k70, List.forall_mem_cons.mpr ⟨s_k22, List.forall_mem_cons.mpr ⟨s_k22, List.forall_mem_cons.mpr ⟨s_k22, List.forall_mem_cons.mpr ⟨s_k22, List.forall_mem_cons.mpr ⟨s_k22, List.forall_mem_cons.mpr ⟨s_k76, List.forall_mem_cons.mpr ⟨s_k22, List.forall_mem_cons.mpr ⟨s_k22, List.forall_mem_cons.mpr ⟨s_k79, fun _ h => absurd h List.not_mem_nil⟩⟩⟩⟩⟩⟩⟩⟩⟩⟩⟩⟩⟩⟩⟩⟩⟩⟩⟩⟩
theorem s_kl4 : ∀ q ∈ s_l4, s_ckm q = true := List.forall_mem_cons.mpr ⟨s_k80, List.forall_mem_cons.mpr ⟨s_k22, List.forall_mem_cons.mpr ⟨s_k82, List.forall_mem_cons.mpr ⟨s_k83, List.forall_mem_cons.mpr ⟨s_k84, List.forall_mem_cons.mpr ⟨s_k85, List.forall_mem_cons.mpr ⟨s_k22, List.forall_mem_cons.mpr ⟨s_k22, List.forall_mem_cons.mpr ⟨s_k22, List.forall_mem_cons.mpr ⟨s_k89, List.forall_mem_cons.mpr ⟨s_k90, List.forall_mem_cons.mpr ⟨s_k91, List.forall_mem_cons.mpr ⟨s_k92, List.forall_mem_cons.mpr ⟨s_k93, List.forall_mem_cons.mpr ⟨s_k94, List.forall_mem_cons.mpr ⟨s_k95, fun _ h => absurd h List.not_mem_nil⟩⟩⟩⟩⟩⟩⟩⟩⟩⟩⟩⟩⟩⟩⟩⟩
theorem s_kml : ∀ q ∈ s_ml, s_ckm q = true := List.forall_mem_append.mpr ⟨s_kl0, List.forall_mem_append.mpr ⟨s_kl1, List.forall_mem_append.mpr ⟨s_kl2, List.forall_mem_append.mpr ⟨s_kl3, s_kl4⟩⟩⟩⟩
theorem s_CK : s_Chk s_S s_T lw_tbl s_host := by
  intro k r cn hk
  have hk : s_nth s_ml k = some (r, cn) := hk
  rw [s_nth_eq] at hk
  have h := s_kml _ (List.mem_of_getElem? hk)
  unfold s_ckm at h
  simp only [Bool.and_eq_true, List.all_eq_true] at h
  refine ⟨h.1, h.2.1, fun c hc => ?_⟩
  subst hc
  have h2 := h.2.2
  simp only [Bool.and_eq_true, decide_eq_true_eq] at h2
  exact h2
end
section
/-! THE CLAIM OUT OF ONE WALK OF THE LAW'S BODY. Your part is whole_start (and what it stands on); all else here is the same for every law, but numbers. -/
def R_law : String := "LeaningTreesLaw"
def lw_P (b : Addr) (xs : List Int32) (args : Array Value) (s : State) : Prop := args = #[.ref b] ∧ s.IntsAt b xs ∧ xs.length ≤ 260 ∧ (Jvm.Cond.and given_1 narrow_1).before args s = true
def lw_Q (_ : Array Value) (s : State) (o : Outcome) (t : State) : Prop := o = .returned (some (.int 1)) ∧ Framed s o t [] 600000 7302250
def lw_Z (below : List Frame) (a : Array Value) (s : State) : State → Prop := fun t => ∃ o, t.status = .running ∧ Ended t below o ∧ lw_Q a s o t
/-- the law's own end, with 1 on the stack, nothing written that was there before, its room as the claim has it -/
theorem lw_ret {p : Program} {l : Launch} {e : Env} {s : State} {m : MethodId} {below : List Frame} {meth : Method} {c : Code} {b : Nat} (hx : p.tables.exec = Jvm.exec) (hb : c.code = code) (hr : meth.sig.returnType = ret) (hlocks : meth.locks = false) {pc : Nat} {H : Heap} {ls : Array Slot} (hdg : decode code pc = .ok (.ireturn, 1)) : W p l e room_1 s m #[Value.ref b] below meth c H [] 600000 7302250 (lw_Z below #[Value.ref b] s) (F0 m pc ls [.int 1]) := by
  intro T hT X
  obtain ⟨fs, hret, hrun, hended, hW, hframe⟩ := X.leave (v := some (.int 1)) (hlocks := hlocks) (fun h => by rw [hr] at h; cases h)
  have hmeth' : T.vm.method? m = some meth := X.method'
  refine ⟨T.setFrames fs, ?_, .returned (some (.int 1)), hrun, hended, rfl, ⟨_, rfl⟩, hW, hframe⟩
  jvm_step X.here [X.here.top, hx, hb, hdg, hmeth', hr, ret, narrow_b1]
  (try refine ⟨rfl, ?_⟩); (try refine ⟨rfl, ?_⟩)
  first | (intro acts; rw [hret _ acts rfl rfl rfl]) | rw [hret _ _ rfl rfl rfl]
  exact Steps.refl _
/-- what holds at the law's entry: the machine, the code, the tables' words (any of lw_tbl by 'hts w (by decide +kernel)'), the script of L ints xs at the cell b, what the Statement gives of the start (any of its parts by flat_of_before) -/
def lw_At (p : Program) (s : State) (m : MethodId) (meth : Method) (c : Code) (b L : Nat) (xs : Nat → Int32) : Prop :=
  p.tables.exec = Jvm.exec ∧ c.code = code ∧ meth.sig.returnType = ret ∧ c.maxLocals = 5 ∧ s.vm.findClass R_law = some m.cls ∧ (∀ w ∈ lw_tbl, w.before #[Value.ref b] s = true) ∧ va_X b L xs s s.heap ∧ b < s.heap.size ∧ meth.locks = false ∧ (Jvm.Cond.and given_1 narrow_1).before #[Value.ref b] s = true
/-! THE LAW'S START: the real walk out of the small machine's run -/
def s_3 (a b c : Int32) : Nat → Int32 := fun j => if j = 0 then a else if j = 1 then b else c
def s_Z0 (xs : Nat → Int32) : Nat → Nat → Int32 := fun i => if i = 0 then s_3 70 40 2 else if i = 1 then s_3 55 10 0 else if i = 2 then s_3 95 90 9 else if i = 3 then xs else fun _ => 0
def s_h0 (L : Nat) (xs : Nat → Int32) : sHp := (s_Z0 xs, fun _ _ => none, [(1, 3), (1, 3), (1, 3), (1, L)])
/-- WHAT IS LEFT: on every script the small machine comes to its end with 1, in its room -/
def s_Goal : Prop := ∀ (L : Nat) (xs : Nat → Int32), L ≤ 260 → ∃ (f : Nat) (h : sHp), s_run s_T f 95 0 [.ref 3, s_no, s_no, s_no, s_no] [] (s_h0 L xs) = some (some (.int 1), h) ∧ h.2.2.length ≤ 600000 ∧ s_sz s_S h.2.2 ≤ 7302250
theorem s_TWhas {w : Jvm.Cond} {i : Nat} (h : lw_tbl[i]? = some w) (hg : goodWord w = true) : w ∈ s_TW lw_tbl := List.mem_filter.mpr ⟨List.mem_of_getElem? h, hg⟩
theorem s_uw {ws : List Jvm.Cond} {pl : List Nat} (h : ws.map some = pl.map (fun i => lw_tbl[i]?)) (hg : ws.all goodWord = true) : ∀ w ∈ ws, w ∈ s_TW lw_tbl := by
  intro w hw
  refine List.mem_filter.mpr ⟨?_, List.all_eq_true.mp hg w hw⟩
  have : some w ∈ pl.map (fun i => lw_tbl[i]?) := by
    rw [← h]
    exact List.mem_map.mpr ⟨w, hw, rfl⟩
  obtain ⟨j, -, hj⟩ := List.mem_map.mp this
  exact List.mem_of_getElem? hj
theorem s_u0 : ∀ w ∈ u_ws RX0 TX0 2, w ∈ s_TW lw_tbl := s_uw (pl := [110, 112]) (by decide +kernel) (by decide +kernel)
theorem s_u1 : ∀ w ∈ u_ws RX1 TX1 5, w ∈ s_TW lw_tbl := s_uw (pl := [138, 140, 142, 144, 146]) (by decide +kernel) (by decide +kernel)
theorem s_u2 : ∀ w ∈ u_ws RX2 TX2 2, w ∈ s_TW lw_tbl := s_uw (pl := [127, 129]) (by decide +kernel) (by decide +kernel)
theorem s_u3 : ∀ w ∈ u_ws RX3 TX3 1, w ∈ s_TW lw_tbl := s_uw (pl := [45]) (by decide +kernel) (by decide +kernel)
theorem s_u4 : ∀ w ∈ u_ws RX4 TX4 2, w ∈ s_TW lw_tbl := s_uw (pl := [157, 159]) (by decide +kernel) (by decide +kernel)
theorem s_u5 : ∀ w ∈ u_ws RX5 TX5 11, w ∈ s_TW lw_tbl := s_uw (pl := [75, 77, 79, 81, 83, 85, 87, 89, 91, 93, 95]) (by decide +kernel) (by decide +kernel)
theorem s_u6 : ∀ w ∈ u_ws RX6 TX6 5, w ∈ s_TW lw_tbl := s_uw (pl := [167, 169, 171, 173, 175]) (by decide +kernel) (by decide +kernel)
theorem s_SOKs : s_SOK s_S (s_TW lw_tbl) := by
  intro c q hq
  have hq : s_vw[c]? = some q := hq
  match c, hq with
  | 0, hq => cases hq; exact ⟨s_u0, tyX0_ok, nmX0⟩
  | 1, hq => cases hq; exact ⟨s_u1, tyX1_ok, nmX1⟩
  | 2, hq => cases hq; exact ⟨s_u2, tyX2_ok, nmX2⟩
  | 3, hq => cases hq; exact ⟨s_u3, tyX3_ok, nmX3⟩
  | 4, hq => cases hq; exact ⟨s_u4, tyX4_ok, nmX4⟩
  | 5, hq => cases hq; exact ⟨s_u5, tyX5_ok, nmX5⟩
  | 6, hq => cases hq; exact ⟨s_u6, tyX6_ok, nmX6⟩
  | k + 7, hq => exact absurd (List.getElem?_eq_some_iff.mp hq).1 (by show ¬ k + 7 < 7; omega)
theorem s_insts : ∀ q ∈ s_vw, Jvm.Cond.instantiable q.1 q.2.2 ∈ lw_tbl := by
  intro q hq
  have hq2 : q ∈ s_vw := hq
  unfold s_vw at hq2
  simp only [List.mem_cons, List.not_mem_nil, or_false] at hq2
  rcases hq2 with rfl | rfl | rfl | rfl | rfl | rfl | rfl
  · exact List.mem_of_getElem? (i := 99) (by decide +kernel)
  · exact List.mem_of_getElem? (i := 133) (by decide +kernel)
  · exact List.mem_of_getElem? (i := 118) (by decide +kernel)
  · exact List.mem_of_getElem? (i := 37) (by decide +kernel)
  · exact List.mem_of_getElem? (i := 149) (by decide +kernel)
  · exact List.mem_of_getElem? (i := 31) (by decide +kernel)
  · exact List.mem_of_getElem? (i := 23) (by decide +kernel)
theorem s_SDs : s_SD s_S := by
  refine ⟨by decide +kernel, fun c k hk => ?_⟩
  rcases Nat.lt_or_ge c 7 with hc | hc
  · have h1 : ∀ c, c < 7 → ∀ k, k < s_N s_S c → defaultValue (s_ty s_S c k) = if s_kd (s_ty s_S c k) = 2 then .null else .int 0 := by decide +kernel
    exact h1 c hc k hk
  · have : s_vw[c]? = none := List.getElem?_eq_none (by exact hc)
    unfold s_N at hk
    rw [show (s_cl s_S)[c]? = none from this] at hk
    exact absurd hk (Nat.not_lt_zero _)
theorem s_FX : s_Fix s_S s_T lw_tbl s_host := ⟨s_SOKs, s_SDs, s_CK, by decide +kernel⟩
theorem s_static {args : Array Value} {s : State} {C n : String} {v0 v1 v2 : Int32} (hl : (Jvm.Cond.laysStatic C n "[I").before args s = true) (hini : (Jvm.Cond.initialized C).before args s = true) (harr : (Jvm.Cond.arrayOf (.static C n "[I") .int).before args s = true) (hlen : (Jvm.Cond.eq (.length (.static C n "[I")) (.int 3)).before args s = true)
    (h0 : (Jvm.Cond.eq (.elem (.static C n "[I") (.int 0)) (.int v0)).before args s = true) (h1 : (Jvm.Cond.eq (.elem (.static C n "[I") (.int 1)) (.int v1)).before args s = true) (h2 : (Jvm.Cond.eq (.elem (.static C n "[I") (.int 2)) (.int v2)).before args s = true) :
    ∃ t : Nat, va_Z C n "[I" (.ref t) (fun q => s.heap.size ≤ q) s s.heap ∧ va_T .int t 3 (fun j => .int (s_3 v0 v1 v2 j)) (fun q => s.heap.size ≤ q) s s.heap := by
  have hA : ∀ a : Nat, a < s.heap.size → ¬ (fun q => s.heap.size ≤ q) a := fun a h => Nat.not_le.mpr h
  obtain ⟨t, ht, hT⟩ := va_Tof (tm := .static C n "[I") (ty := .int) (N := 3) (f := fun j => .int (s_3 v0 v1 v2 j)) (by decide) harr (va_eqt hlen) (fun j hj => by
    match j, hj with
    | 0, _ => exact va_eqt h0
    | 1, _ => exact va_eqt h1
    | 2, _ => exact va_eqt h2) hA
  exact ⟨t, va_Zof hl hini ht hA, hT⟩
theorem s_nwTrue {args : Array Value} {s : State} (hts : ∀ w ∈ lw_tbl, w.before args s = true) : ∀ w ∈ s_nwl, va_Nw w s := by
  intro w hw
  unfold s_nwl at hw
  simp only [List.mem_cons, List.not_mem_nil, or_false] at hw
  rcases hw with rfl | rfl | rfl | rfl | rfl | rfl
  · exact va_tabs rfl rfl (hts _ (List.mem_of_getElem? (i := 119) (by decide +kernel)))
  · exact va_tabs rfl rfl (hts _ (List.mem_of_getElem? (i := 134) (by decide +kernel)))
  · exact va_tabs rfl rfl (hts _ (List.mem_of_getElem? (i := 150) (by decide +kernel)))
  · exact va_tabs rfl rfl (hts _ (List.mem_of_getElem? (i := 38) (by decide +kernel)))
  · exact va_AO.of (hts _ (List.mem_of_getElem? (i := 116) (by decide +kernel)))
  · exact va_AO.of (hts _ (List.mem_of_getElem? (i := 105) (by decide +kernel)))
/-- the small machine's run gives the walk -/
theorem s_whole (HG : s_Goal) {p : Program} {e : Env} {s : State} {m : MethodId} {below : List Frame} {meth : Method} {c : Code} (l : Launch) {b L : Nat} {xs : Nat → Int32} (hL : L ≤ 260) (C0 : lw_At p s m meth c b L xs) : W p l e room_1 s m #[Value.ref b] below meth c s.heap [] 0 0 (lw_Z below #[Value.ref b] s) (entryFrame m ([Value.ref b] : List Value).toArray 5) := by
  obtain ⟨hx, hb, hr, hml, hown, hts, hX, hbl, hlocks, hgv⟩ := C0
  have hs := flat_of_before _ hgv
  obtain ⟨f, h1, hrun, hroom1, hroom2⟩ := HG L xs hL
  obtain ⟨t0, hZ0, hT0⟩ := s_static (C := "LeaningTrees") (n := "FIRST_SETTINGS") (v0 := 70) (v1 := 40) (v2 := 2) (hts _ (List.mem_of_getElem? (i := 39) (by decide +kernel))) (hts _ (List.mem_of_getElem? (i := 13) (by decide +kernel))) (hs _ (by decide +kernel)) (hs _ (by decide +kernel)) (hs _ (by decide +kernel)) (hs _ (by decide +kernel)) (hs _ (by decide +kernel))
  obtain ⟨t1, hZ1, hT1⟩ := s_static (C := "LeaningTrees") (n := "LEAST_SETTINGS") (v0 := 55) (v1 := 10) (v2 := 0) (hts _ (List.mem_of_getElem? (i := 394) (by decide +kernel))) (hts _ (List.mem_of_getElem? (i := 13) (by decide +kernel))) (hs _ (by decide +kernel)) (hs _ (by decide +kernel)) (hs _ (by decide +kernel)) (hs _ (by decide +kernel)) (hs _ (by decide +kernel))
  obtain ⟨t2, hZ2, hT2⟩ := s_static (C := "LeaningTrees") (n := "GREATEST_SETTINGS") (v0 := 95) (v1 := 90) (v2 := 9) (hts _ (List.mem_of_getElem? (i := 396) (by decide +kernel))) (hts _ (List.mem_of_getElem? (i := 13) (by decide +kernel))) (hs _ (by decide +kernel)) (hs _ (by decide +kernel)) (hs _ (by decide +kernel)) (hs _ (by decide +kernel)) (hs _ (by decide +kernel))
  have hcls : ∀ k : Nat, ∃ (cC : ClassId) (iS : Nat → Nat), ∀ q : vw_C, s_vw[k]? = some q → u_Kn s q.1 q.2.1 q.2.2 cC iS := by
    intro k
    cases hk : s_vw[k]? with
    | none => exact ⟨0, fun _ => 0, fun q h => by cases h⟩
    | some q0 =>
      obtain ⟨c0, i0, hK0⟩ := u_known (C := q0.1) (T := q0.2.1) (N := q0.2.2) (n := q0.2.2) (ws := s_TW lw_tbl) (fun w hw => hts w (List.mem_filter.mp hw).1) (s_SOKs k q0 hk).1 (hts _ (s_insts q0 (List.mem_of_getElem? hk)))
      exact ⟨c0, i0, fun q h => by cases h; exact hK0⟩
  obtain ⟨dC, hdC⟩ : ∃ dC : Nat → ClassId, ∀ k : Nat, ∃ iS : Nat → Nat, ∀ q : vw_C, s_vw[k]? = some q → u_Kn s q.1 q.2.1 q.2.2 (dC k) iS := ⟨fun k => Classical.choose (hcls k), fun k => Classical.choose_spec (hcls k)⟩
  obtain ⟨dI, hdI⟩ : ∃ dI : Nat → Nat → Nat, ∀ (k : Nat) (q : vw_C), s_vw[k]? = some q → u_Kn s q.1 q.2.1 q.2.2 (dC k) (dI k) := ⟨fun k => Classical.choose (hdC k), fun k => Classical.choose_spec (hdC k)⟩
  obtain ⟨cI, kI, cmI, hI1, hI2, hI3⟩ := Cond.arrayClass_spec (type := .int) (hts _ (List.mem_of_getElem? (i := 48) (by decide +kernel)))
  have harr : ∀ t : Nat, ∃ cA : ClassId, t ∈ s_rkl → ArrOfT s cA (.object (s_cn s_S t)) ∧ va_RA s cA (.object (s_cn s_S t)) := by
    intro t
    by_cases ht : t ∈ s_rkl
    · have hw : Jvm.Cond.arrayOver (.object (s_cn s_S t)) ∈ lw_tbl := by
        simp only [s_rkl, List.mem_cons, List.not_mem_nil, or_false] at ht
        rcases ht with rfl | rfl
        · exact List.mem_of_getElem? (i := 116) (by decide +kernel)
        · exact List.mem_of_getElem? (i := 105) (by decide +kernel)
      obtain ⟨comp, cA, kA, g1, g2, g3, g4, g5⟩ := Cond.arrayOver_spec (hts _ hw)
      exact ⟨cA, fun _ => ⟨fun n z => ⟨(fun k h => by cases h), kA, g3, comp, g4⟩, kA, comp, g3, g4, g1, g5⟩⟩
    · exact ⟨0, fun h => absurd h ht⟩
  obtain ⟨cA, hcA⟩ : ∃ cA : Nat → ClassId, ∀ t : Nat, t ∈ s_rkl → ArrOfT s (cA t) (.object (s_cn s_S t)) ∧ va_RA s (cA t) (.object (s_cn s_S t)) := ⟨fun t => Classical.choose (harr t), fun t => Classical.choose_spec (harr t)⟩
  let G : s_DG := ((dC, dI), (fun t => if t = 1 then cI else cA (t - 2)), (fun i => if i = 0 then t0 else if i = 1 then t1 else if i = 2 then t2 else if i = 3 then b else s.heap.size + (i - 4)), s.heap.size, (fun i => if i = 3 then L else 3), s_Z0 xs)
  have hA : ∀ a : Nat, a < s.heap.size → ¬ s_A G a := fun a h => Nat.not_le.mpr h
  have hlt : ∀ {t : Nat} {f : Nat → Value} {n : Nat}, va_T .int t n f (fun q => s.heap.size ≤ q) s s.heap → t < s.heap.size := fun hT => by
    obtain ⟨cell, g1, -⟩ := hT
    exact (Array.getElem?_eq_some_iff.mp g1).1
  have hT3 : va_T .int b L (fun j => .int (xs j)) (fun q => s.heap.size ≤ q) s s.heap := by
    obtain ⟨scr, g1, g2, g3, g4, g5⟩ := hX
    exact ⟨scr, g1, g2, g3, Nat.le_of_eq g4.symm, by rw [g4], g5, Nat.not_le.mpr hbl⟩
  have hIn : s_In s_S G s := by
    refine ⟨⟨fun k q h => hdI k q h, fun k q h => ?_⟩, fun i hi => ?_, fun j hj => ?_, fun j => ?_, s_nwTrue hts⟩
    · have hm := List.mem_of_getElem? h
      rcases List.mem_cons.mp hm with rfl | hm
      · exact ⟨fun n z => ⟨(fun k h => by cases h), kI, hI2, cmI, hI3⟩, hI1⟩
      · obtain ⟨t, ht, rfl⟩ := List.mem_map.mp hm
        have hz : s_cA G (t + 2) = cA t := by
          show (if t + 2 = 1 then cI else cA (t + 2 - 2)) = cA t
          rw [if_neg (by omega), Nat.add_sub_cancel]
        rw [hz]
        exact hcA t ht
    · match i, hi with
      | 0, _ => exact ⟨hT0, hlt hT0⟩
      | 1, _ => exact ⟨hT1, hlt hT1⟩
      | 2, _ => exact ⟨hT2, hlt hT2⟩
      | 3, _ => exact ⟨hT3, hlt hT3⟩
    · match j, hj with
      | 0, _ => exact ⟨by decide, hZ0⟩
      | 1, _ => exact ⟨by decide, hZ1⟩
      | 2, _ => exact ⟨by decide, hZ2⟩
    · show (if j + 4 = 0 then t0 else if j + 4 = 1 then t1 else if j + 4 = 2 then t2 else if j + 4 = 3 then b else s.heap.size + (j + 4 - 4)) = s.heap.size + j
      rw [if_neg (by omega), if_neg (by omega), if_neg (by omega), if_neg (by omega), Nat.add_sub_cancel]
  have hW0 : s_Wd s_S G (s_h0 L xs) s.heap := by
    refine ⟨Nat.le_refl 4, fun k q h => ?_, fun i hi => ?_, fun i t n h => ?_⟩
    · have h0 : (s_ws s_S G (s_h0 L xs)) = [] := rfl
      rw [h0] at h
      cases h
    · match i, hi with
      | 0, _ => exact ⟨rfl, rfl⟩
      | 1, _ => exact ⟨rfl, rfl⟩
      | 2, _ => exact ⟨rfl, rfl⟩
      | 3, _ => exact ⟨rfl, rfl⟩
    · match i, h with
      | 0, h => cases h
      | 1, h => cases h
      | 2, h => cases h
      | 3, h => cases h
      | i + 4, h => cases h
  have C : s_Cx s_S G (s_TW lw_tbl) p s m #[Value.ref b] meth c s_m95 := ⟨hx, hb, hml, hown, fun w hw => hts w (List.mem_filter.mp hw).1, hIn, fun z => absurd z (by decide +kernel)⟩
  have hl := lv_entry ([.ref b]) (n := 5) (Nat.le_of_ble_eq_true rfl)
  rw [lg_entry_eq]
  generalize (lg_sl ([.ref b]) ++ List.replicate (5 - (lg_sl ([.ref b])).length) Slot.unset).toArray = ls at hl ⊢
  have hLR : s_LR G ls [.ref 3, s_no, s_no, s_no, s_no] := s_LR_ent (G := G) (vs := [.ref 3]) (n := 5) (Nat.le_of_ble_eq_true rfl) hl
  have key := s_body (G := G) (l := l) s_FX f p e room_1 s m #[Value.ref b] below meth c (lw_Z below #[Value.ref b] s) 95 s_m95 none 4 (s_sz s_S (s_h0 L xs).2.2) 0 [.ref 3, s_no, s_no, s_no, s_no] [] (s_h0 L xs) (some (.int 1), h1) (by rfl) C hrun (Nat.le_of_ble_eq_true rfl) (Nat.le_of_ble_eq_true rfl) rfl (Nat.le_refl 4) (Nat.le_refl 4) (Nat.le_refl _) ⟨by show _ - 4 ≤ 600000; dsimp only; omega, by show _ ≤ 7302250; dsimp only; omega⟩ ?_ hml.symm s.heap [] ls hW0 va_S.rf hLR
  · rw [show (s_h0 L xs).2.2.length - 4 = 0 from rfl, Nat.sub_self] at key
    exact key
  · intro ri pc2 L2 st2 hdg hrx hlen2 H locs ls2 hW2 hS2 hL2
    have hst : ri = .ireturn ∧ st2 = [.int 1] := by
      unfold s_rx at hrx
      split at hrx
      next heq => cases heq
      next heq => cases heq
      next v heq =>
        split at hrx
        · cases hrx; exact ⟨rfl, rfl⟩
        · cases hrx
      next heq => cases heq
      next heq => cases heq
      next heq => cases heq
      · cases hrx
    obtain ⟨rfl, rfl⟩ := hst
    refine va_forget (fun q hq => hS2.2.2 q hq) ?_
    refine W.widen (k := 600000) (n := 7302250) (by show _ - 4 ≤ _; dsimp only; omega) (by dsimp only; omega) ?_
    exact lw_ret hx hb hr hlocks hdg
end
section
/-! THE LOGIC OF THE SMALL MACHINE -/
theorem s_run_more {MT : sMT} : ∀ (f k pc : Nat) (L st : List Value) (h : sHp) (o : Option Value × sHp), s_run MT f k pc L st h = some o → s_run MT (f + 1) k pc L st h = some o
  | 0, _, _, _, _, _, _, hr => by cases hr
  | f + 1, k, pc, L, st, h, o, hr => by
    unfold s_run at hr ⊢
    split at hr
    · cases hr
    next r hk =>
    try rw [hk]
    try dsimp only
    split at hr
    · cases hr
    next e he =>
    try rw [he]
    try dsimp only
    split at hr
    next q hq =>
      try rw [hq]
      try dsimp only
      split at hr
      · cases hr
      next r2 hk2 =>
      try rw [hk2]
      try dsimp only
      split at hr
      · cases hr
      next hc =>
      try rw [if_neg hc]
      split at hr
      · cases hr
      next o1 h1 =>
      rw [s_run_more f _ _ _ _ _ _ h1]
      try dsimp only
      exact s_run_more f _ _ _ _ _ _ hr
    next hq =>
      try rw [hq]
      try dsimp only
      split at hr
      next v hv =>
        try rw [hv]
        exact hr
      next hv =>
        try rw [hv]
        try dsimp only
        split at hr
        · cases hr
        next c hc =>
          try rw [hc]
          try dsimp only
          exact s_run_more f _ _ _ _ _ _ hr
theorem s_run_le {MT : sMT} {f k pc : Nat} {L st : List Value} {h : sHp} {o : Option Value × sHp} (hr : s_run MT f k pc L st h = some o) : ∀ g : Nat, s_run MT (f + g) k pc L st h = some o
  | 0 => hr
  | g + 1 => s_run_more _ _ _ _ _ _ _ (s_run_le hr g)
/-- from this point of method k the run comes to its end with v and the heap h2 -/
def e_r (k pc : Nat) (ls st : List Value) (h : sHp) (v : Option Value) (h2 : sHp) : Prop := ∃ f : Nat, s_run s_T f k pc ls st h = some (v, h2)
/-- method k at these arguments answers v and leaves h2 -/
def m_r (k : Nat) (as : List Value) (h : sHp) (v : Option Value) (h2 : sHp) : Prop := ∃ (r : sM) (cn : Option Nat), s_T k = some (r, cn) ∧ s_cat as ≤ s_mL r ∧ as.length = s_na r ∧ e_r k 0 (s_ent as (s_mL r)) [] h v h2
def s_go (r : sM) : Nat → Nat → List Value → List Value → sHp → Option sC
  | 0, pc, ls, st, h => some (pc, ls, st, h)
  | n + 1, pc, ls, st, h => match s_at (s_cd r) pc with
    | none => none
    | some e => match s_ci e.2.1 with
      | some _ => none
      | none => match s_rx e.2.1 (s_rt r) st with
        | some _ => none
        | none => match s_x e.2.1 pc e.2.2.1 ls st h with
          | none => none
          | some c => s_go r n c.1 c.2.1 c.2.2.1 c.2.2.2
section LOG
variable {k pc : Nat} {r : sM} {cn : Option Nat} {ls st : List Value} {h h2 : sHp} {v : Option Value}
theorem e_step (hk : s_T k = some (r, cn)) {e : sE} {c : sC} (hat : s_at (s_cd r) pc = some e) (hci : s_ci e.2.1 = none) (hrx : s_rx e.2.1 (s_rt r) st = none) (hx : s_x e.2.1 pc e.2.2.1 ls st h = some c) (kk : e_r k c.1 c.2.1 c.2.2.1 c.2.2.2 v h2) : e_r k pc ls st h v h2 := by
  obtain ⟨f, hf⟩ := kk
  refine ⟨f + 1, ?_⟩
  unfold s_run
  rw [hk]
  dsimp only
  rw [hat]
  dsimp only
  rw [hci]
  dsimp only
  rw [hrx]
  dsimp only
  rw [hx]
  exact hf
theorem e_go (hk : s_T k = some (r, cn)) : ∀ (n : Nat) {pc : Nat} {ls st : List Value} {h : sHp} {c : sC}, s_go r n pc ls st h = some c → e_r k c.1 c.2.1 c.2.2.1 c.2.2.2 v h2 → e_r k pc ls st h v h2
  | 0, pc, ls, st, h, c, hg, kk => by cases hg; exact kk
  | n + 1, pc, ls, st, h, c, hg, kk => by
    unfold s_go at hg
    split at hg
    · cases hg
    next e hat =>
    split at hg
    · cases hg
    next hci =>
    split at hg
    · cases hg
    next hrx =>
    split at hg
    · cases hg
    next c1 hx =>
    exact e_step hk hat hci hrx hx (e_go hk n hg kk)
theorem e_ret (hk : s_T k = some (r, cn)) {e : sE} {w : Option Value} (hat : s_at (s_cd r) pc = some e) (hci : s_ci e.2.1 = none) (hrx : s_rx e.2.1 (s_rt r) st = some w) (hv : w = v) (hh : h = h2) : e_r k pc ls st h v h2 := by
  subst hv; subst hh
  refine ⟨1, ?_⟩
  unfold s_run
  rw [hk]
  dsimp only
  rw [hat]
  dsimp only
  rw [hci]
  dsimp only
  rw [hrx]
theorem e_call (hk : s_T k = some (r, cn)) {e : sE} {q : Nat × Nat} {r2 : sM} {cn2 : Option Nat} {as rest : List Value} {v1 : Option Value} {h1 : sHp} (hat : s_at (s_cd r) pc = some e) (hci : s_ci e.2.1 = some q) (hk2 : s_T q.2 = some (r2, cn2)) (hst : st = as.reverse ++ rest) (hcat : s_cat rest ≤ 8) (hrc : s_rc q.1 cn2 h as = true) (hm : m_r q.2 as h v1 h1) (kk : e_r k (pc + 3) ls (v1.toList ++ rest) h1 v h2) : e_r k pc ls st h v h2 := by
  obtain ⟨r3, cn3, hk3, hc3, hl3, f1, hf1⟩ := hm
  rw [hk2] at hk3
  cases hk3
  obtain ⟨f2, hf2⟩ := kk
  refine ⟨f1 + f2 + 1, ?_⟩
  have e1 : st.take (s_na r2) = as.reverse := by rw [hst, ← hl3, ← List.length_reverse, List.take_left']; rfl
  have e2 : st.drop (s_na r2) = rest := by rw [hst, ← hl3, ← List.length_reverse, List.drop_left']; rfl
  unfold s_run
  rw [hk]
  dsimp only
  rw [hat]
  dsimp only
  rw [hci]
  dsimp only
  rw [hk2]
  dsimp only
  rw [e1, e2, List.reverse_reverse, if_neg (by
    rw [hrc]
    have hlen : st.length = s_na r2 + rest.length := by rw [hst, List.length_append, List.length_reverse, hl3]
    simp only [not_or, Nat.not_lt, Bool.true_eq_false, not_false_eq_true, and_true]
    exact ⟨by omega, hc3, hcat⟩), s_run_le hf1 f2]
  dsimp only
  rw [Nat.add_comm f1 f2]
  exact s_run_le hf2 f1
/-! branches -/
section BRS
variable {a b : Nat} {x y : Int32}
theorem e_eq (kt : x = y → e_r k a ls st h v h2) (kf : ¬ x = y → e_r k b ls st h v h2) : e_r k (if s_cnd .eq x y = true then a else b) ls st h v h2 := by
  by_cases hc : x = y
  · rw [if_pos (by simp [s_cnd, hc])]; exact kt hc
  · rw [if_neg (by simp [s_cnd, hc])]; exact kf hc
theorem e_ne (kt : ¬ x = y → e_r k a ls st h v h2) (kf : x = y → e_r k b ls st h v h2) : e_r k (if s_cnd .ne x y = true then a else b) ls st h v h2 := by
  by_cases hc : x = y
  · rw [if_neg (by simp [s_cnd, hc])]; exact kf hc
  · rw [if_pos (by simp [s_cnd, hc])]; exact kt hc
theorem e_lt (kt : x < y → e_r k a ls st h v h2) (kf : ¬ x < y → e_r k b ls st h v h2) : e_r k (if s_cnd .lt x y = true then a else b) ls st h v h2 := by
  by_cases hc : x < y
  · rw [if_pos (by simp only [s_cnd, decide_eq_true_eq]; exact hc)]; exact kt hc
  · rw [if_neg (by simp only [s_cnd, decide_eq_true_eq]; exact hc)]; exact kf hc
theorem e_ge (kt : y ≤ x → e_r k a ls st h v h2) (kf : ¬ y ≤ x → e_r k b ls st h v h2) : e_r k (if s_cnd .ge x y = true then a else b) ls st h v h2 := by
  by_cases hc : y ≤ x
  · rw [if_pos (by simp only [s_cnd, decide_eq_true_eq]; exact hc)]; exact kt hc
  · rw [if_neg (by simp only [s_cnd, decide_eq_true_eq]; exact hc)]; exact kf hc
theorem e_gt (kt : y < x → e_r k a ls st h v h2) (kf : ¬ y < x → e_r k b ls st h v h2) : e_r k (if s_cnd .gt x y = true then a else b) ls st h v h2 := by
  by_cases hc : y < x
  · rw [if_pos (by simp only [s_cnd, decide_eq_true_eq]; exact hc)]; exact kt hc
  · rw [if_neg (by simp only [s_cnd, decide_eq_true_eq]; exact hc)]; exact kf hc
theorem e_le (kt : x ≤ y → e_r k a ls st h v h2) (kf : ¬ x ≤ y → e_r k b ls st h v h2) : e_r k (if s_cnd .le x y = true then a else b) ls st h v h2 := by
  by_cases hc : x ≤ y
  · rw [if_pos (by simp only [s_cnd, decide_eq_true_eq]; exact hc)]; exact kt hc
  · rw [if_neg (by simp only [s_cnd, decide_eq_true_eq]; exact hc)]; exact kf hc
end BRS
/-! an array's place, named by a number -/
theorem s_outb_nI {j n : Nat} (hj : j < n) (hn : n < 2 ^ 31) : ¬ s_outb (nI j) n = true := by
  unfold s_outb
  have h1 := nI_pos (n := j) (by omega)
  have h2 := nI_clamp (n := j) (by omega)
  simp only [Bool.or_eq_true, decide_eq_true_eq, Nat.ble_eq, not_or]
  exact ⟨h1, by rw [h2]; omega⟩
theorem e_ald (hk : s_T k = some (r, cn)) {e : sE} {rest : List Value} {a j n : Nat} (hat : s_at (s_cd r) pc = some e) (hi : e.2.1 = .iaload) (hs : s_nth h.2.2 a = some (1, n)) (hj : j < n) (hn : n < 2 ^ 31) (kk : e_r k (pc + e.2.2.1) ls (.int (h.1 a j) :: rest) h v h2) : e_r k pc ls (.int (nI j) :: .ref a :: rest) h v h2 := by
  refine e_step (c := (pc + e.2.2.1, ls, .int (h.1 a j) :: rest, h)) hk hat (by rw [hi]; rfl) (by rw [hi]; rfl) ?_ kk
  rw [hi]
  dsimp only [s_x]
  rw [hs]
  show (if s_outb (nI j) n = true then none else some (pc + e.2.2.1, ls, Value.int (h.1 a (nI j).toNatClampNeg) :: rest, h)) = _
  rw [if_neg (s_outb_nI hj hn), nI_clamp (by omega)]
theorem e_ast (hk : s_T k = some (r, cn)) {e : sE} {rest : List Value} {a j n : Nat} {x : Int32} (hat : s_at (s_cd r) pc = some e) (hi : e.2.1 = .iastore) (hs : s_nth h.2.2 a = some (1, n)) (ha : 4 ≤ a) (hj : j < n) (hn : n < 2 ^ 31) (kk : e_r k (pc + e.2.2.1) ls rest (s_upd h.1 a j x, h.2) v h2) : e_r k pc ls (.int x :: .int (nI j) :: .ref a :: rest) h v h2 := by
  refine e_step (c := (pc + e.2.2.1, ls, rest, (s_upd h.1 a j x, h.2))) hk hat (by rw [hi]; rfl) (by rw [hi]; rfl) ?_ kk
  rw [hi]
  dsimp only [s_x]
  rw [hs]
  show (if s_outb (nI j) n = true ∨ a < 4 then none else some (pc + e.2.2.1, ls, rest, (s_upd h.1 a (nI j).toNatClampNeg x, h.2))) = _
  rw [if_neg (by rw [not_or]; exact ⟨s_outb_nI hj hn, by omega⟩), nI_clamp (by omega)]
theorem e_getr (hk : s_T k = some (r, cn)) {e : sE} {rest : List Value} {ev a b : Nat} (hat : s_at (s_cd r) pc = some e) (hi : e.2.1 = .getfield ev) (hs : s_nth h.2.2 a = some (0, ev / 1024)) (hkd : ev % 8 = 2) (hr : h.2.1 a (ev % 1024 / 8) = some b) (kk : e_r k (pc + e.2.2.1) ls (.ref b :: rest) h v h2) : e_r k pc ls (.ref a :: rest) h v h2 := by
  refine e_step (c := (pc + e.2.2.1, ls, .ref b :: rest, h)) hk hat (by rw [hi]; rfl) (by rw [hi]; rfl) ?_ kk
  rw [hi]
  dsimp only [s_x]
  rw [hs]
  show (if ev / 1024 = ev / 1024 then (if ev % 8 = 2 then (match h.2.1 a (ev % 1024 / 8) with | some b => some (pc + e.2.2.1, ls, Value.ref b :: rest, h) | none => some (pc + e.2.2.1, ls, Value.null :: rest, h)) else some (pc + e.2.2.1, ls, Value.int (h.1 a (ev % 1024 / 8)) :: rest, h)) else none) = _
  rw [if_pos rfl, if_pos hkd, hr]
theorem e_geti (hk : s_T k = some (r, cn)) {e : sE} {rest : List Value} {ev a : Nat} (hat : s_at (s_cd r) pc = some e) (hi : e.2.1 = .getfield ev) (hs : s_nth h.2.2 a = some (0, ev / 1024)) (hkd : ¬ ev % 8 = 2) (kk : e_r k (pc + e.2.2.1) ls (.int (h.1 a (ev % 1024 / 8)) :: rest) h v h2) : e_r k pc ls (.ref a :: rest) h v h2 := by
  refine e_step (c := (pc + e.2.2.1, ls, .int (h.1 a (ev % 1024 / 8)) :: rest, h)) hk hat (by rw [hi]; rfl) (by rw [hi]; rfl) ?_ kk
  rw [hi]
  dsimp only [s_x]
  rw [hs]
  show (if ev / 1024 = ev / 1024 then (if ev % 8 = 2 then (match h.2.1 a (ev % 1024 / 8) with | some b => some (pc + e.2.2.1, ls, Value.ref b :: rest, h) | none => some (pc + e.2.2.1, ls, Value.null :: rest, h)) else some (pc + e.2.2.1, ls, Value.int (h.1 a (ev % 1024 / 8)) :: rest, h)) else none) = _
  rw [if_pos rfl, if_neg hkd]
theorem e_puti (hk : s_T k = some (r, cn)) {e : sE} {rest : List Value} {ev a : Nat} {x : Int32} (hat : s_at (s_cd r) pc = some e) (hi : e.2.1 = .putfield ev) (hs : s_nth h.2.2 a = some (0, ev / 1024)) (hkd : ev % 8 = 0) (kk : e_r k (pc + e.2.2.1) ls rest (s_upd h.1 a (ev % 1024 / 8) x, h.2) v h2) : e_r k pc ls (.int x :: .ref a :: rest) h v h2 := by
  refine e_step (c := (pc + e.2.2.1, ls, rest, (s_upd h.1 a (ev % 1024 / 8) x, h.2))) hk hat (by rw [hi]; rfl) (by rw [hi]; rfl) ?_ kk
  rw [hi]
  dsimp only [s_x]
  rw [hs]
  show (if ev / 1024 = ev / 1024 then (if ev % 8 = 0 then some (pc + e.2.2.1, ls, rest, (s_upd h.1 a (ev % 1024 / 8) x, h.2)) else if ev % 8 = 1 then (if x = 0 ∨ x = 1 then some (pc + e.2.2.1, ls, rest, (s_upd h.1 a (ev % 1024 / 8) x, h.2)) else none) else none) else none) = _
  rw [if_pos rfl, if_pos hkd]
theorem e_alen (hk : s_T k = some (r, cn)) {e : sE} {rest : List Value} {a t n : Nat} (hat : s_at (s_cd r) pc = some e) (hi : e.2.1 = .arraylength) (hs : s_nth h.2.2 a = some (t + 1, n)) (kk : e_r k (pc + e.2.2.1) ls (.int (nI n) :: rest) h v h2) : e_r k pc ls (.ref a :: rest) h v h2 := by
  refine e_step (c := (pc + e.2.2.1, ls, .int (nI n) :: rest, h)) hk hat (by rw [hi]; rfl) (by rw [hi]; rfl) ?_ kk
  rw [hi]
  dsimp only [s_x]
  rw [hs]
  rfl
end LOG
theorem m_of {k : Nat} {as : List Value} {h h2 : sHp} {v : Option Value} {r : sM} {cn : Option Nat} {ls : List Value} (hk : s_T k = some (r, cn)) (h1 : Nat.ble (s_cat as) (s_mL r) = true) (h3 : Nat.beq as.length (s_na r) = true) (he : s_ent as (s_mL r) = ls) (kk : e_r k 0 ls [] h v h2) : m_r k as h v h2 := by
  subst he
  exact ⟨r, cn, hk, Nat.le_of_ble_eq_true h1, Nat.eq_of_beq_eq_true h3, kk⟩
end
section
/-! THE HEAP BEHIND THE CONSTRUCTOR, printed by wip/p25/gen/heap.py; L % 512: the length of the script, L / 512: the rows of 62 ints that the law made -/
def s_SX (L : Nat) : List (Nat × Nat) := List.replicate (L / 512) (1, 62)
def s_SH (L : Nat) : List (Nat × Nat) := (1, 3) :: (1, 3) :: (1, 3) :: (1, L % 512) :: (0, 6) :: (0, 5) :: (0, 3) :: (1, 3) :: (0, 3) :: (1, 60) :: (0, 3) :: (1, 60) :: (0, 3) :: (1, 60) :: (0, 3) :: (1, 60) :: (0, 3) :: (1, 60) :: (0, 0) :: (7, 6) :: (0, 5) :: (0, 3) :: (1, 3) :: (0, 3) :: (1, 60) :: (0, 3) :: (1, 60) :: (0, 3) :: (1, 60) :: (0, 3) :: (1, 60) :: (0, 3) :: (1, 60) :: (0, 5) :: (0, 3) :: (1, 3) :: (0, 3) :: (1, 60) :: (0, 3) :: (1, 60) :: (0, 3) :: (1, 60) :: (0, 3) :: (1, 60) :: (0, 3) :: (1, 60) :: (0, 5) :: (0, 3) :: (1, 3) :: (0, 3) :: (1, 60) :: (0, 3) :: (1, 60) :: (0, 3) :: (1, 60) :: (0, 3) :: (1, 60) :: (0, 3) :: (1, 60) :: (0, 5) :: (0, 3) :: (1, 3) :: (0, 3) :: (1, 60) :: (0, 3) :: (1, 60) :: (0, 3) :: (1, 60) :: (0, 3) :: (1, 60) :: (0, 3) :: (1, 60) :: (0, 5) :: (0, 3) :: (1, 3) :: (0, 3) :: (1, 60) :: (0, 3) :: (1, 60) :: (0, 3) :: (1, 60) :: (0, 3) :: (1, 60) :: (0, 3) :: (1, 60) :: (0, 5) :: (0, 3) :: (1, 3) :: (0, 3) :: (1, 60) :: (0, 3) :: (1, 60) :: (0, 3) :: (1, 60) :: (0, 3) :: (1, 60) :: (0, 3) :: (1, 60) :: (6, 2) :: (0, 2) :: (0, 3) :: (1, 80) :: (0, 1) :: (0, 4) :: (0, 5) :: (0, 3) :: (1, 3) :: (0, 3) :: (1, 60) :: (0, 3) :: (1, 60) :: (0, 3) :: (1, 60) :: (0, 3) :: (1, 60) :: (0, 3) :: (1, 60) :: (0, 4) :: (0, 5) :: (0, 3) :: (1, 3) :: (0, 3) :: (1, 60) :: (0, 3) :: (1, 60) :: (0, 3) :: (1, 60) :: (0, 3) :: (1, 60) :: (0, 3) :: (1, 60) :: s_SX L
/-- references that never change -/
def s_RF : List (List Nat) := [[], [], [], [], [5, 18, 98, 99, 102], [6, 8, 10, 12, 14, 16], [7], [], [9], [], [11], [], [13], [], [15], [], [17], [], [19], [], [21, 23, 25, 27, 29, 31], [22], [], [24], [], [26], [], [28], [], [30], [], [32], [], [34, 36, 38, 40, 42, 44], [35], [], [37], [], [39], [], [41], [], [43], [], [45], [], [47, 49, 51, 53, 55, 57], [48], [], [50], [], [52], [], [54], [], [56], [], [58], [], [60, 62, 64, 66, 68, 70], [61], [], [63], [], [65], [], [67], [], [69], [], [71], [], [73, 75, 77, 79, 81, 83], [74], [], [76], [], [78], [], [80], [], [82], [], [84], [], [86, 88, 90, 92, 94, 96], [87], [], [89], [], [91], [], [93], [], [95], [], [97], [], [103, 117], [100], [101], [], [], [104], [105, 107, 109, 111, 113, 115], [106], [], [108], [], [110], [], [112], [], [114], [], [116], [], [118], [119, 121, 123, 125, 127, 129], [120], [], [122], [], [124], [], [126], [], [128], [], [130], []]
/-- all references; P: the trees that the history's states are -/
def s_RR (P : Nat → Nat) : Nat → Nat → Option Nat := fun i j => match Nat.beq i 19 with
  | true => (match Nat.blt j 6 with
    | true => some (P j)
    | false => none)
  | false => (match s_nth s_RF i with
    | some l => (match s_nth l j with
      | some 0 => none
      | x => x)
    | none => none)
abbrev hp (Z : Nat → Nat → Int32) (P : Nat → Nat) (L : Nat) : sHp := (Z, s_RR P, s_SH L)
end
section
/-! Row: at, write, total, greatest, become; printed by wip/whole/gen/row.py -/
theorem hk_0 : s_T 0 = some (s_m0, some 0) := rfl
theorem hk_1 : s_T 1 = some (s_m1, some 0) := rfl
theorem hk_2 : s_T 2 = some (s_m2, some 0) := rfl
theorem hk_3 : s_T 3 = some (s_m3, some 0) := rfl
theorem hk_4 : s_T 4 = some (s_m4, some 0) := rfl
theorem hk_5 : s_T 5 = some (s_m5, some 1) := rfl
theorem hk_17 : s_T 17 = some (s_m17, some 2) := rfl
theorem hk_21 : s_T 21 = some (s_m21, some 3) := rfl
theorem hk_22 : s_T 22 = some (s_m22, some 3) := rfl
theorem hk_23 : s_T 23 = some (s_m23, some 3) := rfl
theorem hk_24 : s_T 24 = some (s_m24, some 3) := rfl
theorem hk_25 : s_T 25 = some (s_m25, some 3) := rfl
theorem hk_26 : s_T 26 = some (s_m26, some 3) := rfl
theorem hk_27 : s_T 27 = some (s_m27, some 4) := rfl
theorem hk_28 : s_T 28 = some (s_m28, some 5) := rfl
theorem hk_29 : s_T 29 = some (s_m29, some 5) := rfl
theorem hk_30 : s_T 30 = some (s_m30, some 5) := rfl
theorem hk_31 : s_T 31 = some (s_m31, some 5) := rfl
theorem hk_32 : s_T 32 = some (s_m32, some 5) := rfl
theorem hk_33 : s_T 33 = some (s_m33, some 5) := rfl
theorem hk_34 : s_T 34 = some (s_m34, some 5) := rfl
theorem hk_35 : s_T 35 = some (s_m35, some 5) := rfl
theorem hk_36 : s_T 36 = some (s_m36, some 5) := rfl
theorem hk_37 : s_T 37 = some (s_m37, some 5) := rfl
theorem hk_38 : s_T 38 = some (s_m38, some 5) := rfl
theorem hk_39 : s_T 39 = some (s_m39, some 5) := rfl
theorem hk_40 : s_T 40 = some (s_m40, some 5) := rfl
theorem hk_41 : s_T 41 = some (s_m41, some 5) := rfl
theorem hk_42 : s_T 42 = some (s_m42, some 5) := rfl
theorem hk_43 : s_T 43 = some (s_m43, some 5) := rfl
theorem hk_44 : s_T 44 = some (s_m44, some 5) := rfl
theorem hk_45 : s_T 45 = some (s_m45, some 5) := rfl
theorem hk_46 : s_T 46 = some (s_m46, some 5) := rfl
theorem hk_47 : s_T 47 = some (s_m47, some 5) := rfl
theorem hk_48 : s_T 48 = some (s_m48, some 5) := rfl
theorem hk_49 : s_T 49 = some (s_m49, some 5) := rfl
theorem hk_50 : s_T 50 = some (s_m50, some 5) := rfl
theorem hk_51 : s_T 51 = some (s_m51, some 5) := rfl
theorem hk_52 : s_T 52 = some (s_m52, some 5) := rfl
theorem hk_53 : s_T 53 = some (s_m53, some 5) := rfl
theorem hk_54 : s_T 54 = some (s_m54, some 5) := rfl
theorem hk_55 : s_T 55 = some (s_m55, none) := rfl
theorem hk_56 : s_T 56 = some (s_m56, some 6) := rfl
theorem hk_57 : s_T 57 = some (s_m57, some 6) := rfl
theorem hk_58 : s_T 58 = some (s_m58, some 6) := rfl
theorem hk_59 : s_T 59 = some (s_m59, some 6) := rfl
theorem hk_60 : s_T 60 = some (s_m60, some 6) := rfl
theorem hk_61 : s_T 61 = some (s_m61, some 6) := rfl
theorem hk_62 : s_T 62 = some (s_m62, some 6) := rfl
theorem hk_63 : s_T 63 = some (s_m63, some 6) := rfl
theorem hk_66 : s_T 66 = some (s_m66, some 6) := rfl
theorem hk_67 : s_T 67 = some (s_m67, some 6) := rfl
theorem hk_68 : s_T 68 = some (s_m68, some 6) := rfl
theorem hk_69 : s_T 69 = some (s_m69, some 6) := rfl
theorem hk_70 : s_T 70 = some (s_m70, some 6) := rfl
theorem hk_76 : s_T 76 = some (s_m76, some 6) := rfl
theorem hk_79 : s_T 79 = some (s_m79, none) := rfl
theorem hk_80 : s_T 80 = some (s_m80, none) := rfl
theorem hk_82 : s_T 82 = some (s_m82, some 6) := rfl
theorem hk_83 : s_T 83 = some (s_m83, some 6) := rfl
theorem hk_84 : s_T 84 = some (s_m84, some 6) := rfl
theorem hk_85 : s_T 85 = some (s_m85, some 6) := rfl
theorem hk_89 : s_T 89 = some (s_m89, none) := rfl
theorem hk_90 : s_T 90 = some (s_m90, none) := rfl
theorem hk_91 : s_T 91 = some (s_m91, none) := rfl
theorem hk_92 : s_T 92 = some (s_m92, none) := rfl
theorem hk_93 : s_T 93 = some (s_m93, none) := rfl
theorem hk_94 : s_T 94 = some (s_m94, none) := rfl
theorem hk_95 : s_T 95 = some (s_m95, none) := rfl
theorem s_rc_of {c r : Nat} {h : sHp} {as : List Value} (h1 : s_nth h.2.2 r = some (0, c)) : s_rc 0 (some c) h (.ref r :: as) = true := by
  simp only [s_rc, h1]
  exact Nat.beq_refl c
theorem y_m1 {u : Nat} (hu : u < 2 ^ 31) : (nI u - 1).toInt = (u : Int) - 1 := by
  cases u with
  | zero => decide
  | succ k => rw [nI_pred, nI_toInt (by omega)]; omega
theorem y_m1lt {u i : Nat} (hu : u < 2 ^ 31) (hi : i < 2 ^ 31) : nI u - 1 < nI i ↔ u ≤ i := by
  rw [Int32.lt_iff_toInt_lt, y_m1 hu, nI_toInt hi]
  omega
theorem y_lt {a b : Nat} (ha : a < 2 ^ 31) (hb : b < 2 ^ 31) : nI a < nI b ↔ a < b := nI_ltI ha hb
theorem y_le {a b : Nat} (ha : a < 2 ^ 31) (hb : b < 2 ^ 31) : nI a ≤ nI b ↔ a ≤ b := nI_leI ha hb
def t_sm (f : Nat → Int32) : Nat → Nat → Int32 → Int32
  | _, 0, acc => acc
  | i, k + 1, acc => t_sm f (i + 1) k (acc + f i)
def t_mx (f : Nat → Int32) : Nat → Nat → Int32 → Int32
  | _, 0, acc => acc
  | i, k + 1, acc => t_mx f (i + 1) k (if acc < f i then f i else acc)
theorem x_at {r a n : Nat} {h : sHp} (h1 : s_nth h.2.2 r = some (0, 3)) (h2 : h.2.1 r 0 = some a) (h3 : s_nth h.2.2 a = some (1, n)) (hn : n < 2 ^ 31) {j : Nat} (hj : j < n) : m_r 22 [.ref r, .int (nI j)] h (some (.int (h.1 a j))) h := by
  refine m_of (ls := [.ref r, .int (nI j)]) hk_22 rfl rfl rfl ?_
  refine e_go hk_22 2 (c := (if s_cnd .lt (nI j) 0 = true then 22 else 4, [.ref r, .int (nI j)], [], h)) rfl ?_
  refine e_lt (a := 22) (b := 4) (x := nI j) (y := 0) (fun hc1 => absurd hc1 (nI_pos (by omega))) (fun hc1 => ?_)
  refine e_go hk_22 2 (c := (6, [.ref r, .int (nI j)], [.ref r, .int (nI j)], h)) rfl ?_
  refine e_getr hk_22 (ev := 3074) (b := a) rfl rfl h1 rfl h2 ?_
  show e_r 22 9 [.ref r, .int (nI j)] [.ref a, .int (nI j)] h _ _
  refine e_alen hk_22 rfl rfl h3 ?_
  show e_r 22 10 [.ref r, .int (nI j)] [.int (nI n), .int (nI j)] h _ _
  refine e_go hk_22 1 (c := (if s_cnd .ge (nI j) (nI n) = true then 22 else 13, [.ref r, .int (nI j)], [], h)) rfl ?_
  refine e_ge (a := 22) (b := 13) (x := nI j) (y := nI n) (fun hc10 => absurd hc10 (nI_ge hj hn)) (fun hc10 => ?_)
  refine e_go hk_22 1 (c := (14, [.ref r, .int (nI j)], [.ref r], h)) rfl ?_
  refine e_getr hk_22 (ev := 3074) (b := a) rfl rfl h1 rfl h2 ?_
  show e_r 22 17 [.ref r, .int (nI j)] [.ref a] h _ _
  refine e_go hk_22 1 (c := (18, [.ref r, .int (nI j)], [.int (nI j), .ref a], h)) rfl ?_
  refine e_ald hk_22 (a := a) (j := j) (n := n) rfl rfl h3 hj hn ?_
  show e_r 22 19 [.ref r, .int (nI j)] [.int (h.1 a j)] h _ _
  refine e_go hk_22 1 (c := (23, [.ref r, .int (nI j)], [.int (h.1 a j)], h)) rfl ?_
  exact e_ret hk_22 rfl rfl rfl rfl rfl

theorem x_write {r a n : Nat} {h : sHp} (h1 : s_nth h.2.2 r = some (0, 3)) (h2 : h.2.1 r 0 = some a) (h3 : s_nth h.2.2 a = some (1, n)) (hn : n < 2 ^ 31) {j : Nat} {x : Int32} (h4 : 4 ≤ a) (hj : j < n) : m_r 23 [.ref r, .int (nI j), .int x] h none (s_upd h.1 a j x, h.2) := by
  refine m_of (ls := [.ref r, .int (nI j), .int x]) hk_23 rfl rfl rfl ?_
  refine e_go hk_23 2 (c := (if s_cnd .lt (nI j) 0 = true then 20 else 4, [.ref r, .int (nI j), .int x], [], h)) rfl ?_
  refine e_lt (a := 20) (b := 4) (x := nI j) (y := 0) (fun hc1 => absurd hc1 (nI_pos (by omega))) (fun hc1 => ?_)
  refine e_go hk_23 2 (c := (6, [.ref r, .int (nI j), .int x], [.ref r, .int (nI j)], h)) rfl ?_
  refine e_getr hk_23 (ev := 3074) (b := a) rfl rfl h1 rfl h2 ?_
  show e_r 23 9 [.ref r, .int (nI j), .int x] [.ref a, .int (nI j)] h _ _
  refine e_alen hk_23 rfl rfl h3 ?_
  show e_r 23 10 [.ref r, .int (nI j), .int x] [.int (nI n), .int (nI j)] h _ _
  refine e_go hk_23 1 (c := (if s_cnd .ge (nI j) (nI n) = true then 20 else 13, [.ref r, .int (nI j), .int x], [], h)) rfl ?_
  refine e_ge (a := 20) (b := 13) (x := nI j) (y := nI n) (fun hc10 => absurd hc10 (nI_ge hj hn)) (fun hc10 => ?_)
  refine e_go hk_23 1 (c := (14, [.ref r, .int (nI j), .int x], [.ref r], h)) rfl ?_
  refine e_getr hk_23 (ev := 3074) (b := a) rfl rfl h1 rfl h2 ?_
  show e_r 23 17 [.ref r, .int (nI j), .int x] [.ref a] h _ _
  refine e_go hk_23 2 (c := (19, [.ref r, .int (nI j), .int x], [.int x, .int (nI j), .ref a], h)) rfl ?_
  refine e_ast hk_23 (a := a) (j := j) (n := n) rfl rfl h3 h4 hj hn ?_
  show e_r 23 20 [.ref r, .int (nI j), .int x] [] ((s_upd h.1 a j x, h.2)) _ _
  exact e_ret hk_23 rfl rfl rfl rfl rfl

theorem x_total_l {r a n : Nat} {h : sHp} (h1 : s_nth h.2.2 r = some (0, 3)) (h2 : h.2.1 r 0 = some a) (h3 : s_nth h.2.2 a = some (1, n)) (hn : n < 2 ^ 31) {u : Nat} {low : Int32} (hu : u ≤ n) : ∀ (k i : Nat) (acc : Int32), i + k = u → e_r 25 5 [.ref r, .int low, .int (nI u - 1), .int acc, .int (nI i)] [] h (some (.int (t_sm (h.1 a) i k acc))) h
  | 0, i, acc, hi => by
    refine e_go hk_25 3 (c := (if s_cnd .gt (nI i) (nI u - 1) = true then 36 else 11, [.ref r, .int low, .int (nI u - 1), .int acc, .int (nI i)], [], h)) rfl ?_
    refine e_gt (a := 36) (b := 11) (x := nI i) (y := nI u - 1) (fun hc8 => ?_) (fun hc8 => absurd ((y_m1lt (by omega) (by omega)).mpr (by omega)) hc8)
    refine e_go hk_25 1 (c := (37, [.ref r, .int low, .int (nI u - 1), .int acc, .int (nI i)], [.int acc], h)) rfl ?_
    exact e_ret hk_25 rfl rfl rfl rfl rfl
  | k + 1, i, acc, hi => by
    refine e_go hk_25 3 (c := (if s_cnd .gt (nI i) (nI u - 1) = true then 36 else 11, [.ref r, .int low, .int (nI u - 1), .int acc, .int (nI i)], [], h)) rfl ?_
    refine e_gt (a := 36) (b := 11) (x := nI i) (y := nI u - 1) (fun hc8 => absurd hc8 (fun z => absurd ((y_m1lt (by omega) (by omega)).mp z) (by omega))) (fun hc8 => ?_)
    refine e_go hk_25 2 (c := (14, [.ref r, .int low, .int (nI u - 1), .int acc, .int (nI i)], [.ref r, .int (nI i)], h)) rfl ?_
    refine e_getr hk_25 (ev := 3074) (b := a) rfl rfl h1 rfl h2 ?_
    show e_r 25 17 [.ref r, .int low, .int (nI u - 1), .int acc, .int (nI i)] [.ref a, .int (nI i)] h _ _
    refine e_alen hk_25 rfl rfl h3 ?_
    show e_r 25 18 [.ref r, .int low, .int (nI u - 1), .int acc, .int (nI i)] [.int (nI n), .int (nI i)] h _ _
    refine e_go hk_25 1 (c := (if s_cnd .ge (nI i) (nI n) = true then 36 else 21, [.ref r, .int low, .int (nI u - 1), .int acc, .int (nI i)], [], h)) rfl ?_
    refine e_ge (a := 36) (b := 21) (x := nI i) (y := nI n) (fun hc18 => absurd hc18 (nI_ge (by omega) hn)) (fun hc18 => ?_)
    refine e_go hk_25 3 (c := (25, [.ref r, .int low, .int (nI u - 1), .int acc, .int (nI i)], [.int (nI i), .ref r, .int acc], h)) rfl ?_
    refine e_call hk_25 (as := [.ref r, .int (nI i)]) (rest := [.int acc]) rfl rfl hk_22 rfl (Nat.le_of_ble_eq_true rfl) (s_rc_of h1) (x_at h1 h2 h3 hn (j := i) (by omega)) ?_
    show e_r 25 28 [.ref r, .int low, .int (nI u - 1), .int acc, .int (nI i)] [.int (h.1 a i), .int acc] h _ _
    refine e_go hk_25 4 (c := (5, [.ref r, .int low, .int (nI u - 1), .int (acc + (h.1 a i)), .int ((nI i) + 1)], [], h)) rfl ?_
    rw [nI_1]
    exact x_total_l h1 h2 h3 hn hu k (i + 1) _ (by omega)

theorem x_total {r a n : Nat} {h : sHp} (h1 : s_nth h.2.2 r = some (0, 3)) (h2 : h.2.1 r 0 = some a) (h3 : s_nth h.2.2 a = some (1, n)) (hn : n < 2 ^ 31) {l u : Nat} (hl : l ≤ u) (hu : u ≤ n) : m_r 25 [.ref r, .int (nI l), .int (nI u - 1)] h (some (.int (t_sm (h.1 a) l (u - l) 0))) h := by
  refine m_of (ls := [.ref r, .int (nI l), .int (nI u - 1), s_no, s_no]) hk_25 rfl rfl rfl ?_
  refine e_go hk_25 4 (c := (5, [.ref r, .int (nI l), .int (nI u - 1), .int 0, .int (nI l)], [], h)) rfl ?_
  exact x_total_l h1 h2 h3 hn hu (u - l) l 0 (by omega)

theorem x_great_l {r a n : Nat} {h : sHp} (h1 : s_nth h.2.2 r = some (0, 3)) (h2 : h.2.1 r 0 = some a) (h3 : s_nth h.2.2 a = some (1, n)) (hn : n < 2 ^ 31) {u : Nat} {low : Int32} (hu : u ≤ n) : ∀ (k i : Nat) (acc : Int32), i + k = u → e_r 26 9 [.ref r, .int low, .int (nI u - 1), .int acc, .int (nI i)] [] h (some (.int (t_mx (h.1 a) i k acc))) h
  | 0, i, acc, hi => by
    refine e_go hk_26 3 (c := (if s_cnd .gt (nI i) (nI u - 1) = true then 42 else 15, [.ref r, .int low, .int (nI u - 1), .int acc, .int (nI i)], [], h)) rfl ?_
    refine e_gt (a := 42) (b := 15) (x := nI i) (y := nI u - 1) (fun hc12 => ?_) (fun hc12 => absurd ((y_m1lt (by omega) (by omega)).mpr (by omega)) hc12)
    refine e_go hk_26 1 (c := (43, [.ref r, .int low, .int (nI u - 1), .int acc, .int (nI i)], [.int acc], h)) rfl ?_
    exact e_ret hk_26 rfl rfl rfl rfl rfl
  | k + 1, i, acc, hi => by
    refine e_go hk_26 3 (c := (if s_cnd .gt (nI i) (nI u - 1) = true then 42 else 15, [.ref r, .int low, .int (nI u - 1), .int acc, .int (nI i)], [], h)) rfl ?_
    refine e_gt (a := 42) (b := 15) (x := nI i) (y := nI u - 1) (fun hc12 => absurd hc12 (fun z => absurd ((y_m1lt (by omega) (by omega)).mp z) (by omega))) (fun hc12 => ?_)
    refine e_go hk_26 2 (c := (18, [.ref r, .int low, .int (nI u - 1), .int acc, .int (nI i)], [.ref r, .int (nI i)], h)) rfl ?_
    refine e_getr hk_26 (ev := 3074) (b := a) rfl rfl h1 rfl h2 ?_
    show e_r 26 21 [.ref r, .int low, .int (nI u - 1), .int acc, .int (nI i)] [.ref a, .int (nI i)] h _ _
    refine e_alen hk_26 rfl rfl h3 ?_
    show e_r 26 22 [.ref r, .int low, .int (nI u - 1), .int acc, .int (nI i)] [.int (nI n), .int (nI i)] h _ _
    refine e_go hk_26 1 (c := (if s_cnd .ge (nI i) (nI n) = true then 42 else 25, [.ref r, .int low, .int (nI u - 1), .int acc, .int (nI i)], [], h)) rfl ?_
    refine e_ge (a := 42) (b := 25) (x := nI i) (y := nI n) (fun hc22 => absurd hc22 (nI_ge (by omega) hn)) (fun hc22 => ?_)
    refine e_go hk_26 3 (c := (29, [.ref r, .int low, .int (nI u - 1), .int acc, .int (nI i)], [.int (nI i), .ref r, .int acc], h)) rfl ?_
    refine e_call hk_26 (as := [.ref r, .int (nI i)]) (rest := [.int acc]) rfl rfl hk_22 rfl (Nat.le_of_ble_eq_true rfl) (s_rc_of h1) (x_at h1 h2 h3 hn (j := i) (by omega)) ?_
    show e_r 26 32 [.ref r, .int low, .int (nI u - 1), .int acc, .int (nI i)] [.int (h.1 a i), .int acc] h _ _
    refine e_go hk_26 4 (c := (9, [.ref r, .int low, .int (nI u - 1), .int (if acc < h.1 a i then h.1 a i else acc), .int ((nI i) + 1)], [], h)) rfl ?_
    rw [nI_1]
    exact x_great_l h1 h2 h3 hn hu k (i + 1) _ (by omega)

theorem x_great {r a n : Nat} {h : sHp} (h1 : s_nth h.2.2 r = some (0, 3)) (h2 : h.2.1 r 0 = some a) (h3 : s_nth h.2.2 a = some (1, n)) (hn : n < 2 ^ 31) {l u : Nat} (hl : l < u) (hu : u ≤ n) : m_r 26 [.ref r, .int (nI l), .int (nI u - 1)] h (some (.int (t_mx (h.1 a) l (u - l) (h.1 a l)))) h := by
  refine m_of (ls := [.ref r, .int (nI l), .int (nI u - 1), s_no, s_no]) hk_26 rfl rfl rfl ?_
  refine e_go hk_26 2 (c := (2, [.ref r, .int (nI l), .int (nI u - 1), s_no, s_no], [.int (nI l), .ref r], h)) rfl ?_
  refine e_call hk_26 (as := [.ref r, .int (nI l)]) (rest := []) rfl rfl hk_22 rfl (Nat.le_of_ble_eq_true rfl) (s_rc_of h1) (x_at h1 h2 h3 hn (j := l) (by omega)) ?_
  show e_r 26 5 [.ref r, .int (nI l), .int (nI u - 1), s_no, s_no] [.int (h.1 a l)] h _ _
  refine e_go hk_26 3 (c := (9, [.ref r, .int (nI l), .int (nI u - 1), .int (h.1 a l), .int (nI l)], [], h)) rfl ?_
  exact x_great_l h1 h2 h3 hn hu (u - l) l _ (by omega)
end
section
/-! Tree: what reads it; printed by wip/whole/gen/tree1.py -/
def y_b (c : Bool) : Int32 := if c = true then 1 else 0
theorem y_b0 {c : Bool} : y_b c = 0 ↔ c = false := by cases c <;> decide
theorem y_b1 {c : Bool} : ¬ y_b c = 0 ↔ c = true := by cases c <;> decide
theorem y_bt : y_b true = 1 := rfl
theorem y_bf : y_b false = 0 := rfl
/-- a place, or NONE -/
def y_o : Option Nat → Int32
  | some j => nI j
  | none => -6
theorem y_o_none {q : Option Nat} (h : ∀ j, q = some j → j < 2 ^ 31) : y_o q = -6 ↔ q = none := by
  cases q with
  | none => simp [y_o]
  | some j =>
    have hj := h j rfl
    simp only [y_o, reduceCtorEq, iff_false]
    intro e
    have h2 := congrArg Int32.toInt e
    rw [nI_toInt hj] at h2
    have h3 : (-6 : Int32).toInt = -6 := by decide
    omega
theorem y_m1le {u i : Nat} (hu : u < 2 ^ 31) (hi : i < 2 ^ 31) : nI u - 1 ≤ nI i ↔ u ≤ i + 1 := by
  rw [Int32.le_iff_toInt_le, y_m1 hu, nI_toInt hi]
  omega
theorem y_m1s {u : Nat} (hu : 0 < u) : nI u - 1 = nI (u - 1) := by
  cases u with
  | zero => omega
  | succ k => exact nI_pred k
theorem y_le0 {i : Nat} (hi : i < 2 ^ 31) : nI i ≤ 0 ↔ i = 0 := by
  rw [show (0 : Int32) = nI 0 from rfl, nI_leI hi (by decide)]
  omega
def t_pl (K : Nat → Int32) (key : Int32) : Nat → Nat → Nat
  | i, 0 => i
  | i, k + 1 => if K i < key then t_pl K key (i + 1) k else i
theorem t_pl_le (K : Nat → Int32) (key : Int32) : ∀ k i, i ≤ t_pl K key i k ∧ t_pl K key i k ≤ i + k
  | 0, i => ⟨Nat.le_refl _, Nat.le_refl _⟩
  | k + 1, i => by
    unfold t_pl
    have := t_pl_le K key k (i + 1)
    split <;> omega
def t_nd (K : Nat → Int32) (n : Nat) (key : Int32) : Option Nat := if t_pl K key 0 n < n ∧ K (t_pl K key 0 n) = key then some (t_pl K key 0 n) else none
theorem t_nd_lt {K : Nat → Int32} {n : Nat} {key : Int32} {j : Nat} (h : t_nd K n key = some j) : j < n ∧ K j = key := by
  unfold t_nd at h
  split at h
  next h1 => cases h; exact h1
  · cases h
def t_fn (K F : Nat → Int32) (n : Nat) (key : Int32) : Option Nat := match t_nd K n key with
  | some j => if F j = 1 then some j else none
  | none => none
theorem t_fn_lt {K F : Nat → Int32} {n : Nat} {key : Int32} {j : Nat} (h : t_fn K F n key = some j) : j < n ∧ K j = key ∧ F j = 1 := by
  unfold t_fn at h
  split at h
  next i hi =>
    split at h
    next hf => cases h; exact ⟨(t_nd_lt hi).1, (t_nd_lt hi).2, hf⟩
    · cases h
  · cases h
/-- the place of the k-th full node: from i, m places left, a full ones behind -/
def t_kt (F : Nat → Int32) (k : Int32) : Nat → Nat → Int32 → Option Nat
  | _, 0, _ => none
  | i, m + 1, a => if F i = 1 then (if a = k then some i else t_kt F k (i + 1) m (a + 1)) else t_kt F k (i + 1) m a
def t_lo (D : Nat → Int32) (d : Int32) : Nat → Nat
  | 0 => 0
  | i + 1 => if D i ≤ d then i + 1 else t_lo D d i
theorem t_lo_le (D : Nat → Int32) (d : Int32) : ∀ i, t_lo D d i ≤ i
  | 0 => Nat.le_refl _
  | i + 1 => by
    unfold t_lo
    have := t_lo_le D d i
    split <;> omega
def t_hi (D : Nat → Int32) (d : Int32) : Nat → Nat → Nat
  | i, 0 => i
  | i, k + 1 => if D (i + 1) ≤ d then i else t_hi D d (i + 1) k
theorem t_hi_le (D : Nat → Int32) (d : Int32) : ∀ k i, i ≤ t_hi D d i k ∧ t_hi D d i k ≤ i + k
  | 0, i => ⟨Nat.le_refl _, Nat.le_refl _⟩
  | k + 1, i => by
    unfold t_hi
    have := t_hi_le D d k (i + 1)
    split <;> omega
def t_tp (D : Nat → Int32) (d : Int32) : Nat → Nat → Nat
  | i, 0 => i
  | i, k + 1 => if D i = d then i else t_tp D d (i + 1) k
theorem t_tp_le (D : Nat → Int32) (d : Int32) : ∀ k i, i ≤ t_tp D d i k ∧ t_tp D d i k ≤ i + k
  | 0, i => ⟨Nat.le_refl _, Nat.le_refl _⟩
  | k + 1, i => by
    unfold t_tp
    have := t_tp_le D d k (i + 1)
    split <;> omega
/-- too heavy: with so many to the left and to the right -/
def y_th (lean l r : Int32) : Bool := decide (lean * (l + r + 1) < 100 * (if l < r then r else l))
/-- the first and the last place of what lies from a node downwards -/
abbrev t_L (Z : Nat → Nat → Int32) (j : Nat) : Nat := t_lo (Z 15) (Z 15 j) j
abbrev t_H (Z : Nat → Nat → Int32) (n j : Nat) : Nat := t_hi (Z 15) (Z 15 j) j (n - 1 - j)
def t_ln (Z : Nat → Nat → Int32) (n j : Nat) : Bool := y_th (Z 7 0) (nI j - nI (t_L Z j)) (nI (t_H Z n j) - nI j)
def t_lnc (Z : Nat → Nat → Int32) (n : Nat) : Nat → Nat → Int32 → Int32
  | _, 0, acc => acc
  | i, k + 1, acc => t_lnc Z n (i + 1) k (acc + y_b (t_ln Z n i))
/-- the way of a new node at place p: the first node that would lean -/
def t_wl (D : Nat → Int32) (lean : Int32) (p : Nat) : Nat → Nat → Nat → Nat → Option Nat
  | 0, _, _, _ => none
  | k + 1, d, l, u => if u ≤ l then none else
    let t := t_tp D (nI d) l (u - 1 - l)
    if p ≤ t then (if y_th lean (nI t - nI l + 1) (nI (u - 1) - nI t) = true then some t else t_wl D lean p k (d + 1) l t)
    else (if y_th lean (nI t - nI l) (nI (u - 1) - nI t + 1) = true then some t else t_wl D lean p k (d + 1) (t + 1) u)
theorem t_wl_lt {D : Nat → Int32} {lean : Int32} {p n : Nat} : ∀ {k d l u j : Nat}, u ≤ n → t_wl D lean p k d l u = some j → j < n
  | 0, d, l, u, j, hu, h => by cases h
  | k + 1, d, l, u, j, hu, h => by
    unfold t_wl at h
    split at h
    · cases h
    next hlu =>
    have ht := t_tp_le D (nI d) (u - 1 - l) l
    dsimp only at h
    split at h
    · split at h
      · cases h; omega
      · exact t_wl_lt (by omega) h
    · split at h
      · cases h; omega
      · exact t_wl_lt hu h
def t_cs (Z : Nat → Nat → Int32) (n : Nat) (key : Int32) : Int32 := match t_nd (Z 9) n key with
  | some _ => 0
  | none => match t_wl (Z 15) (Z 7 0) (t_pl (Z 9) key 0 n) 60 0 0 n with
    | none => 0
    | some j => nI (t_H Z n j) - nI (t_L Z j) + 2
def t_rm (Z : Nat → Nat → Int32) (n : Nat) (key : Int32) : Bool := decide (n < 60) || (t_nd (Z 9) n key).isSome
theorem x_place_l {Z : Nat → Nat → Int32} {P : Nat → Nat} {L n : Nat} (hN : Z 5 6 = nI n) (hn : n ≤ 60) {key : Int32} : ∀ (k i : Nat), i + k = n → e_r 30 2 [.ref 5, .int key, .int (nI i)] [] (hp Z P L) (some (.int (nI (t_pl (Z 9) key i k)))) (hp Z P L)
  | 0, i, hi => by
    refine e_go hk_30 4 (c := (if s_cnd .ge (nI i) (Z 5 6) = true then 28 else 10, [.ref 5, .int key, .int (nI i)], [], hp Z P L)) rfl ?_
    refine e_ge (a := 28) (b := 10) (x := nI i) (y := Z 5 6) (fun hc7 => ?_) (fun hc7 => absurd (by rw [hN]; exact (y_le (by omega) (by omega)).mpr (by omega)) hc7)
    refine e_go hk_30 1 (c := (29, [.ref 5, .int key, .int (nI i)], [.int (nI i)], hp Z P L)) rfl ?_
    exact e_ret hk_30 rfl rfl rfl rfl rfl
  | k + 1, i, hi => by
    refine e_go hk_30 4 (c := (if s_cnd .ge (nI i) (Z 5 6) = true then 28 else 10, [.ref 5, .int key, .int (nI i)], [], hp Z P L)) rfl ?_
    refine e_ge (a := 28) (b := 10) (x := nI i) (y := Z 5 6) (fun hc7 => absurd hc7 (by rw [hN]; exact nI_ge (by omega) (by omega))) (fun hc7 => ?_)
    refine e_go hk_30 3 (c := (15, [.ref 5, .int key, .int (nI i)], [.int (nI i), .ref 8], hp Z P L)) rfl ?_
    refine e_call hk_30 (as := [.ref 8, .int (nI i)]) (rest := []) rfl rfl hk_22 rfl (Nat.le_of_ble_eq_true rfl) rfl (x_at (r := 8) (a := 9) (n := 60) rfl rfl rfl (by decide) (j := i) (by omega)) ?_
    show e_r 30 18 [.ref 5, .int key, .int (nI i)] [.int (Z 9 i)] (hp Z P L) _ _
    refine e_go hk_30 2 (c := (if s_cnd .ge (Z 9 i) key = true then 28 else 22, [.ref 5, .int key, .int (nI i)], [], hp Z P L)) rfl ?_
    refine e_ge (a := 28) (b := 22) (x := Z 9 i) (y := key) (fun hc19 => ?_) (fun hc19 => ?_)
    · skip
      refine e_go hk_30 1 (c := (29, [.ref 5, .int key, .int (nI i)], [.int (nI i)], hp Z P L)) rfl ?_
      exact e_ret hk_30 rfl rfl rfl (by rw [t_pl, if_neg (Int32.not_lt.mpr hc19)]) rfl
    · skip
      refine e_go hk_30 2 (c := (2, [.ref 5, .int key, .int ((nI i) + 1)], [], hp Z P L)) rfl ?_
      rw [nI_1, t_pl, if_pos (Int32.not_le.mp hc19)]
      exact x_place_l hN hn k (i + 1) (by omega)
theorem x_place {Z : Nat → Nat → Int32} {P : Nat → Nat} {L n : Nat} (hN : Z 5 6 = nI n) (hn : n ≤ 60) {key : Int32} : m_r 30 [.ref 5, .int key] (hp Z P L) (some (.int (nI (t_pl (Z 9) key 0 n)))) (hp Z P L) := by
  refine m_of (ls := [.ref 5, .int key, s_no]) hk_30 rfl rfl rfl ?_
  refine e_go hk_30 2 (c := (2, [.ref 5, .int key, .int 0], [], hp Z P L)) rfl ?_
  exact x_place_l hN hn n 0 (by omega)
theorem x_node {Z : Nat → Nat → Int32} {P : Nat → Nat} {L n : Nat} (hN : Z 5 6 = nI n) (hn : n ≤ 60) {key : Int32} : m_r 31 [.ref 5, .int key] (hp Z P L) (some (.int (y_o (t_nd (Z 9) n key)))) (hp Z P L) := by
  have hpl := (t_pl_le (Z 9) key n 0).2
  refine m_of (ls := [.ref 5, .int key, s_no]) hk_31 rfl rfl rfl ?_
  refine e_go hk_31 2 (c := (2, [.ref 5, .int key, s_no], [.int key, .ref 5], hp Z P L)) rfl ?_
  refine e_call hk_31 (as := [.ref 5, .int key]) (rest := []) rfl rfl hk_30 rfl (Nat.le_of_ble_eq_true rfl) rfl (x_place hN hn) ?_
  show e_r 31 5 [.ref 5, .int key, s_no] [.int (nI (t_pl (Z 9) key 0 n))] (hp Z P L) _ _
  refine e_go hk_31 5 (c := (if s_cnd .ge (nI (t_pl (Z 9) key 0 n)) (Z 5 6) = true then 30 else 14, [.ref 5, .int key, .int (nI (t_pl (Z 9) key 0 n))], [], hp Z P L)) rfl ?_
  refine e_ge (a := 30) (b := 14) (x := nI (t_pl (Z 9) key 0 n)) (y := Z 5 6) (fun hc11 => ?_) (fun hc11 => ?_)
  · skip
    rw [hN] at hc11
    have hge := (y_le (by omega) (by omega)).mp hc11
    refine e_go hk_31 1 (c := (32, [.ref 5, .int key, .int (nI (t_pl (Z 9) key 0 n))], [.int ((-6))], hp Z P L)) rfl ?_
    exact e_ret hk_31 rfl rfl rfl (by rw [t_nd, if_neg (fun z => absurd z.1 (by omega))]; rfl) rfl
  · skip
    rw [hN] at hc11
    have hlt : t_pl (Z 9) key 0 n < n := by rcases Nat.lt_or_ge (t_pl (Z 9) key 0 n) n with z | z; exact z; exact absurd ((y_le (by omega) (by omega)).mpr z) hc11
    refine e_go hk_31 3 (c := (19, [.ref 5, .int key, .int (nI (t_pl (Z 9) key 0 n))], [.int (nI (t_pl (Z 9) key 0 n)), .ref 8], hp Z P L)) rfl ?_
    refine e_call hk_31 (as := [.ref 8, .int (nI (t_pl (Z 9) key 0 n))]) (rest := []) rfl rfl hk_22 rfl (Nat.le_of_ble_eq_true rfl) rfl (x_at (r := 8) (a := 9) (n := 60) rfl rfl rfl (by decide) (j := t_pl (Z 9) key 0 n) (by omega)) ?_
    show e_r 31 22 [.ref 5, .int key, .int (nI (t_pl (Z 9) key 0 n))] [.int (Z 9 (t_pl (Z 9) key 0 n))] (hp Z P L) _ _
    refine e_go hk_31 2 (c := (if s_cnd .ne (Z 9 (t_pl (Z 9) key 0 n)) key = true then 30 else 26, [.ref 5, .int key, .int (nI (t_pl (Z 9) key 0 n))], [], hp Z P L)) rfl ?_
    refine e_ne (a := 30) (b := 26) (x := Z 9 (t_pl (Z 9) key 0 n)) (y := key) (fun hc23 => ?_) (fun hc23 => ?_)
    · skip
      refine e_go hk_31 1 (c := (32, [.ref 5, .int key, .int (nI (t_pl (Z 9) key 0 n))], [.int ((-6))], hp Z P L)) rfl ?_
      exact e_ret hk_31 rfl rfl rfl (by rw [t_nd, if_neg (fun z => hc23 z.2)]; rfl) rfl
    · skip
      refine e_go hk_31 2 (c := (32, [.ref 5, .int key, .int (nI (t_pl (Z 9) key 0 n))], [.int (nI (t_pl (Z 9) key 0 n))], hp Z P L)) rfl ?_
      exact e_ret hk_31 rfl rfl rfl (by rw [t_nd, if_pos ⟨hlt, hc23⟩]; rfl) rfl
theorem x_isfull {Z : Nat → Nat → Int32} {P : Nat → Nat} {L j : Nat} (hj : j < 60) : m_r 33 [.ref 5, .int (nI j)] (hp Z P L) (some (.int (y_b (decide (Z 17 j = 1))))) (hp Z P L) := by
  refine m_of (ls := [.ref 5, .int (nI j)]) hk_33 rfl rfl rfl ?_
  refine e_go hk_33 3 (c := (5, [.ref 5, .int (nI j)], [.int (nI j), .ref 16], hp Z P L)) rfl ?_
  refine e_call hk_33 (as := [.ref 16, .int (nI j)]) (rest := []) rfl rfl hk_22 rfl (Nat.le_of_ble_eq_true rfl) rfl (x_at (r := 16) (a := 17) (n := 60) rfl rfl rfl (by decide) (j := j) (by omega)) ?_
  show e_r 33 8 [.ref 5, .int (nI j)] [.int (Z 17 j)] (hp Z P L) _ _
  refine e_go hk_33 2 (c := (if s_cnd .ne (Z 17 j) 1 = true then 16 else 12, [.ref 5, .int (nI j)], [], hp Z P L)) rfl ?_
  refine e_ne (a := 16) (b := 12) (x := Z 17 j) (y := 1) (fun hc9 => ?_) (fun hc9 => ?_)
  · skip
    refine e_go hk_33 1 (c := (17, [.ref 5, .int (nI j)], [.int 0], hp Z P L)) rfl ?_
    exact e_ret hk_33 rfl rfl rfl (by rw [decide_eq_false hc9]; rfl) rfl
  · skip
    refine e_go hk_33 2 (c := (17, [.ref 5, .int (nI j)], [.int 1], hp Z P L)) rfl ?_
    exact e_ret hk_33 rfl rfl rfl (by rw [decide_eq_true hc9]; rfl) rfl
theorem x_fnode_none {Z : Nat → Nat → Int32} {P : Nat → Nat} {L n : Nat} (hN : Z 5 6 = nI n) (hn : n ≤ 60) {key : Int32} (hq : t_nd (Z 9) n key = none) : m_r 32 [.ref 5, .int key] (hp Z P L) (some (.int (y_o (t_fn (Z 9) (Z 17) n key)))) (hp Z P L) := by
  refine m_of (ls := [.ref 5, .int key, s_no]) hk_32 rfl rfl rfl ?_
  refine e_go hk_32 2 (c := (2, [.ref 5, .int key, s_no], [.int key, .ref 5], hp Z P L)) rfl ?_
  refine e_call hk_32 (as := [.ref 5, .int key]) (rest := []) rfl rfl hk_31 rfl (Nat.le_of_ble_eq_true rfl) rfl (show m_r 31 [.ref 5, .int key] (hp Z P L) (some (.int (-6))) (hp Z P L) from (by have := x_node (P := P) (L := L) (key := key) hN hn; rw [hq] at this; exact this)) ?_
  show e_r 32 5 [.ref 5, .int key, s_no] [.int ((-6))] (hp Z P L) _ _
  refine e_go hk_32 4 (c := (if s_cnd .eq ((-6)) ((-6)) = true then 24 else 12, [.ref 5, .int key, .int ((-6))], [], hp Z P L)) rfl ?_
  refine e_eq (a := 24) (b := 12) (x := (-6)) (y := (-6)) (fun hc9 => ?_) (fun hc9 => absurd (rfl) hc9)
  refine e_go hk_32 1 (c := (26, [.ref 5, .int key, .int ((-6))], [.int ((-6))], hp Z P L)) rfl ?_
  exact e_ret hk_32 rfl rfl rfl (by rw [t_fn, hq]; rfl) rfl
theorem x_fnode_some {Z : Nat → Nat → Int32} {P : Nat → Nat} {L n : Nat} (hN : Z 5 6 = nI n) (hn : n ≤ 60) {key : Int32} {j : Nat} (hq : t_nd (Z 9) n key = some j) : m_r 32 [.ref 5, .int key] (hp Z P L) (some (.int (y_o (t_fn (Z 9) (Z 17) n key)))) (hp Z P L) := by
  have hjn := (t_nd_lt hq).1
  refine m_of (ls := [.ref 5, .int key, s_no]) hk_32 rfl rfl rfl ?_
  refine e_go hk_32 2 (c := (2, [.ref 5, .int key, s_no], [.int key, .ref 5], hp Z P L)) rfl ?_
  refine e_call hk_32 (as := [.ref 5, .int key]) (rest := []) rfl rfl hk_31 rfl (Nat.le_of_ble_eq_true rfl) rfl (show m_r 31 [.ref 5, .int key] (hp Z P L) (some (.int (nI j))) (hp Z P L) from (by have := x_node (P := P) (L := L) (key := key) hN hn; rw [hq] at this; exact this)) ?_
  show e_r 32 5 [.ref 5, .int key, s_no] [.int (nI j)] (hp Z P L) _ _
  refine e_go hk_32 4 (c := (if s_cnd .eq (nI j) ((-6)) = true then 24 else 12, [.ref 5, .int key, .int (nI j)], [], hp Z P L)) rfl ?_
  refine e_eq (a := 24) (b := 12) (x := nI j) (y := (-6)) (fun hc9 => absurd hc9 (fun z => absurd ((y_o_none (q := some j) (fun i hi => by cases hi; omega)).mp z) (by simp))) (fun hc9 => ?_)
  refine e_go hk_32 2 (c := (14, [.ref 5, .int key, .int (nI j)], [.int (nI j), .ref 5], hp Z P L)) rfl ?_
  refine e_call hk_32 (as := [.ref 5, .int (nI j)]) (rest := []) rfl rfl hk_33 rfl (Nat.le_of_ble_eq_true rfl) rfl (x_isfull (j := j) (by omega)) ?_
  show e_r 32 17 [.ref 5, .int key, .int (nI j)] [.int (y_b (decide (Z 17 j = 1)))] (hp Z P L) _ _
  refine e_go hk_32 1 (c := (if s_cnd .eq (y_b (decide (Z 17 j = 1))) 0 = true then 24 else 20, [.ref 5, .int key, .int (nI j)], [], hp Z P L)) rfl ?_
  refine e_eq (a := 24) (b := 20) (x := y_b (decide (Z 17 j = 1))) (y := 0) (fun hc17 => ?_) (fun hc17 => ?_)
  · skip
    refine e_go hk_32 1 (c := (26, [.ref 5, .int key, .int (nI j)], [.int ((-6))], hp Z P L)) rfl ?_
    exact e_ret hk_32 rfl rfl rfl (by rw [y_b0, decide_eq_false_iff_not] at hc17; rw [t_fn, hq]; dsimp only; rw [if_neg hc17]; rfl) rfl
  · skip
    refine e_go hk_32 2 (c := (26, [.ref 5, .int key, .int (nI j)], [.int (nI j)], hp Z P L)) rfl ?_
    exact e_ret hk_32 rfl rfl rfl (by rw [y_b1, decide_eq_true_eq] at hc17; rw [t_fn, hq]; dsimp only; rw [if_pos hc17]; rfl) rfl
theorem x_fnode {Z : Nat → Nat → Int32} {P : Nat → Nat} {L n : Nat} (hN : Z 5 6 = nI n) (hn : n ≤ 60) {key : Int32} : m_r 32 [.ref 5, .int key] (hp Z P L) (some (.int (y_o (t_fn (Z 9) (Z 17) n key)))) (hp Z P L) := by
  cases hq : t_nd (Z 9) n key with
  | none => exact x_fnode_none hN hn hq
  | some j => exact x_fnode_some hN hn hq
theorem x_all {Z : Nat → Nat → Int32} {P : Nat → Nat} {L n : Nat} (hN : Z 5 6 = nI n) (hn : n ≤ 60) : m_r 34 [.ref 5] (hp Z P L) (some (.int (t_sm (Z 17) 0 n 0))) (hp Z P L) := by
  refine m_of (ls := [.ref 5]) hk_34 rfl rfl rfl ?_
  refine e_go hk_34 7 (c := (11, [.ref 5], [.int ((Z 5 6) - 1), .int 0, .ref 16], hp Z P L)) rfl ?_
  rw [hN]
  refine e_call hk_34 (as := [.ref 16, .int (nI 0), .int (nI n - 1)]) (rest := []) rfl rfl hk_25 rfl (Nat.le_of_ble_eq_true rfl) rfl (x_total (r := 16) (a := 17) (n := 60) rfl rfl rfl (by decide) (l := 0) (u := n) (by omega) (by omega)) ?_
  show e_r 34 14 [.ref 5] [.int (t_sm (Z 17) 0 (n - 0) 0)] (hp Z P L) _ _
  exact e_ret hk_34 rfl rfl rfl rfl rfl
theorem x_ahead {Z : Nat → Nat → Int32} {P : Nat → Nat} {L n : Nat} (hN : Z 5 6 = nI n) (hn : n ≤ 60) {key : Int32} : m_r 35 [.ref 5, .int key] (hp Z P L) (some (.int (t_sm (Z 17) 0 (t_pl (Z 9) key 0 n) 0))) (hp Z P L) := by
  have hpl := (t_pl_le (Z 9) key n 0).2
  refine m_of (ls := [.ref 5, .int key]) hk_35 rfl rfl rfl ?_
  refine e_go hk_35 5 (c := (7, [.ref 5, .int key], [.int key, .ref 5, .int 0, .ref 16], hp Z P L)) rfl ?_
  refine e_call hk_35 (as := [.ref 5, .int key]) (rest := [.int 0, .ref 16]) rfl rfl hk_30 rfl (Nat.le_of_ble_eq_true rfl) rfl (x_place hN hn) ?_
  show e_r 35 10 [.ref 5, .int key] [.int (nI (t_pl (Z 9) key 0 n)), .int 0, .ref 16] (hp Z P L) _ _
  refine e_go hk_35 2 (c := (12, [.ref 5, .int key], [.int ((nI (t_pl (Z 9) key 0 n)) - 1), .int 0, .ref 16], hp Z P L)) rfl ?_
  refine e_call hk_35 (as := [.ref 16, .int (nI 0), .int (nI ((t_pl (Z 9) key 0 n)) - 1)]) (rest := []) rfl rfl hk_25 rfl (Nat.le_of_ble_eq_true rfl) rfl (x_total (r := 16) (a := 17) (n := 60) rfl rfl rfl (by decide) (l := 0) (u := (t_pl (Z 9) key 0 n)) (by omega) (by omega)) ?_
  show e_r 35 15 [.ref 5, .int key] [.int (t_sm (Z 17) 0 ((t_pl (Z 9) key 0 n) - 0) 0)] (hp Z P L) _ _
  exact e_ret hk_35 rfl rfl rfl rfl rfl
theorem x_kth_l {Z : Nat → Nat → Int32} {P : Nat → Nat} {L n : Nat} (hN : Z 5 6 = nI n) (hn : n ≤ 60) {q : Int32} : ∀ (k i : Nat) (a : Int32), i + k = n → e_r 36 4 [.ref 5, .int q, .int a, .int (nI i)] [] (hp Z P L) (some (.int (y_o (t_kt (Z 17) q i k a)))) (hp Z P L)
  | 0, i, a, hi => by
    refine e_go hk_36 4 (c := (if s_cnd .ge (nI i) (Z 5 6) = true then 36 else 12, [.ref 5, .int q, .int a, .int (nI i)], [], hp Z P L)) rfl ?_
    refine e_ge (a := 36) (b := 12) (x := nI i) (y := Z 5 6) (fun hc9 => ?_) (fun hc9 => absurd (by rw [hN]; exact (y_le (by omega) (by omega)).mpr (by omega)) hc9)
    refine e_go hk_36 1 (c := (38, [.ref 5, .int q, .int a, .int (nI i)], [.int ((-6))], hp Z P L)) rfl ?_
    exact e_ret hk_36 rfl rfl rfl rfl rfl
  | k + 1, i, a, hi => by
    refine e_go hk_36 4 (c := (if s_cnd .ge (nI i) (Z 5 6) = true then 36 else 12, [.ref 5, .int q, .int a, .int (nI i)], [], hp Z P L)) rfl ?_
    refine e_ge (a := 36) (b := 12) (x := nI i) (y := Z 5 6) (fun hc9 => absurd hc9 (by rw [hN]; exact nI_ge (by omega) (by omega))) (fun hc9 => ?_)
    refine e_go hk_36 2 (c := (14, [.ref 5, .int q, .int a, .int (nI i)], [.int (nI i), .ref 5], hp Z P L)) rfl ?_
    refine e_call hk_36 (as := [.ref 5, .int (nI i)]) (rest := []) rfl rfl hk_33 rfl (Nat.le_of_ble_eq_true rfl) rfl (x_isfull (j := i) (by omega)) ?_
    show e_r 36 17 [.ref 5, .int q, .int a, .int (nI i)] [.int (y_b (decide (Z 17 i = 1)))] (hp Z P L) _ _
    refine e_go hk_36 1 (c := (if s_cnd .eq (y_b (decide (Z 17 i = 1))) 0 = true then 30 else 20, [.ref 5, .int q, .int a, .int (nI i)], [], hp Z P L)) rfl ?_
    refine e_eq (a := 30) (b := 20) (x := y_b (decide (Z 17 i = 1))) (y := 0) (fun hc17 => ?_) (fun hc17 => ?_)
    · skip
      rw [y_b0, decide_eq_false_iff_not] at hc17
      rw [t_kt, if_neg hc17]
      refine e_go hk_36 2 (c := (4, [.ref 5, .int q, .int a, .int ((nI i) + 1)], [], hp Z P L)) rfl ?_
      rw [nI_1]
      exact x_kth_l hN hn k (i + 1) _ (by omega)
    · skip
      rw [y_b1, decide_eq_true_eq] at hc17
      rw [t_kt, if_pos hc17]
      refine e_go hk_36 3 (c := (if s_cnd .ne a q = true then 27 else 25, [.ref 5, .int q, .int a, .int (nI i)], [], hp Z P L)) rfl ?_
      refine e_ne (a := 27) (b := 25) (x := a) (y := q) (fun hc22 => ?_) (fun hc22 => ?_)
      · skip
        rw [if_neg hc22]
        refine e_go hk_36 3 (c := (4, [.ref 5, .int q, .int (a + 1), .int ((nI i) + 1)], [], hp Z P L)) rfl ?_
        rw [nI_1]
        exact x_kth_l hN hn k (i + 1) _ (by omega)
      · skip
        rw [if_pos hc22]
        refine e_go hk_36 1 (c := (26, [.ref 5, .int q, .int a, .int (nI i)], [.int (nI i)], hp Z P L)) rfl ?_
        exact e_ret hk_36 rfl rfl rfl rfl rfl
theorem x_kth {Z : Nat → Nat → Int32} {P : Nat → Nat} {L n : Nat} (hN : Z 5 6 = nI n) (hn : n ≤ 60) {q : Int32} : m_r 36 [.ref 5, .int q] (hp Z P L) (some (.int (y_o (t_kt (Z 17) q 0 n 0)))) (hp Z P L) := by
  refine m_of (ls := [.ref 5, .int q, s_no, s_no]) hk_36 rfl rfl rfl ?_
  refine e_go hk_36 4 (c := (4, [.ref 5, .int q, .int 0, .int 0], [], hp Z P L)) rfl ?_
  exact x_kth_l hN hn n 0 0 (by omega)
theorem x_low_l {Z : Nat → Nat → Int32} {P : Nat → Nat} {L : Nat} {j : Nat} (hj : j < 60) : ∀ (i : Nat), i ≤ j → e_r 37 2 [.ref 5, .int (nI j), .int (nI i)] [] (hp Z P L) (some (.int (nI (t_lo (Z 15) (Z 15 j) i)))) (hp Z P L)
  | 0, hi => by
    refine e_go hk_37 2 (c := (if s_cnd .le (nI 0) 0 = true then 33 else 6, [.ref 5, .int (nI j), .int (nI 0)], [], hp Z P L)) rfl ?_
    refine e_le (a := 33) (b := 6) (x := nI 0) (y := 0) (fun hc3 => ?_) (fun hc3 => absurd (by decide) hc3)
    refine e_go hk_37 1 (c := (34, [.ref 5, .int (nI j), .int (nI 0)], [.int (nI 0)], hp Z P L)) rfl ?_
    exact e_ret hk_37 rfl rfl rfl rfl rfl
  | i + 1, hi => by
    refine e_go hk_37 2 (c := (if s_cnd .le (nI (i + 1)) 0 = true then 33 else 6, [.ref 5, .int (nI j), .int (nI (i + 1))], [], hp Z P L)) rfl ?_
    refine e_le (a := 33) (b := 6) (x := nI (i + 1)) (y := 0) (fun hc3 => absurd hc3 (nI_nle (by omega) (by omega))) (fun hc3 => ?_)
    refine e_go hk_37 5 (c := (13, [.ref 5, .int (nI j), .int (nI (i + 1))], [.int ((nI (i + 1)) - 1), .ref 14], hp Z P L)) rfl ?_
    rw [nI_pred]
    refine e_call hk_37 (as := [.ref 14, .int (nI i)]) (rest := []) rfl rfl hk_22 rfl (Nat.le_of_ble_eq_true rfl) rfl (x_at (r := 14) (a := 15) (n := 60) rfl rfl rfl (by decide) (j := i) (by omega)) ?_
    show e_r 37 16 [.ref 5, .int (nI j), .int (nI (i + 1))] [.int (Z 15 i)] (hp Z P L) _ _
    refine e_go hk_37 3 (c := (21, [.ref 5, .int (nI j), .int (nI (i + 1))], [.int (nI j), .ref 14, .int (Z 15 i)], hp Z P L)) rfl ?_
    refine e_call hk_37 (as := [.ref 14, .int (nI j)]) (rest := [.int (Z 15 i)]) rfl rfl hk_22 rfl (Nat.le_of_ble_eq_true rfl) rfl (x_at (r := 14) (a := 15) (n := 60) rfl rfl rfl (by decide) (j := j) (by omega)) ?_
    show e_r 37 24 [.ref 5, .int (nI j), .int (nI (i + 1))] [.int (Z 15 j), .int (Z 15 i)] (hp Z P L) _ _
    refine e_go hk_37 1 (c := (if s_cnd .le (Z 15 i) (Z 15 j) = true then 33 else 27, [.ref 5, .int (nI j), .int (nI (i + 1))], [], hp Z P L)) rfl ?_
    refine e_le (a := 33) (b := 27) (x := Z 15 i) (y := Z 15 j) (fun hc24 => ?_) (fun hc24 => ?_)
    · skip
      rw [t_lo, if_pos hc24]
      refine e_go hk_37 1 (c := (34, [.ref 5, .int (nI j), .int (nI (i + 1))], [.int (nI (i + 1))], hp Z P L)) rfl ?_
      exact e_ret hk_37 rfl rfl rfl rfl rfl
    · skip
      rw [t_lo, if_neg hc24]
      refine e_go hk_37 2 (c := (2, [.ref 5, .int (nI j), .int ((nI (i + 1)) + (-1))], [], hp Z P L)) rfl ?_
      rw [pk_m1]
      exact x_low_l hj i (by omega)
theorem x_low {Z : Nat → Nat → Int32} {P : Nat → Nat} {L : Nat} {j : Nat} (hj : j < 60) : m_r 37 [.ref 5, .int (nI j)] (hp Z P L) (some (.int (nI (t_L Z j)))) (hp Z P L) := by
  refine m_of (ls := [.ref 5, .int (nI j), s_no]) hk_37 rfl rfl rfl ?_
  refine e_go hk_37 2 (c := (2, [.ref 5, .int (nI j), .int (nI j)], [], hp Z P L)) rfl ?_
  exact x_low_l hj j (Nat.le_refl _)
theorem x_high_l {Z : Nat → Nat → Int32} {P : Nat → Nat} {L n : Nat} (hN : Z 5 6 = nI n) (hn : n ≤ 60) {j : Nat} (hj : j < n) : ∀ (k i : Nat), i + k + 1 = n → e_r 38 2 [.ref 5, .int (nI j), .int (nI i)] [] (hp Z P L) (some (.int (nI (t_hi (Z 15) (Z 15 j) i k)))) (hp Z P L)
  | 0, i, hi => by
    refine e_go hk_38 6 (c := (if s_cnd .ge (nI i) ((Z 5 6) - 1) = true then 39 else 12, [.ref 5, .int (nI j), .int (nI i)], [], hp Z P L)) rfl ?_
    refine e_ge (a := 39) (b := 12) (x := nI i) (y := (Z 5 6) - 1) (fun hc9 => ?_) (fun hc9 => absurd (by rw [hN]; exact (y_m1le (by omega) (by omega)).mpr (by omega)) hc9)
    refine e_go hk_38 1 (c := (40, [.ref 5, .int (nI j), .int (nI i)], [.int (nI i)], hp Z P L)) rfl ?_
    exact e_ret hk_38 rfl rfl rfl rfl rfl
  | k + 1, i, hi => by
    refine e_go hk_38 6 (c := (if s_cnd .ge (nI i) ((Z 5 6) - 1) = true then 39 else 12, [.ref 5, .int (nI j), .int (nI i)], [], hp Z P L)) rfl ?_
    refine e_ge (a := 39) (b := 12) (x := nI i) (y := (Z 5 6) - 1) (fun hc9 => absurd hc9 (by rw [hN]; exact fun z => absurd ((y_m1le (by omega) (by omega)).mp z) (by omega))) (fun hc9 => ?_)
    refine e_go hk_38 5 (c := (19, [.ref 5, .int (nI j), .int (nI i)], [.int ((nI i) + 1), .ref 14], hp Z P L)) rfl ?_
    rw [nI_1]
    refine e_call hk_38 (as := [.ref 14, .int (nI (i + 1))]) (rest := []) rfl rfl hk_22 rfl (Nat.le_of_ble_eq_true rfl) rfl (x_at (r := 14) (a := 15) (n := 60) rfl rfl rfl (by decide) (j := i + 1) (by omega)) ?_
    show e_r 38 22 [.ref 5, .int (nI j), .int (nI i)] [.int (Z 15 (i + 1))] (hp Z P L) _ _
    refine e_go hk_38 3 (c := (27, [.ref 5, .int (nI j), .int (nI i)], [.int (nI j), .ref 14, .int (Z 15 (i + 1))], hp Z P L)) rfl ?_
    refine e_call hk_38 (as := [.ref 14, .int (nI j)]) (rest := [.int (Z 15 (i + 1))]) rfl rfl hk_22 rfl (Nat.le_of_ble_eq_true rfl) rfl (x_at (r := 14) (a := 15) (n := 60) rfl rfl rfl (by decide) (j := j) (by omega)) ?_
    show e_r 38 30 [.ref 5, .int (nI j), .int (nI i)] [.int (Z 15 j), .int (Z 15 (i + 1))] (hp Z P L) _ _
    refine e_go hk_38 1 (c := (if s_cnd .le (Z 15 (i + 1)) (Z 15 j) = true then 39 else 33, [.ref 5, .int (nI j), .int (nI i)], [], hp Z P L)) rfl ?_
    refine e_le (a := 39) (b := 33) (x := Z 15 (i + 1)) (y := Z 15 j) (fun hc30 => ?_) (fun hc30 => ?_)
    · skip
      rw [t_hi, if_pos hc30]
      refine e_go hk_38 1 (c := (40, [.ref 5, .int (nI j), .int (nI i)], [.int (nI i)], hp Z P L)) rfl ?_
      exact e_ret hk_38 rfl rfl rfl rfl rfl
    · skip
      rw [t_hi, if_neg hc30]
      refine e_go hk_38 2 (c := (2, [.ref 5, .int (nI j), .int ((nI i) + 1)], [], hp Z P L)) rfl ?_
      rw [nI_1]
      exact x_high_l hN hn hj k (i + 1) (by omega)
theorem x_high {Z : Nat → Nat → Int32} {P : Nat → Nat} {L n : Nat} (hN : Z 5 6 = nI n) (hn : n ≤ 60) {j : Nat} (hj : j < n) : m_r 38 [.ref 5, .int (nI j)] (hp Z P L) (some (.int (nI (t_H Z n j)))) (hp Z P L) := by
  refine m_of (ls := [.ref 5, .int (nI j), s_no]) hk_38 rfl rfl rfl ?_
  refine e_go hk_38 2 (c := (2, [.ref 5, .int (nI j), .int (nI j)], [], hp Z P L)) rfl ?_
  exact x_high_l hN hn hj (n - 1 - j) j (by omega)
theorem x_top_l {Z : Nat → Nat → Int32} {P : Nat → Nat} {L : Nat} {u : Nat} {low d : Int32} (hu : u < 60) : ∀ (k i : Nat), i + k = u → e_r 39 3 [.ref 5, .int low, .int (nI u), .int d, .int (nI i)] [] (hp Z P L) (some (.int (nI (t_tp (Z 15) d i k)))) (hp Z P L)
  | 0, i, hi => by
    refine e_go hk_39 3 (c := (if s_cnd .ge (nI i) (nI u) = true then 28 else 9, [.ref 5, .int low, .int (nI u), .int d, .int (nI i)], [], hp Z P L)) rfl ?_
    refine e_ge (a := 28) (b := 9) (x := nI i) (y := nI u) (fun hc6 => ?_) (fun hc6 => absurd ((y_le (by omega) (by omega)).mpr (by omega)) hc6)
    refine e_go hk_39 1 (c := (30, [.ref 5, .int low, .int (nI u), .int d, .int (nI i)], [.int (nI i)], hp Z P L)) rfl ?_
    exact e_ret hk_39 rfl rfl rfl rfl rfl
  | k + 1, i, hi => by
    refine e_go hk_39 3 (c := (if s_cnd .ge (nI i) (nI u) = true then 28 else 9, [.ref 5, .int low, .int (nI u), .int d, .int (nI i)], [], hp Z P L)) rfl ?_
    refine e_ge (a := 28) (b := 9) (x := nI i) (y := nI u) (fun hc6 => absurd hc6 (nI_ge (by omega) (by omega))) (fun hc6 => ?_)
    refine e_go hk_39 3 (c := (15, [.ref 5, .int low, .int (nI u), .int d, .int (nI i)], [.int (nI i), .ref 14], hp Z P L)) rfl ?_
    refine e_call hk_39 (as := [.ref 14, .int (nI i)]) (rest := []) rfl rfl hk_22 rfl (Nat.le_of_ble_eq_true rfl) rfl (x_at (r := 14) (a := 15) (n := 60) rfl rfl rfl (by decide) (j := i) (by omega)) ?_
    show e_r 39 18 [.ref 5, .int low, .int (nI u), .int d, .int (nI i)] [.int (Z 15 i)] (hp Z P L) _ _
    refine e_go hk_39 2 (c := (if s_cnd .eq (Z 15 i) d = true then 28 else 22, [.ref 5, .int low, .int (nI u), .int d, .int (nI i)], [], hp Z P L)) rfl ?_
    refine e_eq (a := 28) (b := 22) (x := Z 15 i) (y := d) (fun hc19 => ?_) (fun hc19 => ?_)
    · skip
      rw [t_tp, if_pos hc19]
      refine e_go hk_39 1 (c := (30, [.ref 5, .int low, .int (nI u), .int d, .int (nI i)], [.int (nI i)], hp Z P L)) rfl ?_
      exact e_ret hk_39 rfl rfl rfl rfl rfl
    · skip
      rw [t_tp, if_neg hc19]
      refine e_go hk_39 2 (c := (3, [.ref 5, .int low, .int (nI u), .int d, .int ((nI i) + 1)], [], hp Z P L)) rfl ?_
      rw [nI_1]
      exact x_top_l hu k (i + 1) (by omega)
theorem x_top {Z : Nat → Nat → Int32} {P : Nat → Nat} {L : Nat} {l u : Nat} {d : Int32} (hl : l ≤ u) (hu : u < 60) : m_r 39 [.ref 5, .int (nI l), .int (nI u), .int d] (hp Z P L) (some (.int (nI (t_tp (Z 15) d l (u - l))))) (hp Z P L) := by
  refine m_of (ls := [.ref 5, .int (nI l), .int (nI u), .int d, s_no]) hk_39 rfl rfl rfl ?_
  refine e_go hk_39 2 (c := (3, [.ref 5, .int (nI l), .int (nI u), .int d, .int (nI l)], [], hp Z P L)) rfl ?_
  exact x_top_l hu (u - l) l (by omega)
theorem x_heavy {Z : Nat → Nat → Int32} {P : Nat → Nat} {L : Nat} {l r : Int32} : m_r 40 [.ref 5, .int l, .int r] (hp Z P L) (some (.int (y_b (y_th (Z 7 0) l r)))) (hp Z P L) := by
  refine m_of (ls := [.ref 5, .int l, .int r]) hk_40 rfl rfl rfl ?_
  refine e_go hk_40 8 (c := (13, [.ref 5, .int l, .int r], [.int 0, .ref 6, .int (100 * (if l < r then r else l))], hp Z P L)) rfl ?_
  refine e_call hk_40 (as := [.ref 6, .int (nI 0)]) (rest := [.int (100 * (if l < r then r else l))]) rfl rfl hk_22 rfl (Nat.le_of_ble_eq_true rfl) rfl (x_at (r := 6) (a := 7) (n := 3) rfl rfl rfl (by decide) (j := 0) (by decide)) ?_
  show e_r 40 16 [.ref 5, .int l, .int r] [.int (Z 7 0), .int (100 * (if l < r then r else l))] (hp Z P L) _ _
  refine e_go hk_40 7 (c := (if s_cnd .le (100 * (if l < r then r else l)) ((Z 7 0) * ((l + r) + 1)) = true then 29 else 25, [.ref 5, .int l, .int r], [], hp Z P L)) rfl ?_
  refine e_le (a := 29) (b := 25) (x := 100 * (if l < r then r else l)) (y := (Z 7 0) * ((l + r) + 1)) (fun hc22 => ?_) (fun hc22 => ?_)
  · skip
    refine e_go hk_40 1 (c := (30, [.ref 5, .int l, .int r], [.int 0], hp Z P L)) rfl ?_
    exact e_ret hk_40 rfl rfl rfl (by rw [y_th, decide_eq_false (Int32.not_lt.mpr hc22)]; rfl) rfl
  · skip
    refine e_go hk_40 2 (c := (30, [.ref 5, .int l, .int r], [.int 1], hp Z P L)) rfl ?_
    exact e_ret hk_40 rfl rfl rfl (by rw [y_th, decide_eq_true (Int32.not_le.mp hc22)]; rfl) rfl
theorem s_rxz {v : Bool} : s_rx .ireturn (some .boolean) [.int (y_b v)] = some (some (.int (y_b v))) := by cases v <;> rfl
theorem x_leans {Z : Nat → Nat → Int32} {P : Nat → Nat} {L n : Nat} (hN : Z 5 6 = nI n) (hn : n ≤ 60) {j : Nat} (hj : j < n) : m_r 41 [.ref 5, .int (nI j)] (hp Z P L) (some (.int (y_b (t_ln Z n j)))) (hp Z P L) := by
  refine m_of (ls := [.ref 5, .int (nI j)]) hk_41 rfl rfl rfl ?_
  refine e_go hk_41 4 (c := (4, [.ref 5, .int (nI j)], [.int (nI j), .ref 5, .int (nI j), .ref 5], hp Z P L)) rfl ?_
  refine e_call hk_41 (as := [.ref 5, .int (nI j)]) (rest := [.int (nI j), .ref 5]) rfl rfl hk_37 rfl (Nat.le_of_ble_eq_true rfl) rfl (x_low (j := j) (by omega)) ?_
  show e_r 41 7 [.ref 5, .int (nI j)] [.int (nI (t_L Z j)), .int (nI j), .ref 5] (hp Z P L) _ _
  refine e_go hk_41 3 (c := (10, [.ref 5, .int (nI j)], [.int (nI j), .ref 5, .int ((nI j) - (nI (t_L Z j))), .ref 5], hp Z P L)) rfl ?_
  refine e_call hk_41 (as := [.ref 5, .int (nI j)]) (rest := [.int ((nI j) - (nI (t_L Z j))), .ref 5]) rfl rfl hk_38 rfl (Nat.le_of_ble_eq_true rfl) rfl (x_high hN hn (j := j) (by omega)) ?_
  show e_r 41 13 [.ref 5, .int (nI j)] [.int (nI (t_H Z n j)), .int ((nI j) - (nI (t_L Z j))), .ref 5] (hp Z P L) _ _
  refine e_go hk_41 2 (c := (15, [.ref 5, .int (nI j)], [.int ((nI (t_H Z n j)) - (nI j)), .int ((nI j) - (nI (t_L Z j))), .ref 5], hp Z P L)) rfl ?_
  refine e_call hk_41 (as := [.ref 5, .int ((nI j) - (nI (t_L Z j))), .int ((nI (t_H Z n j)) - (nI j))]) (rest := []) rfl rfl hk_40 rfl (Nat.le_of_ble_eq_true rfl) rfl x_heavy ?_
  show e_r 41 18 [.ref 5, .int (nI j)] [.int (y_b (y_th (Z 7 0) ((nI j) - (nI (t_L Z j))) ((nI (t_H Z n j)) - (nI j))))] (hp Z P L) _ _
  exact e_ret hk_41 rfl rfl s_rxz rfl rfl
theorem x_lnodes_l {Z : Nat → Nat → Int32} {P : Nat → Nat} {L n : Nat} (hN : Z 5 6 = nI n) (hn : n ≤ 60)  : ∀ (k i : Nat) (a : Int32), i + k = n → e_r 42 4 [.ref 5, .int a, .int (nI i)] [] (hp Z P L) (some (.int (t_lnc Z n i k a))) (hp Z P L)
  | 0, i, a, hi => by
    refine e_go hk_42 4 (c := (if s_cnd .ge (nI i) (Z 5 6) = true then 34 else 12, [.ref 5, .int a, .int (nI i)], [], hp Z P L)) rfl ?_
    refine e_ge (a := 34) (b := 12) (x := nI i) (y := Z 5 6) (fun hc9 => ?_) (fun hc9 => absurd (by rw [hN]; exact (y_le (by omega) (by omega)).mpr (by omega)) hc9)
    refine e_go hk_42 1 (c := (35, [.ref 5, .int a, .int (nI i)], [.int a], hp Z P L)) rfl ?_
    exact e_ret hk_42 rfl rfl rfl rfl rfl
  | k + 1, i, a, hi => by
    refine e_go hk_42 4 (c := (if s_cnd .ge (nI i) (Z 5 6) = true then 34 else 12, [.ref 5, .int a, .int (nI i)], [], hp Z P L)) rfl ?_
    refine e_ge (a := 34) (b := 12) (x := nI i) (y := Z 5 6) (fun hc9 => absurd hc9 (by rw [hN]; exact nI_ge (by omega) (by omega))) (fun hc9 => ?_)
    refine e_go hk_42 3 (c := (15, [.ref 5, .int a, .int (nI i)], [.int (nI i), .ref 5, .int a], hp Z P L)) rfl ?_
    refine e_call hk_42 (as := [.ref 5, .int (nI i)]) (rest := [.int a]) rfl rfl hk_41 rfl (Nat.le_of_ble_eq_true rfl) rfl (x_leans hN hn (j := i) (by omega)) ?_
    show e_r 42 18 [.ref 5, .int a, .int (nI i)] [.int (y_b (t_ln Z n i)), .int a] (hp Z P L) _ _
    refine e_go hk_42 1 (c := (if s_cnd .eq (y_b (t_ln Z n i)) 0 = true then 25 else 21, [.ref 5, .int a, .int (nI i)], [.int a], hp Z P L)) rfl ?_
    refine e_eq (a := 25) (b := 21) (x := y_b (t_ln Z n i)) (y := 0) (fun hc18 => ?_) (fun hc18 => ?_)
    · skip
      rw [y_b0] at hc18
      rw [t_lnc, hc18, y_bf]
      refine e_go hk_42 5 (c := (4, [.ref 5, .int (a + 0), .int ((nI i) + 1)], [], hp Z P L)) rfl ?_
      rw [nI_1]
      exact x_lnodes_l hN hn k (i + 1) _ (by omega)
    · skip
      rw [y_b1] at hc18
      rw [t_lnc, hc18, y_bt]
      refine e_go hk_42 6 (c := (4, [.ref 5, .int (a + 1), .int ((nI i) + 1)], [], hp Z P L)) rfl ?_
      rw [nI_1]
      exact x_lnodes_l hN hn k (i + 1) _ (by omega)
theorem x_lnodes {Z : Nat → Nat → Int32} {P : Nat → Nat} {L n : Nat} (hN : Z 5 6 = nI n) (hn : n ≤ 60) : m_r 42 [.ref 5] (hp Z P L) (some (.int (t_lnc Z n 0 n 0))) (hp Z P L) := by
  refine m_of (ls := [.ref 5, s_no, s_no]) hk_42 rfl rfl rfl ?_
  refine e_go hk_42 4 (c := (4, [.ref 5, .int 0, .int 0], [], hp Z P L)) rfl ?_
  exact x_lnodes_l hN hn n 0 0 (by omega)
end
section
/-! Tree: ways, moves, laying anew; printed by wip/whole/gen/tree2.py -/
theorem t_wl_s {D : Nat → Int32} {lean : Int32} {p k d l u : Nat} (h : ¬ u ≤ l) : t_wl D lean p (k + 1) d l u = if p ≤ t_tp D (nI d) l (u - 1 - l) then (if y_th lean (nI (t_tp D (nI d) l (u - 1 - l)) - nI l + 1) (nI (u - 1) - nI (t_tp D (nI d) l (u - 1 - l))) = true then some (t_tp D (nI d) l (u - 1 - l)) else t_wl D lean p k (d + 1) l (t_tp D (nI d) l (u - 1 - l)))
    else (if y_th lean (nI (t_tp D (nI d) l (u - 1 - l)) - nI l) (nI (u - 1) - nI (t_tp D (nI d) l (u - 1 - l)) + 1) = true then some (t_tp D (nI d) l (u - 1 - l)) else t_wl D lean p k (d + 1) (t_tp D (nI d) l (u - 1 - l) + 1) u) := by
  rw [t_wl, if_neg h]
theorem x_would_l {Z : Nat → Nat → Int32} {P : Nat → Nat} {L : Nat} {p : Nat} (hp0 : p ≤ 60) : ∀ (k d l u : Nat) (y5 y6 y7 : Value), d + k = 60 → u ≤ 60 →  l ≤ 60 → e_r 43 12 [.ref 5, .int (nI p), .int (nI l), .int (nI u - 1), .int (nI d), y5, y6, y7] [] (hp Z P L) (some (.int (y_o (t_wl (Z 15) (Z 7 0) p k d l u)))) (hp Z P L)
  | 0, d, l, u, y5, y6, y7, hd, hu, hl => by
    refine e_go hk_43 3 (c := (if s_cnd .ge (nI d) 60 = true then 91 else 19, [.ref 5, .int (nI p), .int (nI l), .int (nI u - 1), .int (nI d), y5, y6, y7], [], hp Z P L)) rfl ?_
    refine e_ge (a := 91) (b := 19) (x := nI d) (y := 60) (fun hc16 => ?_) (fun hc16 => absurd (by rw [show (60 : Int32) = nI 60 from rfl]; exact (y_le (by omega) (by omega)).mpr (by omega)) hc16)
    refine e_go hk_43 1 (c := (93, [.ref 5, .int (nI p), .int (nI l), .int (nI u - 1), .int (nI d), y5, y6, y7], [.int ((-6))], hp Z P L)) rfl ?_
    exact e_ret hk_43 rfl rfl rfl rfl rfl
  | k + 1, d, l, u, y5, y6, y7, hd, hu, hl => by
    refine e_go hk_43 3 (c := (if s_cnd .ge (nI d) 60 = true then 91 else 19, [.ref 5, .int (nI p), .int (nI l), .int (nI u - 1), .int (nI d), y5, y6, y7], [], hp Z P L)) rfl ?_
    refine e_ge (a := 91) (b := 19) (x := nI d) (y := 60) (fun hc16 => absurd hc16 (by rw [show (60 : Int32) = nI 60 from rfl]; exact nI_ge (by omega) (by omega))) (fun hc16 => ?_)
    refine e_go hk_43 3 (c := (if s_cnd .gt (nI l) (nI u - 1) = true then 91 else 24, [.ref 5, .int (nI p), .int (nI l), .int (nI u - 1), .int (nI d), y5, y6, y7], [], hp Z P L)) rfl ?_
    refine e_gt (a := 91) (b := 24) (x := nI l) (y := nI u - 1) (fun hc21 => ?_) (fun hc21 => ?_)
    · skip
      rw [y_m1lt (by omega) (by omega)] at hc21
      rw [t_wl, if_pos hc21]
      refine e_go hk_43 1 (c := (93, [.ref 5, .int (nI p), .int (nI l), .int (nI u - 1), .int (nI d), y5, y6, y7], [.int ((-6))], hp Z P L)) rfl ?_
      exact e_ret hk_43 rfl rfl rfl rfl rfl
    · skip
      rw [y_m1lt (by omega) (by omega)] at hc21
      rw [t_wl_s hc21]
      rw [y_m1s (u := u) (by omega)]
      refine e_go hk_43 4 (c := (29, [.ref 5, .int (nI p), .int (nI l), .int (nI (u - 1)), .int (nI d), y5, y6, y7], [.int (nI d), .int (nI (u - 1)), .int (nI l), .ref 5], hp Z P L)) rfl ?_
      refine e_call hk_43 (as := [.ref 5, .int (nI l), .int (nI (u - 1)), .int (nI d)]) (rest := []) rfl rfl hk_39 rfl (Nat.le_of_ble_eq_true rfl) rfl (x_top (l := l) (u := u - 1) (by omega) (by omega)) ?_
      show e_r 43 32 [.ref 5, .int (nI p), .int (nI l), .int (nI (u - 1)), .int (nI d), y5, y6, y7] [.int (nI (t_tp (Z 15) (nI d) l (u - 1 - l)))] (hp Z P L) _ _
      have htl := t_tp_le (Z 15) (nI d) (u - 1 - l) l
      generalize ht : t_tp (Z 15) (nI d) l (u - 1 - l) = t at htl ⊢
      refine e_go hk_43 12 (c := (if s_cnd .gt (nI p) (nI (t)) = true then 63 else 52, [.ref 5, .int (nI p), .int (nI l), .int (nI (u - 1)), .int (nI d), .int (nI (t)), .int ((nI (t)) - (nI l)), .int ((nI (u - 1)) - (nI (t)))], [], hp Z P L)) rfl ?_
      refine e_gt (a := 63) (b := 52) (x := nI p) (y := nI (t)) (fun hc49 => ?_) (fun hc49 => ?_)
      · skip
        rw [y_lt (by omega) (by omega)] at hc49
        rw [if_neg (show ¬ p ≤ t by omega)]
        refine e_go hk_43 8 (c := (76, [.ref 5, .int (nI p), .int ((nI (t)) + 1), .int (nI (u - 1)), .int (nI d), .int (nI (t)), .int ((nI (t)) - (nI l)), .int (((nI (u - 1)) - (nI (t))) + 1)], [.int (((nI (u - 1)) - (nI (t))) + 1), .int ((nI (t)) - (nI l)), .ref 5], hp Z P L)) rfl ?_
        refine e_call hk_43 (as := [.ref 5, .int ((nI (t)) - (nI l)), .int (((nI (u - 1)) - (nI (t))) + 1)]) (rest := []) rfl rfl hk_40 rfl (Nat.le_of_ble_eq_true rfl) rfl x_heavy ?_
        show e_r 43 79 [.ref 5, .int (nI p), .int ((nI (t)) + 1), .int (nI (u - 1)), .int (nI d), .int (nI (t)), .int ((nI (t)) - (nI l)), .int (((nI (u - 1)) - (nI (t))) + 1)] [.int (y_b (y_th (Z 7 0) ((nI (t)) - (nI l)) (((nI (u - 1)) - (nI (t))) + 1)))] (hp Z P L) _ _
        refine e_go hk_43 1 (c := (if s_cnd .eq (y_b (y_th (Z 7 0) ((nI (t)) - (nI l)) (((nI (u - 1)) - (nI (t))) + 1))) 0 = true then 85 else 82, [.ref 5, .int (nI p), .int ((nI (t)) + 1), .int (nI (u - 1)), .int (nI d), .int (nI (t)), .int ((nI (t)) - (nI l)), .int (((nI (u - 1)) - (nI (t))) + 1)], [], hp Z P L)) rfl ?_
        refine e_eq (a := 85) (b := 82) (x := y_b (y_th (Z 7 0) ((nI (t)) - (nI l)) (((nI (u - 1)) - (nI (t))) + 1))) (y := 0) (fun hc79 => ?_) (fun hc79 => ?_)
        · skip
          rw [y_b0] at hc79
          rw [hc79, if_neg Bool.false_ne_true]
          refine e_go hk_43 2 (c := (12, [.ref 5, .int (nI p), .int ((nI (t)) + 1), .int (nI (u - 1)), .int ((nI d) + 1), .int (nI (t)), .int ((nI (t)) - (nI l)), .int (((nI (u - 1)) - (nI (t))) + 1)], [], hp Z P L)) rfl ?_
          rw [nI_1 d, nI_1 t, ← y_m1s (u := u) (by omega)]
          exact x_would_l hp0 (P := P) k (d + 1) (t + 1) u _ _ _ (by omega) hu (by omega)
        · skip
          rw [y_b1] at hc79
          rw [if_pos hc79]
          refine e_go hk_43 1 (c := (84, [.ref 5, .int (nI p), .int ((nI (t)) + 1), .int (nI (u - 1)), .int (nI d), .int (nI (t)), .int ((nI (t)) - (nI l)), .int (((nI (u - 1)) - (nI (t))) + 1)], [.int (nI (t))], hp Z P L)) rfl ?_
          exact e_ret hk_43 rfl rfl rfl rfl rfl
      · skip
        rw [y_lt (by omega) (by omega)] at hc49
        rw [if_pos (show p ≤ t by omega)]
        refine e_go hk_43 9 (c := (76, [.ref 5, .int (nI p), .int (nI l), .int ((nI (t)) - 1), .int (nI d), .int (nI (t)), .int (((nI (t)) - (nI l)) + 1), .int ((nI (u - 1)) - (nI (t)))], [.int ((nI (u - 1)) - (nI (t))), .int (((nI (t)) - (nI l)) + 1), .ref 5], hp Z P L)) rfl ?_
        refine e_call hk_43 (as := [.ref 5, .int (((nI (t)) - (nI l)) + 1), .int ((nI (u - 1)) - (nI (t)))]) (rest := []) rfl rfl hk_40 rfl (Nat.le_of_ble_eq_true rfl) rfl x_heavy ?_
        show e_r 43 79 [.ref 5, .int (nI p), .int (nI l), .int ((nI (t)) - 1), .int (nI d), .int (nI (t)), .int (((nI (t)) - (nI l)) + 1), .int ((nI (u - 1)) - (nI (t)))] [.int (y_b (y_th (Z 7 0) (((nI (t)) - (nI l)) + 1) ((nI (u - 1)) - (nI (t)))))] (hp Z P L) _ _
        refine e_go hk_43 1 (c := (if s_cnd .eq (y_b (y_th (Z 7 0) (((nI (t)) - (nI l)) + 1) ((nI (u - 1)) - (nI (t))))) 0 = true then 85 else 82, [.ref 5, .int (nI p), .int (nI l), .int ((nI (t)) - 1), .int (nI d), .int (nI (t)), .int (((nI (t)) - (nI l)) + 1), .int ((nI (u - 1)) - (nI (t)))], [], hp Z P L)) rfl ?_
        refine e_eq (a := 85) (b := 82) (x := y_b (y_th (Z 7 0) (((nI (t)) - (nI l)) + 1) ((nI (u - 1)) - (nI (t))))) (y := 0) (fun hc79 => ?_) (fun hc79 => ?_)
        · skip
          rw [y_b0] at hc79
          rw [hc79, if_neg Bool.false_ne_true]
          refine e_go hk_43 2 (c := (12, [.ref 5, .int (nI p), .int (nI l), .int ((nI (t)) - 1), .int ((nI d) + 1), .int (nI (t)), .int (((nI (t)) - (nI l)) + 1), .int ((nI (u - 1)) - (nI (t)))], [], hp Z P L)) rfl ?_
          rw [nI_1 d]
          exact x_would_l hp0 (P := P) k (d + 1) l t _ _ _ (by omega) (by omega) hl
        · skip
          rw [y_b1] at hc79
          rw [if_pos hc79]
          refine e_go hk_43 1 (c := (84, [.ref 5, .int (nI p), .int (nI l), .int ((nI (t)) - 1), .int (nI d), .int (nI (t)), .int (((nI (t)) - (nI l)) + 1), .int ((nI (u - 1)) - (nI (t)))], [.int (nI (t))], hp Z P L)) rfl ?_
          exact e_ret hk_43 rfl rfl rfl rfl rfl
theorem x_would {Z : Nat → Nat → Int32} {P : Nat → Nat} {L n : Nat} (hN : Z 5 6 = nI n) (hn : n ≤ 60) {p : Nat} (hp0 : p ≤ 60) : m_r 43 [.ref 5, .int (nI p)] (hp Z P L) (some (.int (y_o (t_wl (Z 15) (Z 7 0) p 60 0 0 n)))) (hp Z P L) := by
  refine m_of (ls := [.ref 5, .int (nI p), s_no, s_no, s_no, s_no, s_no, s_no]) hk_43 rfl rfl rfl ?_
  refine e_go hk_43 9 (c := (12, [.ref 5, .int (nI p), .int 0, .int ((Z 5 6) - 1), .int 0, s_no, s_no, s_no], [], hp Z P L)) rfl ?_
  rw [hN]
  exact x_would_l hp0 60 0 0 n _ _ _ (by omega) hn (by omega)
theorem x_room {Z : Nat → Nat → Int32} {P : Nat → Nat} {L n : Nat} (hN : Z 5 6 = nI n) (hn : n ≤ 60) {key : Int32} : m_r 45 [.ref 5, .int key] (hp Z P L) (some (.int (y_b (t_rm Z n key)))) (hp Z P L) := by
  refine m_of (ls := [.ref 5, .int key]) hk_45 rfl rfl rfl ?_
  refine e_go hk_45 4 (c := (if s_cnd .lt (Z 5 6) 60 = true then 19 else 9, [.ref 5, .int key], [], hp Z P L)) rfl ?_
  refine e_lt (a := 19) (b := 9) (x := Z 5 6) (y := 60) (fun hc6 => ?_) (fun hc6 => ?_)
  · skip
    rw [hN, show (60 : Int32) = nI 60 from rfl, y_lt (by omega) (by omega)] at hc6
    refine e_go hk_45 2 (c := (24, [.ref 5, .int key], [.int 1], hp Z P L)) rfl ?_
    exact e_ret hk_45 rfl rfl rfl (by rw [t_rm, decide_eq_true hc6]; rfl) rfl
  · skip
    rw [hN, show (60 : Int32) = nI 60 from rfl, y_lt (by omega) (by omega)] at hc6
    refine e_go hk_45 2 (c := (11, [.ref 5, .int key], [.int key, .ref 5], hp Z P L)) rfl ?_
    refine e_call hk_45 (as := [.ref 5, .int key]) (rest := []) rfl rfl hk_31 rfl (Nat.le_of_ble_eq_true rfl) rfl (x_node hN hn) ?_
    show e_r 45 14 [.ref 5, .int key] [.int (y_o (t_nd (Z 9) n key))] (hp Z P L) _ _
    refine e_go hk_45 2 (c := (if s_cnd .eq (y_o (t_nd (Z 9) n key)) ((-6)) = true then 23 else 19, [.ref 5, .int key], [], hp Z P L)) rfl ?_
    refine e_eq (a := 23) (b := 19) (x := y_o (t_nd (Z 9) n key)) (y := (-6)) (fun hc16 => ?_) (fun hc16 => ?_)
    · skip
      rw [y_o_none (fun j hj => by have := (t_nd_lt hj).1; omega)] at hc16
      refine e_go hk_45 1 (c := (24, [.ref 5, .int key], [.int 0], hp Z P L)) rfl ?_
      exact e_ret hk_45 rfl rfl rfl (by rw [t_rm, decide_eq_false hc6, hc16]; rfl) rfl
    · skip
      rw [y_o_none (fun j hj => by have := (t_nd_lt hj).1; omega)] at hc16
      refine e_go hk_45 2 (c := (24, [.ref 5, .int key], [.int 1], hp Z P L)) rfl ?_
      exact e_ret hk_45 rfl rfl rfl (by rw [t_rm, decide_eq_false hc6]; cases hq : t_nd (Z 9) n key with | none => exact absurd hq hc16 | some j => rfl) rfl
def t_mv (Z : Nat → Nat → Int32) (i j : Nat) : Nat → Nat → Int32 := s_upd (s_upd (s_upd (s_upd (s_upd Z 9 j (Z 9 i)) 11 j (Z 11 i)) 13 j (Z 13 i)) 15 j (Z 15 i)) 17 j (Z 17 i)
theorem x_move {Z : Nat → Nat → Int32} {P : Nat → Nat} {L : Nat} {i j : Nat} (hi : i < 60) (hj : j < 60) : m_r 51 [.ref 5, .int (nI i), .int (nI j)] (hp Z P L) none (hp (t_mv Z i j) P L) := by
  refine m_of (ls := [.ref 5, .int (nI i), .int (nI j)]) hk_51 rfl rfl rfl ?_
  refine e_go hk_51 6 (c := (10, [.ref 5, .int (nI i), .int (nI j)], [.int (nI i), .ref 8, .int (nI j), .ref 8], hp Z P L)) rfl ?_
  refine e_call hk_51 (as := [.ref 8, .int (nI i)]) (rest := [.int (nI j), .ref 8]) rfl rfl hk_22 rfl (Nat.le_of_ble_eq_true rfl) rfl (x_at (r := 8) (a := 9) (n := 60) rfl rfl rfl (by decide) (j := i) (by omega)) ?_
  show e_r 51 13 [.ref 5, .int (nI i), .int (nI j)] [.int (Z 9 i), .int (nI j), .ref 8] (hp Z P L) _ _
  refine e_call hk_51 (as := [.ref 8, .int (nI j), .int (Z 9 i)]) (rest := []) rfl rfl hk_23 rfl (Nat.le_of_ble_eq_true rfl) rfl (x_write (r := 8) (a := 9) (n := 60) rfl rfl rfl (by decide) (by decide) (j := j) (by omega)) ?_
  show e_r 51 16 [.ref 5, .int (nI i), .int (nI j)] [] (hp (s_upd Z 9 j (Z 9 i)) P L) _ _
  refine e_go hk_51 6 (c := (26, [.ref 5, .int (nI i), .int (nI j)], [.int (nI i), .ref 10, .int (nI j), .ref 10], hp (s_upd Z 9 j (Z 9 i)) P L)) rfl ?_
  refine e_call hk_51 (as := [.ref 10, .int (nI i)]) (rest := [.int (nI j), .ref 10]) rfl rfl hk_22 rfl (Nat.le_of_ble_eq_true rfl) rfl (x_at (r := 10) (a := 11) (n := 60) rfl rfl rfl (by decide) (j := i) (by omega)) ?_
  show e_r 51 29 [.ref 5, .int (nI i), .int (nI j)] [.int (Z 11 i), .int (nI j), .ref 10] (hp (s_upd Z 9 j (Z 9 i)) P L) _ _
  refine e_call hk_51 (as := [.ref 10, .int (nI j), .int (Z 11 i)]) (rest := []) rfl rfl hk_23 rfl (Nat.le_of_ble_eq_true rfl) rfl (x_write (r := 10) (a := 11) (n := 60) rfl rfl rfl (by decide) (by decide) (j := j) (by omega)) ?_
  show e_r 51 32 [.ref 5, .int (nI i), .int (nI j)] [] (hp (s_upd (s_upd Z 9 j (Z 9 i)) 11 j (Z 11 i)) P L) _ _
  refine e_go hk_51 6 (c := (42, [.ref 5, .int (nI i), .int (nI j)], [.int (nI i), .ref 12, .int (nI j), .ref 12], hp (s_upd (s_upd Z 9 j (Z 9 i)) 11 j (Z 11 i)) P L)) rfl ?_
  refine e_call hk_51 (as := [.ref 12, .int (nI i)]) (rest := [.int (nI j), .ref 12]) rfl rfl hk_22 rfl (Nat.le_of_ble_eq_true rfl) rfl (x_at (r := 12) (a := 13) (n := 60) rfl rfl rfl (by decide) (j := i) (by omega)) ?_
  show e_r 51 45 [.ref 5, .int (nI i), .int (nI j)] [.int (Z 13 i), .int (nI j), .ref 12] (hp (s_upd (s_upd Z 9 j (Z 9 i)) 11 j (Z 11 i)) P L) _ _
  refine e_call hk_51 (as := [.ref 12, .int (nI j), .int (Z 13 i)]) (rest := []) rfl rfl hk_23 rfl (Nat.le_of_ble_eq_true rfl) rfl (x_write (r := 12) (a := 13) (n := 60) rfl rfl rfl (by decide) (by decide) (j := j) (by omega)) ?_
  show e_r 51 48 [.ref 5, .int (nI i), .int (nI j)] [] (hp (s_upd (s_upd (s_upd Z 9 j (Z 9 i)) 11 j (Z 11 i)) 13 j (Z 13 i)) P L) _ _
  refine e_go hk_51 6 (c := (58, [.ref 5, .int (nI i), .int (nI j)], [.int (nI i), .ref 14, .int (nI j), .ref 14], hp (s_upd (s_upd (s_upd Z 9 j (Z 9 i)) 11 j (Z 11 i)) 13 j (Z 13 i)) P L)) rfl ?_
  refine e_call hk_51 (as := [.ref 14, .int (nI i)]) (rest := [.int (nI j), .ref 14]) rfl rfl hk_22 rfl (Nat.le_of_ble_eq_true rfl) rfl (x_at (r := 14) (a := 15) (n := 60) rfl rfl rfl (by decide) (j := i) (by omega)) ?_
  show e_r 51 61 [.ref 5, .int (nI i), .int (nI j)] [.int (Z 15 i), .int (nI j), .ref 14] (hp (s_upd (s_upd (s_upd Z 9 j (Z 9 i)) 11 j (Z 11 i)) 13 j (Z 13 i)) P L) _ _
  refine e_call hk_51 (as := [.ref 14, .int (nI j), .int (Z 15 i)]) (rest := []) rfl rfl hk_23 rfl (Nat.le_of_ble_eq_true rfl) rfl (x_write (r := 14) (a := 15) (n := 60) rfl rfl rfl (by decide) (by decide) (j := j) (by omega)) ?_
  show e_r 51 64 [.ref 5, .int (nI i), .int (nI j)] [] (hp (s_upd (s_upd (s_upd (s_upd Z 9 j (Z 9 i)) 11 j (Z 11 i)) 13 j (Z 13 i)) 15 j (Z 15 i)) P L) _ _
  refine e_go hk_51 6 (c := (74, [.ref 5, .int (nI i), .int (nI j)], [.int (nI i), .ref 16, .int (nI j), .ref 16], hp (s_upd (s_upd (s_upd (s_upd Z 9 j (Z 9 i)) 11 j (Z 11 i)) 13 j (Z 13 i)) 15 j (Z 15 i)) P L)) rfl ?_
  refine e_call hk_51 (as := [.ref 16, .int (nI i)]) (rest := [.int (nI j), .ref 16]) rfl rfl hk_22 rfl (Nat.le_of_ble_eq_true rfl) rfl (x_at (r := 16) (a := 17) (n := 60) rfl rfl rfl (by decide) (j := i) (by omega)) ?_
  show e_r 51 77 [.ref 5, .int (nI i), .int (nI j)] [.int (Z 17 i), .int (nI j), .ref 16] (hp (s_upd (s_upd (s_upd (s_upd Z 9 j (Z 9 i)) 11 j (Z 11 i)) 13 j (Z 13 i)) 15 j (Z 15 i)) P L) _ _
  refine e_call hk_51 (as := [.ref 16, .int (nI j), .int (Z 17 i)]) (rest := []) rfl rfl hk_23 rfl (Nat.le_of_ble_eq_true rfl) rfl (x_write (r := 16) (a := 17) (n := 60) rfl rfl rfl (by decide) (by decide) (j := j) (by omega)) ?_
  show e_r 51 80 [.ref 5, .int (nI i), .int (nI j)] [] (hp (s_upd (s_upd (s_upd (s_upd (s_upd Z 9 j (Z 9 i)) 11 j (Z 11 i)) 13 j (Z 13 i)) 15 j (Z 15 i)) 17 j (Z 17 i)) P L) _ _
  exact e_ret hk_51 rfl rfl rfl rfl rfl
def t_sp (Z : Nat → Nat → Int32) (pd w : Int32) : Nat → Nat → Int32 := s_upd (s_upd (s_upd (s_upd Z 5 8 (Z 5 8 + (pd - w))) 5 7 (Z 5 7 + w)) 5 9 (Z 5 9 + 1)) 5 10 (if Z 5 10 < w then w else Z 5 10)
theorem x_spend {Z : Nat → Nat → Int32} {P : Nat → Nat} {L : Nat} {pd w : Int32} : m_r 53 [.ref 5, .int pd, .int w] (hp Z P L) none (hp (t_sp Z pd w) P L) := by
  refine m_of (ls := [.ref 5, .int pd, .int w]) hk_53 rfl rfl rfl ?_
  refine e_go hk_53 26 (c := (44, [.ref 5, .int pd, .int w], [], hp (s_upd (s_upd (s_upd (s_upd Z 5 8 ((Z 5 8) + (pd - w))) 5 7 ((Z 5 7) + w)) 5 9 ((Z 5 9) + 1)) 5 10 (if Z 5 10 < w then w else Z 5 10)) P L)) rfl ?_
  exact e_ret hk_53 rfl rfl rfl rfl rfl
/-- paying on the way to place p -/
def t_py (p : Nat) : Nat → Nat → Nat → Nat → (Nat → Nat → Int32) → Nat → Nat → Int32
  | 0, _, _, _, Z => Z
  | k + 1, d, l, u, Z => if u ≤ l then Z else
    if t_tp (Z 15) (nI d) l (u - 1 - l) = p then s_upd Z 13 (t_tp (Z 15) (nI d) l (u - 1 - l)) (Z 13 (t_tp (Z 15) (nI d) l (u - 1 - l)) + Z 7 2)
    else if t_tp (Z 15) (nI d) l (u - 1 - l) < p then t_py p k (d + 1) (t_tp (Z 15) (nI d) l (u - 1 - l) + 1) u (s_upd Z 13 (t_tp (Z 15) (nI d) l (u - 1 - l)) (Z 13 (t_tp (Z 15) (nI d) l (u - 1 - l)) + Z 7 2))
    else t_py p k (d + 1) l (t_tp (Z 15) (nI d) l (u - 1 - l)) (s_upd Z 13 (t_tp (Z 15) (nI d) l (u - 1 - l)) (Z 13 (t_tp (Z 15) (nI d) l (u - 1 - l)) + Z 7 2))
theorem x_pay_l {P : Nat → Nat} {L : Nat} {p : Nat} (hp0 : p ≤ 60) : ∀ (k d l u : Nat) (y5 : Value) (Z : Nat → Nat → Int32), d + k = 60 → u ≤ 60 → l ≤ 60 → e_r 49 12 [.ref 5, .int (nI p), .int (nI l), .int (nI u - 1), .int (nI d), y5] [] (hp Z P L) none (hp (t_py p k d l u Z) P L)
  | 0, d, l, u, y5, Z, hd, hu, hl => by
    refine e_go hk_49 3 (c := (if s_cnd .ge (nI d) 60 = true then 104 else 19, [.ref 5, .int (nI p), .int (nI l), .int (nI u - 1), .int (nI d), y5], [], hp Z P L)) rfl ?_
    refine e_ge (a := 104) (b := 19) (x := nI d) (y := 60) (fun hc16 => ?_) (fun hc16 => absurd (by rw [show (60 : Int32) = nI 60 from rfl]; exact (y_le (by omega) (by omega)).mpr (by omega)) hc16)
    exact e_ret hk_49 rfl rfl rfl rfl rfl
  | k + 1, d, l, u, y5, Z, hd, hu, hl => by
    refine e_go hk_49 3 (c := (if s_cnd .ge (nI d) 60 = true then 104 else 19, [.ref 5, .int (nI p), .int (nI l), .int (nI u - 1), .int (nI d), y5], [], hp Z P L)) rfl ?_
    refine e_ge (a := 104) (b := 19) (x := nI d) (y := 60) (fun hc16 => absurd hc16 (by rw [show (60 : Int32) = nI 60 from rfl]; exact nI_ge (by omega) (by omega))) (fun hc16 => ?_)
    refine e_go hk_49 3 (c := (if s_cnd .gt (nI l) (nI u - 1) = true then 104 else 24, [.ref 5, .int (nI p), .int (nI l), .int (nI u - 1), .int (nI d), y5], [], hp Z P L)) rfl ?_
    refine e_gt (a := 104) (b := 24) (x := nI l) (y := nI u - 1) (fun hc21 => ?_) (fun hc21 => ?_)
    · skip
      rw [y_m1lt (by omega) (by omega)] at hc21
      rw [t_py, if_pos hc21]
      exact e_ret hk_49 rfl rfl rfl rfl rfl
    · skip
      rw [y_m1lt (by omega) (by omega)] at hc21
      rw [t_py, if_neg hc21]
      rw [y_m1s (u := u) (by omega)]
      refine e_go hk_49 4 (c := (29, [.ref 5, .int (nI p), .int (nI l), .int (nI (u - 1)), .int (nI d), y5], [.int (nI d), .int (nI (u - 1)), .int (nI l), .ref 5], hp Z P L)) rfl ?_
      refine e_call hk_49 (as := [.ref 5, .int (nI l), .int (nI (u - 1)), .int (nI d)]) (rest := []) rfl rfl hk_39 rfl (Nat.le_of_ble_eq_true rfl) rfl (x_top (l := l) (u := u - 1) (by omega) (by omega)) ?_
      show e_r 49 32 [.ref 5, .int (nI p), .int (nI l), .int (nI (u - 1)), .int (nI d), y5] [.int (nI (t_tp (Z 15) (nI d) l (u - 1 - l)))] (hp Z P L) _ _
      have htl := t_tp_le (Z 15) (nI d) (u - 1 - l) l
      generalize ht : t_tp (Z 15) (nI d) l (u - 1 - l) = t at htl ⊢
      refine e_go hk_49 7 (c := (46, [.ref 5, .int (nI p), .int (nI l), .int (nI (u - 1)), .int (nI d), .int (nI (t))], [.int (nI (t)), .ref 12, .int (nI (t)), .ref 12], hp Z P L)) rfl ?_
      refine e_call hk_49 (as := [.ref 12, .int (nI t)]) (rest := [.int (nI (t)), .ref 12]) rfl rfl hk_22 rfl (Nat.le_of_ble_eq_true rfl) rfl (x_at (r := 12) (a := 13) (n := 60) rfl rfl rfl (by decide) (j := t) (by omega)) ?_
      show e_r 49 49 [.ref 5, .int (nI p), .int (nI l), .int (nI (u - 1)), .int (nI d), .int (nI (t))] [.int (Z 13 t), .int (nI (t)), .ref 12] (hp Z P L) _ _
      refine e_go hk_49 3 (c := (54, [.ref 5, .int (nI p), .int (nI l), .int (nI (u - 1)), .int (nI d), .int (nI (t))], [.int 2, .ref 6, .int (Z 13 t), .int (nI (t)), .ref 12], hp Z P L)) rfl ?_
      refine e_call hk_49 (as := [.ref 6, .int (nI 2)]) (rest := [.int (Z 13 t), .int (nI (t)), .ref 12]) rfl rfl hk_22 rfl (Nat.le_of_ble_eq_true rfl) rfl (x_at (r := 6) (a := 7) (n := 3) rfl rfl rfl (by decide) (j := 2) (by decide)) ?_
      show e_r 49 57 [.ref 5, .int (nI p), .int (nI l), .int (nI (u - 1)), .int (nI d), .int (nI (t))] [.int (Z 7 2), .int (Z 13 t), .int (nI (t)), .ref 12] (hp Z P L) _ _
      refine e_go hk_49 1 (c := (58, [.ref 5, .int (nI p), .int (nI l), .int (nI (u - 1)), .int (nI d), .int (nI (t))], [.int ((Z 13 t) + (Z 7 2)), .int (nI (t)), .ref 12], hp Z P L)) rfl ?_
      refine e_call hk_49 (as := [.ref 12, .int (nI t), .int ((Z 13 t) + (Z 7 2))]) (rest := []) rfl rfl hk_23 rfl (Nat.le_of_ble_eq_true rfl) rfl (x_write (r := 12) (a := 13) (n := 60) rfl rfl rfl (by decide) (by decide) (j := t) (by omega)) ?_
      show e_r 49 61 [.ref 5, .int (nI p), .int (nI l), .int (nI (u - 1)), .int (nI d), .int (nI (t))] [] (hp (s_upd Z 13 t ((Z 13 t) + (Z 7 2))) P L) _ _
      refine e_go hk_49 3 (c := (if s_cnd .ge (nI (t)) (nI p) = true then 74 else 67, [.ref 5, .int (nI p), .int (nI l), .int (nI (u - 1)), .int (nI d), .int (nI (t))], [], hp (s_upd Z 13 t ((Z 13 t) + (Z 7 2))) P L)) rfl ?_
      refine e_ge (a := 74) (b := 67) (x := nI (t)) (y := nI p) (fun hc64 => ?_) (fun hc64 => ?_)
      · skip
        rw [y_le (by omega) (by omega)] at hc64
        refine e_go hk_49 5 (c := (if s_cnd .le (nI (t)) (nI p) = true then 89 else 82, [.ref 5, .int (nI p), .int (nI l), .int (nI (u - 1)), .int (nI d), .int (nI (t))], [], hp (s_upd Z 13 t ((Z 13 t) + (Z 7 2))) P L)) rfl ?_
        refine e_le (a := 89) (b := 82) (x := nI (t)) (y := nI p) (fun hc79 => ?_) (fun hc79 => ?_)
        · skip
          rw [y_le (by omega) (by omega)] at hc79
          refine e_go hk_49 5 (c := (if s_cnd .ne (nI (t)) (nI p) = true then 98 else 97, [.ref 5, .int (nI p), .int (nI l), .int (nI (u - 1)), .int (nI d), .int (nI (t))], [], hp (s_upd Z 13 t ((Z 13 t) + (Z 7 2))) P L)) rfl ?_
          refine e_ne (a := 98) (b := 97) (x := nI (t)) (y := nI p) (fun hc94 => absurd (by rw [show t = p by omega]) hc94) (fun hc94 => ?_)
          exact e_ret hk_49 rfl rfl rfl rfl (by rw [if_pos (show t = p by omega)])
        · skip
          rw [y_le (by omega) (by omega)] at hc79
          refine e_go hk_49 8 (c := (if s_cnd .ne (nI (t)) (nI p) = true then 98 else 97, [.ref 5, .int (nI p), .int (nI l), .int ((nI (t)) - 1), .int (nI d), .int (nI (t))], [], hp (s_upd Z 13 t ((Z 13 t) + (Z 7 2))) P L)) rfl ?_
          refine e_ne (a := 98) (b := 97) (x := nI (t)) (y := nI p) (fun hc94 => ?_) (fun hc94 => absurd hc94 (fun z => absurd ((nI_eq (by omega) (by omega)).mp z) (by omega)))
          refine e_go hk_49 2 (c := (12, [.ref 5, .int (nI p), .int (nI l), .int ((nI (t)) - 1), .int ((nI d) + 1), .int (nI (t))], [], hp (s_upd Z 13 t ((Z 13 t) + (Z 7 2))) P L)) rfl ?_
          rw [if_neg (show ¬ t = p by omega), if_neg (show ¬ t < p by omega), nI_1 d]
          exact x_pay_l hp0 k (d + 1) l t _ _ (by omega) (by omega) hl
      · skip
        rw [y_le (by omega) (by omega)] at hc64
        refine e_go hk_49 8 (c := (if s_cnd .le (nI (t)) (nI p) = true then 89 else 82, [.ref 5, .int (nI p), .int ((nI (t)) + 1), .int (nI (u - 1)), .int (nI d), .int (nI (t))], [], hp (s_upd Z 13 t ((Z 13 t) + (Z 7 2))) P L)) rfl ?_
        refine e_le (a := 89) (b := 82) (x := nI (t)) (y := nI p) (fun hc79 => ?_) (fun hc79 => absurd ((y_le (by omega) (by omega)).mpr (by omega)) hc79)
        refine e_go hk_49 5 (c := (if s_cnd .ne (nI (t)) (nI p) = true then 98 else 97, [.ref 5, .int (nI p), .int ((nI (t)) + 1), .int (nI (u - 1)), .int (nI d), .int (nI (t))], [], hp (s_upd Z 13 t ((Z 13 t) + (Z 7 2))) P L)) rfl ?_
        refine e_ne (a := 98) (b := 97) (x := nI (t)) (y := nI p) (fun hc94 => ?_) (fun hc94 => absurd hc94 (fun z => absurd ((nI_eq (by omega) (by omega)).mp z) (by omega)))
        refine e_go hk_49 2 (c := (12, [.ref 5, .int (nI p), .int ((nI (t)) + 1), .int (nI (u - 1)), .int ((nI d) + 1), .int (nI (t))], [], hp (s_upd Z 13 t ((Z 13 t) + (Z 7 2))) P L)) rfl ?_
        rw [if_neg (show ¬ t = p by omega), if_pos (show t < p by omega), nI_1 d, nI_1 t, ← y_m1s (u := u) (by omega)]
        exact x_pay_l hp0 k (d + 1) (t + 1) u _ _ (by omega) hu (by omega)
theorem x_pay {Z : Nat → Nat → Int32} {P : Nat → Nat} {L n : Nat} (hN : Z 5 6 = nI n) (hn : n ≤ 60) {p : Nat} (hp0 : p ≤ 60) : m_r 49 [.ref 5, .int (nI p)] (hp Z P L) none (hp (t_py p 60 0 0 n Z) P L) := by
  refine m_of (ls := [.ref 5, .int (nI p), s_no, s_no, s_no, s_no]) hk_49 rfl rfl rfl ?_
  refine e_go hk_49 9 (c := (12, [.ref 5, .int (nI p), .int 0, .int ((Z 5 6) - 1), .int 0, s_no], [], hp Z P L)) rfl ?_
  rw [hN]
  exact x_pay_l hp0 60 0 0 n _ _ (by omega) hn (by omega)
end
section
/-! Tree: new nodes, dropping, laying anew; printed by wip/whole/gen/tree3.py -/
theorem e_idiv {k pc : Nat} {r : sM} {cn : Option Nat} {ls rest : List Value} {h h2 : sHp} {v : Option Value} (hk : s_T k = some (r, cn)) {e : sE} {x y : Int32} (hat : s_at (s_cd r) pc = some e) (hi : e.2.1 = .idiv) (hy : ¬ y = 0) (kk : e_r k (pc + e.2.2.1) ls (.int (x / y) :: rest) h v h2) : e_r k pc ls (.int y :: .int x :: rest) h v h2 := by
  refine e_step (c := (pc + e.2.2.1, ls, .int (x / y) :: rest, h)) hk hat (by rw [hi]; rfl) (by rw [hi]; rfl) ?_ kk
  rw [hi]
  dsimp only [s_x]
  rw [if_neg hy]
/-- the nodes from q - k on move one place up, the last one first -/
def t_sh : Nat → Nat → (Nat → Nat → Int32) → Nat → Nat → Int32
  | 0, _, Z => Z
  | k + 1, q, Z => t_sh k (q - 1) (t_mv Z (q - 1) q)
def t_mt (Z : Nat → Nat → Int32) (p : Nat) (key value dep : Int32) : Nat → Nat → Int32 := s_upd (s_upd (s_upd (s_upd (s_upd (s_upd Z 5 6 (Z 5 6 + 1)) 9 p key) 11 p value) 13 p 0) 15 p dep) 17 p 1
def t_bf (D : Nat → Int32) : Nat → Int32
  | 0 => -1
  | q + 1 => D q
def t_bh (D : Nat → Int32) (n p : Nat) : Int32 := if p < n then D p else -1
def y_mx (a b : Int32) : Int32 := if a < b then b else a
def t_mk (Z : Nat → Nat → Int32) (n p : Nat) (key value : Int32) : Nat → Nat → Int32 := t_mt (t_sh (n - p) n Z) p key value (y_mx (t_bf (Z 15) p) (t_bh (Z 15) n p) + 1)
theorem x_make_l {P : Nat → Nat} {L : Nat} {p : Nat} {key value bf bh : Int32} (hp0 : p < 60) : ∀ (k q : Nat) (Z : Nat → Nat → Int32), q = p + k → q < 60 → e_r 50 48 [.ref 5, .int (nI p), .int key, .int value, .int bf, .int bh, .int (nI q)] [] (hp Z P L) none (hp (t_mt (t_sh k q Z) p key value ((if bf < bh then bh else bf) + 1)) P L)
  | 0, q, Z, hq, hq2 => by
    rw [t_sh, show nI q = nI p from by rw [show q = p by omega]]
    refine e_go hk_50 3 (c := (if s_cnd .le (nI p) (nI p) = true then 70 else 54, [.ref 5, .int (nI p), .int key, .int value, .int bf, .int bh, .int (nI p)], [], hp Z P L)) rfl ?_
    refine e_le (a := 70) (b := 54) (x := nI p) (y := nI p) (fun hc51 => ?_) (fun hc51 => absurd ((y_le (by omega) (by omega)).mpr (by omega)) hc51)
    refine e_go hk_50 10 (c := (86, [.ref 5, .int (nI p), .int key, .int value, .int bf, .int bh, .int (nI p)], [.int key, .int (nI p), .ref 8], hp (s_upd Z 5 6 ((Z 5 6) + 1)) P L)) rfl ?_
    refine e_call hk_50 (as := [.ref 8, .int (nI p), .int key]) (rest := []) rfl rfl hk_23 rfl (Nat.le_of_ble_eq_true rfl) rfl (x_write (r := 8) (a := 9) (n := 60) rfl rfl rfl (by decide) (by decide) (j := p) (by omega)) ?_
    show e_r 50 89 [.ref 5, .int (nI p), .int key, .int value, .int bf, .int bh, .int (nI p)] [] (hp (s_upd (s_upd Z 5 6 ((Z 5 6) + 1)) 9 p key) P L) _ _
    refine e_go hk_50 4 (c := (95, [.ref 5, .int (nI p), .int key, .int value, .int bf, .int bh, .int (nI p)], [.int value, .int (nI p), .ref 10], hp (s_upd (s_upd Z 5 6 ((Z 5 6) + 1)) 9 p key) P L)) rfl ?_
    refine e_call hk_50 (as := [.ref 10, .int (nI p), .int value]) (rest := []) rfl rfl hk_23 rfl (Nat.le_of_ble_eq_true rfl) rfl (x_write (r := 10) (a := 11) (n := 60) rfl rfl rfl (by decide) (by decide) (j := p) (by omega)) ?_
    show e_r 50 98 [.ref 5, .int (nI p), .int key, .int value, .int bf, .int bh, .int (nI p)] [] (hp (s_upd (s_upd (s_upd Z 5 6 ((Z 5 6) + 1)) 9 p key) 11 p value) P L) _ _
    refine e_go hk_50 4 (c := (104, [.ref 5, .int (nI p), .int key, .int value, .int bf, .int bh, .int (nI p)], [.int 0, .int (nI p), .ref 12], hp (s_upd (s_upd (s_upd Z 5 6 ((Z 5 6) + 1)) 9 p key) 11 p value) P L)) rfl ?_
    refine e_call hk_50 (as := [.ref 12, .int (nI p), .int 0]) (rest := []) rfl rfl hk_23 rfl (Nat.le_of_ble_eq_true rfl) rfl (x_write (r := 12) (a := 13) (n := 60) rfl rfl rfl (by decide) (by decide) (j := p) (by omega)) ?_
    show e_r 50 107 [.ref 5, .int (nI p), .int key, .int value, .int bf, .int bh, .int (nI p)] [] (hp (s_upd (s_upd (s_upd (s_upd Z 5 6 ((Z 5 6) + 1)) 9 p key) 11 p value) 13 p 0) P L) _ _
    refine e_go hk_50 8 (c := (121, [.ref 5, .int (nI p), .int key, .int value, .int bf, .int bh, .int (nI p)], [.int ((if bf < bh then bh else bf) + 1), .int (nI p), .ref 14], hp (s_upd (s_upd (s_upd (s_upd Z 5 6 ((Z 5 6) + 1)) 9 p key) 11 p value) 13 p 0) P L)) rfl ?_
    refine e_call hk_50 (as := [.ref 14, .int (nI p), .int ((if bf < bh then bh else bf) + 1)]) (rest := []) rfl rfl hk_23 rfl (Nat.le_of_ble_eq_true rfl) rfl (x_write (r := 14) (a := 15) (n := 60) rfl rfl rfl (by decide) (by decide) (j := p) (by omega)) ?_
    show e_r 50 124 [.ref 5, .int (nI p), .int key, .int value, .int bf, .int bh, .int (nI p)] [] (hp (s_upd (s_upd (s_upd (s_upd (s_upd Z 5 6 ((Z 5 6) + 1)) 9 p key) 11 p value) 13 p 0) 15 p ((if bf < bh then bh else bf) + 1)) P L) _ _
    refine e_go hk_50 4 (c := (130, [.ref 5, .int (nI p), .int key, .int value, .int bf, .int bh, .int (nI p)], [.int 1, .int (nI p), .ref 16], hp (s_upd (s_upd (s_upd (s_upd (s_upd Z 5 6 ((Z 5 6) + 1)) 9 p key) 11 p value) 13 p 0) 15 p ((if bf < bh then bh else bf) + 1)) P L)) rfl ?_
    refine e_call hk_50 (as := [.ref 16, .int (nI p), .int 1]) (rest := []) rfl rfl hk_23 rfl (Nat.le_of_ble_eq_true rfl) rfl (x_write (r := 16) (a := 17) (n := 60) rfl rfl rfl (by decide) (by decide) (j := p) (by omega)) ?_
    show e_r 50 133 [.ref 5, .int (nI p), .int key, .int value, .int bf, .int bh, .int (nI p)] [] (hp (s_upd (s_upd (s_upd (s_upd (s_upd (s_upd Z 5 6 ((Z 5 6) + 1)) 9 p key) 11 p value) 13 p 0) 15 p ((if bf < bh then bh else bf) + 1)) 17 p 1) P L) _ _
    exact e_ret hk_50 rfl rfl rfl rfl rfl
  | k + 1, q0, Z, hq, hq2 => by
    obtain ⟨q, rfl⟩ : ∃ z, q0 = z + 1 := ⟨p + k, by omega⟩
    rw [t_sh, Nat.add_sub_cancel]
    refine e_go hk_50 3 (c := (if s_cnd .le (nI (q + 1)) (nI p) = true then 70 else 54, [.ref 5, .int (nI p), .int key, .int value, .int bf, .int bh, .int (nI (q + 1))], [], hp Z P L)) rfl ?_
    refine e_le (a := 70) (b := 54) (x := nI (q + 1)) (y := nI p) (fun hc51 => absurd hc51 (nI_ge (by omega) (by omega))) (fun hc51 => ?_)
    refine e_go hk_50 5 (c := (61, [.ref 5, .int (nI p), .int key, .int value, .int bf, .int bh, .int (nI (q + 1))], [.int (nI (q + 1)), .int ((nI (q + 1)) - 1), .ref 5], hp Z P L)) rfl ?_
    rw [nI_pred]
    refine e_call hk_50 (as := [.ref 5, .int (nI q), .int (nI (q + 1))]) (rest := []) rfl rfl hk_51 rfl (Nat.le_of_ble_eq_true rfl) rfl (x_move (i := q) (j := q + 1) (by omega) (by omega)) ?_
    show e_r 50 64 [.ref 5, .int (nI p), .int key, .int value, .int bf, .int bh, .int (nI (q + 1))] [] (hp ((t_mv Z q (q + 1))) P L) _ _
    refine e_go hk_50 2 (c := (48, [.ref 5, .int (nI p), .int key, .int value, .int bf, .int bh, .int ((nI (q + 1)) + (-1))], [], hp ((t_mv Z q (q + 1))) P L)) rfl ?_
    rw [pk_m1]
    exact x_make_l hp0 k q _ (by omega) (by omega)
theorem x_make_0 {Z : Nat → Nat → Int32} {P : Nat → Nat} {L n : Nat} (hN : Z 5 6 = nI n) (hn : n ≤ 60)  {key value : Int32} (hn2 : n < 60) : m_r 50 [.ref 5, .int (nI 0), .int key, .int value] (hp Z P L) none (hp (t_mk Z n 0 key value) P L) := by
  refine m_of (ls := [.ref 5, .int (nI 0), .int key, .int value, s_no, s_no, s_no]) hk_50 rfl rfl rfl ?_
  refine e_go hk_50 2 (c := (if s_cnd .le (nI 0) 0 = true then 17 else 4, [.ref 5, .int (nI 0), .int key, .int value, s_no, s_no, s_no], [], hp Z P L)) rfl ?_
  refine e_le (a := 17) (b := 4) (x := nI 0) (y := 0) (fun hc1 => ?_) (fun hc1 => absurd (by decide) hc1)
  refine e_go hk_50 6 (c := (if s_cnd .ge (nI 0) (Z 5 6) = true then 39 else 28, [.ref 5, .int (nI 0), .int key, .int value, .int ((-1)), s_no, s_no], [], hp Z P L)) rfl ?_
  refine e_ge (a := 39) (b := 28) (x := nI 0) (y := Z 5 6) (fun hc25 => ?_) (fun hc25 => ?_)
  · skip
    rw [hN, y_le (by omega) (by omega)] at hc25
    rw [t_mk, t_bh, if_neg (show ¬ 0 < n by omega)]
    refine e_go hk_50 5 (c := (48, [.ref 5, .int (nI 0), .int key, .int value, .int ((-1)), .int ((-1)), .int (Z 5 6)], [], hp Z P L)) rfl ?_
    rw [hN]
    exact x_make_l (by omega) (n - 0) n _ (by omega) (by omega)
  · skip
    rw [hN, y_le (by omega) (by omega)] at hc25
    rw [t_mk, t_bh, if_pos (show 0 < n by omega)]
    refine e_go hk_50 3 (c := (33, [.ref 5, .int (nI 0), .int key, .int value, .int ((-1)), s_no, s_no], [.int (nI 0), .ref 14], hp Z P L)) rfl ?_
    refine e_call hk_50 (as := [.ref 14, .int (nI 0)]) (rest := []) rfl rfl hk_22 rfl (Nat.le_of_ble_eq_true rfl) rfl (x_at (r := 14) (a := 15) (n := 60) rfl rfl rfl (by decide) (j := 0) (by decide)) ?_
    show e_r 50 36 [.ref 5, .int (nI 0), .int key, .int value, .int ((-1)), s_no, s_no] [.int (Z 15 0)] (hp Z P L) _ _
    refine e_go hk_50 5 (c := (48, [.ref 5, .int (nI 0), .int key, .int value, .int ((-1)), .int (Z 15 0), .int (Z 5 6)], [], hp Z P L)) rfl ?_
    rw [hN]
    exact x_make_l (by omega) (n - 0) n _ (by omega) (by omega)
theorem x_make_s {Z : Nat → Nat → Int32} {P : Nat → Nat} {L n : Nat} (hN : Z 5 6 = nI n) (hn : n ≤ 60) {q : Nat} (hp0 : q + 1 ≤ n) {key value : Int32} (hn2 : n < 60) : m_r 50 [.ref 5, .int (nI ((q + 1))), .int key, .int value] (hp Z P L) none (hp (t_mk Z n ((q + 1)) key value) P L) := by
  refine m_of (ls := [.ref 5, .int (nI ((q + 1))), .int key, .int value, s_no, s_no, s_no]) hk_50 rfl rfl rfl ?_
  refine e_go hk_50 2 (c := (if s_cnd .le (nI ((q + 1))) 0 = true then 17 else 4, [.ref 5, .int (nI ((q + 1))), .int key, .int value, s_no, s_no, s_no], [], hp Z P L)) rfl ?_
  refine e_le (a := 17) (b := 4) (x := nI ((q + 1))) (y := 0) (fun hc1 => absurd hc1 (nI_nle (by omega) (by omega))) (fun hc1 => ?_)
  refine e_go hk_50 5 (c := (11, [.ref 5, .int (nI ((q + 1))), .int key, .int value, s_no, s_no, s_no], [.int ((nI ((q + 1))) - 1), .ref 14], hp Z P L)) rfl ?_
  rw [nI_pred]
  refine e_call hk_50 (as := [.ref 14, .int (nI q)]) (rest := []) rfl rfl hk_22 rfl (Nat.le_of_ble_eq_true rfl) rfl (x_at (r := 14) (a := 15) (n := 60) rfl rfl rfl (by decide) (j := q) (by omega)) ?_
  show e_r 50 14 [.ref 5, .int (nI ((q + 1))), .int key, .int value, s_no, s_no, s_no] [.int (Z 15 q)] (hp Z P L) _ _
  refine e_go hk_50 6 (c := (if s_cnd .ge (nI ((q + 1))) (Z 5 6) = true then 39 else 28, [.ref 5, .int (nI ((q + 1))), .int key, .int value, .int (Z 15 q), s_no, s_no], [], hp Z P L)) rfl ?_
  refine e_ge (a := 39) (b := 28) (x := nI ((q + 1))) (y := Z 5 6) (fun hc25 => ?_) (fun hc25 => ?_)
  · skip
    rw [hN, y_le (by omega) (by omega)] at hc25
    rw [t_mk, t_bh, if_neg (show ¬ (q + 1) < n by omega)]
    refine e_go hk_50 5 (c := (48, [.ref 5, .int (nI ((q + 1))), .int key, .int value, .int (Z 15 q), .int ((-1)), .int (Z 5 6)], [], hp Z P L)) rfl ?_
    rw [hN]
    exact x_make_l (by omega) (n - ((q + 1))) n _ (by omega) (by omega)
  · skip
    rw [hN, y_le (by omega) (by omega)] at hc25
    rw [t_mk, t_bh, if_pos (show (q + 1) < n by omega)]
    refine e_go hk_50 3 (c := (33, [.ref 5, .int (nI ((q + 1))), .int key, .int value, .int (Z 15 q), s_no, s_no], [.int (nI ((q + 1))), .ref 14], hp Z P L)) rfl ?_
    refine e_call hk_50 (as := [.ref 14, .int (nI ((q + 1)))]) (rest := []) rfl rfl hk_22 rfl (Nat.le_of_ble_eq_true rfl) rfl (x_at (r := 14) (a := 15) (n := 60) rfl rfl rfl (by decide) (j := (q + 1)) (by omega)) ?_
    show e_r 50 36 [.ref 5, .int (nI ((q + 1))), .int key, .int value, .int (Z 15 q), s_no, s_no] [.int (Z 15 ((q + 1)))] (hp Z P L) _ _
    refine e_go hk_50 5 (c := (48, [.ref 5, .int (nI ((q + 1))), .int key, .int value, .int (Z 15 q), .int (Z 15 ((q + 1))), .int (Z 5 6)], [], hp Z P L)) rfl ?_
    rw [hN]
    exact x_make_l (by omega) (n - ((q + 1))) n _ (by omega) (by omega)
theorem x_make {Z : Nat → Nat → Int32} {P : Nat → Nat} {L n : Nat} (hN : Z 5 6 = nI n) (hn : n ≤ 60) {p : Nat} (hp0 : p ≤ n) {key value : Int32} (hn2 : n < 60) : m_r 50 [.ref 5, .int (nI p), .int key, .int value] (hp Z P L) none (hp (t_mk Z n p key value) P L) := by
  cases p with
  | zero => exact x_make_0 hN hn hn2
  | succ q => exact x_make_s hN hn hp0 hn2
/-- the hollow ones of the places up to hi are dropped: from place i on, to place q -/
def t_dh (hi : Nat) : Nat → Nat → Nat → (Nat → Nat → Int32) → Nat → Nat → Int32
  | 0, _, q, Z => s_upd Z 5 6 (nI q)
  | k + 1, i, q, Z => if hi < i ∨ Z 17 i = 1 then t_dh hi k (i + 1) (q + 1) (t_mv Z i q) else t_dh hi k (i + 1) q Z
theorem x_drop_l {P : Nat → Nat} {L n : Nat} (hn : n ≤ 60) {hi : Nat} {low : Int32} (hh : hi < 60) : ∀ (k i q : Nat) (Z : Nat → Nat → Int32), Z 5 6 = nI n → i + k = n → q ≤ i → e_r 54 5 [.ref 5, .int low, .int (nI hi), .int (nI q), .int (nI i)] [] (hp Z P L) none (hp (t_dh hi k i q Z) P L)
  | 0, i, q, Z, hZ, hi2, hqi => by
    refine e_go hk_54 4 (c := (if s_cnd .ge (nI i) (Z 5 6) = true then 45 else 14, [.ref 5, .int low, .int (nI hi), .int (nI q), .int (nI i)], [], hp Z P L)) rfl ?_
    refine e_ge (a := 45) (b := 14) (x := nI i) (y := Z 5 6) (fun hc11 => ?_) (fun hc11 => absurd (by rw [hZ]; exact (y_le (by omega) (by omega)).mpr (by omega)) hc11)
    refine e_go hk_54 3 (c := (50, [.ref 5, .int low, .int (nI hi), .int (nI q), .int (nI i)], [], hp (s_upd Z 5 6 (nI q)) P L)) rfl ?_
    exact e_ret hk_54 rfl rfl rfl rfl rfl
  | k + 1, i, q, Z, hZ, hi2, hqi => by
    refine e_go hk_54 4 (c := (if s_cnd .ge (nI i) (Z 5 6) = true then 45 else 14, [.ref 5, .int low, .int (nI hi), .int (nI q), .int (nI i)], [], hp Z P L)) rfl ?_
    refine e_ge (a := 45) (b := 14) (x := nI i) (y := Z 5 6) (fun hc11 => absurd hc11 (by rw [hZ]; exact nI_ge (by omega) (by omega))) (fun hc11 => ?_)
    refine e_go hk_54 3 (c := (if s_cnd .gt (nI i) (nI hi) = true then 29 else 20, [.ref 5, .int low, .int (nI hi), .int (nI q), .int (nI i)], [], hp Z P L)) rfl ?_
    refine e_gt (a := 29) (b := 20) (x := nI i) (y := nI hi) (fun hc17 => ?_) (fun hc17 => ?_)
    · skip
      rw [y_lt (by omega) (by omega)] at hc17
      refine e_go hk_54 3 (c := (33, [.ref 5, .int low, .int (nI hi), .int (nI q), .int (nI i)], [.int (nI q), .int (nI i), .ref 5], hp Z P L)) rfl ?_
      refine e_call hk_54 (as := [.ref 5, .int (nI i), .int (nI q)]) (rest := []) rfl rfl hk_51 rfl (Nat.le_of_ble_eq_true rfl) rfl (x_move (i := i) (j := q) (by omega) (by omega)) ?_
      show e_r 54 36 [.ref 5, .int low, .int (nI hi), .int (nI q), .int (nI i)] [] (hp ((t_mv Z i q)) P L) _ _
      refine e_go hk_54 3 (c := (5, [.ref 5, .int low, .int (nI hi), .int ((nI q) + 1), .int ((nI i) + 1)], [], hp ((t_mv Z i q)) P L)) rfl ?_
      rw [t_dh, if_pos (Or.inl (show hi < i by omega)), nI_1 q, nI_1 i]
      exact x_drop_l hn hh k (i + 1) (q + 1) _ hZ (by omega) (by omega)
    · skip
      rw [y_lt (by omega) (by omega)] at hc17
      refine e_go hk_54 2 (c := (23, [.ref 5, .int low, .int (nI hi), .int (nI q), .int (nI i)], [.int (nI i), .ref 5], hp Z P L)) rfl ?_
      refine e_call hk_54 (as := [.ref 5, .int (nI i)]) (rest := []) rfl rfl hk_33 rfl (Nat.le_of_ble_eq_true rfl) rfl (x_isfull (j := i) (by omega)) ?_
      show e_r 54 26 [.ref 5, .int low, .int (nI hi), .int (nI q), .int (nI i)] [.int (y_b (decide (Z 17 i = 1)))] (hp Z P L) _ _
      refine e_go hk_54 1 (c := (if s_cnd .eq (y_b (decide (Z 17 i = 1))) 0 = true then 39 else 29, [.ref 5, .int low, .int (nI hi), .int (nI q), .int (nI i)], [], hp Z P L)) rfl ?_
      refine e_eq (a := 39) (b := 29) (x := y_b (decide (Z 17 i = 1))) (y := 0) (fun hc26 => ?_) (fun hc26 => ?_)
      · skip
        rw [y_b0, decide_eq_false_iff_not] at hc26
        refine e_go hk_54 2 (c := (5, [.ref 5, .int low, .int (nI hi), .int (nI q), .int ((nI i) + 1)], [], hp Z P L)) rfl ?_
        rw [t_dh, if_neg (show ¬ (hi < i ∨ Z 17 i = 1) from fun z => z.elim (by omega) hc26), nI_1 i]
        exact x_drop_l hn hh k (i + 1) q _ hZ (by omega) (by omega)
      · skip
        rw [y_b1, decide_eq_true_eq] at hc26
        refine e_go hk_54 3 (c := (33, [.ref 5, .int low, .int (nI hi), .int (nI q), .int (nI i)], [.int (nI q), .int (nI i), .ref 5], hp Z P L)) rfl ?_
        refine e_call hk_54 (as := [.ref 5, .int (nI i), .int (nI q)]) (rest := []) rfl rfl hk_51 rfl (Nat.le_of_ble_eq_true rfl) rfl (x_move (i := i) (j := q) (by omega) (by omega)) ?_
        show e_r 54 36 [.ref 5, .int low, .int (nI hi), .int (nI q), .int (nI i)] [] (hp ((t_mv Z i q)) P L) _ _
        refine e_go hk_54 3 (c := (5, [.ref 5, .int low, .int (nI hi), .int ((nI q) + 1), .int ((nI i) + 1)], [], hp ((t_mv Z i q)) P L)) rfl ?_
        rw [t_dh, if_pos (Or.inr hc26), nI_1 q, nI_1 i]
        exact x_drop_l hn hh k (i + 1) (q + 1) _ hZ (by omega) (by omega)
theorem x_drop {Z : Nat → Nat → Int32} {P : Nat → Nat} {L n : Nat} (hN : Z 5 6 = nI n) (hn : n ≤ 60) {l hi : Nat} (hl : l ≤ n) (hh : hi < 60) : m_r 54 [.ref 5, .int (nI l), .int (nI hi)] (hp Z P L) none (hp (t_dh hi (n - l) l l Z) P L) := by
  refine m_of (ls := [.ref 5, .int (nI l), .int (nI hi), s_no, s_no]) hk_54 rfl rfl rfl ?_
  refine e_go hk_54 4 (c := (5, [.ref 5, .int (nI l), .int (nI hi), .int (nI l), .int (nI l)], [], hp Z P L)) rfl ?_
  exact x_drop_l hn hh (n - l) l l _ hN (by omega) (Nat.le_refl _)
def t_dl (x : Nat) : Nat → Nat → Nat → Nat → Nat
  | 0, _, _, d => d
  | k + 1, l, u, d => if u ≤ l + 1 then d else if x = l + (u - 1 - l) / 2 then d else if l + (u - 1 - l) / 2 < x then t_dl x k (l + (u - 1 - l) / 2 + 1) u (d + 1) else t_dl x k l (l + (u - 1 - l) / 2) (d + 1)
def t_de (x c : Nat) : Nat := t_dl x c 0 c 0
theorem y_mid {l v : Nat} (h : l ≤ v) (hv : v < 2 ^ 30) : nI l + (nI v - nI l) / 2 = nI (l + (v - l) / 2) := by
  rw [pk_sub h, show (2 : Int32) = nI 2 from rfl, pk_div (by omega) (by omega) (by omega), nI_add]
theorem y_eqI {a b : Nat} (ha : a < 2 ^ 31) (hb : b < 2 ^ 31) : nI a = nI b ↔ a = b := nI_eq ha hb
theorem x_even_l {Z : Nat → Nat → Int32} {P : Nat → Nat} {L : Nat} {x c : Nat} (hc : c ≤ 60) (hx : x ≤ 60) : ∀ (k l u d : Nat) (y5 : Value), d + k = c → u ≤ 60 → l ≤ 60 → e_r 55 9 [.int (nI x), .int (nI c), .int (nI l), .int (nI u - 1), .int (nI d), y5] [] (hp Z P L) (some (.int (nI (t_dl x k l u d)))) (hp Z P L)
  | 0, l, u, d, y5, hd, hu, hl => by
    refine e_go hk_55 3 (c := (if s_cnd .ge (nI l) (nI u - 1) = true then 74 else 14, [.int (nI x), .int (nI c), .int (nI l), .int (nI u - 1), .int (nI d), y5], [], hp Z P L)) rfl ?_
    refine e_ge (a := 74) (b := 14) (x := nI l) (y := nI u - 1) (fun hc11 => ?_) (fun hc11 => ?_)
    · skip
      refine e_go hk_55 1 (c := (76, [.int (nI x), .int (nI c), .int (nI l), .int (nI u - 1), .int (nI d), y5], [.int (nI d)], hp Z P L)) rfl ?_
      exact e_ret hk_55 rfl rfl rfl rfl rfl
    · skip
      refine e_go hk_55 3 (c := (if s_cnd .ge (nI d) (nI c) = true then 74 else 20, [.int (nI x), .int (nI c), .int (nI l), .int (nI u - 1), .int (nI d), y5], [], hp Z P L)) rfl ?_
      refine e_ge (a := 74) (b := 20) (x := nI d) (y := nI c) (fun hc17 => ?_) (fun hc17 => absurd ((y_le (by omega) (by omega)).mpr (by omega)) hc17)
      refine e_go hk_55 1 (c := (76, [.int (nI x), .int (nI c), .int (nI l), .int (nI u - 1), .int (nI d), y5], [.int (nI d)], hp Z P L)) rfl ?_
      exact e_ret hk_55 rfl rfl rfl rfl rfl
  | k + 1, l, u, d, y5, hd, hu, hl => by
    refine e_go hk_55 3 (c := (if s_cnd .ge (nI l) (nI u - 1) = true then 74 else 14, [.int (nI x), .int (nI c), .int (nI l), .int (nI u - 1), .int (nI d), y5], [], hp Z P L)) rfl ?_
    refine e_ge (a := 74) (b := 14) (x := nI l) (y := nI u - 1) (fun hc11 => ?_) (fun hc11 => ?_)
    · skip
      have hul : u ≤ l + 1 := (y_m1le (by omega) (by omega)).mp hc11
      rw [t_dl, if_pos hul]
      refine e_go hk_55 1 (c := (76, [.int (nI x), .int (nI c), .int (nI l), .int (nI u - 1), .int (nI d), y5], [.int (nI d)], hp Z P L)) rfl ?_
      exact e_ret hk_55 rfl rfl rfl rfl rfl
    · skip
      have hul : ¬ u ≤ l + 1 := fun z => hc11 ((y_m1le (by omega) (by omega)).mpr z)
      rw [t_dl, if_neg hul]
      refine e_go hk_55 3 (c := (if s_cnd .ge (nI d) (nI c) = true then 74 else 20, [.int (nI x), .int (nI c), .int (nI l), .int (nI u - 1), .int (nI d), y5], [], hp Z P L)) rfl ?_
      refine e_ge (a := 74) (b := 20) (x := nI d) (y := nI c) (fun hc17 => absurd hc17 (nI_ge (by omega) (by omega))) (fun hc17 => ?_)
      rw [y_m1s (u := u) (by omega)]
      refine e_go hk_55 5 (c := (25, [.int (nI x), .int (nI c), .int (nI l), .int (nI (u - 1)), .int (nI d), y5], [.int 2, .int ((nI (u - 1)) - (nI l)), .int (nI l)], hp Z P L)) rfl ?_
      refine e_idiv hk_55 (x := (nI (u - 1)) - (nI l)) (y := 2) rfl rfl (by decide) ?_
      show e_r 55 26 [.int (nI x), .int (nI c), .int (nI l), .int (nI (u - 1)), .int (nI d), y5] [.int (((nI (u - 1)) - (nI l)) / 2), .int (nI l)] (hp Z P L) _ _
      refine e_go hk_55 1 (c := (27, [.int (nI x), .int (nI c), .int (nI l), .int (nI (u - 1)), .int (nI d), y5], [.int ((nI l) + (((nI (u - 1)) - (nI l)) / 2))], hp Z P L)) rfl ?_
      rw [y_mid (by omega) (by omega)]
      generalize hm : l + (u - 1 - l) / 2 = g
      refine e_go hk_55 4 (c := (if s_cnd .ne (nI x) (nI g) = true then 38 else 35, [.int (nI x), .int (nI c), .int (nI l), .int (nI (u - 1)), .int (nI d), .int (nI g)], [], hp Z P L)) rfl ?_
      refine e_ne (a := 38) (b := 35) (x := nI x) (y := nI g) (fun hc32 => ?_) (fun hc32 => ?_)
      · skip
        have hc32 : ¬ x = g := fun z => hc32 (by rw [z])
        refine e_go hk_55 3 (c := (if s_cnd .le (nI x) (nI g) = true then 51 else 44, [.int (nI x), .int (nI c), .int (nI l), .int (nI (u - 1)), .int (nI d), .int (nI g)], [], hp Z P L)) rfl ?_
        refine e_le (a := 51) (b := 44) (x := nI x) (y := nI g) (fun hc41 => ?_) (fun hc41 => ?_)
        · skip
          rw [y_le (by omega) (by omega)] at hc41
          refine e_go hk_55 5 (c := (if s_cnd .ge (nI x) (nI g) = true then 66 else 59, [.int (nI x), .int (nI c), .int (nI l), .int (nI (u - 1)), .int (nI d), .int (nI g)], [], hp Z P L)) rfl ?_
          refine e_ge (a := 66) (b := 59) (x := nI x) (y := nI g) (fun hc56 => absurd hc56 (nI_ge (by omega) (by omega))) (fun hc56 => ?_)
          refine e_go hk_55 7 (c := (9, [.int (nI x), .int (nI c), .int (nI l), .int ((nI g) - 1), .int ((nI d) + 1), .int (nI g)], [], hp Z P L)) rfl ?_
          rw [if_neg (show ¬ x = g by omega), if_neg (show ¬ g < x by omega), nI_1 d]
          exact x_even_l hc hx k l g (d + 1) _ (by omega) (by omega) (by omega)
        · skip
          rw [y_le (by omega) (by omega)] at hc41
          refine e_go hk_55 8 (c := (if s_cnd .ge (nI x) (nI g) = true then 66 else 59, [.int (nI x), .int (nI c), .int ((nI g) + 1), .int (nI (u - 1)), .int (nI d), .int (nI g)], [], hp Z P L)) rfl ?_
          refine e_ge (a := 66) (b := 59) (x := nI x) (y := nI g) (fun hc56 => ?_) (fun hc56 => absurd ((y_le (by omega) (by omega)).mpr (by omega)) hc56)
          refine e_go hk_55 4 (c := (9, [.int (nI x), .int (nI c), .int ((nI g) + 1), .int (nI (u - 1)), .int ((nI d) + 1), .int (nI g)], [], hp Z P L)) rfl ?_
          rw [if_neg (show ¬ x = g by omega), if_pos (show g < x by omega), nI_1 d, nI_1 g, ← y_m1s (u := u) (by omega)]
          exact x_even_l hc hx k (g + 1) u (d + 1) _ (by omega) (by omega) (by omega)
      · skip
        rw [y_eqI (by omega) (by omega)] at hc32
        refine e_go hk_55 1 (c := (37, [.int (nI x), .int (nI c), .int (nI l), .int (nI (u - 1)), .int (nI d), .int (nI g)], [.int (nI d)], hp Z P L)) rfl ?_
        exact e_ret hk_55 rfl rfl rfl (by rw [if_pos hc32]) rfl
theorem x_even {Z : Nat → Nat → Int32} {P : Nat → Nat} {L : Nat} {x c : Nat} (hc : c ≤ 60) (hx : x ≤ 60) : m_r 55 [.int (nI x), .int (nI c)] (hp Z P L) (some (.int (nI (t_de x c)))) (hp Z P L) := by
  refine m_of (ls := [.int (nI x), .int (nI c), s_no, s_no, s_no, s_no]) hk_55 rfl rfl rfl ?_
  refine e_go hk_55 8 (c := (9, [.int (nI x), .int (nI c), .int 0, .int ((nI c) - 1), .int 0, s_no], [], hp Z P L)) rfl ?_
  exact x_even_l hc hx c 0 c 0 _ (by omega) hc (by omega)
end
section
/-! Tree: laying anew, entering, hollowing out; printed by wip/whole/gen/tree4.py -/
def t_ct (F : Nat → Int32) : Nat → Nat → Nat
  | _, 0 => 0
  | i, k + 1 => (if F i = 1 then 1 else 0) + t_ct F (i + 1) k
theorem t_ct_le (F : Nat → Int32) : ∀ k i, t_ct F i k ≤ k
  | 0, i => Nat.le_refl _
  | k + 1, i => by
    unfold t_ct
    have := t_ct_le F k (i + 1)
    split <;> omega
theorem t_sm_ct {F : Nat → Int32} : ∀ (k i m : Nat), (∀ j, i ≤ j → j < i + k → F j = 0 ∨ F j = 1) → t_sm F i k (nI m) = nI (m + t_ct F i k)
  | 0, i, m, h => rfl
  | k + 1, i, m, h => by
    rw [t_sm, t_ct]
    rcases h i (Nat.le_refl _) (by omega) with z | z
    · rw [z, if_neg (by decide), show nI m + 0 = nI m from Int32.add_zero _, t_sm_ct k (i + 1) m (fun j a b => h j (by omega) (by omega)), Nat.zero_add]
    · rw [z, if_pos rfl, nI_1, t_sm_ct k (i + 1) (m + 1) (fun j a b => h j (by omega) (by omega)), Nat.add_assoc]
theorem t_sm_c0 {F : Nat → Int32} {k i : Nat} (h : ∀ j, i ≤ j → j < i + k → F j = 0 ∨ F j = 1) : t_sm F i k 0 = nI (t_ct F i k) := by
  have := t_sm_ct k i 0 h
  rwa [Nat.zero_add] at this
/-- depths laid evenly, nothing paid: from the i-th on -/
def t_ly (lo c : Nat) (dep : Int32) : Nat → Nat → (Nat → Nat → Int32) → Nat → Nat → Int32
  | 0, _, Z => Z
  | k + 1, i, Z => t_ly lo c dep k (i + 1) (s_upd (s_upd Z 15 (lo + i) (dep + nI (t_de i c))) 13 (lo + i) 0)
def t_wt (Z : Nat → Nat → Int32) (n j : Nat) : Int32 := nI (t_H Z n j) - nI (t_L Z j) + 1
def t_la (Z : Nat → Nat → Int32) (n j : Nat) : Nat → Nat → Int32 := t_ly (t_L Z j) (t_ct (Z 17) (t_L Z j) (t_H Z n j + 1 - t_L Z j)) (Z 15 j) (t_ct (Z 17) (t_L Z j) (t_H Z n j + 1 - t_L Z j)) 0 (t_dh (t_H Z n j) (n - t_L Z j) (t_L Z j) (t_L Z j) (t_sp Z (t_sm (Z 13) (t_L Z j) (t_H Z n j + 1 - t_L Z j) 0) (t_wt Z n j)))
theorem x_total2 {r a n : Nat} {h : sHp} (h1 : s_nth h.2.2 r = some (0, 3)) (h2 : h.2.1 r 0 = some a) (h3 : s_nth h.2.2 a = some (1, n)) (hn : n < 2 ^ 31) {l u : Nat} (hl : l ≤ u + 1) (hu : u < n) : m_r 25 [.ref r, .int (nI l), .int (nI u)] h (some (.int (t_sm (h.1 a) l (u + 1 - l) 0))) h := by
  rw [show nI u = nI (u + 1) - 1 from (nI_pred u).symm]
  exact x_total h1 h2 h3 hn hl hu
theorem x_lay_l {P : Nat → Nat} {L : Nat} {lo c : Nat} {j hi dep wt : Int32} (hlc : lo + c ≤ 60) : ∀ (k i : Nat) (Z : Nat → Nat → Int32), i + k = c → e_r 52 64 [.ref 5, .int j, .int (nI lo), .int hi, .int dep, .int wt, .int (nI c), .int (nI i)] [] (hp Z P L) (some (.int wt)) (hp (t_ly lo c dep k i Z) P L)
  | 0, i, Z, hi2 => by
    refine e_go hk_52 3 (c := (if s_cnd .ge (nI i) (nI c) = true then 110 else 71, [.ref 5, .int j, .int (nI lo), .int hi, .int dep, .int wt, .int (nI c), .int (nI i)], [], hp Z P L)) rfl ?_
    refine e_ge (a := 110) (b := 71) (x := nI i) (y := nI c) (fun hc68 => ?_) (fun hc68 => absurd ((y_le (by omega) (by omega)).mpr (by omega)) hc68)
    refine e_go hk_52 1 (c := (112, [.ref 5, .int j, .int (nI lo), .int hi, .int dep, .int wt, .int (nI c), .int (nI i)], [.int wt], hp Z P L)) rfl ?_
    exact e_ret hk_52 rfl rfl rfl rfl rfl
  | k + 1, i, Z, hi2 => by
    refine e_go hk_52 3 (c := (if s_cnd .ge (nI i) (nI c) = true then 110 else 71, [.ref 5, .int j, .int (nI lo), .int hi, .int dep, .int wt, .int (nI c), .int (nI i)], [], hp Z P L)) rfl ?_
    refine e_ge (a := 110) (b := 71) (x := nI i) (y := nI c) (fun hc68 => absurd hc68 (nI_ge (by omega) (by omega))) (fun hc68 => ?_)
    refine e_go hk_52 8 (c := (85, [.ref 5, .int j, .int (nI lo), .int hi, .int dep, .int wt, .int (nI c), .int (nI i)], [.int (nI c), .int (nI i), .int dep, .int ((nI lo) + (nI i)), .ref 14], hp Z P L)) rfl ?_
    refine e_call hk_52 (as := [.int (nI i), .int (nI c)]) (rest := [.int dep, .int ((nI lo) + (nI i)), .ref 14]) rfl rfl hk_55 rfl (Nat.le_of_ble_eq_true rfl) rfl (x_even (x := i) (c := c) (by omega) (by omega)) ?_
    show e_r 52 88 [.ref 5, .int j, .int (nI lo), .int hi, .int dep, .int wt, .int (nI c), .int (nI i)] [.int (nI (t_de i c)), .int dep, .int ((nI lo) + (nI i)), .ref 14] (hp Z P L) _ _
    refine e_go hk_52 1 (c := (89, [.ref 5, .int j, .int (nI lo), .int hi, .int dep, .int wt, .int (nI c), .int (nI i)], [.int (dep + (nI (t_de i c))), .int ((nI lo) + (nI i)), .ref 14], hp Z P L)) rfl ?_
    rw [nI_add lo i]
    refine e_call hk_52 (as := [.ref 14, .int (nI (lo + i)), .int (dep + (nI (t_de i c)))]) (rest := []) rfl rfl hk_23 rfl (Nat.le_of_ble_eq_true rfl) rfl (x_write (r := 14) (a := 15) (n := 60) rfl rfl rfl (by decide) (by decide) (j := lo + i) (by omega)) ?_
    show e_r 52 92 [.ref 5, .int j, .int (nI lo), .int hi, .int dep, .int wt, .int (nI c), .int (nI i)] [] (hp (s_upd Z 15 ((lo + i)) (dep + (nI (t_de i c)))) P L) _ _
    refine e_go hk_52 6 (c := (101, [.ref 5, .int j, .int (nI lo), .int hi, .int dep, .int wt, .int (nI c), .int (nI i)], [.int 0, .int ((nI lo) + (nI i)), .ref 12], hp (s_upd Z 15 ((lo + i)) (dep + (nI (t_de i c)))) P L)) rfl ?_
    rw [nI_add lo i]
    refine e_call hk_52 (as := [.ref 12, .int (nI (lo + i)), .int 0]) (rest := []) rfl rfl hk_23 rfl (Nat.le_of_ble_eq_true rfl) rfl (x_write (r := 12) (a := 13) (n := 60) rfl rfl rfl (by decide) (by decide) (j := lo + i) (by omega)) ?_
    show e_r 52 104 [.ref 5, .int j, .int (nI lo), .int hi, .int dep, .int wt, .int (nI c), .int (nI i)] [] (hp (s_upd (s_upd Z 15 ((lo + i)) (dep + (nI (t_de i c)))) 13 ((lo + i)) 0) P L) _ _
    refine e_go hk_52 2 (c := (64, [.ref 5, .int j, .int (nI lo), .int hi, .int dep, .int wt, .int (nI c), .int ((nI i) + 1)], [], hp (s_upd (s_upd Z 15 ((lo + i)) (dep + (nI (t_de i c)))) 13 ((lo + i)) 0) P L)) rfl ?_
    rw [nI_1 i]
    exact x_lay_l hlc k (i + 1) _ (by omega)
theorem x_lay {Z : Nat → Nat → Int32} {P : Nat → Nat} {L n : Nat} (hN : Z 5 6 = nI n) (hn : n ≤ 60) (hF : ∀ i, i < n → Z 17 i = 0 ∨ Z 17 i = 1) {j : Nat} (hj : j < n) : m_r 52 [.ref 5, .int (nI j)] (hp Z P L) (some (.int (t_wt Z n j))) (hp (t_la Z n j) P L) := by
  have hlo : t_L Z j ≤ j := t_lo_le (Z 15) (Z 15 j) j
  have hhi : j ≤ t_H Z n j ∧ t_H Z n j ≤ j + (n - 1 - j) := t_hi_le (Z 15) (Z 15 j) (n - 1 - j) j
  have hct := t_ct_le (Z 17) (t_H Z n j + 1 - t_L Z j) (t_L Z j)
  have hsm : t_sm (Z 17) (t_L Z j) (t_H Z n j + 1 - t_L Z j) 0 = nI (t_ct (Z 17) (t_L Z j) (t_H Z n j + 1 - t_L Z j)) := t_sm_c0 (fun i a b => hF i (by omega))
  unfold t_la t_wt
  generalize hE : t_ct (Z 17) (t_L Z j) (t_H Z n j + 1 - t_L Z j) = c at *
  generalize hA : t_L Z j = lo at *
  generalize hB : t_H Z n j = hi at *
  refine m_of (ls := [.ref 5, .int (nI j), s_no, s_no, s_no, s_no, s_no, s_no]) hk_52 rfl rfl rfl ?_
  refine e_go hk_52 2 (c := (2, [.ref 5, .int (nI j), s_no, s_no, s_no, s_no, s_no, s_no], [.int (nI j), .ref 5], hp Z P L)) rfl ?_
  refine e_call hk_52 (as := [.ref 5, .int (nI j)]) (rest := []) rfl rfl hk_37 rfl (Nat.le_of_ble_eq_true rfl) rfl (show m_r 37 [.ref 5, .int (nI j)] (hp Z P L) (some (.int (nI lo))) (hp Z P L) from (by rw [← hA]; exact x_low (by omega))) ?_
  show e_r 52 5 [.ref 5, .int (nI j), s_no, s_no, s_no, s_no, s_no, s_no] [.int (nI lo)] (hp Z P L) _ _
  refine e_go hk_52 3 (c := (8, [.ref 5, .int (nI j), .int (nI lo), s_no, s_no, s_no, s_no, s_no], [.int (nI j), .ref 5], hp Z P L)) rfl ?_
  refine e_call hk_52 (as := [.ref 5, .int (nI j)]) (rest := []) rfl rfl hk_38 rfl (Nat.le_of_ble_eq_true rfl) rfl (show m_r 38 [.ref 5, .int (nI j)] (hp Z P L) (some (.int (nI hi))) (hp Z P L) from (by rw [← hB]; exact x_high hN hn hj)) ?_
  show e_r 52 11 [.ref 5, .int (nI j), .int (nI lo), s_no, s_no, s_no, s_no, s_no] [.int (nI hi)] (hp Z P L) _ _
  refine e_go hk_52 4 (c := (17, [.ref 5, .int (nI j), .int (nI lo), .int (nI hi), s_no, s_no, s_no, s_no], [.int (nI j), .ref 14], hp Z P L)) rfl ?_
  refine e_call hk_52 (as := [.ref 14, .int (nI j)]) (rest := []) rfl rfl hk_22 rfl (Nat.le_of_ble_eq_true rfl) rfl (x_at (r := 14) (a := 15) (n := 60) rfl rfl rfl (by decide) (j := j) (by omega)) ?_
  show e_r 52 20 [.ref 5, .int (nI j), .int (nI lo), .int (nI hi), s_no, s_no, s_no, s_no] [.int (Z 15 j)] (hp Z P L) _ _
  refine e_go hk_52 12 (c := (36, [.ref 5, .int (nI j), .int (nI lo), .int (nI hi), .int (Z 15 j), .int (((nI hi) - (nI lo)) + 1), s_no, s_no], [.int (nI hi), .int (nI lo), .ref 12, .ref 5], hp Z P L)) rfl ?_
  refine e_call hk_52 (as := [.ref 12, .int (nI lo), .int (nI hi)]) (rest := [.ref 5]) rfl rfl hk_25 rfl (Nat.le_of_ble_eq_true rfl) rfl (x_total2 (r := 12) (a := 13) (n := 60) rfl rfl rfl (by decide) (l := lo) (u := hi) (by omega) (by omega)) ?_
  show e_r 52 39 [.ref 5, .int (nI j), .int (nI lo), .int (nI hi), .int (Z 15 j), .int (((nI hi) - (nI lo)) + 1), s_no, s_no] [.int (t_sm (Z 13) lo (hi + 1 - lo) 0), .ref 5] (hp Z P L) _ _
  refine e_go hk_52 1 (c := (41, [.ref 5, .int (nI j), .int (nI lo), .int (nI hi), .int (Z 15 j), .int (((nI hi) - (nI lo)) + 1), s_no, s_no], [.int (((nI hi) - (nI lo)) + 1), .int (t_sm (Z 13) lo (hi + 1 - lo) 0), .ref 5], hp Z P L)) rfl ?_
  refine e_call hk_52 (as := [.ref 5, .int (t_sm (Z 13) lo (hi + 1 - lo) 0), .int (((nI hi) - (nI lo)) + 1)]) (rest := []) rfl rfl hk_53 rfl (Nat.le_of_ble_eq_true rfl) rfl x_spend ?_
  show e_r 52 44 [.ref 5, .int (nI j), .int (nI lo), .int (nI hi), .int (Z 15 j), .int (((nI hi) - (nI lo)) + 1), s_no, s_no] [] (hp ((t_sp Z (t_sm (Z 13) lo (hi + 1 - lo) 0) (((nI hi) - (nI lo)) + 1))) P L) _ _
  refine e_go hk_52 4 (c := (50, [.ref 5, .int (nI j), .int (nI lo), .int (nI hi), .int (Z 15 j), .int (((nI hi) - (nI lo)) + 1), s_no, s_no], [.int (nI hi), .int (nI lo), .ref 16], hp ((t_sp Z (t_sm (Z 13) lo (hi + 1 - lo) 0) (((nI hi) - (nI lo)) + 1))) P L)) rfl ?_
  refine e_call hk_52 (as := [.ref 16, .int (nI lo), .int (nI hi)]) (rest := []) rfl rfl hk_25 rfl (Nat.le_of_ble_eq_true rfl) rfl (show m_r 25 [.ref 16, .int (nI lo), .int (nI hi)] (hp ((t_sp Z (t_sm (Z 13) lo (hi + 1 - lo) 0) (((nI hi) - (nI lo)) + 1))) P L) (some (.int (nI c))) (hp ((t_sp Z (t_sm (Z 13) lo (hi + 1 - lo) 0) (((nI hi) - (nI lo)) + 1))) P L) from (by rw [← hsm]; exact x_total2 (r := 16) (a := 17) (n := 60) rfl rfl rfl (by decide) (by omega) (by omega))) ?_
  show e_r 52 53 [.ref 5, .int (nI j), .int (nI lo), .int (nI hi), .int (Z 15 j), .int (((nI hi) - (nI lo)) + 1), s_no, s_no] [.int (nI c)] (hp ((t_sp Z (t_sm (Z 13) lo (hi + 1 - lo) 0) (((nI hi) - (nI lo)) + 1))) P L) _ _
  refine e_go hk_52 4 (c := (58, [.ref 5, .int (nI j), .int (nI lo), .int (nI hi), .int (Z 15 j), .int (((nI hi) - (nI lo)) + 1), .int (nI c), s_no], [.int (nI hi), .int (nI lo), .ref 5], hp ((t_sp Z (t_sm (Z 13) lo (hi + 1 - lo) 0) (((nI hi) - (nI lo)) + 1))) P L)) rfl ?_
  refine e_call hk_52 (as := [.ref 5, .int (nI lo), .int (nI hi)]) (rest := []) rfl rfl hk_54 rfl (Nat.le_of_ble_eq_true rfl) rfl (x_drop (Z := (t_sp Z (t_sm (Z 13) lo (hi + 1 - lo) 0) (((nI hi) - (nI lo)) + 1))) (n := n) (l := lo) (hi := hi) hN hn (by omega) (by omega)) ?_
  show e_r 52 61 [.ref 5, .int (nI j), .int (nI lo), .int (nI hi), .int (Z 15 j), .int (((nI hi) - (nI lo)) + 1), .int (nI c), s_no] [] (hp ((t_dh hi (n - lo) lo lo ((t_sp Z (t_sm (Z 13) lo (hi + 1 - lo) 0) (((nI hi) - (nI lo)) + 1))))) P L) _ _
  refine e_go hk_52 2 (c := (64, [.ref 5, .int (nI j), .int (nI lo), .int (nI hi), .int (Z 15 j), .int (((nI hi) - (nI lo)) + 1), .int (nI c), .int 0], [], hp ((t_dh hi (n - lo) lo lo ((t_sp Z (t_sm (Z 13) lo (hi + 1 - lo) 0) (((nI hi) - (nI lo)) + 1))))) P L)) rfl ?_
  exact x_lay_l (by omega) c 0 _ (by omega)
def t_lk (Z : Nat → Nat → Int32) (n : Nat) (key : Int32) : Int32 × (Nat → Nat → Int32) := match t_nd (Z 9) n key with
  | none => (-1, Z)
  | some j => (t_wt Z n j, t_la Z n j)
theorem x_lk_none {Z : Nat → Nat → Int32} {P : Nat → Nat} {L n : Nat} (hN : Z 5 6 = nI n) (hn : n ≤ 60) (hF : ∀ i, i < n → Z 17 i = 0 ∨ Z 17 i = 1) {key : Int32} (hq : t_nd (Z 9) n key = none) : m_r 48 [.ref 5, .int key] (hp Z P L) (some (.int (t_lk Z n key).1)) (hp (t_lk Z n key).2 P L) := by
  refine m_of (ls := [.ref 5, .int key, s_no]) hk_48 rfl rfl rfl ?_
  refine e_go hk_48 2 (c := (2, [.ref 5, .int key, s_no], [.int key, .ref 5], hp Z P L)) rfl ?_
  refine e_call hk_48 (as := [.ref 5, .int key]) (rest := []) rfl rfl hk_31 rfl (Nat.le_of_ble_eq_true rfl) rfl (show m_r 31 [.ref 5, .int key] (hp Z P L) (some (.int (-6))) (hp Z P L) from (by have := x_node (P := P) (L := L) (key := key) hN hn; rw [hq] at this; exact this)) ?_
  show e_r 48 5 [.ref 5, .int key, s_no] [.int ((-6))] (hp Z P L) _ _
  refine e_go hk_48 4 (c := (if s_cnd .ne ((-6)) ((-6)) = true then 16 else 12, [.ref 5, .int key, .int ((-6))], [], hp Z P L)) rfl ?_
  refine e_ne (a := 16) (b := 12) (x := (-6)) (y := (-6)) (fun hc9 => absurd (rfl) hc9) (fun hc9 => ?_)
  refine e_go hk_48 2 (c := (21, [.ref 5, .int key, .int ((-6))], [.int ((-1))], hp Z P L)) rfl ?_
  exact e_ret hk_48 rfl rfl rfl (by rw [t_lk, hq]) (by rw [t_lk, hq])
theorem x_lk_some {Z : Nat → Nat → Int32} {P : Nat → Nat} {L n : Nat} (hN : Z 5 6 = nI n) (hn : n ≤ 60) (hF : ∀ i, i < n → Z 17 i = 0 ∨ Z 17 i = 1) {key : Int32} {j : Nat} (hq : t_nd (Z 9) n key = some j) : m_r 48 [.ref 5, .int key] (hp Z P L) (some (.int (t_lk Z n key).1)) (hp (t_lk Z n key).2 P L) := by
  have hjn := (t_nd_lt hq).1
  refine m_of (ls := [.ref 5, .int key, s_no]) hk_48 rfl rfl rfl ?_
  refine e_go hk_48 2 (c := (2, [.ref 5, .int key, s_no], [.int key, .ref 5], hp Z P L)) rfl ?_
  refine e_call hk_48 (as := [.ref 5, .int key]) (rest := []) rfl rfl hk_31 rfl (Nat.le_of_ble_eq_true rfl) rfl (show m_r 31 [.ref 5, .int key] (hp Z P L) (some (.int (nI j))) (hp Z P L) from (by have := x_node (P := P) (L := L) (key := key) hN hn; rw [hq] at this; exact this)) ?_
  show e_r 48 5 [.ref 5, .int key, s_no] [.int (nI j)] (hp Z P L) _ _
  refine e_go hk_48 4 (c := (if s_cnd .ne (nI j) ((-6)) = true then 16 else 12, [.ref 5, .int key, .int (nI j)], [], hp Z P L)) rfl ?_
  refine e_ne (a := 16) (b := 12) (x := nI j) (y := (-6)) (fun hc9 => ?_) (fun hc9 => absurd hc9 (fun z => absurd ((y_o_none (q := some j) (fun i hi => by cases hi; omega)).mp z) (by simp)))
  refine e_go hk_48 2 (c := (18, [.ref 5, .int key, .int (nI j)], [.int (nI j), .ref 5], hp Z P L)) rfl ?_
  refine e_call hk_48 (as := [.ref 5, .int (nI j)]) (rest := []) rfl rfl hk_52 rfl (Nat.le_of_ble_eq_true rfl) rfl (x_lay (Z := Z) hN hn hF (j := j) (by omega)) ?_
  show e_r 48 21 [.ref 5, .int key, .int (nI j)] [.int (t_wt Z n j)] (hp ((t_la Z n j)) P L) _ _
  exact e_ret hk_48 rfl rfl rfl (by rw [t_lk, hq]) (by rw [t_lk, hq])
theorem x_lk {Z : Nat → Nat → Int32} {P : Nat → Nat} {L n : Nat} (hN : Z 5 6 = nI n) (hn : n ≤ 60) (hF : ∀ i, i < n → Z 17 i = 0 ∨ Z 17 i = 1) {key : Int32} : m_r 48 [.ref 5, .int key] (hp Z P L) (some (.int (t_lk Z n key).1)) (hp (t_lk Z n key).2 P L) := by
  cases hq : t_nd (Z 9) n key with
  | none => exact x_lk_none hN hn hF hq
  | some j => exact x_lk_some hN hn hF hq
theorem x_cost_some {Z : Nat → Nat → Int32} {P : Nat → Nat} {L n : Nat} (hN : Z 5 6 = nI n) (hn : n ≤ 60) {key : Int32} {j : Nat} (hq : t_nd (Z 9) n key = some j) : m_r 44 [.ref 5, .int key] (hp Z P L) (some (.int (t_cs Z n key))) (hp Z P L) := by
  have hjn := (t_nd_lt hq).1
  refine m_of (ls := [.ref 5, .int key, s_no]) hk_44 rfl rfl rfl ?_
  refine e_go hk_44 2 (c := (2, [.ref 5, .int key, s_no], [.int key, .ref 5], hp Z P L)) rfl ?_
  refine e_call hk_44 (as := [.ref 5, .int key]) (rest := []) rfl rfl hk_31 rfl (Nat.le_of_ble_eq_true rfl) rfl (show m_r 31 [.ref 5, .int key] (hp Z P L) (some (.int (nI j))) (hp Z P L) from (by have := x_node (P := P) (L := L) (key := key) hN hn; rw [hq] at this; exact this)) ?_
  show e_r 44 5 [.ref 5, .int key, s_no] [.int (nI j)] (hp Z P L) _ _
  refine e_go hk_44 2 (c := (if s_cnd .eq (nI j) ((-6)) = true then 12 else 10, [.ref 5, .int key, s_no], [], hp Z P L)) rfl ?_
  refine e_eq (a := 12) (b := 10) (x := nI j) (y := (-6)) (fun hc7 => absurd hc7 (fun z => absurd ((y_o_none (q := some j) (fun i hi => by cases hi; omega)).mp z) (by simp))) (fun hc7 => ?_)
  refine e_go hk_44 1 (c := (11, [.ref 5, .int key, s_no], [.int 0], hp Z P L)) rfl ?_
  exact e_ret hk_44 rfl rfl rfl (by rw [t_cs, hq]) rfl
theorem x_cost_none {Z : Nat → Nat → Int32} {P : Nat → Nat} {L n : Nat} (hN : Z 5 6 = nI n) (hn : n ≤ 60) {key : Int32} (hq : t_nd (Z 9) n key = none) (hw : t_wl (Z 15) (Z 7 0) (t_pl (Z 9) key 0 n) 60 0 0 n = none) : m_r 44 [.ref 5, .int key] (hp Z P L) (some (.int (t_cs Z n key))) (hp Z P L) := by
  have hpl := (t_pl_le (Z 9) key n 0).2
  refine m_of (ls := [.ref 5, .int key, s_no]) hk_44 rfl rfl rfl ?_
  refine e_go hk_44 2 (c := (2, [.ref 5, .int key, s_no], [.int key, .ref 5], hp Z P L)) rfl ?_
  refine e_call hk_44 (as := [.ref 5, .int key]) (rest := []) rfl rfl hk_31 rfl (Nat.le_of_ble_eq_true rfl) rfl (show m_r 31 [.ref 5, .int key] (hp Z P L) (some (.int (-6))) (hp Z P L) from (by have := x_node (P := P) (L := L) (key := key) hN hn; rw [hq] at this; exact this)) ?_
  show e_r 44 5 [.ref 5, .int key, s_no] [.int ((-6))] (hp Z P L) _ _
  refine e_go hk_44 2 (c := (if s_cnd .eq ((-6)) ((-6)) = true then 12 else 10, [.ref 5, .int key, s_no], [], hp Z P L)) rfl ?_
  refine e_eq (a := 12) (b := 10) (x := (-6)) (y := (-6)) (fun hc7 => ?_) (fun hc7 => absurd (rfl) hc7)
  refine e_go hk_44 3 (c := (15, [.ref 5, .int key, s_no], [.int key, .ref 5, .ref 5], hp Z P L)) rfl ?_
  refine e_call hk_44 (as := [.ref 5, .int key]) (rest := [.ref 5]) rfl rfl hk_30 rfl (Nat.le_of_ble_eq_true rfl) rfl (x_place hN hn) ?_
  show e_r 44 18 [.ref 5, .int key, s_no] [.int (nI (t_pl (Z 9) key 0 n)), .ref 5] (hp Z P L) _ _
  refine e_call hk_44 (as := [.ref 5, .int (nI (t_pl (Z 9) key 0 n))]) (rest := []) rfl rfl hk_43 rfl (Nat.le_of_ble_eq_true rfl) rfl (show m_r 43 [.ref 5, .int (nI (t_pl (Z 9) key 0 n))] (hp Z P L) (some (.int (-6))) (hp Z P L) from (by have := x_would (P := P) (L := L) (p := t_pl (Z 9) key 0 n) hN hn (by omega); rw [hw] at this; exact this)) ?_
  show e_r 44 21 [.ref 5, .int key, s_no] [.int ((-6))] (hp Z P L) _ _
  refine e_go hk_44 4 (c := (if s_cnd .ne ((-6)) ((-6)) = true then 32 else 28, [.ref 5, .int key, .int ((-6))], [], hp Z P L)) rfl ?_
  refine e_ne (a := 32) (b := 28) (x := (-6)) (y := (-6)) (fun hc25 => absurd (rfl) hc25) (fun hc25 => ?_)
  refine e_go hk_44 2 (c := (45, [.ref 5, .int key, .int ((-6))], [.int 0], hp Z P L)) rfl ?_
  exact e_ret hk_44 rfl rfl rfl (by rw [t_cs, hq]; dsimp only; rw [hw]) rfl
theorem x_cost_lean {Z : Nat → Nat → Int32} {P : Nat → Nat} {L n : Nat} (hN : Z 5 6 = nI n) (hn : n ≤ 60) {key : Int32} {j : Nat} (hq : t_nd (Z 9) n key = none) (hw : t_wl (Z 15) (Z 7 0) (t_pl (Z 9) key 0 n) 60 0 0 n = some j) : m_r 44 [.ref 5, .int key] (hp Z P L) (some (.int (t_cs Z n key))) (hp Z P L) := by
  have hpl := (t_pl_le (Z 9) key n 0).2
  have hjn := t_wl_lt (Nat.le_refl n) hw
  refine m_of (ls := [.ref 5, .int key, s_no]) hk_44 rfl rfl rfl ?_
  refine e_go hk_44 2 (c := (2, [.ref 5, .int key, s_no], [.int key, .ref 5], hp Z P L)) rfl ?_
  refine e_call hk_44 (as := [.ref 5, .int key]) (rest := []) rfl rfl hk_31 rfl (Nat.le_of_ble_eq_true rfl) rfl (show m_r 31 [.ref 5, .int key] (hp Z P L) (some (.int (-6))) (hp Z P L) from (by have := x_node (P := P) (L := L) (key := key) hN hn; rw [hq] at this; exact this)) ?_
  show e_r 44 5 [.ref 5, .int key, s_no] [.int ((-6))] (hp Z P L) _ _
  refine e_go hk_44 2 (c := (if s_cnd .eq ((-6)) ((-6)) = true then 12 else 10, [.ref 5, .int key, s_no], [], hp Z P L)) rfl ?_
  refine e_eq (a := 12) (b := 10) (x := (-6)) (y := (-6)) (fun hc7 => ?_) (fun hc7 => absurd (rfl) hc7)
  refine e_go hk_44 3 (c := (15, [.ref 5, .int key, s_no], [.int key, .ref 5, .ref 5], hp Z P L)) rfl ?_
  refine e_call hk_44 (as := [.ref 5, .int key]) (rest := [.ref 5]) rfl rfl hk_30 rfl (Nat.le_of_ble_eq_true rfl) rfl (x_place hN hn) ?_
  show e_r 44 18 [.ref 5, .int key, s_no] [.int (nI (t_pl (Z 9) key 0 n)), .ref 5] (hp Z P L) _ _
  refine e_call hk_44 (as := [.ref 5, .int (nI (t_pl (Z 9) key 0 n))]) (rest := []) rfl rfl hk_43 rfl (Nat.le_of_ble_eq_true rfl) rfl (show m_r 43 [.ref 5, .int (nI (t_pl (Z 9) key 0 n))] (hp Z P L) (some (.int (nI j))) (hp Z P L) from (by have := x_would (P := P) (L := L) (p := t_pl (Z 9) key 0 n) hN hn (by omega); rw [hw] at this; exact this)) ?_
  show e_r 44 21 [.ref 5, .int key, s_no] [.int (nI j)] (hp Z P L) _ _
  refine e_go hk_44 4 (c := (if s_cnd .ne (nI j) ((-6)) = true then 32 else 28, [.ref 5, .int key, .int (nI j)], [], hp Z P L)) rfl ?_
  refine e_ne (a := 32) (b := 28) (x := nI j) (y := (-6)) (fun hc25 => ?_) (fun hc25 => absurd hc25 (fun z => absurd ((y_o_none (q := some j) (fun i hi => by cases hi; omega)).mp z) (by simp)))
  refine e_go hk_44 2 (c := (34, [.ref 5, .int key, .int (nI j)], [.int (nI j), .ref 5], hp Z P L)) rfl ?_
  refine e_call hk_44 (as := [.ref 5, .int (nI j)]) (rest := []) rfl rfl hk_38 rfl (Nat.le_of_ble_eq_true rfl) rfl (x_high hN hn (j := j) (by omega)) ?_
  show e_r 44 37 [.ref 5, .int key, .int (nI j)] [.int (nI (t_H Z n j))] (hp Z P L) _ _
  refine e_go hk_44 2 (c := (39, [.ref 5, .int key, .int (nI j)], [.int (nI j), .ref 5, .int (nI (t_H Z n j))], hp Z P L)) rfl ?_
  refine e_call hk_44 (as := [.ref 5, .int (nI j)]) (rest := [.int (nI (t_H Z n j))]) rfl rfl hk_37 rfl (Nat.le_of_ble_eq_true rfl) rfl (x_low (j := j) (by omega)) ?_
  show e_r 44 42 [.ref 5, .int key, .int (nI j)] [.int (nI (t_L Z j)), .int (nI (t_H Z n j))] (hp Z P L) _ _
  refine e_go hk_44 3 (c := (45, [.ref 5, .int key, .int (nI j)], [.int (((nI (t_H Z n j)) - (nI (t_L Z j))) + 2)], hp Z P L)) rfl ?_
  exact e_ret hk_44 rfl rfl rfl (by rw [t_cs, hq]; dsimp only; rw [hw]) rfl
theorem x_cost {Z : Nat → Nat → Int32} {P : Nat → Nat} {L n : Nat} (hN : Z 5 6 = nI n) (hn : n ≤ 60) {key : Int32} : m_r 44 [.ref 5, .int key] (hp Z P L) (some (.int (t_cs Z n key))) (hp Z P L) := by
  cases hq : t_nd (Z 9) n key with
  | some j => exact x_cost_some hN hn hq
  | none =>
    cases hw : t_wl (Z 15) (Z 7 0) (t_pl (Z 9) key 0 n) 60 0 0 n with
    | none => exact x_cost_none hN hn hq hw
    | some j => exact x_cost_lean hN hn hq hw
end
section
/-! Tree: enter, hollowOut; printed by wip/whole/gen/tree5.py -/
def t_cl (c : Nat) : Prop := c = 9 ∨ c = 11 ∨ c = 13 ∨ c = 15 ∨ c = 17
theorem s_upd_c {Z : Nat → Nat → Int32} {a k c i : Nat} {x : Int32} : s_upd Z a k x c i = if c = a ∧ i = k then x else Z c i := by
  unfold s_upd upd
  by_cases h1 : c = a
  · by_cases h2 : i = k
    · simp [h1, h2]
    · simp [h1, h2]
  · simp [h1]
theorem s_upd_o {Z : Nat → Nat → Int32} {a k c : Nat} {x : Int32} (h : c ≠ a) : s_upd Z a k x c = Z c := if_neg h
theorem t_mv_get {Z : Nat → Nat → Int32} {i j c x : Nat} (hc : t_cl c) : t_mv Z i j c x = if x = j then Z c i else Z c x := by
  unfold t_mv
  rcases hc with rfl | rfl | rfl | rfl | rfl <;> simp [s_upd_c]
theorem t_mv_o {Z : Nat → Nat → Int32} {i j c : Nat} (hc : ¬ t_cl c) : t_mv Z i j c = Z c := by
  unfold t_cl at hc
  simp only [not_or] at hc
  obtain ⟨h1, h2, h3, h4, h5⟩ := hc
  unfold t_mv
  rw [s_upd_o h5, s_upd_o h4, s_upd_o h3, s_upd_o h2, s_upd_o h1]
theorem t_sh_get {c : Nat} (hc : t_cl c) : ∀ (k q : Nat) (Z : Nat → Nat → Int32) (i : Nat), k ≤ q → t_sh k q Z c i = if q - k < i ∧ i ≤ q then Z c (i - 1) else Z c i
  | 0, q, Z, i, h => by
    rw [t_sh, if_neg (by omega)]
  | k + 1, q, Z, i, h => by
    rw [t_sh, t_sh_get hc k (q - 1) _ i (by omega), t_mv_get hc, t_mv_get hc]
    by_cases h1 : i = q
    · rw [if_neg (show ¬ (q - 1 - k < i ∧ i ≤ q - 1) by omega), if_pos h1, if_pos (by omega), h1]
    · by_cases h2 : q - 1 - k < i ∧ i ≤ q - 1
      · rw [if_pos h2, if_neg (by omega), if_pos (by omega)]
      · rw [if_neg h2, if_neg h1, if_neg (by omega)]
theorem t_sh_o {c : Nat} (hc : ¬ t_cl c) : ∀ (k q : Nat) (Z : Nat → Nat → Int32), t_sh k q Z c = Z c
  | 0, q, Z => rfl
  | k + 1, q, Z => by rw [t_sh, t_sh_o hc k (q - 1), t_mv_o hc]
theorem t_cl5 : ¬ t_cl 5 := by unfold t_cl; omega
theorem t_mk_N {Z : Nat → Nat → Int32} {n p : Nat} {key value : Int32} (hN : Z 5 6 = nI n) : t_mk Z n p key value 5 6 = nI (n + 1) := by
  show (t_sh (n - p) n Z) 5 6 + 1 = _
  rw [t_sh_o t_cl5, hN, nI_1]
theorem t_mk_o {Z : Nat → Nat → Int32} {n p c : Nat} {key value : Int32} (hc : ¬ t_cl c) (h5 : c ≠ 5) : t_mk Z n p key value c = Z c := by
  have h := hc
  unfold t_cl at h
  simp only [not_or] at h
  obtain ⟨h1, h2, h3, h4, h6⟩ := h
  unfold t_mk t_mt
  rw [s_upd_o h6, s_upd_o h4, s_upd_o h3, s_upd_o h2, s_upd_o h1, s_upd_o h5, t_sh_o hc]
/-- a new node at p: the columns -/
theorem t_mk_get {Z : Nat → Nat → Int32} {n p i : Nat} {key value : Int32} (hp : p ≤ n) (hi : i ≤ n) (c : Nat) (hc : t_cl c) : t_mk Z n p key value c i = if i < p then Z c i else if i = p then (if c = 9 then key else if c = 11 then value else if c = 13 then 0 else if c = 15 then y_mx (t_bf (Z 15) p) (t_bh (Z 15) n p) + 1 else 1) else Z c (i - 1) := by
  have hg1 : i < p → t_sh (n - p) n Z c i = Z c i := fun h => by rw [t_sh_get hc (n - p) n Z i (by omega), if_neg (by omega)]
  have hg2 : p < i → t_sh (n - p) n Z c i = Z c (i - 1) := fun h => by rw [t_sh_get hc (n - p) n Z i (by omega), if_pos (by omega)]
  unfold t_mk t_mt
  by_cases h1 : i < p
  · rw [if_pos h1, ← hg1 h1]
    have h2 : ¬ i = p := by omega
    rcases hc with rfl | rfl | rfl | rfl | rfl <;> simp [s_upd_c, h2]
  · rw [if_neg h1]
    by_cases h2 : i = p
    · rw [if_pos h2]
      subst h2
      rcases hc with rfl | rfl | rfl | rfl | rfl <;> simp [s_upd_c]
    · rw [if_neg h2, ← hg2 (by omega)]
      rcases hc with rfl | rfl | rfl | rfl | rfl <;> simp [s_upd_c, h2]
theorem t_py_o {p c : Nat} (hc : c ≠ 13) : ∀ (k d l u : Nat) (Z : Nat → Nat → Int32), t_py p k d l u Z c = Z c
  | 0, d, l, u, Z => rfl
  | k + 1, d, l, u, Z => by
    rw [t_py]
    split
    · rfl
    split
    · exact s_upd_o hc
    split
    · rw [t_py_o hc k, s_upd_o hc]
    · rw [t_py_o hc k, s_upd_o hc]
def t_en (Z : Nat → Nat → Int32) (n : Nat) (key value : Int32) : Int32 × (Nat → Nat → Int32) := if t_rm Z n key = false then (-4, Z) else match t_nd (Z 9) n key with
  | some j => (0, t_py j 60 0 0 n (s_upd (s_upd Z 11 j value) 17 j 1))
  | none => match t_wl (Z 15) (Z 7 0) (t_pl (Z 9) key 0 n) 60 0 0 n with
    | none => (0, t_py (t_pl (Z 9) key 0 n) 60 0 0 (n + 1) (t_mk Z n (t_pl (Z 9) key 0 n) key value))
    | some j => (t_wt (t_py (t_pl (Z 9) key 0 n) 60 0 0 (n + 1) (t_mk Z n (t_pl (Z 9) key 0 n) key value)) (n + 1) (if j < t_pl (Z 9) key 0 n then j else j + 1), t_la (t_py (t_pl (Z 9) key 0 n) 60 0 0 (n + 1) (t_mk Z n (t_pl (Z 9) key 0 n) key value)) (n + 1) (if j < t_pl (Z 9) key 0 n then j else j + 1))
theorem t_nd_pl {K : Nat → Int32} {n j : Nat} {key : Int32} (h : t_nd K n key = some j) : t_pl K key 0 n = j := by
  unfold t_nd at h
  split at h
  · exact Option.some.inj h
  · cases h
theorem x_en_no {Z : Nat → Nat → Int32} {P : Nat → Nat} {L n : Nat} (hN : Z 5 6 = nI n) (hn : n ≤ 60) (hF : ∀ i, i < n → Z 17 i = 0 ∨ Z 17 i = 1) {key value : Int32} (hr : t_rm Z n key = false) : m_r 46 [.ref 5, .int key, .int value] (hp Z P L) (some (.int (t_en Z n key value).1)) (hp (t_en Z n key value).2 P L) := by
  refine m_of (ls := [.ref 5, .int key, .int value, s_no, s_no]) hk_46 rfl rfl rfl ?_
  refine e_go hk_46 2 (c := (2, [.ref 5, .int key, .int value, s_no, s_no], [.int key, .ref 5], hp Z P L)) rfl ?_
  refine e_call hk_46 (as := [.ref 5, .int key]) (rest := []) rfl rfl hk_45 rfl (Nat.le_of_ble_eq_true rfl) rfl (show m_r 45 [.ref 5, .int key] (hp Z P L) (some (.int 0)) (hp Z P L) from (by have := x_room (P := P) (L := L) (key := key) hN hn; rw [hr] at this; exact this)) ?_
  show e_r 46 5 [.ref 5, .int key, .int value, s_no, s_no] [.int 0] (hp Z P L) _ _
  refine e_go hk_46 1 (c := (if s_cnd .ne 0 0 = true then 11 else 8, [.ref 5, .int key, .int value, s_no, s_no], [], hp Z P L)) rfl ?_
  refine e_ne (a := 11) (b := 8) (x := 0) (y := 0) (fun hc5 => absurd (rfl) hc5) (fun hc5 => ?_)
  refine e_go hk_46 1 (c := (10, [.ref 5, .int key, .int value, s_no, s_no], [.int ((-4))], hp Z P L)) rfl ?_
  exact e_ret hk_46 rfl rfl rfl (by rw [t_en, if_pos hr]) (by rw [t_en, if_pos hr])
theorem x_en_old {Z : Nat → Nat → Int32} {P : Nat → Nat} {L n : Nat} (hN : Z 5 6 = nI n) (hn : n ≤ 60) (hF : ∀ i, i < n → Z 17 i = 0 ∨ Z 17 i = 1) {key value : Int32} {j : Nat} (hr : t_rm Z n key = true) (hq : t_nd (Z 9) n key = some j) : m_r 46 [.ref 5, .int key, .int value] (hp Z P L) (some (.int (t_en Z n key value).1)) (hp (t_en Z n key value).2 P L) := by
  have hjn := (t_nd_lt hq).1
  refine m_of (ls := [.ref 5, .int key, .int value, s_no, s_no]) hk_46 rfl rfl rfl ?_
  refine e_go hk_46 2 (c := (2, [.ref 5, .int key, .int value, s_no, s_no], [.int key, .ref 5], hp Z P L)) rfl ?_
  refine e_call hk_46 (as := [.ref 5, .int key]) (rest := []) rfl rfl hk_45 rfl (Nat.le_of_ble_eq_true rfl) rfl (show m_r 45 [.ref 5, .int key] (hp Z P L) (some (.int 1)) (hp Z P L) from (by have := x_room (P := P) (L := L) (key := key) hN hn; rw [hr] at this; exact this)) ?_
  show e_r 46 5 [.ref 5, .int key, .int value, s_no, s_no] [.int 1] (hp Z P L) _ _
  refine e_go hk_46 1 (c := (if s_cnd .ne 1 0 = true then 11 else 8, [.ref 5, .int key, .int value, s_no, s_no], [], hp Z P L)) rfl ?_
  refine e_ne (a := 11) (b := 8) (x := 1) (y := 0) (fun hc5 => ?_) (fun hc5 => absurd hc5 (by decide))
  refine e_go hk_46 2 (c := (13, [.ref 5, .int key, .int value, s_no, s_no], [.int key, .ref 5], hp Z P L)) rfl ?_
  refine e_call hk_46 (as := [.ref 5, .int key]) (rest := []) rfl rfl hk_30 rfl (Nat.le_of_ble_eq_true rfl) rfl (show m_r 30 [.ref 5, .int key] (hp Z P L) (some (.int (nI j))) (hp Z P L) from (by have := x_place (P := P) (L := L) (key := key) hN hn; rw [t_nd_pl hq] at this; exact this)) ?_
  show e_r 46 16 [.ref 5, .int key, .int value, s_no, s_no] [.int (nI j)] (hp Z P L) _ _
  refine e_go hk_46 3 (c := (19, [.ref 5, .int key, .int value, .int (nI j), s_no], [.int key, .ref 5], hp Z P L)) rfl ?_
  refine e_call hk_46 (as := [.ref 5, .int key]) (rest := []) rfl rfl hk_31 rfl (Nat.le_of_ble_eq_true rfl) rfl (show m_r 31 [.ref 5, .int key] (hp Z P L) (some (.int (nI j))) (hp Z P L) from (by have := x_node (P := P) (L := L) (key := key) hN hn; rw [hq] at this; exact this)) ?_
  show e_r 46 22 [.ref 5, .int key, .int value, .int (nI j), s_no] [.int (nI j)] (hp Z P L) _ _
  refine e_go hk_46 2 (c := (if s_cnd .eq (nI j) ((-6)) = true then 52 else 27, [.ref 5, .int key, .int value, .int (nI j), s_no], [], hp Z P L)) rfl ?_
  refine e_eq (a := 52) (b := 27) (x := nI j) (y := (-6)) (fun hc24 => absurd hc24 (fun z => absurd ((y_o_none (q := some j) (fun i hi => by cases hi; omega)).mp z) (by simp))) (fun hc24 => ?_)
  refine e_go hk_46 4 (c := (33, [.ref 5, .int key, .int value, .int (nI j), s_no], [.int value, .int (nI j), .ref 10], hp Z P L)) rfl ?_
  refine e_call hk_46 (as := [.ref 10, .int (nI j), .int value]) (rest := []) rfl rfl hk_23 rfl (Nat.le_of_ble_eq_true rfl) rfl (x_write (r := 10) (a := 11) (n := 60) rfl rfl rfl (by decide) (by decide) (j := j) (by omega)) ?_
  show e_r 46 36 [.ref 5, .int key, .int value, .int (nI j), s_no] [] (hp (s_upd Z 11 j value) P L) _ _
  refine e_go hk_46 4 (c := (42, [.ref 5, .int key, .int value, .int (nI j), s_no], [.int 1, .int (nI j), .ref 16], hp (s_upd Z 11 j value) P L)) rfl ?_
  refine e_call hk_46 (as := [.ref 16, .int (nI j), .int 1]) (rest := []) rfl rfl hk_23 rfl (Nat.le_of_ble_eq_true rfl) rfl (x_write (r := 16) (a := 17) (n := 60) rfl rfl rfl (by decide) (by decide) (j := j) (by omega)) ?_
  show e_r 46 45 [.ref 5, .int key, .int value, .int (nI j), s_no] [] (hp (s_upd (s_upd Z 11 j value) 17 j 1) P L) _ _
  refine e_go hk_46 2 (c := (47, [.ref 5, .int key, .int value, .int (nI j), s_no], [.int (nI j), .ref 5], hp (s_upd (s_upd Z 11 j value) 17 j 1) P L)) rfl ?_
  refine e_call hk_46 (as := [.ref 5, .int (nI j)]) (rest := []) rfl rfl hk_49 rfl (Nat.le_of_ble_eq_true rfl) rfl (x_pay (Z := s_upd (s_upd Z 11 j value) 17 j 1) (n := n) hN hn (p := j) (by omega)) ?_
  show e_r 46 50 [.ref 5, .int key, .int value, .int (nI j), s_no] [] (hp ((t_py j 60 0 0 n (s_upd (s_upd Z 11 j value) 17 j 1))) P L) _ _
  refine e_go hk_46 1 (c := (51, [.ref 5, .int key, .int value, .int (nI j), s_no], [.int 0], hp ((t_py j 60 0 0 n (s_upd (s_upd Z 11 j value) 17 j 1))) P L)) rfl ?_
  exact e_ret hk_46 rfl rfl rfl (by rw [t_en, if_neg (by rw [hr]; decide), hq]) (by rw [t_en, if_neg (by rw [hr]; decide), hq])
theorem x_en_none {Z : Nat → Nat → Int32} {P : Nat → Nat} {L n : Nat} (hN : Z 5 6 = nI n) (hn : n ≤ 60) (hF : ∀ i, i < n → Z 17 i = 0 ∨ Z 17 i = 1) {key value : Int32} (hr : t_rm Z n key = true) (hq : t_nd (Z 9) n key = none) (hw : t_wl (Z 15) (Z 7 0) (t_pl (Z 9) key 0 n) 60 0 0 n = none) : m_r 46 [.ref 5, .int key, .int value] (hp Z P L) (some (.int (t_en Z n key value).1)) (hp (t_en Z n key value).2 P L) := by
  have hpl := (t_pl_le (Z 9) key n 0).2
  have hlt : n < 60 := by
    rcases Nat.lt_or_ge n 60 with z | z
    · exact z
    · rw [t_rm, hq, decide_eq_false (by omega)] at hr; cases hr
  refine m_of (ls := [.ref 5, .int key, .int value, s_no, s_no]) hk_46 rfl rfl rfl ?_
  refine e_go hk_46 2 (c := (2, [.ref 5, .int key, .int value, s_no, s_no], [.int key, .ref 5], hp Z P L)) rfl ?_
  refine e_call hk_46 (as := [.ref 5, .int key]) (rest := []) rfl rfl hk_45 rfl (Nat.le_of_ble_eq_true rfl) rfl (show m_r 45 [.ref 5, .int key] (hp Z P L) (some (.int 1)) (hp Z P L) from (by have := x_room (P := P) (L := L) (key := key) hN hn; rw [hr] at this; exact this)) ?_
  show e_r 46 5 [.ref 5, .int key, .int value, s_no, s_no] [.int 1] (hp Z P L) _ _
  refine e_go hk_46 1 (c := (if s_cnd .ne 1 0 = true then 11 else 8, [.ref 5, .int key, .int value, s_no, s_no], [], hp Z P L)) rfl ?_
  refine e_ne (a := 11) (b := 8) (x := 1) (y := 0) (fun hc5 => ?_) (fun hc5 => absurd hc5 (by decide))
  refine e_go hk_46 2 (c := (13, [.ref 5, .int key, .int value, s_no, s_no], [.int key, .ref 5], hp Z P L)) rfl ?_
  refine e_call hk_46 (as := [.ref 5, .int key]) (rest := []) rfl rfl hk_30 rfl (Nat.le_of_ble_eq_true rfl) rfl (x_place hN hn) ?_
  show e_r 46 16 [.ref 5, .int key, .int value, s_no, s_no] [.int (nI (t_pl (Z 9) key 0 n))] (hp Z P L) _ _
  refine e_go hk_46 3 (c := (19, [.ref 5, .int key, .int value, .int (nI (t_pl (Z 9) key 0 n)), s_no], [.int key, .ref 5], hp Z P L)) rfl ?_
  refine e_call hk_46 (as := [.ref 5, .int key]) (rest := []) rfl rfl hk_31 rfl (Nat.le_of_ble_eq_true rfl) rfl (show m_r 31 [.ref 5, .int key] (hp Z P L) (some (.int (-6))) (hp Z P L) from (by have := x_node (P := P) (L := L) (key := key) hN hn; rw [hq] at this; exact this)) ?_
  show e_r 46 22 [.ref 5, .int key, .int value, .int (nI (t_pl (Z 9) key 0 n)), s_no] [.int ((-6))] (hp Z P L) _ _
  refine e_go hk_46 2 (c := (if s_cnd .eq ((-6)) ((-6)) = true then 52 else 27, [.ref 5, .int key, .int value, .int (nI (t_pl (Z 9) key 0 n)), s_no], [], hp Z P L)) rfl ?_
  refine e_eq (a := 52) (b := 27) (x := (-6)) (y := (-6)) (fun hc24 => ?_) (fun hc24 => absurd (rfl) hc24)
  refine e_go hk_46 2 (c := (54, [.ref 5, .int key, .int value, .int (nI (t_pl (Z 9) key 0 n)), s_no], [.int (nI (t_pl (Z 9) key 0 n)), .ref 5], hp Z P L)) rfl ?_
  refine e_call hk_46 (as := [.ref 5, .int (nI (t_pl (Z 9) key 0 n))]) (rest := []) rfl rfl hk_43 rfl (Nat.le_of_ble_eq_true rfl) rfl (show m_r 43 [.ref 5, .int (nI (t_pl (Z 9) key 0 n))] (hp Z P L) (some (.int (-6))) (hp Z P L) from (by have := x_would (P := P) (L := L) (p := t_pl (Z 9) key 0 n) hN hn (by omega); rw [hw] at this; exact this)) ?_
  show e_r 46 57 [.ref 5, .int key, .int value, .int (nI (t_pl (Z 9) key 0 n)), s_no] [.int ((-6))] (hp Z P L) _ _
  refine e_go hk_46 5 (c := (63, [.ref 5, .int key, .int value, .int (nI (t_pl (Z 9) key 0 n)), .int ((-6))], [.int value, .int key, .int (nI (t_pl (Z 9) key 0 n)), .ref 5], hp Z P L)) rfl ?_
  refine e_call hk_46 (as := [.ref 5, .int (nI (t_pl (Z 9) key 0 n)), .int key, .int value]) (rest := []) rfl rfl hk_50 rfl (Nat.le_of_ble_eq_true rfl) rfl (x_make hN hn (p := t_pl (Z 9) key 0 n) (by omega) hlt) ?_
  show e_r 46 66 [.ref 5, .int key, .int value, .int (nI (t_pl (Z 9) key 0 n)), .int ((-6))] [] (hp ((t_mk Z n (t_pl (Z 9) key 0 n) key value)) P L) _ _
  refine e_go hk_46 2 (c := (68, [.ref 5, .int key, .int value, .int (nI (t_pl (Z 9) key 0 n)), .int ((-6))], [.int (nI (t_pl (Z 9) key 0 n)), .ref 5], hp ((t_mk Z n (t_pl (Z 9) key 0 n) key value)) P L)) rfl ?_
  refine e_call hk_46 (as := [.ref 5, .int (nI (t_pl (Z 9) key 0 n))]) (rest := []) rfl rfl hk_49 rfl (Nat.le_of_ble_eq_true rfl) rfl (x_pay (Z := (t_mk Z n (t_pl (Z 9) key 0 n) key value)) (n := n + 1) (t_mk_N hN) (by omega) (p := t_pl (Z 9) key 0 n) (by omega)) ?_
  show e_r 46 71 [.ref 5, .int key, .int value, .int (nI (t_pl (Z 9) key 0 n)), .int ((-6))] [] (hp ((t_py (t_pl (Z 9) key 0 n) 60 0 0 (n + 1) (t_mk Z n (t_pl (Z 9) key 0 n) key value))) P L) _ _
  refine e_go hk_46 3 (c := (if s_cnd .ne ((-6)) ((-6)) = true then 80 else 78, [.ref 5, .int key, .int value, .int (nI (t_pl (Z 9) key 0 n)), .int ((-6))], [], hp ((t_py (t_pl (Z 9) key 0 n) 60 0 0 (n + 1) (t_mk Z n (t_pl (Z 9) key 0 n) key value))) P L)) rfl ?_
  refine e_ne (a := 80) (b := 78) (x := (-6)) (y := (-6)) (fun hc75 => absurd (rfl) hc75) (fun hc75 => ?_)
  refine e_go hk_46 1 (c := (79, [.ref 5, .int key, .int value, .int (nI (t_pl (Z 9) key 0 n)), .int ((-6))], [.int 0], hp ((t_py (t_pl (Z 9) key 0 n) 60 0 0 (n + 1) (t_mk Z n (t_pl (Z 9) key 0 n) key value))) P L)) rfl ?_
  exact e_ret hk_46 rfl rfl rfl (by rw [t_en, if_neg (by rw [hr]; decide), hq]; dsimp only; rw [hw]) (by rw [t_en, if_neg (by rw [hr]; decide), hq]; dsimp only; rw [hw])
theorem x_en_lean {Z : Nat → Nat → Int32} {P : Nat → Nat} {L n : Nat} (hN : Z 5 6 = nI n) (hn : n ≤ 60) (hF : ∀ i, i < n → Z 17 i = 0 ∨ Z 17 i = 1) {key value : Int32} (hr : t_rm Z n key = true) (hq : t_nd (Z 9) n key = none) {j : Nat} (hw : t_wl (Z 15) (Z 7 0) (t_pl (Z 9) key 0 n) 60 0 0 n = some j) : m_r 46 [.ref 5, .int key, .int value] (hp Z P L) (some (.int (t_en Z n key value).1)) (hp (t_en Z n key value).2 P L) := by
  have hpl := (t_pl_le (Z 9) key n 0).2
  have hlt : n < 60 := by
    rcases Nat.lt_or_ge n 60 with z | z
    · exact z
    · rw [t_rm, hq, decide_eq_false (by omega)] at hr; cases hr
  have hjn := t_wl_lt (Nat.le_refl n) hw
  have hN2 : (t_py (t_pl (Z 9) key 0 n) 60 0 0 (n + 1) (t_mk Z n (t_pl (Z 9) key 0 n) key value)) 5 6 = nI (n + 1) := by rw [t_py_o (by decide)]; exact t_mk_N hN
  have hF2 : ∀ i, i < n + 1 → (t_py (t_pl (Z 9) key 0 n) 60 0 0 (n + 1) (t_mk Z n (t_pl (Z 9) key 0 n) key value)) 17 i = 0 ∨ (t_py (t_pl (Z 9) key 0 n) 60 0 0 (n + 1) (t_mk Z n (t_pl (Z 9) key 0 n) key value)) 17 i = 1 := by
    intro i hi
    rw [t_py_o (by decide), t_mk_get (by omega) (by omega) 17 (by unfold t_cl; omega)]
    split
    · exact hF i (by omega)
    · split
      · exact Or.inr rfl
      · exact hF (i - 1) (by omega)
  refine m_of (ls := [.ref 5, .int key, .int value, s_no, s_no]) hk_46 rfl rfl rfl ?_
  refine e_go hk_46 2 (c := (2, [.ref 5, .int key, .int value, s_no, s_no], [.int key, .ref 5], hp Z P L)) rfl ?_
  refine e_call hk_46 (as := [.ref 5, .int key]) (rest := []) rfl rfl hk_45 rfl (Nat.le_of_ble_eq_true rfl) rfl (show m_r 45 [.ref 5, .int key] (hp Z P L) (some (.int 1)) (hp Z P L) from (by have := x_room (P := P) (L := L) (key := key) hN hn; rw [hr] at this; exact this)) ?_
  show e_r 46 5 [.ref 5, .int key, .int value, s_no, s_no] [.int 1] (hp Z P L) _ _
  refine e_go hk_46 1 (c := (if s_cnd .ne 1 0 = true then 11 else 8, [.ref 5, .int key, .int value, s_no, s_no], [], hp Z P L)) rfl ?_
  refine e_ne (a := 11) (b := 8) (x := 1) (y := 0) (fun hc5 => ?_) (fun hc5 => absurd hc5 (by decide))
  refine e_go hk_46 2 (c := (13, [.ref 5, .int key, .int value, s_no, s_no], [.int key, .ref 5], hp Z P L)) rfl ?_
  refine e_call hk_46 (as := [.ref 5, .int key]) (rest := []) rfl rfl hk_30 rfl (Nat.le_of_ble_eq_true rfl) rfl (x_place hN hn) ?_
  show e_r 46 16 [.ref 5, .int key, .int value, s_no, s_no] [.int (nI (t_pl (Z 9) key 0 n))] (hp Z P L) _ _
  refine e_go hk_46 3 (c := (19, [.ref 5, .int key, .int value, .int (nI (t_pl (Z 9) key 0 n)), s_no], [.int key, .ref 5], hp Z P L)) rfl ?_
  refine e_call hk_46 (as := [.ref 5, .int key]) (rest := []) rfl rfl hk_31 rfl (Nat.le_of_ble_eq_true rfl) rfl (show m_r 31 [.ref 5, .int key] (hp Z P L) (some (.int (-6))) (hp Z P L) from (by have := x_node (P := P) (L := L) (key := key) hN hn; rw [hq] at this; exact this)) ?_
  show e_r 46 22 [.ref 5, .int key, .int value, .int (nI (t_pl (Z 9) key 0 n)), s_no] [.int ((-6))] (hp Z P L) _ _
  refine e_go hk_46 2 (c := (if s_cnd .eq ((-6)) ((-6)) = true then 52 else 27, [.ref 5, .int key, .int value, .int (nI (t_pl (Z 9) key 0 n)), s_no], [], hp Z P L)) rfl ?_
  refine e_eq (a := 52) (b := 27) (x := (-6)) (y := (-6)) (fun hc24 => ?_) (fun hc24 => absurd (rfl) hc24)
  refine e_go hk_46 2 (c := (54, [.ref 5, .int key, .int value, .int (nI (t_pl (Z 9) key 0 n)), s_no], [.int (nI (t_pl (Z 9) key 0 n)), .ref 5], hp Z P L)) rfl ?_
  refine e_call hk_46 (as := [.ref 5, .int (nI (t_pl (Z 9) key 0 n))]) (rest := []) rfl rfl hk_43 rfl (Nat.le_of_ble_eq_true rfl) rfl (show m_r 43 [.ref 5, .int (nI (t_pl (Z 9) key 0 n))] (hp Z P L) (some (.int (nI j))) (hp Z P L) from (by have := x_would (P := P) (L := L) (p := t_pl (Z 9) key 0 n) hN hn (by omega); rw [hw] at this; exact this)) ?_
  show e_r 46 57 [.ref 5, .int key, .int value, .int (nI (t_pl (Z 9) key 0 n)), s_no] [.int (nI j)] (hp Z P L) _ _
  refine e_go hk_46 5 (c := (63, [.ref 5, .int key, .int value, .int (nI (t_pl (Z 9) key 0 n)), .int (nI j)], [.int value, .int key, .int (nI (t_pl (Z 9) key 0 n)), .ref 5], hp Z P L)) rfl ?_
  refine e_call hk_46 (as := [.ref 5, .int (nI (t_pl (Z 9) key 0 n)), .int key, .int value]) (rest := []) rfl rfl hk_50 rfl (Nat.le_of_ble_eq_true rfl) rfl (x_make hN hn (p := t_pl (Z 9) key 0 n) (by omega) hlt) ?_
  show e_r 46 66 [.ref 5, .int key, .int value, .int (nI (t_pl (Z 9) key 0 n)), .int (nI j)] [] (hp ((t_mk Z n (t_pl (Z 9) key 0 n) key value)) P L) _ _
  refine e_go hk_46 2 (c := (68, [.ref 5, .int key, .int value, .int (nI (t_pl (Z 9) key 0 n)), .int (nI j)], [.int (nI (t_pl (Z 9) key 0 n)), .ref 5], hp ((t_mk Z n (t_pl (Z 9) key 0 n) key value)) P L)) rfl ?_
  refine e_call hk_46 (as := [.ref 5, .int (nI (t_pl (Z 9) key 0 n))]) (rest := []) rfl rfl hk_49 rfl (Nat.le_of_ble_eq_true rfl) rfl (x_pay (Z := (t_mk Z n (t_pl (Z 9) key 0 n) key value)) (n := n + 1) (t_mk_N hN) (by omega) (p := t_pl (Z 9) key 0 n) (by omega)) ?_
  show e_r 46 71 [.ref 5, .int key, .int value, .int (nI (t_pl (Z 9) key 0 n)), .int (nI j)] [] (hp ((t_py (t_pl (Z 9) key 0 n) 60 0 0 (n + 1) (t_mk Z n (t_pl (Z 9) key 0 n) key value))) P L) _ _
  refine e_go hk_46 3 (c := (if s_cnd .ne (nI j) ((-6)) = true then 80 else 78, [.ref 5, .int key, .int value, .int (nI (t_pl (Z 9) key 0 n)), .int (nI j)], [], hp ((t_py (t_pl (Z 9) key 0 n) 60 0 0 (n + 1) (t_mk Z n (t_pl (Z 9) key 0 n) key value))) P L)) rfl ?_
  refine e_ne (a := 80) (b := 78) (x := nI j) (y := (-6)) (fun hc75 => ?_) (fun hc75 => absurd hc75 (fun z => absurd ((y_o_none (q := some j) (fun i hi => by cases hi; omega)).mp z) (by simp)))
  refine e_go hk_46 4 (c := (if s_cnd .ge (nI j) (nI (t_pl (Z 9) key 0 n)) = true then 92 else 87, [.ref 5, .int key, .int value, .int (nI (t_pl (Z 9) key 0 n)), .int (nI j)], [.ref 5], hp ((t_py (t_pl (Z 9) key 0 n) 60 0 0 (n + 1) (t_mk Z n (t_pl (Z 9) key 0 n) key value))) P L)) rfl ?_
  refine e_ge (a := 92) (b := 87) (x := nI j) (y := nI (t_pl (Z 9) key 0 n)) (fun hc84 => ?_) (fun hc84 => ?_)
  · skip
    rw [y_le (by omega) (by omega)] at hc84
    refine e_go hk_46 3 (c := (96, [.ref 5, .int key, .int value, .int (nI (t_pl (Z 9) key 0 n)), .int (nI j)], [.int ((nI j) + 1), .ref 5], hp ((t_py (t_pl (Z 9) key 0 n) 60 0 0 (n + 1) (t_mk Z n (t_pl (Z 9) key 0 n) key value))) P L)) rfl ?_
    rw [nI_1]
    refine e_call hk_46 (as := [.ref 5, .int (nI (j + 1))]) (rest := []) rfl rfl hk_52 rfl (Nat.le_of_ble_eq_true rfl) rfl (x_lay (Z := (t_py (t_pl (Z 9) key 0 n) 60 0 0 (n + 1) (t_mk Z n (t_pl (Z 9) key 0 n) key value))) (n := n + 1) hN2 (by omega) hF2 (j := (j + 1)) (by omega)) ?_
    show e_r 46 99 [.ref 5, .int key, .int value, .int (nI (t_pl (Z 9) key 0 n)), .int (nI j)] [.int (t_wt (t_py (t_pl (Z 9) key 0 n) 60 0 0 (n + 1) (t_mk Z n (t_pl (Z 9) key 0 n) key value)) (n + 1) (j + 1))] (hp ((t_la (t_py (t_pl (Z 9) key 0 n) 60 0 0 (n + 1) (t_mk Z n (t_pl (Z 9) key 0 n) key value)) (n + 1) (j + 1))) P L) _ _
    exact e_ret hk_46 rfl rfl rfl (by rw [t_en, if_neg (by rw [hr]; decide), hq]; dsimp only; rw [hw]; dsimp only; rw [if_neg (show ¬ j < t_pl (Z 9) key 0 n by omega)]) (by rw [t_en, if_neg (by rw [hr]; decide), hq]; dsimp only; rw [hw]; dsimp only; rw [if_neg (show ¬ j < t_pl (Z 9) key 0 n by omega)])
  · skip
    rw [y_le (by omega) (by omega)] at hc84
    refine e_go hk_46 2 (c := (96, [.ref 5, .int key, .int value, .int (nI (t_pl (Z 9) key 0 n)), .int (nI j)], [.int (nI j), .ref 5], hp ((t_py (t_pl (Z 9) key 0 n) 60 0 0 (n + 1) (t_mk Z n (t_pl (Z 9) key 0 n) key value))) P L)) rfl ?_
    refine e_call hk_46 (as := [.ref 5, .int (nI j)]) (rest := []) rfl rfl hk_52 rfl (Nat.le_of_ble_eq_true rfl) rfl (x_lay (Z := (t_py (t_pl (Z 9) key 0 n) 60 0 0 (n + 1) (t_mk Z n (t_pl (Z 9) key 0 n) key value))) (n := n + 1) hN2 (by omega) hF2 (j := j) (by omega)) ?_
    show e_r 46 99 [.ref 5, .int key, .int value, .int (nI (t_pl (Z 9) key 0 n)), .int (nI j)] [.int (t_wt (t_py (t_pl (Z 9) key 0 n) 60 0 0 (n + 1) (t_mk Z n (t_pl (Z 9) key 0 n) key value)) (n + 1) j)] (hp ((t_la (t_py (t_pl (Z 9) key 0 n) 60 0 0 (n + 1) (t_mk Z n (t_pl (Z 9) key 0 n) key value)) (n + 1) j)) P L) _ _
    exact e_ret hk_46 rfl rfl rfl (by rw [t_en, if_neg (by rw [hr]; decide), hq]; dsimp only; rw [hw]; dsimp only; rw [if_pos (show j < t_pl (Z 9) key 0 n by omega)]) (by rw [t_en, if_neg (by rw [hr]; decide), hq]; dsimp only; rw [hw]; dsimp only; rw [if_pos (show j < t_pl (Z 9) key 0 n by omega)])
theorem x_enter {Z : Nat → Nat → Int32} {P : Nat → Nat} {L n : Nat} (hN : Z 5 6 = nI n) (hn : n ≤ 60) (hF : ∀ i, i < n → Z 17 i = 0 ∨ Z 17 i = 1) {key value : Int32}  : m_r 46 [.ref 5, .int key, .int value] (hp Z P L) (some (.int (t_en Z n key value).1)) (hp (t_en Z n key value).2 P L) := by
  cases hr : t_rm Z n key with
  | false => exact x_en_no hN hn hF hr
  | true =>
    cases hq : t_nd (Z 9) n key with
    | some j => exact x_en_old hN hn hF hr hq
    | none =>
      cases hw : t_wl (Z 15) (Z 7 0) (t_pl (Z 9) key 0 n) 60 0 0 n with
      | none => exact x_en_none hN hn hF hr hq hw
      | some j => exact x_en_lean hN hn hF hr hq hw
end
section
/-! Tree: hollowOut; become; printed by wip/whole/gen/tree6.py -/
def t_h2 (Z : Nat → Nat → Int32) (n : Nat) : Int32 × (Nat → Nat → Int32) := if Z 7 1 * nI n < 100 * (nI n - t_sm (Z 17) 0 n 0) then (t_wt Z n (t_tp (Z 15) 0 0 (n - 1 - 0)), t_la Z n (t_tp (Z 15) 0 0 (n - 1 - 0))) else (0, Z)
def t_hl (Z : Nat → Nat → Int32) (n : Nat) (key : Int32) : Int32 × (Nat → Nat → Int32) := match t_fn (Z 9) (Z 17) n key with
  | none => (-1, Z)
  | some j => t_h2 (t_py j 60 0 0 n (s_upd Z 17 j 0)) n
theorem x_hl_2 {Z : Nat → Nat → Int32} {P : Nat → Nat} {L n : Nat} (hN : Z 5 6 = nI n) (hn : n ≤ 60) (hF : ∀ i, i < n → Z 17 i = 0 ∨ Z 17 i = 1) (h0 : 0 < n) {j : Nat} {key : Int32} : e_r 47 28 [.ref 5, .int key, .int (nI j), s_no] [] (hp Z P L) (some (.int (t_h2 Z n).1)) (hp (t_h2 Z n).2 P L) := by
  refine e_go hk_47 3 (c := (33, [.ref 5, .int key, .int (nI j), s_no], [.ref 5, .int (Z 5 6)], hp Z P L)) rfl ?_
  refine e_call hk_47 (as := [.ref 5]) (rest := [.int (Z 5 6)]) rfl rfl hk_34 rfl (Nat.le_of_ble_eq_true rfl) rfl (x_all hN hn) ?_
  show e_r 47 36 [.ref 5, .int key, .int (nI j), s_no] [.int (t_sm (Z 17) 0 n 0), .int (Z 5 6)] (hp Z P L) _ _
  refine e_go hk_47 8 (c := (47, [.ref 5, .int key, .int (nI j), .int ((Z 5 6) - (t_sm (Z 17) 0 n 0))], [.int 1, .ref 6, .int (100 * ((Z 5 6) - (t_sm (Z 17) 0 n 0)))], hp Z P L)) rfl ?_
  refine e_call hk_47 (as := [.ref 6, .int (nI 1)]) (rest := [.int (100 * ((Z 5 6) - (t_sm (Z 17) 0 n 0)))]) rfl rfl hk_22 rfl (Nat.le_of_ble_eq_true rfl) rfl (x_at (r := 6) (a := 7) (n := 3) rfl rfl rfl (by decide) (j := 1) (by decide)) ?_
  show e_r 47 50 [.ref 5, .int key, .int (nI j), .int ((Z 5 6) - (t_sm (Z 17) 0 n 0))] [.int (Z 7 1), .int (100 * ((Z 5 6) - (t_sm (Z 17) 0 n 0)))] (hp Z P L) _ _
  refine e_go hk_47 4 (c := (if s_cnd .le (100 * ((Z 5 6) - (t_sm (Z 17) 0 n 0))) ((Z 7 1) * (Z 5 6)) = true then 77 else 58, [.ref 5, .int key, .int (nI j), .int ((Z 5 6) - (t_sm (Z 17) 0 n 0))], [], hp Z P L)) rfl ?_
  refine e_le (a := 77) (b := 58) (x := 100 * ((Z 5 6) - (t_sm (Z 17) 0 n 0))) (y := (Z 7 1) * (Z 5 6)) (fun hc55 => ?_) (fun hc55 => ?_)
  · skip
    rw [hN] at hc55
    refine e_go hk_47 1 (c := (78, [.ref 5, .int key, .int (nI j), .int ((Z 5 6) - (t_sm (Z 17) 0 n 0))], [.int 0], hp Z P L)) rfl ?_
    exact e_ret hk_47 rfl rfl rfl (by rw [t_h2, if_neg (Int32.not_lt.mpr hc55)]) (by rw [t_h2, if_neg (Int32.not_lt.mpr hc55)])
  · skip
    rw [hN] at hc55
    refine e_go hk_47 8 (c := (68, [.ref 5, .int key, .int (nI j), .int ((Z 5 6) - (t_sm (Z 17) 0 n 0))], [.int 0, .int ((Z 5 6) - 1), .int 0, .ref 5, .ref 5], hp Z P L)) rfl ?_
    rw [hN, y_m1s h0]
    refine e_call hk_47 (as := [.ref 5, .int (nI 0), .int (nI (n - 1)), .int 0]) (rest := [.ref 5]) rfl rfl hk_39 rfl (Nat.le_of_ble_eq_true rfl) rfl (x_top (l := 0) (u := n - 1) (by omega) (by omega)) ?_
    show e_r 47 71 [.ref 5, .int key, .int (nI j), .int (nI n - (t_sm (Z 17) 0 n 0))] [.int (nI (t_tp (Z 15) 0 0 (n - 1 - 0))), .ref 5] (hp Z P L) _ _
    have htp := t_tp_le (Z 15) 0 (n - 1 - 0) 0
    refine e_call hk_47 (as := [.ref 5, .int (nI (t_tp (Z 15) 0 0 (n - 1 - 0)))]) (rest := []) rfl rfl hk_52 rfl (Nat.le_of_ble_eq_true rfl) rfl (x_lay (Z := Z) hN hn hF (j := t_tp (Z 15) 0 0 (n - 1 - 0)) (by omega)) ?_
    show e_r 47 74 [.ref 5, .int key, .int (nI j), .int (nI n - (t_sm (Z 17) 0 n 0))] [.int (t_wt Z n (t_tp (Z 15) 0 0 (n - 1 - 0)))] (hp ((t_la Z n (t_tp (Z 15) 0 0 (n - 1 - 0)))) P L) _ _
    refine e_go hk_47 1 (c := (78, [.ref 5, .int key, .int (nI j), .int (nI n - (t_sm (Z 17) 0 n 0))], [.int (t_wt Z n (t_tp (Z 15) 0 0 (n - 1 - 0)))], hp ((t_la Z n (t_tp (Z 15) 0 0 (n - 1 - 0)))) P L)) rfl ?_
    exact e_ret hk_47 rfl rfl rfl (by rw [t_h2, if_pos (Int32.not_le.mp hc55)]) (by rw [t_h2, if_pos (Int32.not_le.mp hc55)])
theorem x_hl_none {Z : Nat → Nat → Int32} {P : Nat → Nat} {L n : Nat} (hN : Z 5 6 = nI n) (hn : n ≤ 60) (hF : ∀ i, i < n → Z 17 i = 0 ∨ Z 17 i = 1) {key : Int32} (hq : t_fn (Z 9) (Z 17) n key = none) : m_r 47 [.ref 5, .int key] (hp Z P L) (some (.int (t_hl Z n key).1)) (hp (t_hl Z n key).2 P L) := by
  refine m_of (ls := [.ref 5, .int key, s_no, s_no]) hk_47 rfl rfl rfl ?_
  refine e_go hk_47 2 (c := (2, [.ref 5, .int key, s_no, s_no], [.int key, .ref 5], hp Z P L)) rfl ?_
  refine e_call hk_47 (as := [.ref 5, .int key]) (rest := []) rfl rfl hk_32 rfl (Nat.le_of_ble_eq_true rfl) rfl (show m_r 32 [.ref 5, .int key] (hp Z P L) (some (.int (-6))) (hp Z P L) from (by have := x_fnode (P := P) (L := L) (key := key) hN hn; rw [hq] at this; exact this)) ?_
  show e_r 47 5 [.ref 5, .int key, s_no, s_no] [.int ((-6))] (hp Z P L) _ _
  refine e_go hk_47 4 (c := (if s_cnd .ne ((-6)) ((-6)) = true then 14 else 12, [.ref 5, .int key, .int ((-6)), s_no], [], hp Z P L)) rfl ?_
  refine e_ne (a := 14) (b := 12) (x := (-6)) (y := (-6)) (fun hc9 => absurd (rfl) hc9) (fun hc9 => ?_)
  refine e_go hk_47 1 (c := (13, [.ref 5, .int key, .int ((-6)), s_no], [.int ((-1))], hp Z P L)) rfl ?_
  exact e_ret hk_47 rfl rfl rfl (by rw [t_hl, hq]) (by rw [t_hl, hq])
theorem x_hl_some {Z : Nat → Nat → Int32} {P : Nat → Nat} {L n : Nat} (hN : Z 5 6 = nI n) (hn : n ≤ 60) (hF : ∀ i, i < n → Z 17 i = 0 ∨ Z 17 i = 1) {key : Int32} {j : Nat} (hq : t_fn (Z 9) (Z 17) n key = some j) : m_r 47 [.ref 5, .int key] (hp Z P L) (some (.int (t_hl Z n key).1)) (hp (t_hl Z n key).2 P L) := by
  have hjn := (t_fn_lt hq).1
  refine m_of (ls := [.ref 5, .int key, s_no, s_no]) hk_47 rfl rfl rfl ?_
  refine e_go hk_47 2 (c := (2, [.ref 5, .int key, s_no, s_no], [.int key, .ref 5], hp Z P L)) rfl ?_
  refine e_call hk_47 (as := [.ref 5, .int key]) (rest := []) rfl rfl hk_32 rfl (Nat.le_of_ble_eq_true rfl) rfl (show m_r 32 [.ref 5, .int key] (hp Z P L) (some (.int (nI j))) (hp Z P L) from (by have := x_fnode (P := P) (L := L) (key := key) hN hn; rw [hq] at this; exact this)) ?_
  show e_r 47 5 [.ref 5, .int key, s_no, s_no] [.int (nI j)] (hp Z P L) _ _
  refine e_go hk_47 4 (c := (if s_cnd .ne (nI j) ((-6)) = true then 14 else 12, [.ref 5, .int key, .int (nI j), s_no], [], hp Z P L)) rfl ?_
  refine e_ne (a := 14) (b := 12) (x := nI j) (y := (-6)) (fun hc9 => ?_) (fun hc9 => absurd hc9 (fun z => absurd ((y_o_none (q := some j) (fun i hi => by cases hi; omega)).mp z) (by simp)))
  refine e_go hk_47 4 (c := (20, [.ref 5, .int key, .int (nI j), s_no], [.int 0, .int (nI j), .ref 16], hp Z P L)) rfl ?_
  refine e_call hk_47 (as := [.ref 16, .int (nI j), .int 0]) (rest := []) rfl rfl hk_23 rfl (Nat.le_of_ble_eq_true rfl) rfl (x_write (r := 16) (a := 17) (n := 60) rfl rfl rfl (by decide) (by decide) (j := j) (by omega)) ?_
  show e_r 47 23 [.ref 5, .int key, .int (nI j), s_no] [] (hp (s_upd Z 17 j 0) P L) _ _
  refine e_go hk_47 2 (c := (25, [.ref 5, .int key, .int (nI j), s_no], [.int (nI j), .ref 5], hp (s_upd Z 17 j 0) P L)) rfl ?_
  refine e_call hk_47 (as := [.ref 5, .int (nI j)]) (rest := []) rfl rfl hk_49 rfl (Nat.le_of_ble_eq_true rfl) rfl (x_pay (Z := s_upd Z 17 j 0) (n := n) hN hn (p := j) (by omega)) ?_
  show e_r 47 28 [.ref 5, .int key, .int (nI j), s_no] [] (hp ((t_py j 60 0 0 n (s_upd Z 17 j 0))) P L) _ _
  rw [t_hl, hq]
  refine x_hl_2 (Z := t_py j 60 0 0 n (s_upd Z 17 j 0)) ?_ hn ?_ (by omega)
  · rw [t_py_o (by decide)]; exact hN
  · intro i hi
    rw [t_py_o (by decide), s_upd_c]
    split
    · exact Or.inl rfl
    · exact hF i hi
theorem x_hollow {Z : Nat → Nat → Int32} {P : Nat → Nat} {L n : Nat} (hN : Z 5 6 = nI n) (hn : n ≤ 60) (hF : ∀ i, i < n → Z 17 i = 0 ∨ Z 17 i = 1) {key : Int32} : m_r 47 [.ref 5, .int key] (hp Z P L) (some (.int (t_hl Z n key).1)) (hp (t_hl Z n key).2 P L) := by
  cases hq : t_fn (Z 9) (Z 17) n key with
  | none => exact x_hl_none hN hn hF hq
  | some j => exact x_hl_some hN hn hF hq
def t_cp (Z : Nat → Nat → Int32) (a b n : Nat) : Nat → Nat → Int32 := fun i => if i = b then va_cpy (Z a) (Z b) 0 0 n else Z i
theorem e_acpy {k pc : Nat} {r : sM} {cn : Option Nat} {ls rest : List Value} {h h2 : sHp} {v : Option Value} (hk : s_T k = some (r, cn)) {e : sE} {a b n : Nat} (hat : s_at (s_cd r) pc = some e) (hi : e.2.1 = .monitorexit) (hsa : s_nth h.2.2 a = some (1, n)) (hsb : s_nth h.2.2 b = some (1, n)) (ha : 4 ≤ a) (hb : 4 ≤ b) (hn : n < 2 ^ 31) (hcat : s_cat rest ≤ 8) (kk : e_r k (pc + e.2.2.1) ls rest (t_cp h.1 a b n, h.2) v h2) : e_r k pc ls (.int (nI n) :: .int 0 :: .ref b :: .int 0 :: .ref a :: rest) h v h2 := by
  refine e_step (c := (pc + e.2.2.1, ls, rest, (t_cp h.1 a b n, h.2))) hk hat (by rw [hi]; rfl) (by rw [hi]; rfl) ?_ kk
  rw [hi]
  dsimp only [s_x]
  rw [hsa, hsb]
  have hz : (0 : Int32).toNatClampNeg = 0 := rfl
  show (if 8 < s_cat rest ∨ (0 : Int32) < 0 ∨ (0 : Int32) < 0 ∨ nI n < 0 ∨ n < (0 : Int32).toNatClampNeg + (nI n).toNatClampNeg ∨ n < (0 : Int32).toNatClampNeg + (nI n).toNatClampNeg ∨ a < 4 ∨ b < 4 then none else some (pc + e.2.2.1, ls, rest, ((fun i => if i = b then va_cpy (h.1 a) (h.1 b) (0 : Int32).toNatClampNeg (0 : Int32).toNatClampNeg (nI n).toNatClampNeg else h.1 i : Nat → Nat → Int32), h.2))) = _
  rw [hz, nI_clamp hn, if_neg]
  · rfl
  · simp only [not_or, Nat.zero_add, Nat.lt_irrefl, Nat.not_lt, not_false_eq_true, true_and]
    exact ⟨hcat, by decide, by decide, nI_pos hn, ha, hb⟩
theorem x_rbec {r r2 a b n : Nat} {h : sHp} (h1 : s_nth h.2.2 r = some (0, 3)) (h2 : h.2.1 r 0 = some b) (h3 : s_nth h.2.2 b = some (1, n)) (g1 : s_nth h.2.2 r2 = some (0, 3)) (g2 : h.2.1 r2 0 = some a) (g3 : s_nth h.2.2 a = some (1, n)) (ha : 4 ≤ a) (hb : 4 ≤ b) (hn : n < 2 ^ 31) : m_r 24 [.ref r, .ref r2] h none (t_cp h.1 a b n, h.2) := by
  refine m_of (ls := [.ref r, .ref r2]) hk_24 rfl rfl rfl ?_
  refine e_go hk_24 1 (c := (1, [.ref r, .ref r2], [.ref r2], h)) rfl ?_
  refine e_getr hk_24 (ev := 3074) (b := a) rfl rfl g1 rfl g2 ?_
  refine e_go hk_24 2 (c := (6, [.ref r, .ref r2], [.ref r, .int 0, .ref a], h)) rfl ?_
  refine e_getr hk_24 (ev := 3074) (b := b) rfl rfl h1 rfl h2 ?_
  refine e_go hk_24 2 (c := (11, [.ref r, .ref r2], [.ref r, .int 0, .ref b, .int 0, .ref a], h)) rfl ?_
  refine e_getr hk_24 (ev := 3074) (b := b) rfl rfl h1 rfl h2 ?_
  refine e_alen hk_24 (a := b) rfl rfl h3 ?_
  refine e_go hk_24 1 (c := (16, [.ref r, .ref r2], [.ref r2, .int (nI n), .int 0, .ref b, .int 0, .ref a], h)) rfl ?_
  refine e_getr hk_24 (ev := 3074) (b := a) rfl rfl g1 rfl g2 ?_
  refine e_alen hk_24 (a := a) rfl rfl g3 ?_
  refine e_go hk_24 1 (c := (23, [.ref r, .ref r2], [.int (if nI n < nI n then nI n else nI n), .int 0, .ref b, .int 0, .ref a], h)) rfl ?_
  rw [ite_self]
  refine e_acpy hk_24 (a := a) (b := b) (n := n) rfl rfl g3 h3 ha hb hn (by decide) ?_
  exact e_ret hk_24 rfl rfl rfl rfl rfl
/-- at cell x of this heap stands a tree with its rows -/
def t_is (h : sHp) (x : Nat) : Prop := s_nth h.2.2 x = some (0, 5) ∧ (s_nth h.2.2 (x + 1) = some (0, 3) ∧ s_nth h.2.2 (x + 3) = some (0, 3) ∧ s_nth h.2.2 (x + 5) = some (0, 3) ∧ s_nth h.2.2 (x + 7) = some (0, 3) ∧ s_nth h.2.2 (x + 9) = some (0, 3) ∧ s_nth h.2.2 (x + 11) = some (0, 3)) ∧ (s_nth h.2.2 (x + 2) = some (1, 3) ∧ s_nth h.2.2 (x + 4) = some (1, 60) ∧ s_nth h.2.2 (x + 6) = some (1, 60) ∧ s_nth h.2.2 (x + 8) = some (1, 60) ∧ s_nth h.2.2 (x + 10) = some (1, 60) ∧ s_nth h.2.2 (x + 12) = some (1, 60)) ∧ (h.2.1 x 0 = some (x + 1) ∧ h.2.1 x 1 = some (x + 3) ∧ h.2.1 x 2 = some (x + 5) ∧ h.2.1 x 3 = some (x + 7) ∧ h.2.1 x 4 = some (x + 9) ∧ h.2.1 x 5 = some (x + 11)) ∧ (h.2.1 (x + 1) 0 = some (x + 2) ∧ h.2.1 (x + 3) 0 = some (x + 4) ∧ h.2.1 (x + 5) 0 = some (x + 6) ∧ h.2.1 (x + 7) 0 = some (x + 8) ∧ h.2.1 (x + 9) 0 = some (x + 10) ∧ h.2.1 (x + 11) 0 = some (x + 12))
/-- the six rows of the tree at y into those of the tree at x -/
def t_bc6 (Z : Nat → Nat → Int32) (x y : Nat) : Nat → Nat → Int32 := t_cp (t_cp (t_cp (t_cp (t_cp (t_cp Z (y + 2) (x + 2) 3) (y + 4) (x + 4) 60) (y + 6) (x + 6) 60) (y + 8) (x + 8) 60) (y + 10) (x + 10) 60) (y + 12) (x + 12) 60
def t_bc5 (Z : Nat → Nat → Int32) (x y s : Nat) : Nat → Nat → Int32 := s_upd Z x s (Z y s)
/-- the tree at x becomes the tree at y -/
def t_bc (Z : Nat → Nat → Int32) (x y : Nat) : Nat → Nat → Int32 := t_bc5 (t_bc5 (t_bc5 (t_bc5 (t_bc5 (t_bc6 Z x y) x y 6) x y 7) x y 8) x y 9) x y 10
theorem x_tbec {x y : Nat} {h : sHp} (hx : t_is h x) (hy : t_is h y) (h4 : 4 ≤ x) (k4 : 4 ≤ y) : m_r 29 [.ref x, .ref y] h none (t_bc h.1 x y, h.2) := by
  obtain ⟨x0, ⟨x1, x3, x5, x7, x9, x11⟩, ⟨x2, x4, x6, x8, x10, x12⟩, ⟨q0, q1, q2, q3, q4, q5⟩, ⟨r1, r3, r5, r7, r9, r11⟩⟩ := hx
  obtain ⟨y0, ⟨y1, y3, y5, y7, y9, y11⟩, ⟨y2, y4, y6, y8, y10, y12⟩, ⟨p0, p1, p2, p3, p4, p5⟩, ⟨s1, s3, s5, s7, s9, s11⟩⟩ := hy
  refine m_of (ls := [.ref x, .ref y]) hk_29 rfl rfl rfl ?_
  refine e_go hk_29 1 (c := (1, [.ref x, .ref y], [.ref x], h)) rfl ?_
  refine e_getr hk_29 (ev := 5122) (b := x + 1) rfl rfl x0 rfl q0 ?_
  refine e_go hk_29 1 (c := (5, [.ref x, .ref y], [.ref y, .ref (x + 1)], h)) rfl ?_
  refine e_getr hk_29 (ev := 5122) (b := y + 1) rfl rfl y0 rfl p0 ?_
  refine e_call hk_29 (as := [.ref (x + 1), .ref (y + 1)]) (rest := []) rfl rfl hk_24 rfl (Nat.le_of_ble_eq_true rfl) (s_rc_of x1) (x_rbec x1 r1 x2 y1 s1 y2 (by omega) (by omega) (by decide)) ?_
  show e_r 29 11 [.ref x, .ref y] [] (t_cp h.1 (y + 2) (x + 2) 3, h.2) _ _
  refine e_go hk_29 1 (c := (12, [.ref x, .ref y], [.ref x], (t_cp h.1 (y + 2) (x + 2) 3, h.2))) rfl ?_
  refine e_getr hk_29 (ev := 5130) (b := x + 3) rfl rfl x0 rfl q1 ?_
  refine e_go hk_29 1 (c := (16, [.ref x, .ref y], [.ref y, .ref (x + 3)], (t_cp h.1 (y + 2) (x + 2) 3, h.2))) rfl ?_
  refine e_getr hk_29 (ev := 5130) (b := y + 3) rfl rfl y0 rfl p1 ?_
  refine e_call hk_29 (as := [.ref (x + 3), .ref (y + 3)]) (rest := []) rfl rfl hk_24 rfl (Nat.le_of_ble_eq_true rfl) (s_rc_of x3) (x_rbec x3 r3 x4 y3 s3 y4 (by omega) (by omega) (by decide)) ?_
  show e_r 29 22 [.ref x, .ref y] [] (t_cp (t_cp h.1 (y + 2) (x + 2) 3) (y + 4) (x + 4) 60, h.2) _ _
  refine e_go hk_29 1 (c := (23, [.ref x, .ref y], [.ref x], (t_cp (t_cp h.1 (y + 2) (x + 2) 3) (y + 4) (x + 4) 60, h.2))) rfl ?_
  refine e_getr hk_29 (ev := 5138) (b := x + 5) rfl rfl x0 rfl q2 ?_
  refine e_go hk_29 1 (c := (27, [.ref x, .ref y], [.ref y, .ref (x + 5)], (t_cp (t_cp h.1 (y + 2) (x + 2) 3) (y + 4) (x + 4) 60, h.2))) rfl ?_
  refine e_getr hk_29 (ev := 5138) (b := y + 5) rfl rfl y0 rfl p2 ?_
  refine e_call hk_29 (as := [.ref (x + 5), .ref (y + 5)]) (rest := []) rfl rfl hk_24 rfl (Nat.le_of_ble_eq_true rfl) (s_rc_of x5) (x_rbec x5 r5 x6 y5 s5 y6 (by omega) (by omega) (by decide)) ?_
  show e_r 29 33 [.ref x, .ref y] [] (t_cp (t_cp (t_cp h.1 (y + 2) (x + 2) 3) (y + 4) (x + 4) 60) (y + 6) (x + 6) 60, h.2) _ _
  refine e_go hk_29 1 (c := (34, [.ref x, .ref y], [.ref x], (t_cp (t_cp (t_cp h.1 (y + 2) (x + 2) 3) (y + 4) (x + 4) 60) (y + 6) (x + 6) 60, h.2))) rfl ?_
  refine e_getr hk_29 (ev := 5146) (b := x + 7) rfl rfl x0 rfl q3 ?_
  refine e_go hk_29 1 (c := (38, [.ref x, .ref y], [.ref y, .ref (x + 7)], (t_cp (t_cp (t_cp h.1 (y + 2) (x + 2) 3) (y + 4) (x + 4) 60) (y + 6) (x + 6) 60, h.2))) rfl ?_
  refine e_getr hk_29 (ev := 5146) (b := y + 7) rfl rfl y0 rfl p3 ?_
  refine e_call hk_29 (as := [.ref (x + 7), .ref (y + 7)]) (rest := []) rfl rfl hk_24 rfl (Nat.le_of_ble_eq_true rfl) (s_rc_of x7) (x_rbec x7 r7 x8 y7 s7 y8 (by omega) (by omega) (by decide)) ?_
  show e_r 29 44 [.ref x, .ref y] [] (t_cp (t_cp (t_cp (t_cp h.1 (y + 2) (x + 2) 3) (y + 4) (x + 4) 60) (y + 6) (x + 6) 60) (y + 8) (x + 8) 60, h.2) _ _
  refine e_go hk_29 1 (c := (45, [.ref x, .ref y], [.ref x], (t_cp (t_cp (t_cp (t_cp h.1 (y + 2) (x + 2) 3) (y + 4) (x + 4) 60) (y + 6) (x + 6) 60) (y + 8) (x + 8) 60, h.2))) rfl ?_
  refine e_getr hk_29 (ev := 5154) (b := x + 9) rfl rfl x0 rfl q4 ?_
  refine e_go hk_29 1 (c := (49, [.ref x, .ref y], [.ref y, .ref (x + 9)], (t_cp (t_cp (t_cp (t_cp h.1 (y + 2) (x + 2) 3) (y + 4) (x + 4) 60) (y + 6) (x + 6) 60) (y + 8) (x + 8) 60, h.2))) rfl ?_
  refine e_getr hk_29 (ev := 5154) (b := y + 9) rfl rfl y0 rfl p4 ?_
  refine e_call hk_29 (as := [.ref (x + 9), .ref (y + 9)]) (rest := []) rfl rfl hk_24 rfl (Nat.le_of_ble_eq_true rfl) (s_rc_of x9) (x_rbec x9 r9 x10 y9 s9 y10 (by omega) (by omega) (by decide)) ?_
  show e_r 29 55 [.ref x, .ref y] [] (t_cp (t_cp (t_cp (t_cp (t_cp h.1 (y + 2) (x + 2) 3) (y + 4) (x + 4) 60) (y + 6) (x + 6) 60) (y + 8) (x + 8) 60) (y + 10) (x + 10) 60, h.2) _ _
  refine e_go hk_29 1 (c := (56, [.ref x, .ref y], [.ref x], (t_cp (t_cp (t_cp (t_cp (t_cp h.1 (y + 2) (x + 2) 3) (y + 4) (x + 4) 60) (y + 6) (x + 6) 60) (y + 8) (x + 8) 60) (y + 10) (x + 10) 60, h.2))) rfl ?_
  refine e_getr hk_29 (ev := 5162) (b := x + 11) rfl rfl x0 rfl q5 ?_
  refine e_go hk_29 1 (c := (60, [.ref x, .ref y], [.ref y, .ref (x + 11)], (t_cp (t_cp (t_cp (t_cp (t_cp h.1 (y + 2) (x + 2) 3) (y + 4) (x + 4) 60) (y + 6) (x + 6) 60) (y + 8) (x + 8) 60) (y + 10) (x + 10) 60, h.2))) rfl ?_
  refine e_getr hk_29 (ev := 5162) (b := y + 11) rfl rfl y0 rfl p5 ?_
  refine e_call hk_29 (as := [.ref (x + 11), .ref (y + 11)]) (rest := []) rfl rfl hk_24 rfl (Nat.le_of_ble_eq_true rfl) (s_rc_of x11) (x_rbec x11 r11 x12 y11 s11 y12 (by omega) (by omega) (by decide)) ?_
  show e_r 29 66 [.ref x, .ref y] [] (t_cp (t_cp (t_cp (t_cp (t_cp (t_cp h.1 (y + 2) (x + 2) 3) (y + 4) (x + 4) 60) (y + 6) (x + 6) 60) (y + 8) (x + 8) 60) (y + 10) (x + 10) 60) (y + 12) (x + 12) 60, h.2) _ _
  show e_r 29 66 [.ref x, .ref y] [] (t_bc6 h.1 x y, h.2) _ _
  generalize hW : t_bc6 h.1 x y = W
  unfold t_bc
  rw [hW]
  refine e_go hk_29 2 (c := (68, [.ref x, .ref y], [.ref y, .ref x], (W, h.2))) rfl ?_
  refine e_geti hk_29 (ev := 5168) rfl rfl y0 (by decide) ?_
  refine e_puti hk_29 (ev := 5168) rfl rfl x0 rfl ?_
  show e_r 29 74 [.ref x, .ref y] [] (t_bc5 W x y 6, h.2) _ _
  refine e_go hk_29 2 (c := (76, [.ref x, .ref y], [.ref y, .ref x], (t_bc5 W x y 6, h.2))) rfl ?_
  refine e_geti hk_29 (ev := 5176) rfl rfl y0 (by decide) ?_
  refine e_puti hk_29 (ev := 5176) rfl rfl x0 rfl ?_
  show e_r 29 82 [.ref x, .ref y] [] (t_bc5 (t_bc5 W x y 6) x y 7, h.2) _ _
  refine e_go hk_29 2 (c := (84, [.ref x, .ref y], [.ref y, .ref x], (t_bc5 (t_bc5 W x y 6) x y 7, h.2))) rfl ?_
  refine e_geti hk_29 (ev := 5184) rfl rfl y0 (by decide) ?_
  refine e_puti hk_29 (ev := 5184) rfl rfl x0 rfl ?_
  show e_r 29 90 [.ref x, .ref y] [] (t_bc5 (t_bc5 (t_bc5 W x y 6) x y 7) x y 8, h.2) _ _
  refine e_go hk_29 2 (c := (92, [.ref x, .ref y], [.ref y, .ref x], (t_bc5 (t_bc5 (t_bc5 W x y 6) x y 7) x y 8, h.2))) rfl ?_
  refine e_geti hk_29 (ev := 5192) rfl rfl y0 (by decide) ?_
  refine e_puti hk_29 (ev := 5192) rfl rfl x0 rfl ?_
  show e_r 29 98 [.ref x, .ref y] [] (t_bc5 (t_bc5 (t_bc5 (t_bc5 W x y 6) x y 7) x y 8) x y 9, h.2) _ _
  refine e_go hk_29 2 (c := (100, [.ref x, .ref y], [.ref y, .ref x], (t_bc5 (t_bc5 (t_bc5 (t_bc5 W x y 6) x y 7) x y 8) x y 9, h.2))) rfl ?_
  refine e_geti hk_29 (ev := 5200) rfl rfl y0 (by decide) ?_
  refine e_puti hk_29 (ev := 5200) rfl rfl x0 rfl ?_
  show e_r 29 106 [.ref x, .ref y] [] (t_bc5 (t_bc5 (t_bc5 (t_bc5 (t_bc5 W x y 6) x y 7) x y 8) x y 9) x y 10, h.2) _ _
  exact e_ret hk_29 rfl rfl rfl rfl rfl
end
section
/-! History; printed by wip/whole/gen/hist.py -/
def t_at (x : Nat) : Prop := x = 5 ∨ x = 20 ∨ x = 33 ∨ x = 46 ∨ x = 59 ∨ x = 72 ∨ x = 85 ∨ x = 104 ∨ x = 118
theorem t_at_is {Z : Nat → Nat → Int32} {P : Nat → Nat} {L x : Nat} (h : t_at x) : t_is (hp Z P L) x := by
  rcases h with rfl | rfl | rfl | rfl | rfl | rfl | rfl | rfl | rfl <;> exact ⟨rfl, ⟨rfl, rfl, rfl, rfl, rfl, rfl⟩, ⟨rfl, rfl, rfl, rfl, rfl, rfl⟩, ⟨rfl, rfl, rfl, rfl, rfl, rfl⟩, ⟨rfl, rfl, rfl, rfl, rfl, rfl⟩⟩
theorem t_at4 {x : Nat} (h : t_at x) : 4 ≤ x := by unfold t_at at h; omega
theorem t_at_sh {L x : Nat} (h : t_at x) : s_nth (s_SH L) x = some (0, 5) := by
  rcases h with rfl | rfl | rfl | rfl | rfl | rfl | rfl | rfl | rfl <;> rfl
/-- the history's array: which tree stands at j -/
def y_pu (P : Nat → Nat) (j b : Nat) : Nat → Nat := fun i => if i = j then b else P i
theorem s_RR19 {P : Nat → Nat} {j : Nat} (hj : j < 6) : s_RR P 19 j = some (P j) := by
  unfold s_RR
  rw [show Nat.beq 19 19 = true from rfl]
  dsimp only
  rw [show Nat.blt j 6 = true from by simpa [Nat.blt_eq] using hj]
theorem s_RRput {P : Nat → Nat} {j b : Nat} (hj : j < 6) : s_updR (s_RR P) 19 j (some b) = s_RR (y_pu P j b) := by
  funext i k
  unfold s_updR va_up
  by_cases h1 : i = 19
  · rw [if_pos h1, h1]
    by_cases h2 : k = j
    · rw [if_pos h2, h2, s_RR19 hj, y_pu, if_pos rfl]
    · rw [if_neg h2]
      by_cases h3 : k < 6
      · rw [s_RR19 h3, s_RR19 h3, y_pu, if_neg h2]
      · unfold s_RR
        rw [show Nat.beq 19 19 = true from rfl]
        dsimp only
        rw [show Nat.blt k 6 = false from by cases hq : Nat.blt k 6 with | false => rfl | true => exact absurd (by simpa [Nat.blt_eq] using hq) h3]
  · rw [if_neg h1]
    unfold s_RR
    rw [show Nat.beq i 19 = false from by cases hq : Nat.beq i 19 with | false => rfl | true => exact absurd (Nat.eq_of_beq_eq_true hq) h1]
theorem e_hld {k pc : Nat} {r : sM} {cn : Option Nat} {ls rest : List Value} {h2 : sHp} {v : Option Value} {Z : Nat → Nat → Int32} {P : Nat → Nat} {L : Nat} (hk : s_T k = some (r, cn)) {e : sE} {j : Nat} (hat : s_at (s_cd r) pc = some e) (hi : e.2.1 = .aaload) (hj : j < 6) (kk : e_r k (pc + e.2.2.1) ls (.ref (P j) :: rest) (hp Z P L) v h2) : e_r k pc ls (.int (nI j) :: .ref 19 :: rest) (hp Z P L) v h2 := by
  refine e_step (c := (pc + e.2.2.1, ls, .ref (P j) :: rest, hp Z P L)) hk hat (by rw [hi]; rfl) (by rw [hi]; rfl) ?_ kk
  rw [hi]
  show (if s_outb (nI j) 6 = true ∨ 19 < 4 then none else (match s_RR P 19 (nI j).toNatClampNeg with | some b => some (pc + e.2.2.1, ls, Value.ref b :: rest, hp Z P L) | none => some (pc + e.2.2.1, ls, Value.null :: rest, hp Z P L))) = _
  rw [if_neg (by rw [not_or]; exact ⟨s_outb_nI hj (by decide), by decide⟩), nI_clamp (by omega), s_RR19 hj]
theorem e_hst {k pc : Nat} {r : sM} {cn : Option Nat} {ls rest : List Value} {h2 : sHp} {v : Option Value} {Z : Nat → Nat → Int32} {P : Nat → Nat} {L : Nat} (hk : s_T k = some (r, cn)) {e : sE} {j b : Nat} (hat : s_at (s_cd r) pc = some e) (hi : e.2.1 = .aastore) (hj : j < 6) (hb : t_at b) (kk : e_r k (pc + e.2.2.1) ls rest (hp Z (y_pu P j b) L) v h2) : e_r k pc ls (.ref b :: .int (nI j) :: .ref 19 :: rest) (hp Z P L) v h2 := by
  refine e_step (c := (pc + e.2.2.1, ls, rest, hp Z (y_pu P j b) L)) hk hat (by rw [hi]; rfl) (by rw [hi]; rfl) ?_ kk
  rw [hi]
  dsimp only [s_x]
  rw [t_at_sh hb]
  show (if s_outb (nI j) 6 = true ∨ 19 < 4 ∨ b < 4 ∨ 5 ≠ 5 then none else some (pc + e.2.2.1, ls, rest, (Z, s_updR (s_RR P) 19 (nI j).toNatClampNeg (some b), s_SH L))) = _
  have := t_at4 hb
  rw [if_neg (by simp only [not_or]; exact ⟨s_outb_nI hj (by decide), by decide, by omega, by decide⟩), nI_clamp (by omega), s_RRput hj]
def t_rot (P : Nat → Nat) : Nat → Nat := fun j => if j < 5 then P (j + 1) else if j = 5 then P 0 else P j
theorem x_state {Z : Nat → Nat → Int32} {P : Nat → Nat} {L : Nat} {j : Nat} (hj : j < 6) : m_r 4 [.ref 18, .int (nI j)] (hp Z P L) (some (.ref (P j))) (hp Z P L) := by
  refine m_of (ls := [.ref 18, .int (nI j)]) hk_4 rfl rfl rfl ?_
  refine e_go hk_4 2 (c := (if s_cnd .lt (nI j) 0 = true then 22 else 4, [.ref 18, .int (nI j)], [], hp Z P L)) rfl ?_
  refine e_lt (a := 22) (b := 4) (x := nI j) (y := 0) (fun hc1 => absurd hc1 (nI_pos (by omega))) (fun hc1 => ?_)
  refine e_go hk_4 5 (c := (if s_cnd .ge (nI j) 6 = true then 22 else 13, [.ref 18, .int (nI j)], [], hp Z P L)) rfl ?_
  refine e_ge (a := 22) (b := 13) (x := nI j) (y := 6) (fun hc10 => absurd hc10 (nI_ge hj (by decide))) (fun hc10 => ?_)
  refine e_go hk_4 3 (c := (18, [.ref 18, .int (nI j)], [.int (nI j), .ref 19], hp Z P L)) rfl ?_
  refine e_hld hk_4 (j := j) rfl rfl hj ?_
  show e_r 4 19 [.ref 18, .int (nI j)] [.ref (P j)] (hp Z P L) _ _
  refine e_go hk_4 1 (c := (23, [.ref 18, .int (nI j)], [.ref (P j)], hp Z P L)) rfl ?_
  exact e_ret hk_4 rfl rfl rfl rfl rfl
theorem x_state_m {Z : Nat → Nat → Int32} {P : Nat → Nat} {L : Nat} : m_r 4 [.ref 18, .int (-1)] (hp Z P L) (some .null) (hp Z P L) := by
  refine m_of (ls := [.ref 18, .int ((-1))]) hk_4 rfl rfl rfl ?_
  refine e_go hk_4 2 (c := (if s_cnd .lt ((-1)) 0 = true then 22 else 4, [.ref 18, .int ((-1))], [], hp Z P L)) rfl ?_
  refine e_lt (a := 22) (b := 4) (x := (-1)) (y := 0) (fun hc1 => ?_) (fun hc1 => absurd (by decide) hc1)
  refine e_go hk_4 1 (c := (23, [.ref 18, .int ((-1))], [.null], hp Z P L)) rfl ?_
  exact e_ret hk_4 rfl rfl rfl rfl rfl
theorem x_turn_1 {Z : Nat → Nat → Int32} {P : Nat → Nat} {L : Nat} {i : Nat} {q : Nat} {h2 : sHp} (hi : i + 1 < 6) (hQ : ∀ j, j < 6 → t_at (P j)) (kk : e_r 3 8 [.ref 18, .ref q, .int (nI (i + 2))] [] (hp Z (y_pu P i (P (i + 1))) L) none h2) : e_r 3 8 [.ref 18, .ref q, .int (nI (i + 1))] [] (hp Z P L) none h2 := by
  refine e_go hk_3 5 (c := (if s_cnd .ge (nI (i + 1)) 6 = true then 37 else 17, [.ref 18, .ref q, .int (nI (i + 1))], [], hp Z P L)) rfl ?_
  refine e_ge (a := 37) (b := 17) (x := nI (i + 1)) (y := 6) (fun hc14 => absurd hc14 (nI_ge (by omega) (by decide))) (fun hc14 => ?_)
  refine e_go hk_3 8 (c := (29, [.ref 18, .ref q, .int (nI (i + 1))], [.int (nI (i + 1)), .ref 19, .int ((nI (i + 1)) - 1), .ref 19], hp Z P L)) rfl ?_
  refine e_hld hk_3 (j := i + 1) rfl rfl (by omega) ?_
  show e_r 3 30 [.ref 18, .ref q, .int (nI (i + 1))] [.ref (P (i + 1)), .int ((nI (i + 1)) - 1), .ref 19] (hp Z P L) _ _
  rw [show ((nI (i + 1)) - 1) = nI i from (nI_pred i)]
  refine e_hst hk_3 (j := i) rfl rfl (by omega) (hQ (i + 1) (by omega)) ?_
  show e_r 3 31 [.ref 18, .ref q, .int (nI (i + 1))] [] (hp Z ((y_pu P i (P (i + 1)))) L) _ _
  refine e_go hk_3 2 (c := (8, [.ref 18, .ref q, .int ((nI (i + 1)) + 1)], [], hp Z ((y_pu P i (P (i + 1)))) L)) rfl ?_
  rw [nI_1]
  exact kk
theorem y_pu_at {P : Nat → Nat} {i b : Nat} (hP : ∀ j, j < 6 → t_at (P j)) (hb : t_at b) : ∀ j, j < 6 → t_at (y_pu P i b j) := by
  intro j hj
  unfold y_pu
  split
  · exact hb
  · exact hP j hj
theorem t_rot_eq {P : Nat → Nat} : y_pu (y_pu (y_pu (y_pu (y_pu (y_pu P 0 (P 1)) 1 (P 2)) 2 (P 3)) 3 (P 4)) 4 (P 5)) 5 (P 0) = t_rot P := by
  funext j
  unfold t_rot y_pu
  rcases Nat.lt_or_ge j 6 with h | h
  · have : j = 0 ∨ j = 1 ∨ j = 2 ∨ j = 3 ∨ j = 4 ∨ j = 5 := by omega
    rcases this with rfl | rfl | rfl | rfl | rfl | rfl <;> rfl
  · rw [if_neg (by omega), if_neg (by omega), if_neg (by omega), if_neg (by omega), if_neg (by omega), if_neg (by omega), if_neg (by omega), if_neg (by omega)]
theorem x_turn_2 {Z : Nat → Nat → Int32} {P : Nat → Nat} {L : Nat} (hP : ∀ j, j < 6 → t_at (P j)) : e_r 3 8 [.ref 18, .ref (P 0), .int (nI 6)] [] (hp Z (y_pu (y_pu (y_pu (y_pu (y_pu P 0 (P 1)) 1 (P 2)) 2 (P 3)) 3 (P 4)) 4 (P 5)) L) none (hp (s_upd Z 18 1 5) (t_rot P) L) := by
    refine e_go hk_3 5 (c := (if s_cnd .ge (nI 6) 6 = true then 37 else 17, [.ref 18, .ref (P 0), .int (nI 6)], [], hp Z ((y_pu (y_pu (y_pu (y_pu (y_pu P 0 (P 1)) 1 (P 2)) 2 (P 3)) 3 (P 4)) 4 (P 5))) L)) rfl ?_
    refine e_ge (a := 37) (b := 17) (x := nI 6) (y := 6) (fun hc14 => ?_) (fun hc14 => absurd (by decide) hc14)
    refine e_go hk_3 10 (c := (if s_cnd .lt (6 - 1) 0 = true then 65 else 55, [.ref 18, .ref (P 0), .int (nI 6)], [], hp (s_upd Z 18 1 (6 - 1)) ((y_pu (y_pu (y_pu (y_pu (y_pu P 0 (P 1)) 1 (P 2)) 2 (P 3)) 3 (P 4)) 4 (P 5))) L)) rfl ?_
    refine e_lt (a := 65) (b := 55) (x := 6 - 1) (y := 0) (fun hc52 => absurd hc52 (by decide)) (fun hc52 => ?_)
    refine e_go hk_3 5 (c := (64, [.ref 18, .ref (P 0), .int (nI 6)], [.ref (P 0), .int (6 - 1), .ref 19], hp (s_upd Z 18 1 (6 - 1)) ((y_pu (y_pu (y_pu (y_pu (y_pu P 0 (P 1)) 1 (P 2)) 2 (P 3)) 3 (P 4)) 4 (P 5))) L)) rfl ?_
    rw [show (6 - 1) = nI 5 from (show s_upd Z 18 1 (nI 6 - 1) 18 1 = nI 5 from rfl)]
    refine e_hst hk_3 (j := 5) rfl rfl (by omega) (hP 0 (by omega)) ?_
    show e_r 3 65 [.ref 18, .ref (P 0), .int (nI 6)] [] (hp (s_upd Z 18 1 (6 - 1)) ((y_pu ((y_pu (y_pu (y_pu (y_pu (y_pu P 0 (P 1)) 1 (P 2)) 2 (P 3)) 3 (P 4)) 4 (P 5))) 5 (P 0))) L) _ _
    exact e_ret hk_3 rfl rfl rfl rfl (by rw [t_rot_eq]; rfl)
theorem x_turn {Z : Nat → Nat → Int32} {P : Nat → Nat} {L : Nat} (hP : ∀ j, j < 6 → t_at (P j)) : m_r 3 [.ref 18] (hp Z P L) none (hp (s_upd Z 18 1 5) (t_rot P) L) := by
  refine m_of (ls := [.ref 18, s_no, s_no]) hk_3 rfl rfl rfl ?_
  refine e_go hk_3 2 (c := (2, [.ref 18, s_no, s_no], [.int 0, .ref 18], hp Z P L)) rfl ?_
  refine e_call hk_3 (as := [.ref 18, .int (nI 0)]) (rest := []) rfl rfl hk_4 rfl (Nat.le_of_ble_eq_true rfl) rfl (x_state (P := P) (j := 0) (by omega)) ?_
  show e_r 3 5 [.ref 18, s_no, s_no] [.ref (P 0)] (hp Z P L) _ _
  refine e_go hk_3 3 (c := (8, [.ref 18, .ref (P 0), .int 1], [], hp Z P L)) rfl ?_
  have h0 := hP
  have h1 : ∀ j, j < 6 → t_at ((y_pu P 0 (P 1)) j) := y_pu_at h0 (hP 1 (by omega))
  have h2 : ∀ j, j < 6 → t_at ((y_pu (y_pu P 0 (P 1)) 1 (P 2)) j) := y_pu_at h1 (hP 2 (by omega))
  have h3 : ∀ j, j < 6 → t_at ((y_pu (y_pu (y_pu P 0 (P 1)) 1 (P 2)) 2 (P 3)) j) := y_pu_at h2 (hP 3 (by omega))
  have h4 : ∀ j, j < 6 → t_at ((y_pu (y_pu (y_pu (y_pu P 0 (P 1)) 1 (P 2)) 2 (P 3)) 3 (P 4)) j) := y_pu_at h3 (hP 4 (by omega))
  have h5 : ∀ j, j < 6 → t_at ((y_pu (y_pu (y_pu (y_pu (y_pu P 0 (P 1)) 1 (P 2)) 2 (P 3)) 3 (P 4)) 4 (P 5)) j) := y_pu_at h4 (hP 5 (by omega))
  refine x_turn_1 (i := 0) (by omega) h0 ?_
  refine x_turn_1 (i := 1) (by omega) h1 ?_
  refine x_turn_1 (i := 2) (by omega) h2 ?_
  refine x_turn_1 (i := 3) (by omega) h3 ?_
  refine x_turn_1 (i := 4) (by omega) h4 ?_
  show e_r 3 8 [.ref 18, .ref (P 0), .int (nI 6)] [] (hp Z (y_pu (y_pu (y_pu (y_pu (y_pu P 0 (P 1)) 1 (P 2)) 2 (P 3)) 3 (P 4)) 4 (P 5)) L) _ _
  exact x_turn_2 hP
def t_k1 (Z : Nat → Nat → Int32) (x : Nat) : Nat → Nat → Int32 := s_upd (t_bc Z x 5) 18 1 (t_bc Z x 5 18 1 + 1)
def t_kZ (Z : Nat → Nat → Int32) (P : Nat → Nat) (m : Nat) : Nat → Nat → Int32 := if m < 6 then t_k1 Z (P m) else t_k1 (s_upd Z 18 1 5) (P 0)
def t_kP (P : Nat → Nat) (m : Nat) : Nat → Nat := if m < 6 then P else t_rot P
theorem x_keep_1 {Z : Nat → Nat → Int32} {P : Nat → Nat} {L : Nat} (hP : ∀ j, j < 6 → t_at (P j)) {m : Nat} (hM : Z 18 1 = nI m) (hm : m < 6) : m_r 1 [.ref 18, .ref 5] (hp Z P L) none (hp (t_kZ Z P m) (t_kP P m) L) := by
  have hA := hP m hm
  refine m_of (ls := [.ref 18, .ref 5, s_no]) hk_1 rfl rfl rfl ?_
  refine e_go hk_1 6 (c := (if s_cnd .lt (Z 18 1) 6 = true then 16 else 12, [.ref 18, .ref 5, s_no], [], hp Z P L)) rfl ?_
  refine e_lt (a := 16) (b := 12) (x := Z 18 1) (y := 6) (fun hc9 => ?_) (fun hc9 => absurd (by rw [hM, show (6 : Int32) = nI 6 from rfl]; exact (y_lt (by omega) (by decide)).mpr hm) hc9)
  refine e_go hk_1 3 (c := (21, [.ref 18, .ref 5, s_no], [.int (Z 18 1), .ref 18], hp Z P L)) rfl ?_
  rw [hM]
  refine e_call hk_1 (as := [.ref 18, .int (nI m)]) (rest := []) rfl rfl hk_4 rfl (Nat.le_of_ble_eq_true rfl) rfl (x_state (P := P) (j := m) (by omega)) ?_
  show e_r 1 24 [.ref 18, .ref 5, s_no] [.ref (P m)] (hp Z P L) _ _
  refine e_go hk_1 5 (c := (31, [.ref 18, .ref 5, .ref (P m)], [.ref 5, .ref (P m)], hp Z P L)) rfl ?_
  refine e_call hk_1 (as := [.ref (P m), .ref 5]) (rest := []) rfl rfl hk_29 rfl (Nat.le_of_ble_eq_true rfl) (s_rc_of (t_at_sh hA)) (x_tbec (x := P m) (y := 5) (h := hp Z P L) (t_at_is hA) (t_at_is (Or.inl rfl)) (t_at4 hA) (t_at4 (Or.inl rfl))) ?_
  show e_r 1 34 [.ref 18, .ref 5, .ref (P m)] [] (hp ((t_bc Z (P m) 5)) P L) _ _
  refine e_go hk_1 6 (c := (44, [.ref 18, .ref 5, .ref (P m)], [], hp (s_upd ((t_bc Z (P m) 5)) 18 1 ((((t_bc Z (P m) 5)) 18 1) + 1)) P L)) rfl ?_
  exact e_ret hk_1 rfl rfl rfl rfl (by rw [t_kZ, t_kP, if_pos hm, if_pos hm]; rfl)
theorem x_keep_2 {Z : Nat → Nat → Int32} {P : Nat → Nat} {L : Nat} (hP : ∀ j, j < 6 → t_at (P j)) (hM : Z 18 1 = nI 6) : m_r 1 [.ref 18, .ref 5] (hp Z P L) none (hp (t_kZ Z P 6) (t_kP P 6) L) := by
  have hA := hP 0 (by omega)
  refine m_of (ls := [.ref 18, .ref 5, s_no]) hk_1 rfl rfl rfl ?_
  refine e_go hk_1 6 (c := (if s_cnd .lt (Z 18 1) 6 = true then 16 else 12, [.ref 18, .ref 5, s_no], [], hp Z P L)) rfl ?_
  refine e_lt (a := 16) (b := 12) (x := Z 18 1) (y := 6) (fun hc9 => absurd hc9 (by rw [hM]; decide)) (fun hc9 => ?_)
  refine e_go hk_1 1 (c := (13, [.ref 18, .ref 5, s_no], [.ref 18], hp Z P L)) rfl ?_
  refine e_call hk_1 (as := [.ref 18]) (rest := []) rfl rfl hk_3 rfl (Nat.le_of_ble_eq_true rfl) rfl (x_turn hP) ?_
  show e_r 1 16 [.ref 18, .ref 5, s_no] [] (hp (s_upd Z 18 1 5) ((t_rot P)) L) _ _
  refine e_go hk_1 3 (c := (21, [.ref 18, .ref 5, s_no], [.int 5, .ref 18], hp (s_upd Z 18 1 5) ((t_rot P)) L)) rfl ?_
  refine e_call hk_1 (as := [.ref 18, .int (nI 5)]) (rest := []) rfl rfl hk_4 rfl (Nat.le_of_ble_eq_true rfl) rfl (x_state (P := t_rot P) (j := 5) (by omega)) ?_
  show e_r 1 24 [.ref 18, .ref 5, s_no] [.ref (P 0)] (hp (s_upd Z 18 1 5) ((t_rot P)) L) _ _
  refine e_go hk_1 5 (c := (31, [.ref 18, .ref 5, .ref (P 0)], [.ref 5, .ref (P 0)], hp (s_upd Z 18 1 5) ((t_rot P)) L)) rfl ?_
  refine e_call hk_1 (as := [.ref (P 0), .ref 5]) (rest := []) rfl rfl hk_29 rfl (Nat.le_of_ble_eq_true rfl) (s_rc_of (t_at_sh hA)) (x_tbec (x := P 0) (y := 5) (h := hp (s_upd Z 18 1 5) ((t_rot P)) L) (t_at_is hA) (t_at_is (Or.inl rfl)) (t_at4 hA) (t_at4 (Or.inl rfl))) ?_
  show e_r 1 34 [.ref 18, .ref 5, .ref (P 0)] [] (hp ((t_bc (s_upd Z 18 1 5) (P 0) 5)) ((t_rot P)) L) _ _
  refine e_go hk_1 6 (c := (44, [.ref 18, .ref 5, .ref (P 0)], [], hp (s_upd ((t_bc (s_upd Z 18 1 5) (P 0) 5)) 18 1 ((((t_bc (s_upd Z 18 1 5) (P 0) 5)) 18 1) + 1)) ((t_rot P)) L)) rfl ?_
  exact e_ret hk_1 rfl rfl rfl rfl rfl
theorem x_keep {Z : Nat → Nat → Int32} {P : Nat → Nat} {L : Nat} (hP : ∀ j, j < 6 → t_at (P j)) {m : Nat} (hM : Z 18 1 = nI m) (hm : m ≤ 6) : m_r 1 [.ref 18, .ref 5] (hp Z P L) none (hp (t_kZ Z P m) (t_kP P m) L) := by
  rcases Nat.lt_or_ge m 6 with h | h
  · exact x_keep_1 hP hM h
  · have h6 : m = 6 := by omega
    subst h6
    exact x_keep_2 hP hM
def t_tk (Z : Nat → Nat → Int32) (P : Nat → Nat) : Nat → Int32 × (Nat → Nat → Int32)
  | 0 => (0, Z)
  | m + 1 => (1, s_upd (t_bc Z 5 (P m)) 18 1 (t_bc Z 5 (P m) 18 1 - 1))
theorem x_take_0 {Z : Nat → Nat → Int32} {P : Nat → Nat} {L : Nat} (hP : ∀ j, j < 6 → t_at (P j)) (hM : Z 18 1 = nI 0) : m_r 2 [.ref 18, .ref 5] (hp Z P L) (some (.int (t_tk Z P 0).1)) (hp (t_tk Z P 0).2 P L) := by
  refine m_of (ls := [.ref 18, .ref 5, s_no]) hk_2 rfl rfl rfl ?_
  refine e_go hk_2 5 (c := (7, [.ref 18, .ref 5, s_no], [.int ((Z 18 1) - 1), .ref 18], hp Z P L)) rfl ?_
  rw [hM, show nI 0 - 1 = -1 from rfl]
  refine e_call hk_2 (as := [.ref 18, .int ((-1))]) (rest := []) rfl rfl hk_4 rfl (Nat.le_of_ble_eq_true rfl) rfl x_state_m ?_
  show e_r 2 10 [.ref 18, .ref 5, s_no] [.null] (hp Z P L) _ _
  refine e_go hk_2 4 (c := (16, [.ref 18, .ref 5, .null], [.int 0], hp Z P L)) rfl ?_
  exact e_ret hk_2 rfl rfl rfl rfl rfl
theorem x_take_s {Z : Nat → Nat → Int32} {P : Nat → Nat} {L : Nat} (hP : ∀ j, j < 6 → t_at (P j)) {m : Nat} (hM : Z 18 1 = nI (m + 1)) (hm : m < 6) : m_r 2 [.ref 18, .ref 5] (hp Z P L) (some (.int (t_tk Z P (m + 1)).1)) (hp (t_tk Z P (m + 1)).2 P L) := by
  have hA := hP m hm
  refine m_of (ls := [.ref 18, .ref 5, s_no]) hk_2 rfl rfl rfl ?_
  refine e_go hk_2 5 (c := (7, [.ref 18, .ref 5, s_no], [.int ((Z 18 1) - 1), .ref 18], hp Z P L)) rfl ?_
  rw [hM, nI_pred]
  refine e_call hk_2 (as := [.ref 18, .int (nI m)]) (rest := []) rfl rfl hk_4 rfl (Nat.le_of_ble_eq_true rfl) rfl (x_state (P := P) (j := m) (by omega)) ?_
  show e_r 2 10 [.ref 18, .ref 5, s_no] [.ref (P m)] (hp Z P L) _ _
  refine e_go hk_2 5 (c := (19, [.ref 18, .ref 5, .ref (P m)], [.ref (P m), .ref 5], hp Z P L)) rfl ?_
  refine e_call hk_2 (as := [.ref 5, .ref (P m)]) (rest := []) rfl rfl hk_29 rfl (Nat.le_of_ble_eq_true rfl) rfl (x_tbec (x := 5) (y := P m) (h := hp Z P L) (t_at_is (Or.inl rfl)) (t_at_is hA) (t_at4 (Or.inl rfl)) (t_at4 hA)) ?_
  show e_r 2 22 [.ref 18, .ref 5, .ref (P m)] [] (hp ((t_bc Z 5 (P m))) P L) _ _
  refine e_go hk_2 7 (c := (33, [.ref 18, .ref 5, .ref (P m)], [.int 1], hp (s_upd ((t_bc Z 5 (P m))) 18 1 ((((t_bc Z 5 (P m))) 18 1) - 1)) P L)) rfl ?_
  exact e_ret hk_2 rfl rfl rfl rfl rfl
theorem x_take {Z : Nat → Nat → Int32} {P : Nat → Nat} {L : Nat} (hP : ∀ j, j < 6 → t_at (P j)) {m : Nat} (hM : Z 18 1 = nI m) (hm : m ≤ 6) : m_r 2 [.ref 18, .ref 5] (hp Z P L) (some (.int (t_tk Z P m).1)) (hp (t_tk Z P m).2 P L) := by
  cases m with
  | zero => exact x_take_0 hP hM
  | succ m => exact x_take_s hP hM (by omega)
end
section
/-! out of whole's 23 -/
theorem y_cf {c : Prop} [Decidable c] (h : ¬ c) : y_b (decide c) = 0 := by rw [decide_eq_false h]; rfl
theorem y_ct {c : Prop} [Decidable c] (h : c) : y_b (decide c) = 1 := by rw [decide_eq_true h]; rfl
end
section
/-! The calls: changes, and what there is; printed by wip/whole/gen/calls1.py -/
theorem t_cp_o {Z : Nat → Nat → Int32} {a b n c : Nat} (h : c ≠ b) : t_cp Z a b n c = Z c := if_neg h
theorem t_bc_o {Z : Nat → Nat → Int32} {x y c : Nat} (h : c < x ∨ x + 12 < c) : t_bc Z x y c = Z c := by
  unfold t_bc t_bc5 t_bc6
  rw [s_upd_o (by omega), s_upd_o (by omega), s_upd_o (by omega), s_upd_o (by omega), s_upd_o (by omega), t_cp_o (by omega), t_cp_o (by omega), t_cp_o (by omega), t_cp_o (by omega), t_cp_o (by omega), t_cp_o (by omega)]
/-- a place of the history's trees -/
def t_hs (x : Nat) : Prop := x = 20 ∨ x = 33 ∨ x = 46 ∨ x = 59 ∨ x = 72 ∨ x = 85
theorem t_hs_at {x : Nat} (h : t_hs x) : t_at x := by unfold t_hs at h; unfold t_at; omega
theorem t_k1_o {Z : Nat → Nat → Int32} {x c : Nat} (hx : t_hs x) (h : c < 18 ∨ 98 ≤ c) : t_k1 Z x c = Z c := by
  unfold t_hs at hx
  unfold t_k1
  rw [s_upd_o (by omega), t_bc_o (by omega)]
theorem t_kZ_o {Z : Nat → Nat → Int32} {P : Nat → Nat} {m c : Nat} (hP : ∀ j, j < 6 → t_hs (P j)) (h : c < 18 ∨ 98 ≤ c) : t_kZ Z P m c = Z c := by
  unfold t_kZ
  split
  next hm => exact t_k1_o (hP m hm) h
  next hm => rw [t_k1_o (hP 0 (by omega)) h, s_upd_o (by omega)]
def y_nm (k : Int32) : Bool := decide (0 ≤ k ∧ k ≤ 999)
theorem y_d1 {c : Prop} [Decidable c] : ¬ y_b (decide c) = 0 ↔ c := by rw [y_b1, decide_eq_true_eq]
theorem y_d0 {c : Prop} [Decidable c] : y_b (decide c) = 0 ↔ ¬ c := by rw [y_b0, decide_eq_false_iff_not]
theorem x_num {h : sHp} {k : Int32} : m_r 79 [.int k] h (some (.int (y_b (y_nm k)))) h := by
  refine m_of (ls := [.int k]) hk_79 rfl rfl rfl ?_
  refine e_go hk_79 2 (c := (if s_cnd .lt k 0 = true then 15 else 4, [.int k], [], h)) rfl ?_
  refine e_lt (a := 15) (b := 4) (x := k) (y := 0) (fun hc1 => ?_) (fun hc1 => ?_)
  · skip
    refine e_go hk_79 1 (c := (16, [.int k], [.int 0], h)) rfl ?_
    exact e_ret hk_79 rfl rfl rfl (by rw [y_nm, y_cf (fun z : 0 ≤ k ∧ k ≤ 999 => absurd hc1 (Int32.not_lt.mpr z.1))]) rfl
  · skip
    refine e_go hk_79 3 (c := (if s_cnd .gt k 999 = true then 15 else 11, [.int k], [], h)) rfl ?_
    refine e_gt (a := 15) (b := 11) (x := k) (y := 999) (fun hc8 => ?_) (fun hc8 => ?_)
    · skip
      refine e_go hk_79 1 (c := (16, [.int k], [.int 0], h)) rfl ?_
      exact e_ret hk_79 rfl rfl rfl (by rw [y_nm, y_cf (fun z : 0 ≤ k ∧ k ≤ 999 => absurd hc8 (Int32.not_lt.mpr z.2))]) rfl
    · skip
      refine e_go hk_79 2 (c := (16, [.int k], [.int 1], h)) rfl ?_
      exact e_ret hk_79 rfl rfl rfl (by rw [y_nm, y_ct (show 0 ≤ k ∧ k ≤ 999 from ⟨Int32.not_lt.mp hc1, Int32.not_lt.mp hc8⟩)]) rfl
def t_st (s : Int32) : Option Nat := if 0 ≤ s ∧ s < 3 then some s.toNatClampNeg else none
def c_set (Z : Nat → Nat → Int32) (P : Nat → Nat) (m : Nat) (s v : Int32) : Int32 × (Nat → Nat → Int32) × (Nat → Nat) := match t_st s with
  | none => (-2, Z, P)
  | some j => if Z 1 j ≤ v ∧ v ≤ Z 2 j then (Z 7 j, s_upd (t_kZ Z P m) 7 j v, t_kP P m) else (-2, Z, P)
theorem x_isset {Z : Nat → Nat → Int32} {P : Nat → Nat} {L : Nat} {j : Nat} {v : Int32} (hj : j < 3) : m_r 80 [.int (nI j), .int v] (hp Z P L) (some (.int (y_b (decide (Z 1 j ≤ v ∧ v ≤ Z 2 j))))) (hp Z P L) := by
  refine m_of (ls := [.int (nI j), .int v]) hk_80 rfl rfl rfl ?_
  refine e_go hk_80 2 (c := (if s_cnd .lt (nI j) 0 = true then 20 else 4, [.int (nI j), .int v], [], hp Z P L)) rfl ?_
  refine e_lt (a := 20) (b := 4) (x := nI j) (y := 0) (fun hc1 => absurd hc1 (nI_pos (by omega))) (fun hc1 => ?_)
  refine e_go hk_80 4 (c := (if s_cnd .ge (nI j) 3 = true then 20 else 12, [.int (nI j), .int v], [], hp Z P L)) rfl ?_
  refine e_ge (a := 20) (b := 12) (x := nI j) (y := 3) (fun hc9 => absurd hc9 ((show ¬ nI 3 ≤ nI j from nI_ge (by omega) (by decide)))) (fun hc9 => ?_)
  refine e_go hk_80 4 (c := (if s_cnd .lt (nI j) 3 = true then 22 else 20, [.int (nI j), .int v], [], hp Z P L)) rfl ?_
  refine e_lt (a := 22) (b := 20) (x := nI j) (y := 3) (fun hc17 => ?_) (fun hc17 => absurd ((show nI j < nI 3 from (y_lt (by omega) (by decide)).mpr hj)) hc17)
  refine e_go hk_80 3 (c := (27, [.int (nI j), .int v], [.int (nI j), .ref 1, .int v], hp Z P L)) rfl ?_
  refine e_ald hk_80 (a := 1) (j := j) (n := 3) rfl rfl rfl hj (by decide) ?_
  show e_r 80 28 [.int (nI j), .int v] [.int (Z 1 j), .int v] (hp Z P L) _ _
  refine e_go hk_80 1 (c := (if s_cnd .lt v (Z 1 j) = true then 44 else 31, [.int (nI j), .int v], [], hp Z P L)) rfl ?_
  refine e_lt (a := 44) (b := 31) (x := v) (y := Z 1 j) (fun hc28 => ?_) (fun hc28 => ?_)
  · skip
    refine e_go hk_80 1 (c := (45, [.int (nI j), .int v], [.int 0], hp Z P L)) rfl ?_
    exact e_ret hk_80 rfl rfl rfl (by rw [y_cf (fun z : Z 1 j ≤ v ∧ v ≤ Z 2 j => absurd hc28 (Int32.not_lt.mpr z.1))]) rfl
  · skip
    refine e_go hk_80 3 (c := (36, [.int (nI j), .int v], [.int (nI j), .ref 2, .int v], hp Z P L)) rfl ?_
    refine e_ald hk_80 (a := 2) (j := j) (n := 3) rfl rfl rfl hj (by decide) ?_
    show e_r 80 37 [.int (nI j), .int v] [.int (Z 2 j), .int v] (hp Z P L) _ _
    refine e_go hk_80 1 (c := (if s_cnd .gt v (Z 2 j) = true then 44 else 40, [.int (nI j), .int v], [], hp Z P L)) rfl ?_
    refine e_gt (a := 44) (b := 40) (x := v) (y := Z 2 j) (fun hc37 => ?_) (fun hc37 => ?_)
    · skip
      refine e_go hk_80 1 (c := (45, [.int (nI j), .int v], [.int 0], hp Z P L)) rfl ?_
      exact e_ret hk_80 rfl rfl rfl (by rw [y_cf (fun z : Z 1 j ≤ v ∧ v ≤ Z 2 j => absurd hc37 (Int32.not_lt.mpr z.2))]) rfl
    · skip
      refine e_go hk_80 2 (c := (45, [.int (nI j), .int v], [.int 1], hp Z P L)) rfl ?_
      exact e_ret hk_80 rfl rfl rfl (by rw [y_ct (show Z 1 j ≤ v ∧ v ≤ Z 2 j from ⟨Int32.not_lt.mp hc28, Int32.not_lt.mp hc37⟩)]) rfl
theorem x_isset_no {Z : Nat → Nat → Int32} {P : Nat → Nat} {L : Nat} {s v : Int32} (hq : t_st s = none) : m_r 80 [.int s, .int v] (hp Z P L) (some (.int 0)) (hp Z P L) := by
  refine m_of (ls := [.int s, .int v]) hk_80 rfl rfl rfl ?_
  refine e_go hk_80 2 (c := (if s_cnd .lt s 0 = true then 20 else 4, [.int s, .int v], [], hp Z P L)) rfl ?_
  refine e_lt (a := 20) (b := 4) (x := s) (y := 0) (fun hc1 => ?_) (fun hc1 => ?_)
  · skip
    refine e_go hk_80 1 (c := (21, [.int s, .int v], [.int 0], hp Z P L)) rfl ?_
    exact e_ret hk_80 rfl rfl rfl rfl rfl
  · skip
    have h3 : 3 ≤ s := by rw [t_st] at hq; split at hq; cases hq; next z => rw [not_and] at z; exact Int32.not_lt.mp (z (Int32.not_lt.mp hc1))
    refine e_go hk_80 4 (c := (if s_cnd .ge s 3 = true then 20 else 12, [.int s, .int v], [], hp Z P L)) rfl ?_
    refine e_ge (a := 20) (b := 12) (x := s) (y := 3) (fun hc9 => ?_) (fun hc9 => absurd (h3) hc9)
    refine e_go hk_80 1 (c := (21, [.int s, .int v], [.int 0], hp Z P L)) rfl ?_
    exact e_ret hk_80 rfl rfl rfl rfl rfl
theorem x_set_no {Z : Nat → Nat → Int32} {P : Nat → Nat} {L n m : Nat} (hN : Z 5 6 = nI n) (hn : n ≤ 60) (hF : ∀ i, i < n → Z 17 i = 0 ∨ Z 17 i = 1) (hP : ∀ j, j < 6 → t_hs (P j)) (hM : Z 18 1 = nI m) (hm : m ≤ 6) {s v : Int32} (hq : t_st s = none) : m_r 57 [.ref 4, .int s, .int v] (hp Z P L) (some (.int (c_set Z P m s v).1)) (hp (c_set Z P m s v).2.1 (c_set Z P m s v).2.2 L) := by
  refine m_of (ls := [.ref 4, .int s, .int v, s_no]) hk_57 rfl rfl rfl ?_
  refine e_go hk_57 2 (c := (2, [.ref 4, .int s, .int v, s_no], [.int v, .int s], hp Z P L)) rfl ?_
  refine e_call hk_57 (as := [.int s, .int v]) (rest := []) rfl rfl hk_80 rfl (Nat.le_of_ble_eq_true rfl) rfl (x_isset_no hq) ?_
  show e_r 57 5 [.ref 4, .int s, .int v, s_no] [.int 0] (hp Z P L) _ _
  refine e_go hk_57 1 (c := (if s_cnd .ne 0 0 = true then 11 else 8, [.ref 4, .int s, .int v, s_no], [], hp Z P L)) rfl ?_
  refine e_ne (a := 11) (b := 8) (x := 0) (y := 0) (fun hc5 => absurd (rfl) hc5) (fun hc5 => ?_)
  refine e_go hk_57 1 (c := (10, [.ref 4, .int s, .int v, s_no], [.int ((-2))], hp Z P L)) rfl ?_
  exact e_ret hk_57 rfl rfl rfl (by rw [c_set, hq]) (by rw [c_set, hq])
theorem x_set_in {Z : Nat → Nat → Int32} {P : Nat → Nat} {L n m : Nat} (hN : Z 5 6 = nI n) (hn : n ≤ 60) (hF : ∀ i, i < n → Z 17 i = 0 ∨ Z 17 i = 1) (hP : ∀ j, j < 6 → t_hs (P j)) (hM : Z 18 1 = nI m) (hm : m ≤ 6) {v : Int32} {j : Nat} (hj : j < 3) (hq : t_st (nI j) = some j) : m_r 57 [.ref 4, .int (nI j), .int v] (hp Z P L) (some (.int (c_set Z P m (nI j) v).1)) (hp (c_set Z P m (nI j) v).2.1 (c_set Z P m (nI j) v).2.2 L) := by
  have hcs : c_set Z P m (nI j) v = if Z 1 j ≤ v ∧ v ≤ Z 2 j then (Z 7 j, s_upd (t_kZ Z P m) 7 j v, t_kP P m) else (-2, Z, P) := by rw [c_set, hq]
  refine m_of (ls := [.ref 4, .int (nI j), .int v, s_no]) hk_57 rfl rfl rfl ?_
  refine e_go hk_57 2 (c := (2, [.ref 4, .int (nI j), .int v, s_no], [.int v, .int (nI j)], hp Z P L)) rfl ?_
  refine e_call hk_57 (as := [.int (nI j), .int v]) (rest := []) rfl rfl hk_80 rfl (Nat.le_of_ble_eq_true rfl) rfl (x_isset hj) ?_
  show e_r 57 5 [.ref 4, .int (nI j), .int v, s_no] [.int (y_b (decide (Z 1 j ≤ v ∧ v ≤ Z 2 j)))] (hp Z P L) _ _
  refine e_go hk_57 1 (c := (if s_cnd .ne (y_b (decide (Z 1 j ≤ v ∧ v ≤ Z 2 j))) 0 = true then 11 else 8, [.ref 4, .int (nI j), .int v, s_no], [], hp Z P L)) rfl ?_
  refine e_ne (a := 11) (b := 8) (x := y_b (decide (Z 1 j ≤ v ∧ v ≤ Z 2 j))) (y := 0) (fun hc5 => ?_) (fun hc5 => ?_)
  · skip
    rw [y_d1] at hc5
    refine e_go hk_57 4 (c := (19, [.ref 4, .int (nI j), .int v, s_no], [.ref 5, .ref 18], hp Z P L)) rfl ?_
    refine e_call hk_57 (as := [.ref 18, .ref 5]) (rest := []) rfl rfl hk_1 rfl (Nat.le_of_ble_eq_true rfl) rfl (x_keep (fun j hj => t_hs_at (hP j hj)) hM hm) ?_
    show e_r 57 22 [.ref 4, .int (nI j), .int v, s_no] [] (hp ((t_kZ Z P m)) ((t_kP P m)) L) _ _
    refine e_go hk_57 4 (c := (30, [.ref 4, .int (nI j), .int v, s_no], [.int (nI j), .ref 6], hp ((t_kZ Z P m)) ((t_kP P m)) L)) rfl ?_
    refine e_call hk_57 (as := [.ref 6, .int (nI j)]) (rest := []) rfl rfl hk_22 rfl (Nat.le_of_ble_eq_true rfl) rfl (x_at (r := 6) (a := 7) (n := 3) rfl rfl rfl (by decide) (j := j) (by omega)) ?_
    show e_r 57 33 [.ref 4, .int (nI j), .int v, s_no] [.int (((t_kZ Z P m)) 7 j)] (hp ((t_kZ Z P m)) ((t_kP P m)) L) _ _
    refine e_go hk_57 6 (c := (43, [.ref 4, .int (nI j), .int v, .int (((t_kZ Z P m)) 7 j)], [.int v, .int (nI j), .ref 6], hp ((t_kZ Z P m)) ((t_kP P m)) L)) rfl ?_
    refine e_call hk_57 (as := [.ref 6, .int (nI j), .int v]) (rest := []) rfl rfl hk_23 rfl (Nat.le_of_ble_eq_true rfl) rfl (x_write (r := 6) (a := 7) (n := 3) rfl rfl rfl (by decide) (by decide) (j := j) (by omega)) ?_
    show e_r 57 46 [.ref 4, .int (nI j), .int v, .int (((t_kZ Z P m)) 7 j)] [] (hp (s_upd ((t_kZ Z P m)) 7 j v) ((t_kP P m)) L) _ _
    refine e_go hk_57 1 (c := (47, [.ref 4, .int (nI j), .int v, .int (((t_kZ Z P m)) 7 j)], [.int (((t_kZ Z P m)) 7 j)], hp (s_upd ((t_kZ Z P m)) 7 j v) ((t_kP P m)) L)) rfl ?_
    exact e_ret hk_57 rfl rfl rfl (by rw [hcs, if_pos hc5]; dsimp only; rw [t_kZ_o hP (by decide)]) (by rw [hcs, if_pos hc5])
  · skip
    rw [y_d0] at hc5
    refine e_go hk_57 1 (c := (10, [.ref 4, .int (nI j), .int v, s_no], [.int ((-2))], hp Z P L)) rfl ?_
    exact e_ret hk_57 rfl rfl rfl (by rw [hcs, if_neg hc5]) (by rw [hcs, if_neg hc5])
theorem t_st_in {s : Int32} {j : Nat} (h : t_st s = some j) : j < 3 ∧ s = nI j := by
  unfold t_st at h
  split at h
  next z =>
    obtain ⟨i, hi, rfl⟩ := nI_of (Int32.not_lt.mpr z.1)
    rw [nI_clamp hi] at h
    cases h
    exact ⟨(nI_ltI hi (by decide)).mp (show nI _ < nI 3 from z.2), rfl⟩
  · cases h
theorem x_set {Z : Nat → Nat → Int32} {P : Nat → Nat} {L n m : Nat} (hN : Z 5 6 = nI n) (hn : n ≤ 60) (hF : ∀ i, i < n → Z 17 i = 0 ∨ Z 17 i = 1) (hP : ∀ j, j < 6 → t_hs (P j)) (hM : Z 18 1 = nI m) (hm : m ≤ 6) {s v : Int32} : m_r 57 [.ref 4, .int s, .int v] (hp Z P L) (some (.int (c_set Z P m s v).1)) (hp (c_set Z P m s v).2.1 (c_set Z P m s v).2.2 L) := by
  cases hq : t_st s with
  | none => exact x_set_no hN hn hF hP hM hm hq
  | some j =>
    obtain ⟨hj, rfl⟩ := t_st_in hq
    exact x_set_in hN hn hF hP hM hm hj hq
def c_put (Z : Nat → Nat → Int32) (P : Nat → Nat) (n m : Nat) (key value : Int32) : Int32 × (Nat → Nat → Int32) × (Nat → Nat) := if y_nm key = true ∧ y_nm value = true then (if t_rm Z n key = true then ((t_en (t_kZ Z P m) n key value).1, (t_en (t_kZ Z P m) n key value).2, t_kP P m) else (-4, Z, P)) else (-2, Z, P)
theorem x_putin {Z : Nat → Nat → Int32} {P : Nat → Nat} {L n m : Nat} (hN : Z 5 6 = nI n) (hn : n ≤ 60) (hF : ∀ i, i < n → Z 17 i = 0 ∨ Z 17 i = 1) (hP : ∀ j, j < 6 → t_hs (P j)) (hM : Z 18 1 = nI m) (hm : m ≤ 6) {key value : Int32} : m_r 58 [.ref 4, .int key, .int value] (hp Z P L) (some (.int (c_put Z P n m key value).1)) (hp (c_put Z P n m key value).2.1 (c_put Z P n m key value).2.2 L) := by
  have hN2 : t_kZ Z P m 5 6 = nI n := by rw [t_kZ_o hP (by decide)]; exact hN
  have hF2 : ∀ i, i < n → t_kZ Z P m 17 i = 0 ∨ t_kZ Z P m 17 i = 1 := fun i hi => by rw [t_kZ_o hP (by decide)]; exact hF i hi
  refine m_of (ls := [.ref 4, .int key, .int value]) hk_58 rfl rfl rfl ?_
  refine e_go hk_58 1 (c := (1, [.ref 4, .int key, .int value], [.int key], hp Z P L)) rfl ?_
  refine e_call hk_58 (as := [.int key]) (rest := []) rfl rfl hk_79 rfl (Nat.le_of_ble_eq_true rfl) rfl (x_num (k := key)) ?_
  show e_r 58 4 [.ref 4, .int key, .int value] [.int (y_b (y_nm key))] (hp Z P L) _ _
  refine e_go hk_58 1 (c := (if s_cnd .eq (y_b (y_nm key)) 0 = true then 14 else 7, [.ref 4, .int key, .int value], [], hp Z P L)) rfl ?_
  refine e_eq (a := 14) (b := 7) (x := y_b (y_nm key)) (y := 0) (fun hc4 => ?_) (fun hc4 => ?_)
  · skip
    rw [y_b0] at hc4
    refine e_go hk_58 1 (c := (16, [.ref 4, .int key, .int value], [.int ((-2))], hp Z P L)) rfl ?_
    exact e_ret hk_58 rfl rfl rfl (by rw [c_put, if_neg (fun z => by rw [z.1] at hc4; cases hc4)]) (by rw [c_put, if_neg (fun z => by rw [z.1] at hc4; cases hc4)])
  · skip
    rw [y_b1] at hc4
    refine e_go hk_58 1 (c := (8, [.ref 4, .int key, .int value], [.int value], hp Z P L)) rfl ?_
    refine e_call hk_58 (as := [.int value]) (rest := []) rfl rfl hk_79 rfl (Nat.le_of_ble_eq_true rfl) rfl (x_num (k := value)) ?_
    show e_r 58 11 [.ref 4, .int key, .int value] [.int (y_b (y_nm value))] (hp Z P L) _ _
    refine e_go hk_58 1 (c := (if s_cnd .ne (y_b (y_nm value)) 0 = true then 17 else 14, [.ref 4, .int key, .int value], [], hp Z P L)) rfl ?_
    refine e_ne (a := 17) (b := 14) (x := y_b (y_nm value)) (y := 0) (fun hc11 => ?_) (fun hc11 => ?_)
    · skip
      rw [y_b1] at hc11
      refine e_go hk_58 3 (c := (22, [.ref 4, .int key, .int value], [.int key, .ref 5], hp Z P L)) rfl ?_
      refine e_call hk_58 (as := [.ref 5, .int key]) (rest := []) rfl rfl hk_45 rfl (Nat.le_of_ble_eq_true rfl) rfl (x_room hN hn) ?_
      show e_r 58 25 [.ref 4, .int key, .int value] [.int (y_b (t_rm Z n key))] (hp Z P L) _ _
      refine e_go hk_58 1 (c := (if s_cnd .ne (y_b (t_rm Z n key)) 0 = true then 31 else 28, [.ref 4, .int key, .int value], [], hp Z P L)) rfl ?_
      refine e_ne (a := 31) (b := 28) (x := y_b (t_rm Z n key)) (y := 0) (fun hc25 => ?_) (fun hc25 => ?_)
      · skip
        rw [y_b1] at hc25
        refine e_go hk_58 4 (c := (39, [.ref 4, .int key, .int value], [.ref 5, .ref 18], hp Z P L)) rfl ?_
        refine e_call hk_58 (as := [.ref 18, .ref 5]) (rest := []) rfl rfl hk_1 rfl (Nat.le_of_ble_eq_true rfl) rfl (x_keep (fun j hj => t_hs_at (hP j hj)) hM hm) ?_
        show e_r 58 42 [.ref 4, .int key, .int value] [] (hp ((t_kZ Z P m)) ((t_kP P m)) L) _ _
        refine e_go hk_58 4 (c := (48, [.ref 4, .int key, .int value], [.int value, .int key, .ref 5], hp ((t_kZ Z P m)) ((t_kP P m)) L)) rfl ?_
        refine e_call hk_58 (as := [.ref 5, .int key, .int value]) (rest := []) rfl rfl hk_46 rfl (Nat.le_of_ble_eq_true rfl) rfl (x_enter (Z := t_kZ Z P m) (P := t_kP P m) (key := key) (value := value) hN2 hn hF2) ?_
        show e_r 58 51 [.ref 4, .int key, .int value] [.int ((t_en (t_kZ Z P m) n key value).1)] (hp ((t_en (t_kZ Z P m) n key value).2) ((t_kP P m)) L) _ _
        exact e_ret hk_58 rfl rfl rfl (by rw [c_put, if_pos ⟨hc4, hc11⟩, if_pos hc25]) (by rw [c_put, if_pos ⟨hc4, hc11⟩, if_pos hc25])
      · skip
        rw [y_b0] at hc25
        refine e_go hk_58 1 (c := (30, [.ref 4, .int key, .int value], [.int ((-4))], hp Z P L)) rfl ?_
        exact e_ret hk_58 rfl rfl rfl (by rw [c_put, if_pos ⟨hc4, hc11⟩, if_neg (by rw [hc25]; decide)]) (by rw [c_put, if_pos ⟨hc4, hc11⟩, if_neg (by rw [hc25]; decide)])
    · skip
      rw [y_b0] at hc11
      refine e_go hk_58 1 (c := (16, [.ref 4, .int key, .int value], [.int ((-2))], hp Z P L)) rfl ?_
      exact e_ret hk_58 rfl rfl rfl (by rw [c_put, if_neg (fun z => by rw [z.2] at hc11; cases hc11)]) (by rw [c_put, if_neg (fun z => by rw [z.2] at hc11; cases hc11)])
def c_rem (Z : Nat → Nat → Int32) (P : Nat → Nat) (n m : Nat) (key : Int32) : Int32 × (Nat → Nat → Int32) × (Nat → Nat) := if y_nm key = true then (if t_fn (Z 9) (Z 17) n key = none then (-1, Z, P) else ((t_hl (t_kZ Z P m) n key).1, (t_hl (t_kZ Z P m) n key).2, t_kP P m)) else (-2, Z, P)
theorem x_rem {Z : Nat → Nat → Int32} {P : Nat → Nat} {L n m : Nat} (hN : Z 5 6 = nI n) (hn : n ≤ 60) (hF : ∀ i, i < n → Z 17 i = 0 ∨ Z 17 i = 1) (hP : ∀ j, j < 6 → t_hs (P j)) (hM : Z 18 1 = nI m) (hm : m ≤ 6) {key : Int32} : m_r 59 [.ref 4, .int key] (hp Z P L) (some (.int (c_rem Z P n m key).1)) (hp (c_rem Z P n m key).2.1 (c_rem Z P n m key).2.2 L) := by
  have hN2 : t_kZ Z P m 5 6 = nI n := by rw [t_kZ_o hP (by decide)]; exact hN
  have hF2 : ∀ i, i < n → t_kZ Z P m 17 i = 0 ∨ t_kZ Z P m 17 i = 1 := fun i hi => by rw [t_kZ_o hP (by decide)]; exact hF i hi
  refine m_of (ls := [.ref 4, .int key]) hk_59 rfl rfl rfl ?_
  refine e_go hk_59 1 (c := (1, [.ref 4, .int key], [.int key], hp Z P L)) rfl ?_
  refine e_call hk_59 (as := [.int key]) (rest := []) rfl rfl hk_79 rfl (Nat.le_of_ble_eq_true rfl) rfl (x_num (k := key)) ?_
  show e_r 59 4 [.ref 4, .int key] [.int (y_b (y_nm key))] (hp Z P L) _ _
  refine e_go hk_59 1 (c := (if s_cnd .ne (y_b (y_nm key)) 0 = true then 10 else 7, [.ref 4, .int key], [], hp Z P L)) rfl ?_
  refine e_ne (a := 10) (b := 7) (x := y_b (y_nm key)) (y := 0) (fun hc4 => ?_) (fun hc4 => ?_)
  · skip
    rw [y_b1] at hc4
    refine e_go hk_59 3 (c := (15, [.ref 4, .int key], [.int key, .ref 5], hp Z P L)) rfl ?_
    refine e_call hk_59 (as := [.ref 5, .int key]) (rest := []) rfl rfl hk_32 rfl (Nat.le_of_ble_eq_true rfl) rfl (x_fnode hN hn) ?_
    show e_r 59 18 [.ref 4, .int key] [.int (y_o (t_fn (Z 9) (Z 17) n key))] (hp Z P L) _ _
    refine e_go hk_59 2 (c := (if s_cnd .ne (y_o (t_fn (Z 9) (Z 17) n key)) ((-6)) = true then 25 else 23, [.ref 4, .int key], [], hp Z P L)) rfl ?_
    refine e_ne (a := 25) (b := 23) (x := y_o (t_fn (Z 9) (Z 17) n key)) (y := (-6)) (fun hc20 => ?_) (fun hc20 => ?_)
    · skip
      rw [y_o_none (fun j hj => by have := (t_fn_lt hj).1; omega)] at hc20
      refine e_go hk_59 4 (c := (33, [.ref 4, .int key], [.ref 5, .ref 18], hp Z P L)) rfl ?_
      refine e_call hk_59 (as := [.ref 18, .ref 5]) (rest := []) rfl rfl hk_1 rfl (Nat.le_of_ble_eq_true rfl) rfl (x_keep (fun j hj => t_hs_at (hP j hj)) hM hm) ?_
      show e_r 59 36 [.ref 4, .int key] [] (hp ((t_kZ Z P m)) ((t_kP P m)) L) _ _
      refine e_go hk_59 3 (c := (41, [.ref 4, .int key], [.int key, .ref 5], hp ((t_kZ Z P m)) ((t_kP P m)) L)) rfl ?_
      refine e_call hk_59 (as := [.ref 5, .int key]) (rest := []) rfl rfl hk_47 rfl (Nat.le_of_ble_eq_true rfl) rfl (x_hollow (Z := t_kZ Z P m) (P := t_kP P m) (key := key) hN2 hn hF2) ?_
      show e_r 59 44 [.ref 4, .int key] [.int ((t_hl (t_kZ Z P m) n key).1)] (hp ((t_hl (t_kZ Z P m) n key).2) ((t_kP P m)) L) _ _
      exact e_ret hk_59 rfl rfl rfl (by rw [c_rem, if_pos hc4, if_neg hc20]) (by rw [c_rem, if_pos hc4, if_neg hc20])
    · skip
      rw [y_o_none (fun j hj => by have := (t_fn_lt hj).1; omega)] at hc20
      refine e_go hk_59 1 (c := (24, [.ref 4, .int key], [.int ((-1))], hp Z P L)) rfl ?_
      exact e_ret hk_59 rfl rfl rfl (by rw [c_rem, if_pos hc4, if_pos hc20]) (by rw [c_rem, if_pos hc4, if_pos hc20])
  · skip
    rw [y_b0] at hc4
    refine e_go hk_59 1 (c := (9, [.ref 4, .int key], [.int ((-2))], hp Z P L)) rfl ?_
    exact e_ret hk_59 rfl rfl rfl (by rw [c_rem, if_neg (by rw [hc4]; decide)]) (by rw [c_rem, if_neg (by rw [hc4]; decide)])
def c_reb (Z : Nat → Nat → Int32) (P : Nat → Nat) (n m : Nat) (key : Int32) : Int32 × (Nat → Nat → Int32) × (Nat → Nat) := if y_nm key = true then (if t_nd (Z 9) n key = none then (-1, Z, P) else ((t_lk (t_kZ Z P m) n key).1, (t_lk (t_kZ Z P m) n key).2, t_kP P m)) else (-2, Z, P)
theorem x_reb {Z : Nat → Nat → Int32} {P : Nat → Nat} {L n m : Nat} (hN : Z 5 6 = nI n) (hn : n ≤ 60) (hF : ∀ i, i < n → Z 17 i = 0 ∨ Z 17 i = 1) (hP : ∀ j, j < 6 → t_hs (P j)) (hM : Z 18 1 = nI m) (hm : m ≤ 6) {key : Int32} : m_r 60 [.ref 4, .int key] (hp Z P L) (some (.int (c_reb Z P n m key).1)) (hp (c_reb Z P n m key).2.1 (c_reb Z P n m key).2.2 L) := by
  have hN2 : t_kZ Z P m 5 6 = nI n := by rw [t_kZ_o hP (by decide)]; exact hN
  have hF2 : ∀ i, i < n → t_kZ Z P m 17 i = 0 ∨ t_kZ Z P m 17 i = 1 := fun i hi => by rw [t_kZ_o hP (by decide)]; exact hF i hi
  refine m_of (ls := [.ref 4, .int key]) hk_60 rfl rfl rfl ?_
  refine e_go hk_60 1 (c := (1, [.ref 4, .int key], [.int key], hp Z P L)) rfl ?_
  refine e_call hk_60 (as := [.int key]) (rest := []) rfl rfl hk_79 rfl (Nat.le_of_ble_eq_true rfl) rfl (x_num (k := key)) ?_
  show e_r 60 4 [.ref 4, .int key] [.int (y_b (y_nm key))] (hp Z P L) _ _
  refine e_go hk_60 1 (c := (if s_cnd .ne (y_b (y_nm key)) 0 = true then 10 else 7, [.ref 4, .int key], [], hp Z P L)) rfl ?_
  refine e_ne (a := 10) (b := 7) (x := y_b (y_nm key)) (y := 0) (fun hc4 => ?_) (fun hc4 => ?_)
  · skip
    rw [y_b1] at hc4
    refine e_go hk_60 3 (c := (15, [.ref 4, .int key], [.int key, .ref 5], hp Z P L)) rfl ?_
    refine e_call hk_60 (as := [.ref 5, .int key]) (rest := []) rfl rfl hk_31 rfl (Nat.le_of_ble_eq_true rfl) rfl (x_node hN hn) ?_
    show e_r 60 18 [.ref 4, .int key] [.int (y_o (t_nd (Z 9) n key))] (hp Z P L) _ _
    refine e_go hk_60 2 (c := (if s_cnd .ne (y_o (t_nd (Z 9) n key)) ((-6)) = true then 25 else 23, [.ref 4, .int key], [], hp Z P L)) rfl ?_
    refine e_ne (a := 25) (b := 23) (x := y_o (t_nd (Z 9) n key)) (y := (-6)) (fun hc20 => ?_) (fun hc20 => ?_)
    · skip
      rw [y_o_none (fun j hj => by have := (t_nd_lt hj).1; omega)] at hc20
      refine e_go hk_60 4 (c := (33, [.ref 4, .int key], [.ref 5, .ref 18], hp Z P L)) rfl ?_
      refine e_call hk_60 (as := [.ref 18, .ref 5]) (rest := []) rfl rfl hk_1 rfl (Nat.le_of_ble_eq_true rfl) rfl (x_keep (fun j hj => t_hs_at (hP j hj)) hM hm) ?_
      show e_r 60 36 [.ref 4, .int key] [] (hp ((t_kZ Z P m)) ((t_kP P m)) L) _ _
      refine e_go hk_60 3 (c := (41, [.ref 4, .int key], [.int key, .ref 5], hp ((t_kZ Z P m)) ((t_kP P m)) L)) rfl ?_
      refine e_call hk_60 (as := [.ref 5, .int key]) (rest := []) rfl rfl hk_48 rfl (Nat.le_of_ble_eq_true rfl) rfl (x_lk (Z := t_kZ Z P m) (P := t_kP P m) (key := key) hN2 hn hF2) ?_
      show e_r 60 44 [.ref 4, .int key] [.int ((t_lk (t_kZ Z P m) n key).1)] (hp ((t_lk (t_kZ Z P m) n key).2) ((t_kP P m)) L) _ _
      exact e_ret hk_60 rfl rfl rfl (by rw [c_reb, if_pos hc4, if_neg hc20]) (by rw [c_reb, if_pos hc4, if_neg hc20])
    · skip
      rw [y_o_none (fun j hj => by have := (t_nd_lt hj).1; omega)] at hc20
      refine e_go hk_60 1 (c := (24, [.ref 4, .int key], [.int ((-1))], hp Z P L)) rfl ?_
      exact e_ret hk_60 rfl rfl rfl (by rw [c_reb, if_pos hc4, if_pos hc20]) (by rw [c_reb, if_pos hc4, if_pos hc20])
  · skip
    rw [y_b0] at hc4
    refine e_go hk_60 1 (c := (9, [.ref 4, .int key], [.int ((-2))], hp Z P L)) rfl ?_
    exact e_ret hk_60 rfl rfl rfl (by rw [c_reb, if_neg (by rw [hc4]; decide)]) (by rw [c_reb, if_neg (by rw [hc4]; decide)])
end
section
/-! The calls: questions; printed by wip/whole/gen/calls2.py -/
theorem t_kt_lt0 {F : Nat → Int32} {q : Int32} : ∀ (k i : Nat) (a : Int32) (j : Nat), t_kt F q i k a = some j → i ≤ j ∧ j < i + k
  | 0, i, a, j, h => by cases h
  | k + 1, i, a, j, h => by
    unfold t_kt at h
    split at h
    · split at h
      · cases h; omega
      · have := t_kt_lt0 k (i + 1) _ j h; omega
    · have := t_kt_lt0 k (i + 1) _ j h; omega
theorem t_kt_lt {F : Nat → Int32} {q : Int32} {n j : Nat} (h : t_kt F q 0 n 0 = some j) : j < n := by
  have := t_kt_lt0 n 0 0 j h
  omega
def c_val (Z : Nat → Nat → Int32) (n : Nat) (key : Int32) : Int32 := if y_nm key = true then (match t_fn (Z 9) (Z 17) n key with
  | none => -6
  | some j => Z 11 j) else -2
theorem x_val {Z : Nat → Nat → Int32} {P : Nat → Nat} {L n : Nat} (hN : Z 5 6 = nI n) (hn : n ≤ 60) (hF : ∀ i, i < n → Z 17 i = 0 ∨ Z 17 i = 1) {key : Int32} : m_r 61 [.ref 4, .int key] (hp Z P L) (some (.int (c_val Z n key))) (hp Z P L) := by
  refine m_of (ls := [.ref 4, .int key, s_no]) hk_61 rfl rfl rfl ?_
  refine e_go hk_61 1 (c := (1, [.ref 4, .int key, s_no], [.int key], hp Z P L)) rfl ?_
  refine e_call hk_61 (as := [.int key]) (rest := []) rfl rfl hk_79 rfl (Nat.le_of_ble_eq_true rfl) rfl (x_num (k := key)) ?_
  show e_r 61 4 [.ref 4, .int key, s_no] [.int (y_b (y_nm key))] (hp Z P L) _ _
  refine e_go hk_61 1 (c := (if s_cnd .ne (y_b (y_nm key)) 0 = true then 10 else 7, [.ref 4, .int key, s_no], [], hp Z P L)) rfl ?_
  refine e_ne (a := 10) (b := 7) (x := y_b (y_nm key)) (y := 0) (fun hc4 => ?_) (fun hc4 => ?_)
  · skip
    rw [y_b1] at hc4
    refine e_go hk_61 3 (c := (15, [.ref 4, .int key, s_no], [.int key, .ref 5], hp Z P L)) rfl ?_
    refine e_call hk_61 (as := [.ref 5, .int key]) (rest := []) rfl rfl hk_32 rfl (Nat.le_of_ble_eq_true rfl) rfl (x_fnode hN hn) ?_
    show e_r 61 18 [.ref 4, .int key, s_no] [.int (y_o (t_fn (Z 9) (Z 17) n key))] (hp Z P L) _ _
    refine e_go hk_61 4 (c := (if s_cnd .ne (y_o (t_fn (Z 9) (Z 17) n key)) ((-6)) = true then 30 else 25, [.ref 4, .int key, .int (y_o (t_fn (Z 9) (Z 17) n key))], [], hp Z P L)) rfl ?_
    refine e_ne (a := 30) (b := 25) (x := y_o (t_fn (Z 9) (Z 17) n key)) (y := (-6)) (fun hc22 => ?_) (fun hc22 => ?_)
    · skip
      rw [y_o_none (fun j hj => by have := (t_fn_lt hj).1; omega)] at hc22
      refine e_go hk_61 3 (c := (37, [.ref 4, .int key, .int (y_o (t_fn (Z 9) (Z 17) n key))], [.ref 10], hp Z P L)) rfl ?_
      obtain ⟨j, hj⟩ := Option.ne_none_iff_exists'.mp hc22
      have hjn := (fun z => (t_fn_lt z).1) hj
      rw [hj]
      refine e_go hk_61 1 (c := (38, [.ref 4, .int key, .int (nI j)], [.int (nI j), .ref 10], hp Z P L)) rfl ?_
      refine e_call hk_61 (as := [.ref 10, .int (nI j)]) (rest := []) rfl rfl hk_22 rfl (Nat.le_of_ble_eq_true rfl) rfl (x_at (r := 10) (a := 11) (n := 60) rfl rfl rfl (by decide) (j := j) (by omega)) ?_
      show e_r 61 41 [.ref 4, .int key, .int (nI j)] [.int (Z 11 j)] (hp Z P L) _ _
      exact e_ret hk_61 rfl rfl rfl (by rw [c_val, if_pos hc4, hj]) rfl
    · skip
      rw [y_o_none (fun j hj => by have := (t_fn_lt hj).1; omega)] at hc22
      refine e_go hk_61 2 (c := (41, [.ref 4, .int key, .int (y_o (t_fn (Z 9) (Z 17) n key))], [.int ((-6))], hp Z P L)) rfl ?_
      exact e_ret hk_61 rfl rfl rfl (by rw [c_val, if_pos hc4, hc22]) rfl
  · skip
    rw [y_b0] at hc4
    refine e_go hk_61 1 (c := (9, [.ref 4, .int key, s_no], [.int ((-2))], hp Z P L)) rfl ?_
    exact e_ret hk_61 rfl rfl rfl (by rw [c_val, if_neg (by rw [hc4]; decide)]) rfl
def c_rank (Z : Nat → Nat → Int32) (n : Nat) (key : Int32) : Int32 := if y_nm key = true then t_sm (Z 17) 0 (t_pl (Z 9) key 0 n) 0 else -2
theorem x_rank {Z : Nat → Nat → Int32} {P : Nat → Nat} {L n : Nat} (hN : Z 5 6 = nI n) (hn : n ≤ 60) (hF : ∀ i, i < n → Z 17 i = 0 ∨ Z 17 i = 1) {key : Int32} : m_r 66 [.ref 4, .int key] (hp Z P L) (some (.int (c_rank Z n key))) (hp Z P L) := by
  refine m_of (ls := [.ref 4, .int key]) hk_66 rfl rfl rfl ?_
  refine e_go hk_66 1 (c := (1, [.ref 4, .int key], [.int key], hp Z P L)) rfl ?_
  refine e_call hk_66 (as := [.int key]) (rest := []) rfl rfl hk_79 rfl (Nat.le_of_ble_eq_true rfl) rfl (x_num (k := key)) ?_
  show e_r 66 4 [.ref 4, .int key] [.int (y_b (y_nm key))] (hp Z P L) _ _
  refine e_go hk_66 1 (c := (if s_cnd .eq (y_b (y_nm key)) 0 = true then 18 else 7, [.ref 4, .int key], [], hp Z P L)) rfl ?_
  refine e_eq (a := 18) (b := 7) (x := y_b (y_nm key)) (y := 0) (fun hc4 => ?_) (fun hc4 => ?_)
  · skip
    rw [y_b0] at hc4
    refine e_go hk_66 1 (c := (20, [.ref 4, .int key], [.int ((-2))], hp Z P L)) rfl ?_
    exact e_ret hk_66 rfl rfl rfl (by rw [c_rank, if_neg (by rw [hc4]; decide)]) rfl
  · skip
    rw [y_b1] at hc4
    refine e_go hk_66 3 (c := (12, [.ref 4, .int key], [.int key, .ref 5], hp Z P L)) rfl ?_
    refine e_call hk_66 (as := [.ref 5, .int key]) (rest := []) rfl rfl hk_35 rfl (Nat.le_of_ble_eq_true rfl) rfl (x_ahead hN hn) ?_
    show e_r 66 15 [.ref 4, .int key] [.int (t_sm (Z 17) 0 (t_pl (Z 9) key 0 n) 0)] (hp Z P L) _ _
    refine e_go hk_66 1 (c := (20, [.ref 4, .int key], [.int (t_sm (Z 17) 0 (t_pl (Z 9) key 0 n) 0)], hp Z P L)) rfl ?_
    exact e_ret hk_66 rfl rfl rfl (by rw [c_rank, if_pos hc4]) rfl
def c_kth (Z : Nat → Nat → Int32) (n : Nat) (k : Int32) : Int32 := match t_kt (Z 17) k 0 n 0 with
  | none => -1
  | some j => Z 9 j
theorem x_ckth {Z : Nat → Nat → Int32} {P : Nat → Nat} {L n : Nat} (hN : Z 5 6 = nI n) (hn : n ≤ 60) (hF : ∀ i, i < n → Z 17 i = 0 ∨ Z 17 i = 1) {k : Int32} : m_r 67 [.ref 4, .int k] (hp Z P L) (some (.int (c_kth Z n k))) (hp Z P L) := by
  refine m_of (ls := [.ref 4, .int k, s_no]) hk_67 rfl rfl rfl ?_
  refine e_go hk_67 3 (c := (5, [.ref 4, .int k, s_no], [.int k, .ref 5], hp Z P L)) rfl ?_
  refine e_call hk_67 (as := [.ref 5, .int k]) (rest := []) rfl rfl hk_36 rfl (Nat.le_of_ble_eq_true rfl) rfl (x_kth hN hn) ?_
  show e_r 67 8 [.ref 4, .int k, s_no] [.int (y_o (t_kt (Z 17) k 0 n 0))] (hp Z P L) _ _
  refine e_go hk_67 4 (c := (if s_cnd .ne (y_o (t_kt (Z 17) k 0 n 0)) ((-6)) = true then 19 else 15, [.ref 4, .int k, .int (y_o (t_kt (Z 17) k 0 n 0))], [], hp Z P L)) rfl ?_
  refine e_ne (a := 19) (b := 15) (x := y_o (t_kt (Z 17) k 0 n 0)) (y := (-6)) (fun hc12 => ?_) (fun hc12 => ?_)
  · skip
    rw [y_o_none (fun j hj => by have := t_kt_lt hj; omega)] at hc12
    refine e_go hk_67 3 (c := (26, [.ref 4, .int k, .int (y_o (t_kt (Z 17) k 0 n 0))], [.ref 8], hp Z P L)) rfl ?_
    obtain ⟨j, hj⟩ := Option.ne_none_iff_exists'.mp hc12
    have hjn := t_kt_lt hj
    rw [hj]
    refine e_go hk_67 1 (c := (27, [.ref 4, .int k, .int (nI j)], [.int (nI j), .ref 8], hp Z P L)) rfl ?_
    refine e_call hk_67 (as := [.ref 8, .int (nI j)]) (rest := []) rfl rfl hk_22 rfl (Nat.le_of_ble_eq_true rfl) rfl (x_at (r := 8) (a := 9) (n := 60) rfl rfl rfl (by decide) (j := j) (by omega)) ?_
    show e_r 67 30 [.ref 4, .int k, .int (nI j)] [.int (Z 9 j)] (hp Z P L) _ _
    exact e_ret hk_67 rfl rfl rfl (by rw [c_kth, hj]) rfl
  · skip
    rw [y_o_none (fun j hj => by have := t_kt_lt hj; omega)] at hc12
    refine e_go hk_67 2 (c := (30, [.ref 4, .int k, .int (y_o (t_kt (Z 17) k 0 n 0))], [.int ((-1))], hp Z P L)) rfl ?_
    exact e_ret hk_67 rfl rfl rfl (by rw [c_kth, hc12]) rfl
def c_nb (Z : Nat → Nat → Int32) (n : Nat) (key what : Int32) : Int32 := if y_nm key = true ∧ (what = 0 ∨ what = 1) then (match t_kt (Z 17) (if what = 0 then t_sm (Z 17) 0 (t_pl (Z 9) key 0 n) 0 - 1 else t_sm (Z 17) 0 (t_pl (Z 9) key 0 n) 0 + (if t_fn (Z 9) (Z 17) n key = none then 0 else 1)) 0 n 0 with
  | none => -6
  | some j => Z 9 j) else -2
theorem x_nb {Z : Nat → Nat → Int32} {P : Nat → Nat} {L n : Nat} (hN : Z 5 6 = nI n) (hn : n ≤ 60) (hF : ∀ i, i < n → Z 17 i = 0 ∨ Z 17 i = 1) {key what : Int32} : m_r 68 [.ref 4, .int key, .int what] (hp Z P L) (some (.int (c_nb Z n key what))) (hp Z P L) := by
  refine m_of (ls := [.ref 4, .int key, .int what, s_no, s_no, s_no]) hk_68 rfl rfl rfl ?_
  refine e_go hk_68 1 (c := (1, [.ref 4, .int key, .int what, s_no, s_no, s_no], [.int key], hp Z P L)) rfl ?_
  refine e_call hk_68 (as := [.int key]) (rest := []) rfl rfl hk_79 rfl (Nat.le_of_ble_eq_true rfl) rfl (x_num (k := key)) ?_
  show e_r 68 4 [.ref 4, .int key, .int what, s_no, s_no, s_no] [.int (y_b (y_nm key))] (hp Z P L) _ _
  refine e_go hk_68 1 (c := (if s_cnd .eq (y_b (y_nm key)) 0 = true then 16 else 7, [.ref 4, .int key, .int what, s_no, s_no, s_no], [], hp Z P L)) rfl ?_
  refine e_eq (a := 16) (b := 7) (x := y_b (y_nm key)) (y := 0) (fun hc4 => ?_) (fun hc4 => ?_)
  · skip
    rw [y_b0] at hc4
    refine e_go hk_68 1 (c := (18, [.ref 4, .int key, .int what, s_no, s_no, s_no], [.int ((-2))], hp Z P L)) rfl ?_
    exact e_ret hk_68 rfl rfl rfl (by rw [c_nb, if_neg (fun z => by rw [z.1] at hc4; cases hc4)]) rfl
  · skip
    rw [y_b1] at hc4
    refine e_go hk_68 2 (c := (if s_cnd .eq what 0 = true then 19 else 11, [.ref 4, .int key, .int what, s_no, s_no, s_no], [], hp Z P L)) rfl ?_
    refine e_eq (a := 19) (b := 11) (x := what) (y := 0) (fun hc8 => ?_) (fun hc8 => ?_)
    · skip
      refine e_go hk_68 3 (c := (24, [.ref 4, .int key, .int what, s_no, s_no, s_no], [.int key, .ref 5], hp Z P L)) rfl ?_
      refine e_call hk_68 (as := [.ref 5, .int key]) (rest := []) rfl rfl hk_35 rfl (Nat.le_of_ble_eq_true rfl) rfl (x_ahead hN hn) ?_
      show e_r 68 27 [.ref 4, .int key, .int what, s_no, s_no, s_no] [.int (t_sm (Z 17) 0 (t_pl (Z 9) key 0 n) 0)] (hp Z P L) _ _
      refine e_go hk_68 4 (c := (33, [.ref 4, .int key, .int what, .int (t_sm (Z 17) 0 (t_pl (Z 9) key 0 n) 0), s_no, s_no], [.int key, .ref 5], hp Z P L)) rfl ?_
      refine e_call hk_68 (as := [.ref 5, .int key]) (rest := []) rfl rfl hk_32 rfl (Nat.le_of_ble_eq_true rfl) rfl (x_fnode hN hn) ?_
      show e_r 68 36 [.ref 4, .int key, .int what, .int (t_sm (Z 17) 0 (t_pl (Z 9) key 0 n) 0), s_no, s_no] [.int (y_o (t_fn (Z 9) (Z 17) n key))] (hp Z P L) _ _
      refine e_go hk_68 2 (c := (if s_cnd .ne (y_o (t_fn (Z 9) (Z 17) n key)) ((-6)) = true then 45 else 41, [.ref 4, .int key, .int what, .int (t_sm (Z 17) 0 (t_pl (Z 9) key 0 n) 0), s_no, s_no], [], hp Z P L)) rfl ?_
      refine e_ne (a := 45) (b := 41) (x := y_o (t_fn (Z 9) (Z 17) n key)) (y := (-6)) (fun hc38 => ?_) (fun hc38 => ?_)
      · skip
        rw [y_o_none (fun j hj => by have := (t_fn_lt hj).1; omega)] at hc38
        refine e_go hk_68 6 (c := (if s_cnd .ne what 0 = true then 62 else 56, [.ref 4, .int key, .int what, .int (t_sm (Z 17) 0 (t_pl (Z 9) key 0 n) 0), .int 1, s_no], [.ref 5], hp Z P L)) rfl ?_
        refine e_ne (a := 62) (b := 56) (x := what) (y := 0) (fun hc53 => absurd (hc8) hc53) (fun hc53 => ?_)
        refine e_go hk_68 4 (c := (66, [.ref 4, .int key, .int what, .int (t_sm (Z 17) 0 (t_pl (Z 9) key 0 n) 0), .int 1, s_no], [.int ((t_sm (Z 17) 0 (t_pl (Z 9) key 0 n) 0) - 1), .ref 5], hp Z P L)) rfl ?_
        refine e_call hk_68 (as := [.ref 5, .int ((t_sm (Z 17) 0 (t_pl (Z 9) key 0 n) 0) - 1)]) (rest := []) rfl rfl hk_36 rfl (Nat.le_of_ble_eq_true rfl) rfl (x_kth hN hn) ?_
        show e_r 68 69 [.ref 4, .int key, .int what, .int (t_sm (Z 17) 0 (t_pl (Z 9) key 0 n) 0), .int 1, s_no] [.int (y_o (t_kt (Z 17) ((t_sm (Z 17) 0 (t_pl (Z 9) key 0 n) 0) - 1) 0 n 0))] (hp Z P L) _ _
        refine e_go hk_68 4 (c := (if s_cnd .ne (y_o (t_kt (Z 17) ((t_sm (Z 17) 0 (t_pl (Z 9) key 0 n) 0) - 1) 0 n 0)) ((-6)) = true then 83 else 78, [.ref 4, .int key, .int what, .int (t_sm (Z 17) 0 (t_pl (Z 9) key 0 n) 0), .int 1, .int (y_o (t_kt (Z 17) ((t_sm (Z 17) 0 (t_pl (Z 9) key 0 n) 0) - 1) 0 n 0))], [], hp Z P L)) rfl ?_
        refine e_ne (a := 83) (b := 78) (x := y_o (t_kt (Z 17) ((t_sm (Z 17) 0 (t_pl (Z 9) key 0 n) 0) - 1) 0 n 0)) (y := (-6)) (fun hc75 => ?_) (fun hc75 => ?_)
        · skip
          rw [y_o_none (fun j hj => by have := t_kt_lt hj; omega)] at hc75
          refine e_go hk_68 4 (c := (92, [.ref 4, .int key, .int what, .int (t_sm (Z 17) 0 (t_pl (Z 9) key 0 n) 0), .int 1, .int (y_o (t_kt (Z 17) ((t_sm (Z 17) 0 (t_pl (Z 9) key 0 n) 0) - 1) 0 n 0))], [.int (y_o (t_kt (Z 17) ((t_sm (Z 17) 0 (t_pl (Z 9) key 0 n) 0) - 1) 0 n 0)), .ref 8], hp Z P L)) rfl ?_
          obtain ⟨j, hj⟩ := Option.ne_none_iff_exists'.mp hc75
          have hjn := t_kt_lt hj
          rw [hj]
          refine e_call hk_68 (as := [.ref 8, .int (nI j)]) (rest := []) rfl rfl hk_22 rfl (Nat.le_of_ble_eq_true rfl) rfl (x_at (r := 8) (a := 9) (n := 60) rfl rfl rfl (by decide) (j := j) (by omega)) ?_
          show e_r 68 95 [.ref 4, .int key, .int what, .int (t_sm (Z 17) 0 (t_pl (Z 9) key 0 n) 0), .int 1, .int (nI j)] [.int (Z 9 j)] (hp Z P L) _ _
          exact e_ret hk_68 rfl rfl rfl (by rw [c_nb, if_pos ⟨hc4, Or.inl hc8⟩, if_pos hc8, hj]) rfl
        · skip
          rw [y_o_none (fun j hj => by have := t_kt_lt hj; omega)] at hc75
          refine e_go hk_68 2 (c := (95, [.ref 4, .int key, .int what, .int (t_sm (Z 17) 0 (t_pl (Z 9) key 0 n) 0), .int 1, .int (y_o (t_kt (Z 17) ((t_sm (Z 17) 0 (t_pl (Z 9) key 0 n) 0) - 1) 0 n 0))], [.int ((-6))], hp Z P L)) rfl ?_
          exact e_ret hk_68 rfl rfl rfl (by rw [c_nb, if_pos ⟨hc4, Or.inl hc8⟩, if_pos hc8, hc75]) rfl
      · skip
        rw [y_o_none (fun j hj => by have := (t_fn_lt hj).1; omega)] at hc38
        refine e_go hk_68 7 (c := (if s_cnd .ne what 0 = true then 62 else 56, [.ref 4, .int key, .int what, .int (t_sm (Z 17) 0 (t_pl (Z 9) key 0 n) 0), .int 0, s_no], [.ref 5], hp Z P L)) rfl ?_
        refine e_ne (a := 62) (b := 56) (x := what) (y := 0) (fun hc53 => absurd (hc8) hc53) (fun hc53 => ?_)
        refine e_go hk_68 4 (c := (66, [.ref 4, .int key, .int what, .int (t_sm (Z 17) 0 (t_pl (Z 9) key 0 n) 0), .int 0, s_no], [.int ((t_sm (Z 17) 0 (t_pl (Z 9) key 0 n) 0) - 1), .ref 5], hp Z P L)) rfl ?_
        refine e_call hk_68 (as := [.ref 5, .int ((t_sm (Z 17) 0 (t_pl (Z 9) key 0 n) 0) - 1)]) (rest := []) rfl rfl hk_36 rfl (Nat.le_of_ble_eq_true rfl) rfl (x_kth hN hn) ?_
        show e_r 68 69 [.ref 4, .int key, .int what, .int (t_sm (Z 17) 0 (t_pl (Z 9) key 0 n) 0), .int 0, s_no] [.int (y_o (t_kt (Z 17) ((t_sm (Z 17) 0 (t_pl (Z 9) key 0 n) 0) - 1) 0 n 0))] (hp Z P L) _ _
        refine e_go hk_68 4 (c := (if s_cnd .ne (y_o (t_kt (Z 17) ((t_sm (Z 17) 0 (t_pl (Z 9) key 0 n) 0) - 1) 0 n 0)) ((-6)) = true then 83 else 78, [.ref 4, .int key, .int what, .int (t_sm (Z 17) 0 (t_pl (Z 9) key 0 n) 0), .int 0, .int (y_o (t_kt (Z 17) ((t_sm (Z 17) 0 (t_pl (Z 9) key 0 n) 0) - 1) 0 n 0))], [], hp Z P L)) rfl ?_
        refine e_ne (a := 83) (b := 78) (x := y_o (t_kt (Z 17) ((t_sm (Z 17) 0 (t_pl (Z 9) key 0 n) 0) - 1) 0 n 0)) (y := (-6)) (fun hc75 => ?_) (fun hc75 => ?_)
        · skip
          rw [y_o_none (fun j hj => by have := t_kt_lt hj; omega)] at hc75
          refine e_go hk_68 4 (c := (92, [.ref 4, .int key, .int what, .int (t_sm (Z 17) 0 (t_pl (Z 9) key 0 n) 0), .int 0, .int (y_o (t_kt (Z 17) ((t_sm (Z 17) 0 (t_pl (Z 9) key 0 n) 0) - 1) 0 n 0))], [.int (y_o (t_kt (Z 17) ((t_sm (Z 17) 0 (t_pl (Z 9) key 0 n) 0) - 1) 0 n 0)), .ref 8], hp Z P L)) rfl ?_
          obtain ⟨j, hj⟩ := Option.ne_none_iff_exists'.mp hc75
          have hjn := t_kt_lt hj
          rw [hj]
          refine e_call hk_68 (as := [.ref 8, .int (nI j)]) (rest := []) rfl rfl hk_22 rfl (Nat.le_of_ble_eq_true rfl) rfl (x_at (r := 8) (a := 9) (n := 60) rfl rfl rfl (by decide) (j := j) (by omega)) ?_
          show e_r 68 95 [.ref 4, .int key, .int what, .int (t_sm (Z 17) 0 (t_pl (Z 9) key 0 n) 0), .int 0, .int (nI j)] [.int (Z 9 j)] (hp Z P L) _ _
          exact e_ret hk_68 rfl rfl rfl (by rw [c_nb, if_pos ⟨hc4, Or.inl hc8⟩, if_pos hc8, hj]) rfl
        · skip
          rw [y_o_none (fun j hj => by have := t_kt_lt hj; omega)] at hc75
          refine e_go hk_68 2 (c := (95, [.ref 4, .int key, .int what, .int (t_sm (Z 17) 0 (t_pl (Z 9) key 0 n) 0), .int 0, .int (y_o (t_kt (Z 17) ((t_sm (Z 17) 0 (t_pl (Z 9) key 0 n) 0) - 1) 0 n 0))], [.int ((-6))], hp Z P L)) rfl ?_
          exact e_ret hk_68 rfl rfl rfl (by rw [c_nb, if_pos ⟨hc4, Or.inl hc8⟩, if_pos hc8, hc75]) rfl
    · skip
      refine e_go hk_68 3 (c := (if s_cnd .eq what 1 = true then 19 else 16, [.ref 4, .int key, .int what, s_no, s_no, s_no], [], hp Z P L)) rfl ?_
      refine e_eq (a := 19) (b := 16) (x := what) (y := 1) (fun hc13 => ?_) (fun hc13 => ?_)
      · skip
        refine e_go hk_68 3 (c := (24, [.ref 4, .int key, .int what, s_no, s_no, s_no], [.int key, .ref 5], hp Z P L)) rfl ?_
        refine e_call hk_68 (as := [.ref 5, .int key]) (rest := []) rfl rfl hk_35 rfl (Nat.le_of_ble_eq_true rfl) rfl (x_ahead hN hn) ?_
        show e_r 68 27 [.ref 4, .int key, .int what, s_no, s_no, s_no] [.int (t_sm (Z 17) 0 (t_pl (Z 9) key 0 n) 0)] (hp Z P L) _ _
        refine e_go hk_68 4 (c := (33, [.ref 4, .int key, .int what, .int (t_sm (Z 17) 0 (t_pl (Z 9) key 0 n) 0), s_no, s_no], [.int key, .ref 5], hp Z P L)) rfl ?_
        refine e_call hk_68 (as := [.ref 5, .int key]) (rest := []) rfl rfl hk_32 rfl (Nat.le_of_ble_eq_true rfl) rfl (x_fnode hN hn) ?_
        show e_r 68 36 [.ref 4, .int key, .int what, .int (t_sm (Z 17) 0 (t_pl (Z 9) key 0 n) 0), s_no, s_no] [.int (y_o (t_fn (Z 9) (Z 17) n key))] (hp Z P L) _ _
        refine e_go hk_68 2 (c := (if s_cnd .ne (y_o (t_fn (Z 9) (Z 17) n key)) ((-6)) = true then 45 else 41, [.ref 4, .int key, .int what, .int (t_sm (Z 17) 0 (t_pl (Z 9) key 0 n) 0), s_no, s_no], [], hp Z P L)) rfl ?_
        refine e_ne (a := 45) (b := 41) (x := y_o (t_fn (Z 9) (Z 17) n key)) (y := (-6)) (fun hc38 => ?_) (fun hc38 => ?_)
        · skip
          rw [y_o_none (fun j hj => by have := (t_fn_lt hj).1; omega)] at hc38
          refine e_go hk_68 6 (c := (if s_cnd .ne what 0 = true then 62 else 56, [.ref 4, .int key, .int what, .int (t_sm (Z 17) 0 (t_pl (Z 9) key 0 n) 0), .int 1, s_no], [.ref 5], hp Z P L)) rfl ?_
          refine e_ne (a := 62) (b := 56) (x := what) (y := 0) (fun hc53 => ?_) (fun hc53 => absurd hc53 (hc8))
          refine e_go hk_68 3 (c := (66, [.ref 4, .int key, .int what, .int (t_sm (Z 17) 0 (t_pl (Z 9) key 0 n) 0), .int 1, s_no], [.int ((t_sm (Z 17) 0 (t_pl (Z 9) key 0 n) 0) + 1), .ref 5], hp Z P L)) rfl ?_
          refine e_call hk_68 (as := [.ref 5, .int ((t_sm (Z 17) 0 (t_pl (Z 9) key 0 n) 0) + 1)]) (rest := []) rfl rfl hk_36 rfl (Nat.le_of_ble_eq_true rfl) rfl (x_kth hN hn) ?_
          show e_r 68 69 [.ref 4, .int key, .int what, .int (t_sm (Z 17) 0 (t_pl (Z 9) key 0 n) 0), .int 1, s_no] [.int (y_o (t_kt (Z 17) ((t_sm (Z 17) 0 (t_pl (Z 9) key 0 n) 0) + 1) 0 n 0))] (hp Z P L) _ _
          refine e_go hk_68 4 (c := (if s_cnd .ne (y_o (t_kt (Z 17) ((t_sm (Z 17) 0 (t_pl (Z 9) key 0 n) 0) + 1) 0 n 0)) ((-6)) = true then 83 else 78, [.ref 4, .int key, .int what, .int (t_sm (Z 17) 0 (t_pl (Z 9) key 0 n) 0), .int 1, .int (y_o (t_kt (Z 17) ((t_sm (Z 17) 0 (t_pl (Z 9) key 0 n) 0) + 1) 0 n 0))], [], hp Z P L)) rfl ?_
          refine e_ne (a := 83) (b := 78) (x := y_o (t_kt (Z 17) ((t_sm (Z 17) 0 (t_pl (Z 9) key 0 n) 0) + 1) 0 n 0)) (y := (-6)) (fun hc75 => ?_) (fun hc75 => ?_)
          · skip
            rw [y_o_none (fun j hj => by have := t_kt_lt hj; omega)] at hc75
            refine e_go hk_68 4 (c := (92, [.ref 4, .int key, .int what, .int (t_sm (Z 17) 0 (t_pl (Z 9) key 0 n) 0), .int 1, .int (y_o (t_kt (Z 17) ((t_sm (Z 17) 0 (t_pl (Z 9) key 0 n) 0) + 1) 0 n 0))], [.int (y_o (t_kt (Z 17) ((t_sm (Z 17) 0 (t_pl (Z 9) key 0 n) 0) + 1) 0 n 0)), .ref 8], hp Z P L)) rfl ?_
            obtain ⟨j, hj⟩ := Option.ne_none_iff_exists'.mp hc75
            have hjn := t_kt_lt hj
            rw [hj]
            refine e_call hk_68 (as := [.ref 8, .int (nI j)]) (rest := []) rfl rfl hk_22 rfl (Nat.le_of_ble_eq_true rfl) rfl (x_at (r := 8) (a := 9) (n := 60) rfl rfl rfl (by decide) (j := j) (by omega)) ?_
            show e_r 68 95 [.ref 4, .int key, .int what, .int (t_sm (Z 17) 0 (t_pl (Z 9) key 0 n) 0), .int 1, .int (nI j)] [.int (Z 9 j)] (hp Z P L) _ _
            exact e_ret hk_68 rfl rfl rfl (by rw [c_nb, if_pos ⟨hc4, Or.inr hc13⟩, if_neg hc8, if_neg hc38, hj]) rfl
          · skip
            rw [y_o_none (fun j hj => by have := t_kt_lt hj; omega)] at hc75
            refine e_go hk_68 2 (c := (95, [.ref 4, .int key, .int what, .int (t_sm (Z 17) 0 (t_pl (Z 9) key 0 n) 0), .int 1, .int (y_o (t_kt (Z 17) ((t_sm (Z 17) 0 (t_pl (Z 9) key 0 n) 0) + 1) 0 n 0))], [.int ((-6))], hp Z P L)) rfl ?_
            exact e_ret hk_68 rfl rfl rfl (by rw [c_nb, if_pos ⟨hc4, Or.inr hc13⟩, if_neg hc8, if_neg hc38, hc75]) rfl
        · skip
          rw [y_o_none (fun j hj => by have := (t_fn_lt hj).1; omega)] at hc38
          refine e_go hk_68 7 (c := (if s_cnd .ne what 0 = true then 62 else 56, [.ref 4, .int key, .int what, .int (t_sm (Z 17) 0 (t_pl (Z 9) key 0 n) 0), .int 0, s_no], [.ref 5], hp Z P L)) rfl ?_
          refine e_ne (a := 62) (b := 56) (x := what) (y := 0) (fun hc53 => ?_) (fun hc53 => absurd hc53 (hc8))
          refine e_go hk_68 3 (c := (66, [.ref 4, .int key, .int what, .int (t_sm (Z 17) 0 (t_pl (Z 9) key 0 n) 0), .int 0, s_no], [.int ((t_sm (Z 17) 0 (t_pl (Z 9) key 0 n) 0) + 0), .ref 5], hp Z P L)) rfl ?_
          refine e_call hk_68 (as := [.ref 5, .int ((t_sm (Z 17) 0 (t_pl (Z 9) key 0 n) 0) + 0)]) (rest := []) rfl rfl hk_36 rfl (Nat.le_of_ble_eq_true rfl) rfl (x_kth hN hn) ?_
          show e_r 68 69 [.ref 4, .int key, .int what, .int (t_sm (Z 17) 0 (t_pl (Z 9) key 0 n) 0), .int 0, s_no] [.int (y_o (t_kt (Z 17) ((t_sm (Z 17) 0 (t_pl (Z 9) key 0 n) 0) + 0) 0 n 0))] (hp Z P L) _ _
          refine e_go hk_68 4 (c := (if s_cnd .ne (y_o (t_kt (Z 17) ((t_sm (Z 17) 0 (t_pl (Z 9) key 0 n) 0) + 0) 0 n 0)) ((-6)) = true then 83 else 78, [.ref 4, .int key, .int what, .int (t_sm (Z 17) 0 (t_pl (Z 9) key 0 n) 0), .int 0, .int (y_o (t_kt (Z 17) ((t_sm (Z 17) 0 (t_pl (Z 9) key 0 n) 0) + 0) 0 n 0))], [], hp Z P L)) rfl ?_
          refine e_ne (a := 83) (b := 78) (x := y_o (t_kt (Z 17) ((t_sm (Z 17) 0 (t_pl (Z 9) key 0 n) 0) + 0) 0 n 0)) (y := (-6)) (fun hc75 => ?_) (fun hc75 => ?_)
          · skip
            rw [y_o_none (fun j hj => by have := t_kt_lt hj; omega)] at hc75
            refine e_go hk_68 4 (c := (92, [.ref 4, .int key, .int what, .int (t_sm (Z 17) 0 (t_pl (Z 9) key 0 n) 0), .int 0, .int (y_o (t_kt (Z 17) ((t_sm (Z 17) 0 (t_pl (Z 9) key 0 n) 0) + 0) 0 n 0))], [.int (y_o (t_kt (Z 17) ((t_sm (Z 17) 0 (t_pl (Z 9) key 0 n) 0) + 0) 0 n 0)), .ref 8], hp Z P L)) rfl ?_
            obtain ⟨j, hj⟩ := Option.ne_none_iff_exists'.mp hc75
            have hjn := t_kt_lt hj
            rw [hj]
            refine e_call hk_68 (as := [.ref 8, .int (nI j)]) (rest := []) rfl rfl hk_22 rfl (Nat.le_of_ble_eq_true rfl) rfl (x_at (r := 8) (a := 9) (n := 60) rfl rfl rfl (by decide) (j := j) (by omega)) ?_
            show e_r 68 95 [.ref 4, .int key, .int what, .int (t_sm (Z 17) 0 (t_pl (Z 9) key 0 n) 0), .int 0, .int (nI j)] [.int (Z 9 j)] (hp Z P L) _ _
            exact e_ret hk_68 rfl rfl rfl (by rw [c_nb, if_pos ⟨hc4, Or.inr hc13⟩, if_neg hc8, if_pos hc38, hj]) rfl
          · skip
            rw [y_o_none (fun j hj => by have := t_kt_lt hj; omega)] at hc75
            refine e_go hk_68 2 (c := (95, [.ref 4, .int key, .int what, .int (t_sm (Z 17) 0 (t_pl (Z 9) key 0 n) 0), .int 0, .int (y_o (t_kt (Z 17) ((t_sm (Z 17) 0 (t_pl (Z 9) key 0 n) 0) + 0) 0 n 0))], [.int ((-6))], hp Z P L)) rfl ?_
            exact e_ret hk_68 rfl rfl rfl (by rw [c_nb, if_pos ⟨hc4, Or.inr hc13⟩, if_neg hc8, if_pos hc38, hc75]) rfl
      · skip
        refine e_go hk_68 1 (c := (18, [.ref 4, .int key, .int what, s_no, s_no, s_no], [.int ((-2))], hp Z P L)) rfl ?_
        exact e_ret hk_68 rfl rfl rfl (by rw [c_nb, if_neg (fun z => z.2.elim hc8 hc13)]) rfl
def c_wc (Z : Nat → Nat → Int32) (n : Nat) (key : Int32) : Int32 := if y_nm key = true then (if t_rm Z n key = true then t_cs Z n key else -4) else -2
theorem x_wc {Z : Nat → Nat → Int32} {P : Nat → Nat} {L n : Nat} (hN : Z 5 6 = nI n) (hn : n ≤ 60) (hF : ∀ i, i < n → Z 17 i = 0 ∨ Z 17 i = 1) {key : Int32} : m_r 70 [.ref 4, .int key] (hp Z P L) (some (.int (c_wc Z n key))) (hp Z P L) := by
  refine m_of (ls := [.ref 4, .int key]) hk_70 rfl rfl rfl ?_
  refine e_go hk_70 1 (c := (1, [.ref 4, .int key], [.int key], hp Z P L)) rfl ?_
  refine e_call hk_70 (as := [.int key]) (rest := []) rfl rfl hk_79 rfl (Nat.le_of_ble_eq_true rfl) rfl (x_num (k := key)) ?_
  show e_r 70 4 [.ref 4, .int key] [.int (y_b (y_nm key))] (hp Z P L) _ _
  refine e_go hk_70 1 (c := (if s_cnd .ne (y_b (y_nm key)) 0 = true then 10 else 7, [.ref 4, .int key], [], hp Z P L)) rfl ?_
  refine e_ne (a := 10) (b := 7) (x := y_b (y_nm key)) (y := 0) (fun hc4 => ?_) (fun hc4 => ?_)
  · skip
    rw [y_b1] at hc4
    refine e_go hk_70 3 (c := (15, [.ref 4, .int key], [.int key, .ref 5], hp Z P L)) rfl ?_
    refine e_call hk_70 (as := [.ref 5, .int key]) (rest := []) rfl rfl hk_45 rfl (Nat.le_of_ble_eq_true rfl) rfl (x_room hN hn) ?_
    show e_r 70 18 [.ref 4, .int key] [.int (y_b (t_rm Z n key))] (hp Z P L) _ _
    refine e_go hk_70 1 (c := (if s_cnd .eq (y_b (t_rm Z n key)) 0 = true then 32 else 21, [.ref 4, .int key], [], hp Z P L)) rfl ?_
    refine e_eq (a := 32) (b := 21) (x := y_b (t_rm Z n key)) (y := 0) (fun hc18 => ?_) (fun hc18 => ?_)
    · skip
      rw [y_b0] at hc18
      refine e_go hk_70 1 (c := (34, [.ref 4, .int key], [.int ((-4))], hp Z P L)) rfl ?_
      exact e_ret hk_70 rfl rfl rfl (by rw [c_wc, if_pos hc4, if_neg (by rw [hc18]; decide)]) rfl
    · skip
      rw [y_b1] at hc18
      refine e_go hk_70 3 (c := (26, [.ref 4, .int key], [.int key, .ref 5], hp Z P L)) rfl ?_
      refine e_call hk_70 (as := [.ref 5, .int key]) (rest := []) rfl rfl hk_44 rfl (Nat.le_of_ble_eq_true rfl) rfl (x_cost hN hn) ?_
      show e_r 70 29 [.ref 4, .int key] [.int (t_cs Z n key)] (hp Z P L) _ _
      refine e_go hk_70 1 (c := (34, [.ref 4, .int key], [.int (t_cs Z n key)], hp Z P L)) rfl ?_
      exact e_ret hk_70 rfl rfl rfl (by rw [c_wc, if_pos hc4, if_pos hc18]) rfl
  · skip
    rw [y_b0] at hc4
    refine e_go hk_70 1 (c := (9, [.ref 4, .int key], [.int ((-2))], hp Z P L)) rfl ?_
    exact e_ret hk_70 rfl rfl rfl (by rw [c_wc, if_neg (by rw [hc4]; decide)]) rfl
def t_su (Z : Nat → Nat → Int32) (hi : Int32) : Nat → Nat → Int32 → Int32
  | _, 0, a => a
  | i, k + 1, a => if Z 9 i ≤ hi then t_su Z hi (i + 1) k (a + (if Z 17 i = 1 then Z 11 i else 0)) else a
def c_sum (Z : Nat → Nat → Int32) (n : Nat) (lo hi : Int32) : Int32 := if y_nm lo = true ∧ y_nm hi = true ∧ lo ≤ hi then t_su Z hi (t_pl (Z 9) lo 0 n) (n - t_pl (Z 9) lo 0 n) 0 else -2
theorem x_sum_l {Z : Nat → Nat → Int32} {P : Nat → Nat} {L n : Nat} (hN : Z 5 6 = nI n) (hn : n ≤ 60) (hF : ∀ i, i < n → Z 17 i = 0 ∨ Z 17 i = 1) {lo hi : Int32} : ∀ (k i : Nat) (a : Int32), i + k = n → e_r 69 34 [.ref 4, .int lo, .int hi, .int a, .int (nI i)] [] (hp Z P L) (some (.int (t_su Z hi i k a))) (hp Z P L)
  | 0, i, a, hi2 => by
    refine e_go hk_69 5 (c := (if s_cnd .ge (nI i) (Z 5 6) = true then 99 else 46, [.ref 4, .int lo, .int hi, .int a, .int (nI i)], [], hp Z P L)) rfl ?_
    refine e_ge (a := 99) (b := 46) (x := nI i) (y := Z 5 6) (fun hc43 => ?_) (fun hc43 => absurd (by rw [hN]; exact (y_le (by omega) (by omega)).mpr (by omega)) hc43)
    refine e_go hk_69 1 (c := (100, [.ref 4, .int lo, .int hi, .int a, .int (nI i)], [.int a], hp Z P L)) rfl ?_
    exact e_ret hk_69 rfl rfl rfl rfl rfl
  | k + 1, i, a, hi2 => by
    refine e_go hk_69 5 (c := (if s_cnd .ge (nI i) (Z 5 6) = true then 99 else 46, [.ref 4, .int lo, .int hi, .int a, .int (nI i)], [], hp Z P L)) rfl ?_
    refine e_ge (a := 99) (b := 46) (x := nI i) (y := Z 5 6) (fun hc43 => absurd hc43 (by rw [hN]; exact nI_ge (by omega) (by omega))) (fun hc43 => ?_)
    refine e_go hk_69 4 (c := (55, [.ref 4, .int lo, .int hi, .int a, .int (nI i)], [.int (nI i), .ref 8], hp Z P L)) rfl ?_
    refine e_call hk_69 (as := [.ref 8, .int (nI i)]) (rest := []) rfl rfl hk_22 rfl (Nat.le_of_ble_eq_true rfl) rfl (x_at (r := 8) (a := 9) (n := 60) rfl rfl rfl (by decide) (j := i) (by omega)) ?_
    show e_r 69 58 [.ref 4, .int lo, .int hi, .int a, .int (nI i)] [.int (Z 9 i)] (hp Z P L) _ _
    refine e_go hk_69 2 (c := (if s_cnd .gt (Z 9 i) hi = true then 99 else 62, [.ref 4, .int lo, .int hi, .int a, .int (nI i)], [], hp Z P L)) rfl ?_
    refine e_gt (a := 99) (b := 62) (x := Z 9 i) (y := hi) (fun hc59 => ?_) (fun hc59 => ?_)
    · skip
      refine e_go hk_69 1 (c := (100, [.ref 4, .int lo, .int hi, .int a, .int (nI i)], [.int a], hp Z P L)) rfl ?_
      exact e_ret hk_69 rfl rfl rfl (by rw [t_su, if_neg (Int32.not_le.mpr hc59)]) rfl
    · skip
      refine e_go hk_69 4 (c := (69, [.ref 4, .int lo, .int hi, .int a, .int (nI i)], [.int (nI i), .ref 5, .int a], hp Z P L)) rfl ?_
      refine e_call hk_69 (as := [.ref 5, .int (nI i)]) (rest := [.int a]) rfl rfl hk_33 rfl (Nat.le_of_ble_eq_true rfl) rfl (x_isfull (j := i) (by omega)) ?_
      show e_r 69 72 [.ref 4, .int lo, .int hi, .int a, .int (nI i)] [.int (y_b (decide (Z 17 i = 1))), .int a] (hp Z P L) _ _
      refine e_go hk_69 1 (c := (if s_cnd .eq (y_b (decide (Z 17 i = 1))) 0 = true then 90 else 75, [.ref 4, .int lo, .int hi, .int a, .int (nI i)], [.int a], hp Z P L)) rfl ?_
      refine e_eq (a := 90) (b := 75) (x := y_b (decide (Z 17 i = 1))) (y := 0) (fun hc72 => ?_) (fun hc72 => ?_)
      · skip
        rw [y_d0] at hc72
        refine e_go hk_69 5 (c := (34, [.ref 4, .int lo, .int hi, .int (a + 0), .int ((nI i) + 1)], [], hp Z P L)) rfl ?_
        rw [t_su, if_pos (Int32.not_lt.mp hc59), if_neg hc72, nI_1]
        exact x_sum_l hN hn hF k (i + 1) _ (by omega)
      · skip
        rw [y_d1] at hc72
        refine e_go hk_69 4 (c := (84, [.ref 4, .int lo, .int hi, .int a, .int (nI i)], [.int (nI i), .ref 10, .int a], hp Z P L)) rfl ?_
        refine e_call hk_69 (as := [.ref 10, .int (nI i)]) (rest := [.int a]) rfl rfl hk_22 rfl (Nat.le_of_ble_eq_true rfl) rfl (x_at (r := 10) (a := 11) (n := 60) rfl rfl rfl (by decide) (j := i) (by omega)) ?_
        show e_r 69 87 [.ref 4, .int lo, .int hi, .int a, .int (nI i)] [.int (Z 11 i), .int a] (hp Z P L) _ _
        refine e_go hk_69 5 (c := (34, [.ref 4, .int lo, .int hi, .int (a + (Z 11 i)), .int ((nI i) + 1)], [], hp Z P L)) rfl ?_
        rw [t_su, if_pos (Int32.not_lt.mp hc59), if_pos hc72, nI_1]
        exact x_sum_l hN hn hF k (i + 1) _ (by omega)
theorem x_sum {Z : Nat → Nat → Int32} {P : Nat → Nat} {L n : Nat} (hN : Z 5 6 = nI n) (hn : n ≤ 60) (hF : ∀ i, i < n → Z 17 i = 0 ∨ Z 17 i = 1) {lo hi : Int32} : m_r 69 [.ref 4, .int lo, .int hi] (hp Z P L) (some (.int (c_sum Z n lo hi))) (hp Z P L) := by
  refine m_of (ls := [.ref 4, .int lo, .int hi, s_no, s_no]) hk_69 rfl rfl rfl ?_
  refine e_go hk_69 1 (c := (1, [.ref 4, .int lo, .int hi, s_no, s_no], [.int lo], hp Z P L)) rfl ?_
  refine e_call hk_69 (as := [.int lo]) (rest := []) rfl rfl hk_79 rfl (Nat.le_of_ble_eq_true rfl) rfl (x_num (k := lo)) ?_
  show e_r 69 4 [.ref 4, .int lo, .int hi, s_no, s_no] [.int (y_b (y_nm lo))] (hp Z P L) _ _
  refine e_go hk_69 1 (c := (if s_cnd .eq (y_b (y_nm lo)) 0 = true then 19 else 7, [.ref 4, .int lo, .int hi, s_no, s_no], [], hp Z P L)) rfl ?_
  refine e_eq (a := 19) (b := 7) (x := y_b (y_nm lo)) (y := 0) (fun hc4 => ?_) (fun hc4 => ?_)
  · skip
    rw [y_b0] at hc4
    refine e_go hk_69 1 (c := (21, [.ref 4, .int lo, .int hi, s_no, s_no], [.int ((-2))], hp Z P L)) rfl ?_
    exact e_ret hk_69 rfl rfl rfl (by rw [c_sum, if_neg (fun z => by rw [z.1] at hc4; cases hc4)]) rfl
  · skip
    rw [y_b1] at hc4
    refine e_go hk_69 1 (c := (8, [.ref 4, .int lo, .int hi, s_no, s_no], [.int hi], hp Z P L)) rfl ?_
    refine e_call hk_69 (as := [.int hi]) (rest := []) rfl rfl hk_79 rfl (Nat.le_of_ble_eq_true rfl) rfl (x_num (k := hi)) ?_
    show e_r 69 11 [.ref 4, .int lo, .int hi, s_no, s_no] [.int (y_b (y_nm hi))] (hp Z P L) _ _
    refine e_go hk_69 1 (c := (if s_cnd .eq (y_b (y_nm hi)) 0 = true then 19 else 14, [.ref 4, .int lo, .int hi, s_no, s_no], [], hp Z P L)) rfl ?_
    refine e_eq (a := 19) (b := 14) (x := y_b (y_nm hi)) (y := 0) (fun hc11 => ?_) (fun hc11 => ?_)
    · skip
      rw [y_b0] at hc11
      refine e_go hk_69 1 (c := (21, [.ref 4, .int lo, .int hi, s_no, s_no], [.int ((-2))], hp Z P L)) rfl ?_
      exact e_ret hk_69 rfl rfl rfl (by rw [c_sum, if_neg (fun z => by rw [z.2.1] at hc11; cases hc11)]) rfl
    · skip
      rw [y_b1] at hc11
      refine e_go hk_69 3 (c := (if s_cnd .ge hi lo = true then 22 else 19, [.ref 4, .int lo, .int hi, s_no, s_no], [], hp Z P L)) rfl ?_
      refine e_ge (a := 22) (b := 19) (x := hi) (y := lo) (fun hc16 => ?_) (fun hc16 => ?_)
      · skip
        refine e_go hk_69 5 (c := (29, [.ref 4, .int lo, .int hi, .int 0, s_no], [.int lo, .ref 5], hp Z P L)) rfl ?_
        refine e_call hk_69 (as := [.ref 5, .int lo]) (rest := []) rfl rfl hk_30 rfl (Nat.le_of_ble_eq_true rfl) rfl (x_place hN hn) ?_
        show e_r 69 32 [.ref 4, .int lo, .int hi, .int 0, s_no] [.int (nI (t_pl (Z 9) lo 0 n))] (hp Z P L) _ _
        refine e_go hk_69 1 (c := (34, [.ref 4, .int lo, .int hi, .int 0, .int (nI (t_pl (Z 9) lo 0 n))], [], hp Z P L)) rfl ?_
        have hpl := (t_pl_le (Z 9) lo n 0).2
        rw [c_sum, if_pos ⟨hc4, hc11, hc16⟩]
        exact x_sum_l hN hn hF _ _ _ (by omega)
      · skip
        refine e_go hk_69 1 (c := (21, [.ref 4, .int lo, .int hi, s_no, s_no], [.int ((-2))], hp Z P L)) rfl ?_
        exact e_ret hk_69 rfl rfl rfl (by rw [c_sum, if_neg (fun z => hc16 z.2.2)]) rfl
end
section
/-! undo, out of whole's 26 -/
theorem x_undo_0 {Z : Nat → Nat → Int32} {P : Nat → Nat} {L : Nat} (hP : ∀ j, j < 6 → t_hs (P j)) (hM : Z 18 1 = nI 0) : m_r 76 [.ref 4] (hp Z P L) (some (.int (-5))) (hp Z P L) := by
  refine m_of (ls := [.ref 4]) hk_76 rfl rfl rfl ?_
  refine e_go hk_76 4 (c := (8, [.ref 4], [.ref 5, .ref 18], hp Z P L)) rfl ?_
  refine e_call hk_76 (as := [.ref 18, .ref 5]) (rest := []) rfl rfl hk_2 rfl (Nat.le_of_ble_eq_true rfl) rfl (show m_r 2 [.ref 18, .ref 5] (hp Z P L) (some (.int 0)) (hp Z P L) from x_take_0 (fun j hj => t_hs_at (hP j hj)) hM) ?_
  show e_r 76 11 [.ref 4] [.int 0] (hp Z P L) _ _
  refine e_go hk_76 1 (c := (if s_cnd .eq 0 0 = true then 24 else 14, [.ref 4], [], hp Z P L)) rfl ?_
  refine e_eq (a := 24) (b := 14) (x := 0) (y := 0) (fun hc11 => ?_) (fun hc11 => absurd (rfl) hc11)
  refine e_go hk_76 1 (c := (26, [.ref 4], [.int ((-5))], hp Z P L)) rfl ?_
  exact e_ret hk_76 rfl rfl rfl rfl rfl
theorem x_undo_s {Z : Nat → Nat → Int32} {P : Nat → Nat} {L : Nat} (hP : ∀ j, j < 6 → t_hs (P j)) {m : Nat} (hM : Z 18 1 = nI (m + 1)) (hm : m < 6) : m_r 76 [.ref 4] (hp Z P L) (some (.int ((t_tk Z P (m + 1)).2 18 1))) (hp (t_tk Z P (m + 1)).2 P L) := by
  refine m_of (ls := [.ref 4]) hk_76 rfl rfl rfl ?_
  refine e_go hk_76 4 (c := (8, [.ref 4], [.ref 5, .ref 18], hp Z P L)) rfl ?_
  refine e_call hk_76 (as := [.ref 18, .ref 5]) (rest := []) rfl rfl hk_2 rfl (Nat.le_of_ble_eq_true rfl) rfl (show m_r 2 [.ref 18, .ref 5] (hp Z P L) (some (.int 1)) (hp (t_tk Z P (m + 1)).2 P L) from x_take_s (fun j hj => t_hs_at (hP j hj)) hM hm) ?_
  show e_r 76 11 [.ref 4] [.int 1] (hp ((t_tk Z P (m + 1)).2) P L) _ _
  refine e_go hk_76 1 (c := (if s_cnd .eq 1 0 = true then 24 else 14, [.ref 4], [], hp ((t_tk Z P (m + 1)).2) P L)) rfl ?_
  refine e_eq (a := 24) (b := 14) (x := 1) (y := 0) (fun hc11 => absurd hc11 (by decide)) (fun hc11 => ?_)
  refine e_go hk_76 4 (c := (26, [.ref 4], [.int (((t_tk Z P (m + 1)).2) 18 1)], hp ((t_tk Z P (m + 1)).2) P L)) rfl ?_
  exact e_ret hk_76 rfl rfl rfl rfl rfl
theorem t_bc_s {Z : Nat → Nat → Int32} {x y s : Nat} (hxy : y < x ∨ x + 12 < y) (hs : 6 ≤ s ∧ s ≤ 10) : t_bc Z x y x s = Z y s := by
  have e : ∀ (W : Nat → Nat → Int32) (s : Nat), t_bc5 W x y s y = W y := fun W s => s_upd_o (by omega)
  have g : ∀ (W : Nat → Nat → Int32) (s t : Nat), t_bc5 W x y s x t = if t = s then W y s else W x t := by
    intro W s t
    unfold t_bc5
    rw [s_upd_c]
    by_cases h : t = s
    · rw [if_pos ⟨rfl, h⟩, if_pos h]
    · rw [if_neg (fun z => h z.2), if_neg h]
  have f : t_bc6 Z x y y = Z y := by
    unfold t_bc6
    rw [t_cp_o (by omega), t_cp_o (by omega), t_cp_o (by omega), t_cp_o (by omega), t_cp_o (by omega), t_cp_o (by omega)]
  have hs2 : s = 6 ∨ s = 7 ∨ s = 8 ∨ s = 9 ∨ s = 10 := by omega
  unfold t_bc
  rcases hs2 with rfl | rfl | rfl | rfl | rfl <;> simp [g, e, f]
end
section
/-! The calls: node, count; printed by wip/whole/gen/calls4.py -/
def t_ktp (Z : Nat → Nat → Int32) (l u : Nat) (d : Int32) : Int32 := if u ≤ l then -6 else Z 9 (t_tp (Z 15) d l (u - 1 - l))
theorem x_ktp {Z : Nat → Nat → Int32} {P : Nat → Nat} {L : Nat} {l u : Nat} {d : Int32} (hl : l ≤ 60) (hu : u ≤ 60) : m_r 85 [.ref 4, .int (nI l), .int (nI u - 1), .int d] (hp Z P L) (some (.int (t_ktp Z l u d))) (hp Z P L) := by
  refine m_of (ls := [.ref 4, .int (nI l), .int (nI u - 1), .int d]) hk_85 rfl rfl rfl ?_
  refine e_go hk_85 3 (c := (if s_cnd .le (nI l) (nI u - 1) = true then 10 else 5, [.ref 4, .int (nI l), .int (nI u - 1), .int d], [], hp Z P L)) rfl ?_
  refine e_le (a := 10) (b := 5) (x := nI l) (y := nI u - 1) (fun hc2 => ?_) (fun hc2 => ?_)
  · skip
    have hul : ¬ u ≤ l := fun z => absurd hc2 (Int32.not_le.mpr ((y_m1lt (by omega) (by omega)).mpr z))
    refine e_go hk_85 8 (c := (24, [.ref 4, .int (nI l), .int (nI u - 1), .int d], [.int d, .int (nI u - 1), .int (nI l), .ref 5, .ref 8], hp Z P L)) rfl ?_
    rw [y_m1s (u := u) (by omega)]
    refine e_call hk_85 (as := [.ref 5, .int (nI l), .int (nI (u - 1)), .int d]) (rest := [.ref 8]) rfl rfl hk_39 rfl (Nat.le_of_ble_eq_true rfl) rfl (x_top (l := l) (u := u - 1) (by omega) (by omega)) ?_
    show e_r 85 27 [.ref 4, .int (nI l), .int (nI (u - 1)), .int d] [.int (nI (t_tp (Z 15) d l (u - 1 - l))), .ref 8] (hp Z P L) _ _
    have htp := t_tp_le (Z 15) d (u - 1 - l) l
    refine e_call hk_85 (as := [.ref 8, .int (nI (t_tp (Z 15) d l (u - 1 - l)))]) (rest := []) rfl rfl hk_22 rfl (Nat.le_of_ble_eq_true rfl) rfl (x_at (r := 8) (a := 9) (n := 60) rfl rfl rfl (by decide) (j := t_tp (Z 15) d l (u - 1 - l)) (by omega)) ?_
    show e_r 85 30 [.ref 4, .int (nI l), .int (nI (u - 1)), .int d] [.int (Z 9 (t_tp (Z 15) d l (u - 1 - l)))] (hp Z P L) _ _
    exact e_ret hk_85 rfl rfl rfl (by rw [t_ktp, if_neg hul]) rfl
  · skip
    have hul : u ≤ l := (y_m1lt (by omega) (by omega)).mp (Int32.not_le.mp hc2)
    refine e_go hk_85 2 (c := (30, [.ref 4, .int (nI l), .int (nI u - 1), .int d], [.int ((-6))], hp Z P L)) rfl ?_
    exact e_ret hk_85 rfl rfl rfl (by rw [t_ktp, if_pos hul]) rfl
def c_count (Z : Nat → Nat → Int32) (n : Nat) : Nat → Int32
  | 0 => nI n
  | 1 => t_sm (Z 17) 0 n 0
  | 2 => t_ktp Z 0 n 0
  | 3 => if n = 0 then -6 else t_mx (Z 15) 0 (n - 0) (Z 15 0)
  | 4 => Z 5 7
  | 5 => Z 5 8 + 1000000
  | 6 => t_sm (Z 13) 0 (n - 0) 0
  | 7 => Z 5 9
  | 8 => Z 5 10
  | 9 => t_lnc Z n 0 n 0
  | 10 => Z 7 0
  | 11 => Z 7 1
  | 12 => Z 7 2
  | 13 => Z 99 1
  | 14 => Z 18 1
  | _ => -2
theorem x_shape0 {Z : Nat → Nat → Int32} {P : Nat → Nat} {L n : Nat} (hN : Z 5 6 = nI n) (hn : n ≤ 60) : m_r 83 [.ref 4, .int 0] (hp Z P L) (some (.int (c_count Z n 0))) (hp Z P L) := by
  refine m_of (ls := [.ref 4, .int 0, s_no]) hk_83 rfl rfl rfl ?_
  refine e_go hk_83 6 (c := (10, [.ref 4, .int 0, .int ((Z 5 6) - 1)], [], hp Z P L)) rfl ?_
  rw [hN]
  refine e_go hk_83 5 (c := (43, [.ref 4, .int 0, .int (nI n - 1)], [.int (Z 5 6)], hp Z P L)) rfl ?_
  exact e_ret hk_83 rfl rfl rfl (by rw [hN]; rfl) rfl
theorem x_count0 {Z : Nat → Nat → Int32} {P : Nat → Nat} {L n : Nat} (hN : Z 5 6 = nI n) (hn : n ≤ 60) : m_r 63 [.ref 4, .int 0] (hp Z P L) (some (.int (c_count Z n 0))) (hp Z P L) := by
  refine m_of (ls := [.ref 4, .int 0]) hk_63 rfl rfl rfl ?_
  refine e_go hk_63 2 (c := (if s_cnd .lt 0 0 = true then 10 else 4, [.ref 4, .int 0], [], hp Z P L)) rfl ?_
  refine e_lt (a := 10) (b := 4) (x := 0) (y := 0) (fun hc1 => absurd hc1 (by decide)) (fun hc1 => ?_)
  refine e_go hk_63 3 (c := (if s_cnd .le 0 14 = true then 13 else 10, [.ref 4, .int 0], [], hp Z P L)) rfl ?_
  refine e_le (a := 13) (b := 10) (x := 0) (y := 14) (fun hc7 => ?_) (fun hc7 => absurd (by decide) hc7)
  refine e_go hk_63 5 (c := (if s_cnd .ge 0 4 = true then 69 else 61, [.ref 4, .int 0], [], hp Z P L)) rfl ?_
  refine e_ge (a := 69) (b := 61) (x := 0) (y := 4) (fun hc58 => absurd hc58 (by decide)) (fun hc58 => ?_)
  refine e_go hk_63 2 (c := (63, [.ref 4, .int 0], [.int 0, .ref 4], hp Z P L)) rfl ?_
  refine e_call hk_63 (as := [.ref 4, .int 0]) (rest := []) rfl rfl hk_83 rfl (Nat.le_of_ble_eq_true rfl) rfl (x_shape0 hN hn) ?_
  show e_r 63 66 [.ref 4, .int 0] [.int (c_count Z n 0)] (hp Z P L) _ _
  refine e_go hk_63 1 (c := (74, [.ref 4, .int 0], [.int (c_count Z n 0)], hp Z P L)) rfl ?_
  exact e_ret hk_63 rfl rfl rfl rfl rfl
theorem x_shape1 {Z : Nat → Nat → Int32} {P : Nat → Nat} {L n : Nat} (hN : Z 5 6 = nI n) (hn : n ≤ 60) : m_r 83 [.ref 4, .int 1] (hp Z P L) (some (.int (c_count Z n 1))) (hp Z P L) := by
  refine m_of (ls := [.ref 4, .int 1, s_no]) hk_83 rfl rfl rfl ?_
  refine e_go hk_83 6 (c := (10, [.ref 4, .int 1, .int ((Z 5 6) - 1)], [], hp Z P L)) rfl ?_
  rw [hN]
  refine e_go hk_83 4 (c := (48, [.ref 4, .int 1, .int (nI n - 1)], [.ref 5], hp Z P L)) rfl ?_
  refine e_call hk_83 (as := [.ref 5]) (rest := []) rfl rfl hk_34 rfl (Nat.le_of_ble_eq_true rfl) rfl (x_all hN hn) ?_
  show e_r 83 51 [.ref 4, .int 1, .int (nI n - 1)] [.int (t_sm (Z 17) 0 n 0)] (hp Z P L) _ _
  exact e_ret hk_83 rfl rfl rfl rfl rfl
theorem x_count1 {Z : Nat → Nat → Int32} {P : Nat → Nat} {L n : Nat} (hN : Z 5 6 = nI n) (hn : n ≤ 60) : m_r 63 [.ref 4, .int 1] (hp Z P L) (some (.int (c_count Z n 1))) (hp Z P L) := by
  refine m_of (ls := [.ref 4, .int 1]) hk_63 rfl rfl rfl ?_
  refine e_go hk_63 2 (c := (if s_cnd .lt 1 0 = true then 10 else 4, [.ref 4, .int 1], [], hp Z P L)) rfl ?_
  refine e_lt (a := 10) (b := 4) (x := 1) (y := 0) (fun hc1 => absurd hc1 (by decide)) (fun hc1 => ?_)
  refine e_go hk_63 3 (c := (if s_cnd .le 1 14 = true then 13 else 10, [.ref 4, .int 1], [], hp Z P L)) rfl ?_
  refine e_le (a := 13) (b := 10) (x := 1) (y := 14) (fun hc7 => ?_) (fun hc7 => absurd (by decide) hc7)
  refine e_go hk_63 5 (c := (if s_cnd .ge 1 4 = true then 69 else 61, [.ref 4, .int 1], [], hp Z P L)) rfl ?_
  refine e_ge (a := 69) (b := 61) (x := 1) (y := 4) (fun hc58 => absurd hc58 (by decide)) (fun hc58 => ?_)
  refine e_go hk_63 2 (c := (63, [.ref 4, .int 1], [.int 1, .ref 4], hp Z P L)) rfl ?_
  refine e_call hk_63 (as := [.ref 4, .int 1]) (rest := []) rfl rfl hk_83 rfl (Nat.le_of_ble_eq_true rfl) rfl (x_shape1 hN hn) ?_
  show e_r 63 66 [.ref 4, .int 1] [.int (c_count Z n 1)] (hp Z P L) _ _
  refine e_go hk_63 1 (c := (74, [.ref 4, .int 1], [.int (c_count Z n 1)], hp Z P L)) rfl ?_
  exact e_ret hk_63 rfl rfl rfl rfl rfl
theorem x_shape2 {Z : Nat → Nat → Int32} {P : Nat → Nat} {L n : Nat} (hN : Z 5 6 = nI n) (hn : n ≤ 60) : m_r 83 [.ref 4, .int 2] (hp Z P L) (some (.int (c_count Z n 2))) (hp Z P L) := by
  refine m_of (ls := [.ref 4, .int 2, s_no]) hk_83 rfl rfl rfl ?_
  refine e_go hk_83 6 (c := (10, [.ref 4, .int 2, .int ((Z 5 6) - 1)], [], hp Z P L)) rfl ?_
  rw [hN]
  refine e_go hk_83 6 (c := (56, [.ref 4, .int 2, .int (nI n - 1)], [.int 0, .int (nI n - 1), .int 0, .ref 4], hp Z P L)) rfl ?_
  refine e_call hk_83 (as := [.ref 4, .int (nI 0), .int (nI n - 1), .int 0]) (rest := []) rfl rfl hk_85 rfl (Nat.le_of_ble_eq_true rfl) rfl (x_ktp (l := 0) (u := n) (by omega) hn) ?_
  show e_r 83 59 [.ref 4, .int 2, .int (nI n - 1)] [.int (t_ktp Z 0 n 0)] (hp Z P L) _ _
  exact e_ret hk_83 rfl rfl rfl rfl rfl
theorem x_count2 {Z : Nat → Nat → Int32} {P : Nat → Nat} {L n : Nat} (hN : Z 5 6 = nI n) (hn : n ≤ 60) : m_r 63 [.ref 4, .int 2] (hp Z P L) (some (.int (c_count Z n 2))) (hp Z P L) := by
  refine m_of (ls := [.ref 4, .int 2]) hk_63 rfl rfl rfl ?_
  refine e_go hk_63 2 (c := (if s_cnd .lt 2 0 = true then 10 else 4, [.ref 4, .int 2], [], hp Z P L)) rfl ?_
  refine e_lt (a := 10) (b := 4) (x := 2) (y := 0) (fun hc1 => absurd hc1 (by decide)) (fun hc1 => ?_)
  refine e_go hk_63 3 (c := (if s_cnd .le 2 14 = true then 13 else 10, [.ref 4, .int 2], [], hp Z P L)) rfl ?_
  refine e_le (a := 13) (b := 10) (x := 2) (y := 14) (fun hc7 => ?_) (fun hc7 => absurd (by decide) hc7)
  refine e_go hk_63 5 (c := (if s_cnd .ge 2 4 = true then 69 else 61, [.ref 4, .int 2], [], hp Z P L)) rfl ?_
  refine e_ge (a := 69) (b := 61) (x := 2) (y := 4) (fun hc58 => absurd hc58 (by decide)) (fun hc58 => ?_)
  refine e_go hk_63 2 (c := (63, [.ref 4, .int 2], [.int 2, .ref 4], hp Z P L)) rfl ?_
  refine e_call hk_63 (as := [.ref 4, .int 2]) (rest := []) rfl rfl hk_83 rfl (Nat.le_of_ble_eq_true rfl) rfl (x_shape2 hN hn) ?_
  show e_r 63 66 [.ref 4, .int 2] [.int (c_count Z n 2)] (hp Z P L) _ _
  refine e_go hk_63 1 (c := (74, [.ref 4, .int 2], [.int (c_count Z n 2)], hp Z P L)) rfl ?_
  exact e_ret hk_63 rfl rfl rfl rfl rfl
theorem x_shape3 {Z : Nat → Nat → Int32} {P : Nat → Nat} {L n : Nat} (hN : Z 5 6 = nI n) (hn : n ≤ 60) : m_r 83 [.ref 4, .int 3] (hp Z P L) (some (.int (c_count Z n 3))) (hp Z P L) := by
  refine m_of (ls := [.ref 4, .int 3, s_no]) hk_83 rfl rfl rfl ?_
  refine e_go hk_83 6 (c := (10, [.ref 4, .int 3, .int ((Z 5 6) - 1)], [], hp Z P L)) rfl ?_
  rw [hN]
  refine e_go hk_83 6 (c := (if s_cnd .ne (Z 5 6) 0 = true then 75 else 70, [.ref 4, .int 3, .int (nI n - 1)], [], hp Z P L)) rfl ?_
  refine e_ne (a := 75) (b := 70) (x := Z 5 6) (y := 0) (fun hc67 => ?_) (fun hc67 => ?_)
  · skip
    have h0 : ¬ n = 0 := fun z => hc67 (by rw [hN, z]; rfl)
    refine e_go hk_83 5 (c := (84, [.ref 4, .int 3, .int (nI n - 1)], [.int (nI n - 1), .int 0, .ref 14], hp Z P L)) rfl ?_
    refine e_call hk_83 (as := [.ref 14, .int (nI 0), .int (nI n - 1)]) (rest := []) rfl rfl hk_26 rfl (Nat.le_of_ble_eq_true rfl) rfl (x_great (r := 14) (a := 15) (n := 60) rfl rfl rfl (by decide) (l := 0) (u := n) (by omega) hn) ?_
    show e_r 83 87 [.ref 4, .int 3, .int (nI n - 1)] [.int (t_mx (Z 15) 0 (n - 0) (Z 15 0))] (hp Z P L) _ _
    exact e_ret hk_83 rfl rfl rfl (by rw [c_count, if_neg h0]) rfl
  · skip
    have h0 : n = 0 := (nI_eq (by omega) (by decide)).mp (show nI n = nI 0 by rw [← hN]; exact hc67)
    refine e_go hk_83 2 (c := (87, [.ref 4, .int 3, .int (nI n - 1)], [.int ((-6))], hp Z P L)) rfl ?_
    exact e_ret hk_83 rfl rfl rfl (by rw [c_count, if_pos h0]) rfl
theorem x_count3 {Z : Nat → Nat → Int32} {P : Nat → Nat} {L n : Nat} (hN : Z 5 6 = nI n) (hn : n ≤ 60) : m_r 63 [.ref 4, .int 3] (hp Z P L) (some (.int (c_count Z n 3))) (hp Z P L) := by
  refine m_of (ls := [.ref 4, .int 3]) hk_63 rfl rfl rfl ?_
  refine e_go hk_63 2 (c := (if s_cnd .lt 3 0 = true then 10 else 4, [.ref 4, .int 3], [], hp Z P L)) rfl ?_
  refine e_lt (a := 10) (b := 4) (x := 3) (y := 0) (fun hc1 => absurd hc1 (by decide)) (fun hc1 => ?_)
  refine e_go hk_63 3 (c := (if s_cnd .le 3 14 = true then 13 else 10, [.ref 4, .int 3], [], hp Z P L)) rfl ?_
  refine e_le (a := 13) (b := 10) (x := 3) (y := 14) (fun hc7 => ?_) (fun hc7 => absurd (by decide) hc7)
  refine e_go hk_63 5 (c := (if s_cnd .ge 3 4 = true then 69 else 61, [.ref 4, .int 3], [], hp Z P L)) rfl ?_
  refine e_ge (a := 69) (b := 61) (x := 3) (y := 4) (fun hc58 => absurd hc58 (by decide)) (fun hc58 => ?_)
  refine e_go hk_63 2 (c := (63, [.ref 4, .int 3], [.int 3, .ref 4], hp Z P L)) rfl ?_
  refine e_call hk_63 (as := [.ref 4, .int 3]) (rest := []) rfl rfl hk_83 rfl (Nat.le_of_ble_eq_true rfl) rfl (x_shape3 hN hn) ?_
  show e_r 63 66 [.ref 4, .int 3] [.int (c_count Z n 3)] (hp Z P L) _ _
  refine e_go hk_63 1 (c := (74, [.ref 4, .int 3], [.int (c_count Z n 3)], hp Z P L)) rfl ?_
  exact e_ret hk_63 rfl rfl rfl rfl rfl
theorem x_books4 {Z : Nat → Nat → Int32} {P : Nat → Nat} {L n : Nat} (hN : Z 5 6 = nI n) (hn : n ≤ 60) : m_r 84 [.ref 4, .int 4] (hp Z P L) (some (.int (c_count Z n 4))) (hp Z P L) := by
  refine m_of (ls := [.ref 4, .int 4]) hk_84 rfl rfl rfl ?_
  refine e_go hk_84 5 (c := (47, [.ref 4, .int 4], [.int (Z 5 7)], hp Z P L)) rfl ?_
  exact e_ret hk_84 rfl rfl rfl rfl rfl
theorem x_count4 {Z : Nat → Nat → Int32} {P : Nat → Nat} {L n : Nat} (hN : Z 5 6 = nI n) (hn : n ≤ 60) : m_r 63 [.ref 4, .int 4] (hp Z P L) (some (.int (c_count Z n 4))) (hp Z P L) := by
  refine m_of (ls := [.ref 4, .int 4]) hk_63 rfl rfl rfl ?_
  refine e_go hk_63 2 (c := (if s_cnd .lt 4 0 = true then 10 else 4, [.ref 4, .int 4], [], hp Z P L)) rfl ?_
  refine e_lt (a := 10) (b := 4) (x := 4) (y := 0) (fun hc1 => absurd hc1 (by decide)) (fun hc1 => ?_)
  refine e_go hk_63 3 (c := (if s_cnd .le 4 14 = true then 13 else 10, [.ref 4, .int 4], [], hp Z P L)) rfl ?_
  refine e_le (a := 13) (b := 10) (x := 4) (y := 14) (fun hc7 => ?_) (fun hc7 => absurd (by decide) hc7)
  refine e_go hk_63 5 (c := (if s_cnd .ge 4 4 = true then 69 else 61, [.ref 4, .int 4], [], hp Z P L)) rfl ?_
  refine e_ge (a := 69) (b := 61) (x := 4) (y := 4) (fun hc58 => ?_) (fun hc58 => absurd (by decide) hc58)
  refine e_go hk_63 2 (c := (71, [.ref 4, .int 4], [.int 4, .ref 4], hp Z P L)) rfl ?_
  refine e_call hk_63 (as := [.ref 4, .int 4]) (rest := []) rfl rfl hk_84 rfl (Nat.le_of_ble_eq_true rfl) rfl (x_books4 hN hn) ?_
  show e_r 63 74 [.ref 4, .int 4] [.int (c_count Z n 4)] (hp Z P L) _ _
  exact e_ret hk_63 rfl rfl rfl rfl rfl
theorem x_books5 {Z : Nat → Nat → Int32} {P : Nat → Nat} {L n : Nat} (hN : Z 5 6 = nI n) (hn : n ≤ 60) : m_r 84 [.ref 4, .int 5] (hp Z P L) (some (.int (c_count Z n 5))) (hp Z P L) := by
  refine m_of (ls := [.ref 4, .int 5]) hk_84 rfl rfl rfl ?_
  refine e_go hk_84 7 (c := (58, [.ref 4, .int 5], [.int ((Z 5 8) + 1000000)], hp Z P L)) rfl ?_
  exact e_ret hk_84 rfl rfl rfl rfl rfl
theorem x_count5 {Z : Nat → Nat → Int32} {P : Nat → Nat} {L n : Nat} (hN : Z 5 6 = nI n) (hn : n ≤ 60) : m_r 63 [.ref 4, .int 5] (hp Z P L) (some (.int (c_count Z n 5))) (hp Z P L) := by
  refine m_of (ls := [.ref 4, .int 5]) hk_63 rfl rfl rfl ?_
  refine e_go hk_63 2 (c := (if s_cnd .lt 5 0 = true then 10 else 4, [.ref 4, .int 5], [], hp Z P L)) rfl ?_
  refine e_lt (a := 10) (b := 4) (x := 5) (y := 0) (fun hc1 => absurd hc1 (by decide)) (fun hc1 => ?_)
  refine e_go hk_63 3 (c := (if s_cnd .le 5 14 = true then 13 else 10, [.ref 4, .int 5], [], hp Z P L)) rfl ?_
  refine e_le (a := 13) (b := 10) (x := 5) (y := 14) (fun hc7 => ?_) (fun hc7 => absurd (by decide) hc7)
  refine e_go hk_63 5 (c := (if s_cnd .ge 5 4 = true then 69 else 61, [.ref 4, .int 5], [], hp Z P L)) rfl ?_
  refine e_ge (a := 69) (b := 61) (x := 5) (y := 4) (fun hc58 => ?_) (fun hc58 => absurd (by decide) hc58)
  refine e_go hk_63 2 (c := (71, [.ref 4, .int 5], [.int 5, .ref 4], hp Z P L)) rfl ?_
  refine e_call hk_63 (as := [.ref 4, .int 5]) (rest := []) rfl rfl hk_84 rfl (Nat.le_of_ble_eq_true rfl) rfl (x_books5 hN hn) ?_
  show e_r 63 74 [.ref 4, .int 5] [.int (c_count Z n 5)] (hp Z P L) _ _
  exact e_ret hk_63 rfl rfl rfl rfl rfl
theorem x_books6 {Z : Nat → Nat → Int32} {P : Nat → Nat} {L n : Nat} (hN : Z 5 6 = nI n) (hn : n ≤ 60) : m_r 84 [.ref 4, .int 6] (hp Z P L) (some (.int (c_count Z n 6))) (hp Z P L) := by
  refine m_of (ls := [.ref 4, .int 6]) hk_84 rfl rfl rfl ?_
  refine e_go hk_84 11 (c := (76, [.ref 4, .int 6], [.int ((Z 5 6) - 1), .int 0, .ref 12], hp Z P L)) rfl ?_
  rw [hN]
  refine e_call hk_84 (as := [.ref 12, .int (nI 0), .int (nI n - 1)]) (rest := []) rfl rfl hk_25 rfl (Nat.le_of_ble_eq_true rfl) rfl (x_total (r := 12) (a := 13) (n := 60) rfl rfl rfl (by decide) (l := 0) (u := n) (by omega) hn) ?_
  show e_r 84 79 [.ref 4, .int 6] [.int (t_sm (Z 13) 0 (n - 0) 0)] (hp Z P L) _ _
  exact e_ret hk_84 rfl rfl rfl rfl rfl
theorem x_count6 {Z : Nat → Nat → Int32} {P : Nat → Nat} {L n : Nat} (hN : Z 5 6 = nI n) (hn : n ≤ 60) : m_r 63 [.ref 4, .int 6] (hp Z P L) (some (.int (c_count Z n 6))) (hp Z P L) := by
  refine m_of (ls := [.ref 4, .int 6]) hk_63 rfl rfl rfl ?_
  refine e_go hk_63 2 (c := (if s_cnd .lt 6 0 = true then 10 else 4, [.ref 4, .int 6], [], hp Z P L)) rfl ?_
  refine e_lt (a := 10) (b := 4) (x := 6) (y := 0) (fun hc1 => absurd hc1 (by decide)) (fun hc1 => ?_)
  refine e_go hk_63 3 (c := (if s_cnd .le 6 14 = true then 13 else 10, [.ref 4, .int 6], [], hp Z P L)) rfl ?_
  refine e_le (a := 13) (b := 10) (x := 6) (y := 14) (fun hc7 => ?_) (fun hc7 => absurd (by decide) hc7)
  refine e_go hk_63 5 (c := (if s_cnd .ge 6 4 = true then 69 else 61, [.ref 4, .int 6], [], hp Z P L)) rfl ?_
  refine e_ge (a := 69) (b := 61) (x := 6) (y := 4) (fun hc58 => ?_) (fun hc58 => absurd (by decide) hc58)
  refine e_go hk_63 2 (c := (71, [.ref 4, .int 6], [.int 6, .ref 4], hp Z P L)) rfl ?_
  refine e_call hk_63 (as := [.ref 4, .int 6]) (rest := []) rfl rfl hk_84 rfl (Nat.le_of_ble_eq_true rfl) rfl (x_books6 hN hn) ?_
  show e_r 63 74 [.ref 4, .int 6] [.int (c_count Z n 6)] (hp Z P L) _ _
  exact e_ret hk_63 rfl rfl rfl rfl rfl
theorem x_books7 {Z : Nat → Nat → Int32} {P : Nat → Nat} {L n : Nat} (hN : Z 5 6 = nI n) (hn : n ≤ 60) : m_r 84 [.ref 4, .int 7] (hp Z P L) (some (.int (c_count Z n 7))) (hp Z P L) := by
  refine m_of (ls := [.ref 4, .int 7]) hk_84 rfl rfl rfl ?_
  refine e_go hk_84 5 (c := (87, [.ref 4, .int 7], [.int (Z 5 9)], hp Z P L)) rfl ?_
  exact e_ret hk_84 rfl rfl rfl rfl rfl
theorem x_count7 {Z : Nat → Nat → Int32} {P : Nat → Nat} {L n : Nat} (hN : Z 5 6 = nI n) (hn : n ≤ 60) : m_r 63 [.ref 4, .int 7] (hp Z P L) (some (.int (c_count Z n 7))) (hp Z P L) := by
  refine m_of (ls := [.ref 4, .int 7]) hk_63 rfl rfl rfl ?_
  refine e_go hk_63 2 (c := (if s_cnd .lt 7 0 = true then 10 else 4, [.ref 4, .int 7], [], hp Z P L)) rfl ?_
  refine e_lt (a := 10) (b := 4) (x := 7) (y := 0) (fun hc1 => absurd hc1 (by decide)) (fun hc1 => ?_)
  refine e_go hk_63 3 (c := (if s_cnd .le 7 14 = true then 13 else 10, [.ref 4, .int 7], [], hp Z P L)) rfl ?_
  refine e_le (a := 13) (b := 10) (x := 7) (y := 14) (fun hc7 => ?_) (fun hc7 => absurd (by decide) hc7)
  refine e_go hk_63 5 (c := (if s_cnd .ge 7 4 = true then 69 else 61, [.ref 4, .int 7], [], hp Z P L)) rfl ?_
  refine e_ge (a := 69) (b := 61) (x := 7) (y := 4) (fun hc58 => ?_) (fun hc58 => absurd (by decide) hc58)
  refine e_go hk_63 2 (c := (71, [.ref 4, .int 7], [.int 7, .ref 4], hp Z P L)) rfl ?_
  refine e_call hk_63 (as := [.ref 4, .int 7]) (rest := []) rfl rfl hk_84 rfl (Nat.le_of_ble_eq_true rfl) rfl (x_books7 hN hn) ?_
  show e_r 63 74 [.ref 4, .int 7] [.int (c_count Z n 7)] (hp Z P L) _ _
  exact e_ret hk_63 rfl rfl rfl rfl rfl
theorem x_books8 {Z : Nat → Nat → Int32} {P : Nat → Nat} {L n : Nat} (hN : Z 5 6 = nI n) (hn : n ≤ 60) : m_r 84 [.ref 4, .int 8] (hp Z P L) (some (.int (c_count Z n 8))) (hp Z P L) := by
  refine m_of (ls := [.ref 4, .int 8]) hk_84 rfl rfl rfl ?_
  refine e_go hk_84 5 (c := (95, [.ref 4, .int 8], [.int (Z 5 10)], hp Z P L)) rfl ?_
  exact e_ret hk_84 rfl rfl rfl rfl rfl
theorem x_count8 {Z : Nat → Nat → Int32} {P : Nat → Nat} {L n : Nat} (hN : Z 5 6 = nI n) (hn : n ≤ 60) : m_r 63 [.ref 4, .int 8] (hp Z P L) (some (.int (c_count Z n 8))) (hp Z P L) := by
  refine m_of (ls := [.ref 4, .int 8]) hk_63 rfl rfl rfl ?_
  refine e_go hk_63 2 (c := (if s_cnd .lt 8 0 = true then 10 else 4, [.ref 4, .int 8], [], hp Z P L)) rfl ?_
  refine e_lt (a := 10) (b := 4) (x := 8) (y := 0) (fun hc1 => absurd hc1 (by decide)) (fun hc1 => ?_)
  refine e_go hk_63 3 (c := (if s_cnd .le 8 14 = true then 13 else 10, [.ref 4, .int 8], [], hp Z P L)) rfl ?_
  refine e_le (a := 13) (b := 10) (x := 8) (y := 14) (fun hc7 => ?_) (fun hc7 => absurd (by decide) hc7)
  refine e_go hk_63 5 (c := (if s_cnd .ge 8 4 = true then 69 else 61, [.ref 4, .int 8], [], hp Z P L)) rfl ?_
  refine e_ge (a := 69) (b := 61) (x := 8) (y := 4) (fun hc58 => ?_) (fun hc58 => absurd (by decide) hc58)
  refine e_go hk_63 2 (c := (71, [.ref 4, .int 8], [.int 8, .ref 4], hp Z P L)) rfl ?_
  refine e_call hk_63 (as := [.ref 4, .int 8]) (rest := []) rfl rfl hk_84 rfl (Nat.le_of_ble_eq_true rfl) rfl (x_books8 hN hn) ?_
  show e_r 63 74 [.ref 4, .int 8] [.int (c_count Z n 8)] (hp Z P L) _ _
  exact e_ret hk_63 rfl rfl rfl rfl rfl
theorem x_books9 {Z : Nat → Nat → Int32} {P : Nat → Nat} {L n : Nat} (hN : Z 5 6 = nI n) (hn : n ≤ 60) : m_r 84 [.ref 4, .int 9] (hp Z P L) (some (.int (c_count Z n 9))) (hp Z P L) := by
  refine m_of (ls := [.ref 4, .int 9]) hk_84 rfl rfl rfl ?_
  refine e_go hk_84 4 (c := (100, [.ref 4, .int 9], [.ref 5], hp Z P L)) rfl ?_
  refine e_call hk_84 (as := [.ref 5]) (rest := []) rfl rfl hk_42 rfl (Nat.le_of_ble_eq_true rfl) rfl (x_lnodes hN hn) ?_
  show e_r 84 103 [.ref 4, .int 9] [.int (t_lnc Z n 0 n 0)] (hp Z P L) _ _
  exact e_ret hk_84 rfl rfl rfl rfl rfl
theorem x_count9 {Z : Nat → Nat → Int32} {P : Nat → Nat} {L n : Nat} (hN : Z 5 6 = nI n) (hn : n ≤ 60) : m_r 63 [.ref 4, .int 9] (hp Z P L) (some (.int (c_count Z n 9))) (hp Z P L) := by
  refine m_of (ls := [.ref 4, .int 9]) hk_63 rfl rfl rfl ?_
  refine e_go hk_63 2 (c := (if s_cnd .lt 9 0 = true then 10 else 4, [.ref 4, .int 9], [], hp Z P L)) rfl ?_
  refine e_lt (a := 10) (b := 4) (x := 9) (y := 0) (fun hc1 => absurd hc1 (by decide)) (fun hc1 => ?_)
  refine e_go hk_63 3 (c := (if s_cnd .le 9 14 = true then 13 else 10, [.ref 4, .int 9], [], hp Z P L)) rfl ?_
  refine e_le (a := 13) (b := 10) (x := 9) (y := 14) (fun hc7 => ?_) (fun hc7 => absurd (by decide) hc7)
  refine e_go hk_63 5 (c := (if s_cnd .ge 9 4 = true then 69 else 61, [.ref 4, .int 9], [], hp Z P L)) rfl ?_
  refine e_ge (a := 69) (b := 61) (x := 9) (y := 4) (fun hc58 => ?_) (fun hc58 => absurd (by decide) hc58)
  refine e_go hk_63 2 (c := (71, [.ref 4, .int 9], [.int 9, .ref 4], hp Z P L)) rfl ?_
  refine e_call hk_63 (as := [.ref 4, .int 9]) (rest := []) rfl rfl hk_84 rfl (Nat.le_of_ble_eq_true rfl) rfl (x_books9 hN hn) ?_
  show e_r 63 74 [.ref 4, .int 9] [.int (c_count Z n 9)] (hp Z P L) _ _
  exact e_ret hk_63 rfl rfl rfl rfl rfl
theorem x_books10 {Z : Nat → Nat → Int32} {P : Nat → Nat} {L n : Nat} (hN : Z 5 6 = nI n) (hn : n ≤ 60) : m_r 84 [.ref 4, .int 10] (hp Z P L) (some (.int (c_count Z n 10))) (hp Z P L) := by
  refine m_of (ls := [.ref 4, .int 10]) hk_84 rfl rfl rfl ?_
  refine e_go hk_84 8 (c := (115, [.ref 4, .int 10], [.int (10 - 10), .ref 6], hp Z P L)) rfl ?_
  refine e_call hk_84 (as := [.ref 6, .int (nI 0)]) (rest := []) rfl rfl hk_22 rfl (Nat.le_of_ble_eq_true rfl) rfl (x_at (r := 6) (a := 7) (n := 3) rfl rfl rfl (by decide) (j := 0) (by decide)) ?_
  show e_r 84 118 [.ref 4, .int 10] [.int (Z 7 0)] (hp Z P L) _ _
  exact e_ret hk_84 rfl rfl rfl rfl rfl
theorem x_count10 {Z : Nat → Nat → Int32} {P : Nat → Nat} {L n : Nat} (hN : Z 5 6 = nI n) (hn : n ≤ 60) : m_r 63 [.ref 4, .int 10] (hp Z P L) (some (.int (c_count Z n 10))) (hp Z P L) := by
  refine m_of (ls := [.ref 4, .int 10]) hk_63 rfl rfl rfl ?_
  refine e_go hk_63 2 (c := (if s_cnd .lt 10 0 = true then 10 else 4, [.ref 4, .int 10], [], hp Z P L)) rfl ?_
  refine e_lt (a := 10) (b := 4) (x := 10) (y := 0) (fun hc1 => absurd hc1 (by decide)) (fun hc1 => ?_)
  refine e_go hk_63 3 (c := (if s_cnd .le 10 14 = true then 13 else 10, [.ref 4, .int 10], [], hp Z P L)) rfl ?_
  refine e_le (a := 13) (b := 10) (x := 10) (y := 14) (fun hc7 => ?_) (fun hc7 => absurd (by decide) hc7)
  refine e_go hk_63 5 (c := (if s_cnd .ge 10 4 = true then 69 else 61, [.ref 4, .int 10], [], hp Z P L)) rfl ?_
  refine e_ge (a := 69) (b := 61) (x := 10) (y := 4) (fun hc58 => ?_) (fun hc58 => absurd (by decide) hc58)
  refine e_go hk_63 2 (c := (71, [.ref 4, .int 10], [.int 10, .ref 4], hp Z P L)) rfl ?_
  refine e_call hk_63 (as := [.ref 4, .int 10]) (rest := []) rfl rfl hk_84 rfl (Nat.le_of_ble_eq_true rfl) rfl (x_books10 hN hn) ?_
  show e_r 63 74 [.ref 4, .int 10] [.int (c_count Z n 10)] (hp Z P L) _ _
  exact e_ret hk_63 rfl rfl rfl rfl rfl
theorem x_books11 {Z : Nat → Nat → Int32} {P : Nat → Nat} {L n : Nat} (hN : Z 5 6 = nI n) (hn : n ≤ 60) : m_r 84 [.ref 4, .int 11] (hp Z P L) (some (.int (c_count Z n 11))) (hp Z P L) := by
  refine m_of (ls := [.ref 4, .int 11]) hk_84 rfl rfl rfl ?_
  refine e_go hk_84 8 (c := (115, [.ref 4, .int 11], [.int (11 - 10), .ref 6], hp Z P L)) rfl ?_
  refine e_call hk_84 (as := [.ref 6, .int (nI 1)]) (rest := []) rfl rfl hk_22 rfl (Nat.le_of_ble_eq_true rfl) rfl (x_at (r := 6) (a := 7) (n := 3) rfl rfl rfl (by decide) (j := 1) (by decide)) ?_
  show e_r 84 118 [.ref 4, .int 11] [.int (Z 7 1)] (hp Z P L) _ _
  exact e_ret hk_84 rfl rfl rfl rfl rfl
theorem x_count11 {Z : Nat → Nat → Int32} {P : Nat → Nat} {L n : Nat} (hN : Z 5 6 = nI n) (hn : n ≤ 60) : m_r 63 [.ref 4, .int 11] (hp Z P L) (some (.int (c_count Z n 11))) (hp Z P L) := by
  refine m_of (ls := [.ref 4, .int 11]) hk_63 rfl rfl rfl ?_
  refine e_go hk_63 2 (c := (if s_cnd .lt 11 0 = true then 10 else 4, [.ref 4, .int 11], [], hp Z P L)) rfl ?_
  refine e_lt (a := 10) (b := 4) (x := 11) (y := 0) (fun hc1 => absurd hc1 (by decide)) (fun hc1 => ?_)
  refine e_go hk_63 3 (c := (if s_cnd .le 11 14 = true then 13 else 10, [.ref 4, .int 11], [], hp Z P L)) rfl ?_
  refine e_le (a := 13) (b := 10) (x := 11) (y := 14) (fun hc7 => ?_) (fun hc7 => absurd (by decide) hc7)
  refine e_go hk_63 5 (c := (if s_cnd .ge 11 4 = true then 69 else 61, [.ref 4, .int 11], [], hp Z P L)) rfl ?_
  refine e_ge (a := 69) (b := 61) (x := 11) (y := 4) (fun hc58 => ?_) (fun hc58 => absurd (by decide) hc58)
  refine e_go hk_63 2 (c := (71, [.ref 4, .int 11], [.int 11, .ref 4], hp Z P L)) rfl ?_
  refine e_call hk_63 (as := [.ref 4, .int 11]) (rest := []) rfl rfl hk_84 rfl (Nat.le_of_ble_eq_true rfl) rfl (x_books11 hN hn) ?_
  show e_r 63 74 [.ref 4, .int 11] [.int (c_count Z n 11)] (hp Z P L) _ _
  exact e_ret hk_63 rfl rfl rfl rfl rfl
theorem x_books12 {Z : Nat → Nat → Int32} {P : Nat → Nat} {L n : Nat} (hN : Z 5 6 = nI n) (hn : n ≤ 60) : m_r 84 [.ref 4, .int 12] (hp Z P L) (some (.int (c_count Z n 12))) (hp Z P L) := by
  refine m_of (ls := [.ref 4, .int 12]) hk_84 rfl rfl rfl ?_
  refine e_go hk_84 8 (c := (115, [.ref 4, .int 12], [.int (12 - 10), .ref 6], hp Z P L)) rfl ?_
  refine e_call hk_84 (as := [.ref 6, .int (nI 2)]) (rest := []) rfl rfl hk_22 rfl (Nat.le_of_ble_eq_true rfl) rfl (x_at (r := 6) (a := 7) (n := 3) rfl rfl rfl (by decide) (j := 2) (by decide)) ?_
  show e_r 84 118 [.ref 4, .int 12] [.int (Z 7 2)] (hp Z P L) _ _
  exact e_ret hk_84 rfl rfl rfl rfl rfl
theorem x_count12 {Z : Nat → Nat → Int32} {P : Nat → Nat} {L n : Nat} (hN : Z 5 6 = nI n) (hn : n ≤ 60) : m_r 63 [.ref 4, .int 12] (hp Z P L) (some (.int (c_count Z n 12))) (hp Z P L) := by
  refine m_of (ls := [.ref 4, .int 12]) hk_63 rfl rfl rfl ?_
  refine e_go hk_63 2 (c := (if s_cnd .lt 12 0 = true then 10 else 4, [.ref 4, .int 12], [], hp Z P L)) rfl ?_
  refine e_lt (a := 10) (b := 4) (x := 12) (y := 0) (fun hc1 => absurd hc1 (by decide)) (fun hc1 => ?_)
  refine e_go hk_63 3 (c := (if s_cnd .le 12 14 = true then 13 else 10, [.ref 4, .int 12], [], hp Z P L)) rfl ?_
  refine e_le (a := 13) (b := 10) (x := 12) (y := 14) (fun hc7 => ?_) (fun hc7 => absurd (by decide) hc7)
  refine e_go hk_63 5 (c := (if s_cnd .ge 12 4 = true then 69 else 61, [.ref 4, .int 12], [], hp Z P L)) rfl ?_
  refine e_ge (a := 69) (b := 61) (x := 12) (y := 4) (fun hc58 => ?_) (fun hc58 => absurd (by decide) hc58)
  refine e_go hk_63 2 (c := (71, [.ref 4, .int 12], [.int 12, .ref 4], hp Z P L)) rfl ?_
  refine e_call hk_63 (as := [.ref 4, .int 12]) (rest := []) rfl rfl hk_84 rfl (Nat.le_of_ble_eq_true rfl) rfl (x_books12 hN hn) ?_
  show e_r 63 74 [.ref 4, .int 12] [.int (c_count Z n 12)] (hp Z P L) _ _
  exact e_ret hk_63 rfl rfl rfl rfl rfl
theorem x_count13 {Z : Nat → Nat → Int32} {P : Nat → Nat} {L n : Nat} (hN : Z 5 6 = nI n) (hn : n ≤ 60) : m_r 63 [.ref 4, .int 13] (hp Z P L) (some (.int (c_count Z n 13))) (hp Z P L) := by
  refine m_of (ls := [.ref 4, .int 13]) hk_63 rfl rfl rfl ?_
  refine e_go hk_63 2 (c := (if s_cnd .lt 13 0 = true then 10 else 4, [.ref 4, .int 13], [], hp Z P L)) rfl ?_
  refine e_lt (a := 10) (b := 4) (x := 13) (y := 0) (fun hc1 => absurd hc1 (by decide)) (fun hc1 => ?_)
  refine e_go hk_63 3 (c := (if s_cnd .le 13 14 = true then 13 else 10, [.ref 4, .int 13], [], hp Z P L)) rfl ?_
  refine e_le (a := 13) (b := 10) (x := 13) (y := 14) (fun hc7 => ?_) (fun hc7 => absurd (by decide) hc7)
  refine e_go hk_63 5 (c := (47, [.ref 4, .int 13], [.int (Z 99 1)], hp Z P L)) rfl ?_
  exact e_ret hk_63 rfl rfl rfl rfl rfl
theorem x_count14 {Z : Nat → Nat → Int32} {P : Nat → Nat} {L n : Nat} (hN : Z 5 6 = nI n) (hn : n ≤ 60) : m_r 63 [.ref 4, .int 14] (hp Z P L) (some (.int (c_count Z n 14))) (hp Z P L) := by
  refine m_of (ls := [.ref 4, .int 14]) hk_63 rfl rfl rfl ?_
  refine e_go hk_63 2 (c := (if s_cnd .lt 14 0 = true then 10 else 4, [.ref 4, .int 14], [], hp Z P L)) rfl ?_
  refine e_lt (a := 10) (b := 4) (x := 14) (y := 0) (fun hc1 => absurd hc1 (by decide)) (fun hc1 => ?_)
  refine e_go hk_63 3 (c := (if s_cnd .le 14 14 = true then 13 else 10, [.ref 4, .int 14], [], hp Z P L)) rfl ?_
  refine e_le (a := 13) (b := 10) (x := 14) (y := 14) (fun hc7 => ?_) (fun hc7 => absurd (by decide) hc7)
  refine e_go hk_63 5 (c := (55, [.ref 4, .int 14], [.int (Z 18 1)], hp Z P L)) rfl ?_
  exact e_ret hk_63 rfl rfl rfl rfl rfl
theorem x_count_no {Z : Nat → Nat → Int32} {P : Nat → Nat} {L : Nat} {k : Int32} (hk : k < 0 ∨ 14 < k) : m_r 63 [.ref 4, .int k] (hp Z P L) (some (.int (-2))) (hp Z P L) := by
  refine m_of (ls := [.ref 4, .int k]) hk_63 rfl rfl rfl ?_
  refine e_go hk_63 2 (c := (if s_cnd .lt k 0 = true then 10 else 4, [.ref 4, .int k], [], hp Z P L)) rfl ?_
  refine e_lt (a := 10) (b := 4) (x := k) (y := 0) (fun hc1 => ?_) (fun hc1 => ?_)
  · skip
    refine e_go hk_63 1 (c := (12, [.ref 4, .int k], [.int ((-2))], hp Z P L)) rfl ?_
    exact e_ret hk_63 rfl rfl rfl rfl rfl
  · skip
    have h3 : 14 < k := hk.elim (fun z => absurd z hc1) id
    refine e_go hk_63 3 (c := (if s_cnd .le k 14 = true then 13 else 10, [.ref 4, .int k], [], hp Z P L)) rfl ?_
    refine e_le (a := 13) (b := 10) (x := k) (y := 14) (fun hc7 => absurd hc7 (Int32.not_le.mpr h3)) (fun hc7 => ?_)
    refine e_go hk_63 1 (c := (12, [.ref 4, .int k], [.int ((-2))], hp Z P L)) rfl ?_
    exact e_ret hk_63 rfl rfl rfl rfl rfl
def c_abt (Z : Nat → Nat → Int32) (n j : Nat) : Nat → Int32
  | 0 => t_ktp Z (t_L Z j) j (Z 15 j + 1)
  | 1 => t_ktp Z (j + 1) (t_H Z n j + 1) (Z 15 j + 1)
  | 2 => t_wt Z n j
  | 3 => Z 15 j
  | 4 => Z 13 j
  | 5 => y_b (decide (Z 17 j = 1))
  | 6 => t_sm (Z 17) (t_L Z j) (t_H Z n j + 1 - t_L Z j) 0
  | 7 => y_b (t_ln Z n j)
  | 8 => t_mx (Z 15) (t_L Z j) (t_H Z n j + 1 - t_L Z j) (Z 15 (t_L Z j)) - Z 15 j
  | _ => -2
theorem x_abt0 {Z : Nat → Nat → Int32} {P : Nat → Nat} {L n : Nat} (hN : Z 5 6 = nI n) (hn : n ≤ 60) {j : Nat} (hj : j < n) : m_r 82 [.ref 4, .int (nI j), .int 0] (hp Z P L) (some (.int (c_abt Z n j 0))) (hp Z P L) := by
  have hlo : t_L Z j ≤ j := t_lo_le (Z 15) (Z 15 j) j
  have hhi : j ≤ t_H Z n j ∧ t_H Z n j ≤ j + (n - 1 - j) := t_hi_le (Z 15) (Z 15 j) (n - 1 - j) j
  refine m_of (ls := [.ref 4, .int (nI j), .int 0, s_no, s_no, s_no]) hk_82 rfl rfl rfl ?_
  refine e_go hk_82 3 (c := (5, [.ref 4, .int (nI j), .int 0, s_no, s_no, s_no], [.int (nI j), .ref 5], hp Z P L)) rfl ?_
  refine e_call hk_82 (as := [.ref 5, .int (nI j)]) (rest := []) rfl rfl hk_37 rfl (Nat.le_of_ble_eq_true rfl) rfl (x_low (j := j) (by omega)) ?_
  show e_r 82 8 [.ref 4, .int (nI j), .int 0, s_no, s_no, s_no] [.int (nI (t_L Z j))] (hp Z P L) _ _
  refine e_go hk_82 4 (c := (14, [.ref 4, .int (nI j), .int 0, .int (nI (t_L Z j)), s_no, s_no], [.int (nI j), .ref 5], hp Z P L)) rfl ?_
  refine e_call hk_82 (as := [.ref 5, .int (nI j)]) (rest := []) rfl rfl hk_38 rfl (Nat.le_of_ble_eq_true rfl) rfl (x_high hN hn (j := j) (by omega)) ?_
  show e_r 82 17 [.ref 4, .int (nI j), .int 0, .int (nI (t_L Z j)), s_no, s_no] [.int (nI (t_H Z n j))] (hp Z P L) _ _
  refine e_go hk_82 5 (c := (27, [.ref 4, .int (nI j), .int 0, .int (nI (t_L Z j)), .int (nI (t_H Z n j)), s_no], [.int (nI j), .ref 14], hp Z P L)) rfl ?_
  refine e_call hk_82 (as := [.ref 14, .int (nI j)]) (rest := []) rfl rfl hk_22 rfl (Nat.le_of_ble_eq_true rfl) rfl (x_at (r := 14) (a := 15) (n := 60) rfl rfl rfl (by decide) (j := j) (by omega)) ?_
  show e_r 82 30 [.ref 4, .int (nI j), .int 0, .int (nI (t_L Z j)), .int (nI (t_H Z n j)), s_no] [.int (Z 15 j)] (hp Z P L) _ _
  refine e_go hk_82 11 (c := (89, [.ref 4, .int (nI j), .int 0, .int (nI (t_L Z j)), .int (nI (t_H Z n j)), .int (Z 15 j)], [.int ((Z 15 j) + 1), .int ((nI j) - 1), .int (nI (t_L Z j)), .ref 4], hp Z P L)) rfl ?_
  refine e_call hk_82 (as := [.ref 4, .int (nI (t_L Z j)), .int ((nI j) - 1), .int ((Z 15 j) + 1)]) (rest := []) rfl rfl hk_85 rfl (Nat.le_of_ble_eq_true rfl) rfl (x_ktp (l := t_L Z j) (u := j) (by omega) (by omega)) ?_
  show e_r 82 92 [.ref 4, .int (nI j), .int 0, .int (nI (t_L Z j)), .int (nI (t_H Z n j)), .int (Z 15 j)] [.int (t_ktp Z (t_L Z j) j (Z 15 j + 1))] (hp Z P L) _ _
  exact e_ret hk_82 rfl rfl rfl rfl rfl
theorem x_abt1 {Z : Nat → Nat → Int32} {P : Nat → Nat} {L n : Nat} (hN : Z 5 6 = nI n) (hn : n ≤ 60) {j : Nat} (hj : j < n) : m_r 82 [.ref 4, .int (nI j), .int 1] (hp Z P L) (some (.int (c_abt Z n j 1))) (hp Z P L) := by
  have hlo : t_L Z j ≤ j := t_lo_le (Z 15) (Z 15 j) j
  have hhi : j ≤ t_H Z n j ∧ t_H Z n j ≤ j + (n - 1 - j) := t_hi_le (Z 15) (Z 15 j) (n - 1 - j) j
  refine m_of (ls := [.ref 4, .int (nI j), .int 1, s_no, s_no, s_no]) hk_82 rfl rfl rfl ?_
  refine e_go hk_82 3 (c := (5, [.ref 4, .int (nI j), .int 1, s_no, s_no, s_no], [.int (nI j), .ref 5], hp Z P L)) rfl ?_
  refine e_call hk_82 (as := [.ref 5, .int (nI j)]) (rest := []) rfl rfl hk_37 rfl (Nat.le_of_ble_eq_true rfl) rfl (x_low (j := j) (by omega)) ?_
  show e_r 82 8 [.ref 4, .int (nI j), .int 1, s_no, s_no, s_no] [.int (nI (t_L Z j))] (hp Z P L) _ _
  refine e_go hk_82 4 (c := (14, [.ref 4, .int (nI j), .int 1, .int (nI (t_L Z j)), s_no, s_no], [.int (nI j), .ref 5], hp Z P L)) rfl ?_
  refine e_call hk_82 (as := [.ref 5, .int (nI j)]) (rest := []) rfl rfl hk_38 rfl (Nat.le_of_ble_eq_true rfl) rfl (x_high hN hn (j := j) (by omega)) ?_
  show e_r 82 17 [.ref 4, .int (nI j), .int 1, .int (nI (t_L Z j)), s_no, s_no] [.int (nI (t_H Z n j))] (hp Z P L) _ _
  refine e_go hk_82 5 (c := (27, [.ref 4, .int (nI j), .int 1, .int (nI (t_L Z j)), .int (nI (t_H Z n j)), s_no], [.int (nI j), .ref 14], hp Z P L)) rfl ?_
  refine e_call hk_82 (as := [.ref 14, .int (nI j)]) (rest := []) rfl rfl hk_22 rfl (Nat.le_of_ble_eq_true rfl) rfl (x_at (r := 14) (a := 15) (n := 60) rfl rfl rfl (by decide) (j := j) (by omega)) ?_
  show e_r 82 30 [.ref 4, .int (nI j), .int 1, .int (nI (t_L Z j)), .int (nI (t_H Z n j)), s_no] [.int (Z 15 j)] (hp Z P L) _ _
  refine e_go hk_82 11 (c := (103, [.ref 4, .int (nI j), .int 1, .int (nI (t_L Z j)), .int (nI (t_H Z n j)), .int (Z 15 j)], [.int ((Z 15 j) + 1), .int (nI (t_H Z n j)), .int ((nI j) + 1), .ref 4], hp Z P L)) rfl ?_
  refine e_call hk_82 (as := [.ref 4, .int ((nI j) + 1), .int (nI (t_H Z n j)), .int ((Z 15 j) + 1)]) (rest := []) rfl rfl hk_85 rfl (Nat.le_of_ble_eq_true rfl) rfl (show m_r 85 [.ref 4, .int (nI j + 1), .int (nI (t_H Z n j)), .int (Z 15 j + 1)] (hp Z P L) (some (.int (t_ktp Z (j + 1) (t_H Z n j + 1) (Z 15 j + 1)))) (hp Z P L) from by have := x_ktp (Z := Z) (P := P) (L := L) (l := j + 1) (u := t_H Z n j + 1) (d := Z 15 j + 1) (by omega) (by omega); rw [nI_pred, ← nI_1 j] at this; exact this) ?_
  show e_r 82 106 [.ref 4, .int (nI j), .int 1, .int (nI (t_L Z j)), .int (nI (t_H Z n j)), .int (Z 15 j)] [.int (t_ktp Z (j + 1) (t_H Z n j + 1) (Z 15 j + 1))] (hp Z P L) _ _
  exact e_ret hk_82 rfl rfl rfl rfl rfl
theorem x_abt2 {Z : Nat → Nat → Int32} {P : Nat → Nat} {L n : Nat} (hN : Z 5 6 = nI n) (hn : n ≤ 60) {j : Nat} (hj : j < n) : m_r 82 [.ref 4, .int (nI j), .int 2] (hp Z P L) (some (.int (c_abt Z n j 2))) (hp Z P L) := by
  have hlo : t_L Z j ≤ j := t_lo_le (Z 15) (Z 15 j) j
  have hhi : j ≤ t_H Z n j ∧ t_H Z n j ≤ j + (n - 1 - j) := t_hi_le (Z 15) (Z 15 j) (n - 1 - j) j
  refine m_of (ls := [.ref 4, .int (nI j), .int 2, s_no, s_no, s_no]) hk_82 rfl rfl rfl ?_
  refine e_go hk_82 3 (c := (5, [.ref 4, .int (nI j), .int 2, s_no, s_no, s_no], [.int (nI j), .ref 5], hp Z P L)) rfl ?_
  refine e_call hk_82 (as := [.ref 5, .int (nI j)]) (rest := []) rfl rfl hk_37 rfl (Nat.le_of_ble_eq_true rfl) rfl (x_low (j := j) (by omega)) ?_
  show e_r 82 8 [.ref 4, .int (nI j), .int 2, s_no, s_no, s_no] [.int (nI (t_L Z j))] (hp Z P L) _ _
  refine e_go hk_82 4 (c := (14, [.ref 4, .int (nI j), .int 2, .int (nI (t_L Z j)), s_no, s_no], [.int (nI j), .ref 5], hp Z P L)) rfl ?_
  refine e_call hk_82 (as := [.ref 5, .int (nI j)]) (rest := []) rfl rfl hk_38 rfl (Nat.le_of_ble_eq_true rfl) rfl (x_high hN hn (j := j) (by omega)) ?_
  show e_r 82 17 [.ref 4, .int (nI j), .int 2, .int (nI (t_L Z j)), s_no, s_no] [.int (nI (t_H Z n j))] (hp Z P L) _ _
  refine e_go hk_82 5 (c := (27, [.ref 4, .int (nI j), .int 2, .int (nI (t_L Z j)), .int (nI (t_H Z n j)), s_no], [.int (nI j), .ref 14], hp Z P L)) rfl ?_
  refine e_call hk_82 (as := [.ref 14, .int (nI j)]) (rest := []) rfl rfl hk_22 rfl (Nat.le_of_ble_eq_true rfl) rfl (x_at (r := 14) (a := 15) (n := 60) rfl rfl rfl (by decide) (j := j) (by omega)) ?_
  show e_r 82 30 [.ref 4, .int (nI j), .int 2, .int (nI (t_L Z j)), .int (nI (t_H Z n j)), s_no] [.int (Z 15 j)] (hp Z P L) _ _
  refine e_go hk_82 8 (c := (113, [.ref 4, .int (nI j), .int 2, .int (nI (t_L Z j)), .int (nI (t_H Z n j)), .int (Z 15 j)], [.int (((nI (t_H Z n j)) - (nI (t_L Z j))) + 1)], hp Z P L)) rfl ?_
  exact e_ret hk_82 rfl rfl rfl rfl rfl
theorem x_abt3 {Z : Nat → Nat → Int32} {P : Nat → Nat} {L n : Nat} (hN : Z 5 6 = nI n) (hn : n ≤ 60) {j : Nat} (hj : j < n) : m_r 82 [.ref 4, .int (nI j), .int 3] (hp Z P L) (some (.int (c_abt Z n j 3))) (hp Z P L) := by
  have hlo : t_L Z j ≤ j := t_lo_le (Z 15) (Z 15 j) j
  have hhi : j ≤ t_H Z n j ∧ t_H Z n j ≤ j + (n - 1 - j) := t_hi_le (Z 15) (Z 15 j) (n - 1 - j) j
  refine m_of (ls := [.ref 4, .int (nI j), .int 3, s_no, s_no, s_no]) hk_82 rfl rfl rfl ?_
  refine e_go hk_82 3 (c := (5, [.ref 4, .int (nI j), .int 3, s_no, s_no, s_no], [.int (nI j), .ref 5], hp Z P L)) rfl ?_
  refine e_call hk_82 (as := [.ref 5, .int (nI j)]) (rest := []) rfl rfl hk_37 rfl (Nat.le_of_ble_eq_true rfl) rfl (x_low (j := j) (by omega)) ?_
  show e_r 82 8 [.ref 4, .int (nI j), .int 3, s_no, s_no, s_no] [.int (nI (t_L Z j))] (hp Z P L) _ _
  refine e_go hk_82 4 (c := (14, [.ref 4, .int (nI j), .int 3, .int (nI (t_L Z j)), s_no, s_no], [.int (nI j), .ref 5], hp Z P L)) rfl ?_
  refine e_call hk_82 (as := [.ref 5, .int (nI j)]) (rest := []) rfl rfl hk_38 rfl (Nat.le_of_ble_eq_true rfl) rfl (x_high hN hn (j := j) (by omega)) ?_
  show e_r 82 17 [.ref 4, .int (nI j), .int 3, .int (nI (t_L Z j)), s_no, s_no] [.int (nI (t_H Z n j))] (hp Z P L) _ _
  refine e_go hk_82 5 (c := (27, [.ref 4, .int (nI j), .int 3, .int (nI (t_L Z j)), .int (nI (t_H Z n j)), s_no], [.int (nI j), .ref 14], hp Z P L)) rfl ?_
  refine e_call hk_82 (as := [.ref 14, .int (nI j)]) (rest := []) rfl rfl hk_22 rfl (Nat.le_of_ble_eq_true rfl) rfl (x_at (r := 14) (a := 15) (n := 60) rfl rfl rfl (by decide) (j := j) (by omega)) ?_
  show e_r 82 30 [.ref 4, .int (nI j), .int 3, .int (nI (t_L Z j)), .int (nI (t_H Z n j)), s_no] [.int (Z 15 j)] (hp Z P L) _ _
  refine e_go hk_82 4 (c := (116, [.ref 4, .int (nI j), .int 3, .int (nI (t_L Z j)), .int (nI (t_H Z n j)), .int (Z 15 j)], [.int (Z 15 j)], hp Z P L)) rfl ?_
  exact e_ret hk_82 rfl rfl rfl rfl rfl
theorem x_abt4 {Z : Nat → Nat → Int32} {P : Nat → Nat} {L n : Nat} (hN : Z 5 6 = nI n) (hn : n ≤ 60) {j : Nat} (hj : j < n) : m_r 82 [.ref 4, .int (nI j), .int 4] (hp Z P L) (some (.int (c_abt Z n j 4))) (hp Z P L) := by
  have hlo : t_L Z j ≤ j := t_lo_le (Z 15) (Z 15 j) j
  have hhi : j ≤ t_H Z n j ∧ t_H Z n j ≤ j + (n - 1 - j) := t_hi_le (Z 15) (Z 15 j) (n - 1 - j) j
  refine m_of (ls := [.ref 4, .int (nI j), .int 4, s_no, s_no, s_no]) hk_82 rfl rfl rfl ?_
  refine e_go hk_82 3 (c := (5, [.ref 4, .int (nI j), .int 4, s_no, s_no, s_no], [.int (nI j), .ref 5], hp Z P L)) rfl ?_
  refine e_call hk_82 (as := [.ref 5, .int (nI j)]) (rest := []) rfl rfl hk_37 rfl (Nat.le_of_ble_eq_true rfl) rfl (x_low (j := j) (by omega)) ?_
  show e_r 82 8 [.ref 4, .int (nI j), .int 4, s_no, s_no, s_no] [.int (nI (t_L Z j))] (hp Z P L) _ _
  refine e_go hk_82 4 (c := (14, [.ref 4, .int (nI j), .int 4, .int (nI (t_L Z j)), s_no, s_no], [.int (nI j), .ref 5], hp Z P L)) rfl ?_
  refine e_call hk_82 (as := [.ref 5, .int (nI j)]) (rest := []) rfl rfl hk_38 rfl (Nat.le_of_ble_eq_true rfl) rfl (x_high hN hn (j := j) (by omega)) ?_
  show e_r 82 17 [.ref 4, .int (nI j), .int 4, .int (nI (t_L Z j)), s_no, s_no] [.int (nI (t_H Z n j))] (hp Z P L) _ _
  refine e_go hk_82 5 (c := (27, [.ref 4, .int (nI j), .int 4, .int (nI (t_L Z j)), .int (nI (t_H Z n j)), s_no], [.int (nI j), .ref 14], hp Z P L)) rfl ?_
  refine e_call hk_82 (as := [.ref 14, .int (nI j)]) (rest := []) rfl rfl hk_22 rfl (Nat.le_of_ble_eq_true rfl) rfl (x_at (r := 14) (a := 15) (n := 60) rfl rfl rfl (by decide) (j := j) (by omega)) ?_
  show e_r 82 30 [.ref 4, .int (nI j), .int 4, .int (nI (t_L Z j)), .int (nI (t_H Z n j)), s_no] [.int (Z 15 j)] (hp Z P L) _ _
  refine e_go hk_82 7 (c := (125, [.ref 4, .int (nI j), .int 4, .int (nI (t_L Z j)), .int (nI (t_H Z n j)), .int (Z 15 j)], [.int (nI j), .ref 12], hp Z P L)) rfl ?_
  refine e_call hk_82 (as := [.ref 12, .int (nI j)]) (rest := []) rfl rfl hk_22 rfl (Nat.le_of_ble_eq_true rfl) rfl (x_at (r := 12) (a := 13) (n := 60) rfl rfl rfl (by decide) (j := j) (by omega)) ?_
  show e_r 82 128 [.ref 4, .int (nI j), .int 4, .int (nI (t_L Z j)), .int (nI (t_H Z n j)), .int (Z 15 j)] [.int (Z 13 j)] (hp Z P L) _ _
  exact e_ret hk_82 rfl rfl rfl rfl rfl
theorem x_abt5 {Z : Nat → Nat → Int32} {P : Nat → Nat} {L n : Nat} (hN : Z 5 6 = nI n) (hn : n ≤ 60) {j : Nat} (hj : j < n) : m_r 82 [.ref 4, .int (nI j), .int 5] (hp Z P L) (some (.int (c_abt Z n j 5))) (hp Z P L) := by
  have hlo : t_L Z j ≤ j := t_lo_le (Z 15) (Z 15 j) j
  have hhi : j ≤ t_H Z n j ∧ t_H Z n j ≤ j + (n - 1 - j) := t_hi_le (Z 15) (Z 15 j) (n - 1 - j) j
  refine m_of (ls := [.ref 4, .int (nI j), .int 5, s_no, s_no, s_no]) hk_82 rfl rfl rfl ?_
  refine e_go hk_82 3 (c := (5, [.ref 4, .int (nI j), .int 5, s_no, s_no, s_no], [.int (nI j), .ref 5], hp Z P L)) rfl ?_
  refine e_call hk_82 (as := [.ref 5, .int (nI j)]) (rest := []) rfl rfl hk_37 rfl (Nat.le_of_ble_eq_true rfl) rfl (x_low (j := j) (by omega)) ?_
  show e_r 82 8 [.ref 4, .int (nI j), .int 5, s_no, s_no, s_no] [.int (nI (t_L Z j))] (hp Z P L) _ _
  refine e_go hk_82 4 (c := (14, [.ref 4, .int (nI j), .int 5, .int (nI (t_L Z j)), s_no, s_no], [.int (nI j), .ref 5], hp Z P L)) rfl ?_
  refine e_call hk_82 (as := [.ref 5, .int (nI j)]) (rest := []) rfl rfl hk_38 rfl (Nat.le_of_ble_eq_true rfl) rfl (x_high hN hn (j := j) (by omega)) ?_
  show e_r 82 17 [.ref 4, .int (nI j), .int 5, .int (nI (t_L Z j)), s_no, s_no] [.int (nI (t_H Z n j))] (hp Z P L) _ _
  refine e_go hk_82 5 (c := (27, [.ref 4, .int (nI j), .int 5, .int (nI (t_L Z j)), .int (nI (t_H Z n j)), s_no], [.int (nI j), .ref 14], hp Z P L)) rfl ?_
  refine e_call hk_82 (as := [.ref 14, .int (nI j)]) (rest := []) rfl rfl hk_22 rfl (Nat.le_of_ble_eq_true rfl) rfl (x_at (r := 14) (a := 15) (n := 60) rfl rfl rfl (by decide) (j := j) (by omega)) ?_
  show e_r 82 30 [.ref 4, .int (nI j), .int 5, .int (nI (t_L Z j)), .int (nI (t_H Z n j)), s_no] [.int (Z 15 j)] (hp Z P L) _ _
  refine e_go hk_82 6 (c := (134, [.ref 4, .int (nI j), .int 5, .int (nI (t_L Z j)), .int (nI (t_H Z n j)), .int (Z 15 j)], [.int (nI j), .ref 5], hp Z P L)) rfl ?_
  refine e_call hk_82 (as := [.ref 5, .int (nI j)]) (rest := []) rfl rfl hk_33 rfl (Nat.le_of_ble_eq_true rfl) rfl (x_isfull (j := j) (by omega)) ?_
  show e_r 82 137 [.ref 4, .int (nI j), .int 5, .int (nI (t_L Z j)), .int (nI (t_H Z n j)), .int (Z 15 j)] [.int (y_b (decide (Z 17 j = 1)))] (hp Z P L) _ _
  refine e_go hk_82 1 (c := (if s_cnd .eq (y_b (decide (Z 17 j = 1))) 0 = true then 144 else 140, [.ref 4, .int (nI j), .int 5, .int (nI (t_L Z j)), .int (nI (t_H Z n j)), .int (Z 15 j)], [], hp Z P L)) rfl ?_
  refine e_eq (a := 144) (b := 140) (x := y_b (decide (Z 17 j = 1))) (y := 0) (fun hc137 => ?_) (fun hc137 => ?_)
  · skip
    rw [y_d0] at hc137
    refine e_go hk_82 1 (c := (145, [.ref 4, .int (nI j), .int 5, .int (nI (t_L Z j)), .int (nI (t_H Z n j)), .int (Z 15 j)], [.int 0], hp Z P L)) rfl ?_
    exact e_ret hk_82 rfl rfl rfl (by rw [c_abt, y_cf hc137]) rfl
  · skip
    rw [y_d1] at hc137
    refine e_go hk_82 2 (c := (145, [.ref 4, .int (nI j), .int 5, .int (nI (t_L Z j)), .int (nI (t_H Z n j)), .int (Z 15 j)], [.int 1], hp Z P L)) rfl ?_
    exact e_ret hk_82 rfl rfl rfl (by rw [c_abt, y_ct hc137]) rfl
theorem x_abt6 {Z : Nat → Nat → Int32} {P : Nat → Nat} {L n : Nat} (hN : Z 5 6 = nI n) (hn : n ≤ 60) {j : Nat} (hj : j < n) : m_r 82 [.ref 4, .int (nI j), .int 6] (hp Z P L) (some (.int (c_abt Z n j 6))) (hp Z P L) := by
  have hlo : t_L Z j ≤ j := t_lo_le (Z 15) (Z 15 j) j
  have hhi : j ≤ t_H Z n j ∧ t_H Z n j ≤ j + (n - 1 - j) := t_hi_le (Z 15) (Z 15 j) (n - 1 - j) j
  refine m_of (ls := [.ref 4, .int (nI j), .int 6, s_no, s_no, s_no]) hk_82 rfl rfl rfl ?_
  refine e_go hk_82 3 (c := (5, [.ref 4, .int (nI j), .int 6, s_no, s_no, s_no], [.int (nI j), .ref 5], hp Z P L)) rfl ?_
  refine e_call hk_82 (as := [.ref 5, .int (nI j)]) (rest := []) rfl rfl hk_37 rfl (Nat.le_of_ble_eq_true rfl) rfl (x_low (j := j) (by omega)) ?_
  show e_r 82 8 [.ref 4, .int (nI j), .int 6, s_no, s_no, s_no] [.int (nI (t_L Z j))] (hp Z P L) _ _
  refine e_go hk_82 4 (c := (14, [.ref 4, .int (nI j), .int 6, .int (nI (t_L Z j)), s_no, s_no], [.int (nI j), .ref 5], hp Z P L)) rfl ?_
  refine e_call hk_82 (as := [.ref 5, .int (nI j)]) (rest := []) rfl rfl hk_38 rfl (Nat.le_of_ble_eq_true rfl) rfl (x_high hN hn (j := j) (by omega)) ?_
  show e_r 82 17 [.ref 4, .int (nI j), .int 6, .int (nI (t_L Z j)), s_no, s_no] [.int (nI (t_H Z n j))] (hp Z P L) _ _
  refine e_go hk_82 5 (c := (27, [.ref 4, .int (nI j), .int 6, .int (nI (t_L Z j)), .int (nI (t_H Z n j)), s_no], [.int (nI j), .ref 14], hp Z P L)) rfl ?_
  refine e_call hk_82 (as := [.ref 14, .int (nI j)]) (rest := []) rfl rfl hk_22 rfl (Nat.le_of_ble_eq_true rfl) rfl (x_at (r := 14) (a := 15) (n := 60) rfl rfl rfl (by decide) (j := j) (by omega)) ?_
  show e_r 82 30 [.ref 4, .int (nI j), .int 6, .int (nI (t_L Z j)), .int (nI (t_H Z n j)), s_no] [.int (Z 15 j)] (hp Z P L) _ _
  refine e_go hk_82 8 (c := (156, [.ref 4, .int (nI j), .int 6, .int (nI (t_L Z j)), .int (nI (t_H Z n j)), .int (Z 15 j)], [.int (nI (t_H Z n j)), .int (nI (t_L Z j)), .ref 16], hp Z P L)) rfl ?_
  refine e_call hk_82 (as := [.ref 16, .int (nI (t_L Z j)), .int (nI (t_H Z n j))]) (rest := []) rfl rfl hk_25 rfl (Nat.le_of_ble_eq_true rfl) rfl (x_total2 (r := 16) (a := 17) (n := 60) rfl rfl rfl (by decide) (l := t_L Z j) (u := t_H Z n j) (by omega) (by omega)) ?_
  show e_r 82 159 [.ref 4, .int (nI j), .int 6, .int (nI (t_L Z j)), .int (nI (t_H Z n j)), .int (Z 15 j)] [.int (t_sm (Z 17) (t_L Z j) (t_H Z n j + 1 - t_L Z j) 0)] (hp Z P L) _ _
  exact e_ret hk_82 rfl rfl rfl rfl rfl
theorem x_abt7 {Z : Nat → Nat → Int32} {P : Nat → Nat} {L n : Nat} (hN : Z 5 6 = nI n) (hn : n ≤ 60) {j : Nat} (hj : j < n) : m_r 82 [.ref 4, .int (nI j), .int 7] (hp Z P L) (some (.int (c_abt Z n j 7))) (hp Z P L) := by
  have hlo : t_L Z j ≤ j := t_lo_le (Z 15) (Z 15 j) j
  have hhi : j ≤ t_H Z n j ∧ t_H Z n j ≤ j + (n - 1 - j) := t_hi_le (Z 15) (Z 15 j) (n - 1 - j) j
  refine m_of (ls := [.ref 4, .int (nI j), .int 7, s_no, s_no, s_no]) hk_82 rfl rfl rfl ?_
  refine e_go hk_82 3 (c := (5, [.ref 4, .int (nI j), .int 7, s_no, s_no, s_no], [.int (nI j), .ref 5], hp Z P L)) rfl ?_
  refine e_call hk_82 (as := [.ref 5, .int (nI j)]) (rest := []) rfl rfl hk_37 rfl (Nat.le_of_ble_eq_true rfl) rfl (x_low (j := j) (by omega)) ?_
  show e_r 82 8 [.ref 4, .int (nI j), .int 7, s_no, s_no, s_no] [.int (nI (t_L Z j))] (hp Z P L) _ _
  refine e_go hk_82 4 (c := (14, [.ref 4, .int (nI j), .int 7, .int (nI (t_L Z j)), s_no, s_no], [.int (nI j), .ref 5], hp Z P L)) rfl ?_
  refine e_call hk_82 (as := [.ref 5, .int (nI j)]) (rest := []) rfl rfl hk_38 rfl (Nat.le_of_ble_eq_true rfl) rfl (x_high hN hn (j := j) (by omega)) ?_
  show e_r 82 17 [.ref 4, .int (nI j), .int 7, .int (nI (t_L Z j)), s_no, s_no] [.int (nI (t_H Z n j))] (hp Z P L) _ _
  refine e_go hk_82 5 (c := (27, [.ref 4, .int (nI j), .int 7, .int (nI (t_L Z j)), .int (nI (t_H Z n j)), s_no], [.int (nI j), .ref 14], hp Z P L)) rfl ?_
  refine e_call hk_82 (as := [.ref 14, .int (nI j)]) (rest := []) rfl rfl hk_22 rfl (Nat.le_of_ble_eq_true rfl) rfl (x_at (r := 14) (a := 15) (n := 60) rfl rfl rfl (by decide) (j := j) (by omega)) ?_
  show e_r 82 30 [.ref 4, .int (nI j), .int 7, .int (nI (t_L Z j)), .int (nI (t_H Z n j)), s_no] [.int (Z 15 j)] (hp Z P L) _ _
  refine e_go hk_82 6 (c := (165, [.ref 4, .int (nI j), .int 7, .int (nI (t_L Z j)), .int (nI (t_H Z n j)), .int (Z 15 j)], [.int (nI j), .ref 5], hp Z P L)) rfl ?_
  refine e_call hk_82 (as := [.ref 5, .int (nI j)]) (rest := []) rfl rfl hk_41 rfl (Nat.le_of_ble_eq_true rfl) rfl (x_leans hN hn (j := j) (by omega)) ?_
  show e_r 82 168 [.ref 4, .int (nI j), .int 7, .int (nI (t_L Z j)), .int (nI (t_H Z n j)), .int (Z 15 j)] [.int (y_b (t_ln Z n j))] (hp Z P L) _ _
  refine e_go hk_82 1 (c := (if s_cnd .eq (y_b (t_ln Z n j)) 0 = true then 175 else 171, [.ref 4, .int (nI j), .int 7, .int (nI (t_L Z j)), .int (nI (t_H Z n j)), .int (Z 15 j)], [], hp Z P L)) rfl ?_
  refine e_eq (a := 175) (b := 171) (x := y_b (t_ln Z n j)) (y := 0) (fun hc168 => ?_) (fun hc168 => ?_)
  · skip
    rw [y_b0] at hc168
    refine e_go hk_82 1 (c := (176, [.ref 4, .int (nI j), .int 7, .int (nI (t_L Z j)), .int (nI (t_H Z n j)), .int (Z 15 j)], [.int 0], hp Z P L)) rfl ?_
    exact e_ret hk_82 rfl rfl rfl (by rw [c_abt, hc168]; rfl) rfl
  · skip
    rw [y_b1] at hc168
    refine e_go hk_82 2 (c := (176, [.ref 4, .int (nI j), .int 7, .int (nI (t_L Z j)), .int (nI (t_H Z n j)), .int (Z 15 j)], [.int 1], hp Z P L)) rfl ?_
    exact e_ret hk_82 rfl rfl rfl (by rw [c_abt, hc168]; rfl) rfl
theorem x_abt8 {Z : Nat → Nat → Int32} {P : Nat → Nat} {L n : Nat} (hN : Z 5 6 = nI n) (hn : n ≤ 60) {j : Nat} (hj : j < n) : m_r 82 [.ref 4, .int (nI j), .int 8] (hp Z P L) (some (.int (c_abt Z n j 8))) (hp Z P L) := by
  have hlo : t_L Z j ≤ j := t_lo_le (Z 15) (Z 15 j) j
  have hhi : j ≤ t_H Z n j ∧ t_H Z n j ≤ j + (n - 1 - j) := t_hi_le (Z 15) (Z 15 j) (n - 1 - j) j
  refine m_of (ls := [.ref 4, .int (nI j), .int 8, s_no, s_no, s_no]) hk_82 rfl rfl rfl ?_
  refine e_go hk_82 3 (c := (5, [.ref 4, .int (nI j), .int 8, s_no, s_no, s_no], [.int (nI j), .ref 5], hp Z P L)) rfl ?_
  refine e_call hk_82 (as := [.ref 5, .int (nI j)]) (rest := []) rfl rfl hk_37 rfl (Nat.le_of_ble_eq_true rfl) rfl (x_low (j := j) (by omega)) ?_
  show e_r 82 8 [.ref 4, .int (nI j), .int 8, s_no, s_no, s_no] [.int (nI (t_L Z j))] (hp Z P L) _ _
  refine e_go hk_82 4 (c := (14, [.ref 4, .int (nI j), .int 8, .int (nI (t_L Z j)), s_no, s_no], [.int (nI j), .ref 5], hp Z P L)) rfl ?_
  refine e_call hk_82 (as := [.ref 5, .int (nI j)]) (rest := []) rfl rfl hk_38 rfl (Nat.le_of_ble_eq_true rfl) rfl (x_high hN hn (j := j) (by omega)) ?_
  show e_r 82 17 [.ref 4, .int (nI j), .int 8, .int (nI (t_L Z j)), s_no, s_no] [.int (nI (t_H Z n j))] (hp Z P L) _ _
  refine e_go hk_82 5 (c := (27, [.ref 4, .int (nI j), .int 8, .int (nI (t_L Z j)), .int (nI (t_H Z n j)), s_no], [.int (nI j), .ref 14], hp Z P L)) rfl ?_
  refine e_call hk_82 (as := [.ref 14, .int (nI j)]) (rest := []) rfl rfl hk_22 rfl (Nat.le_of_ble_eq_true rfl) rfl (x_at (r := 14) (a := 15) (n := 60) rfl rfl rfl (by decide) (j := j) (by omega)) ?_
  show e_r 82 30 [.ref 4, .int (nI j), .int 8, .int (nI (t_L Z j)), .int (nI (t_H Z n j)), s_no] [.int (Z 15 j)] (hp Z P L) _ _
  refine e_go hk_82 8 (c := (187, [.ref 4, .int (nI j), .int 8, .int (nI (t_L Z j)), .int (nI (t_H Z n j)), .int (Z 15 j)], [.int (nI (t_H Z n j)), .int (nI (t_L Z j)), .ref 14], hp Z P L)) rfl ?_
  refine e_call hk_82 (as := [.ref 14, .int (nI (t_L Z j)), .int (nI (t_H Z n j))]) (rest := []) rfl rfl hk_26 rfl (Nat.le_of_ble_eq_true rfl) rfl (show m_r 26 [.ref 14, .int (nI (t_L Z j)), .int (nI (t_H Z n j))] (hp Z P L) (some (.int (t_mx (Z 15) (t_L Z j) (t_H Z n j + 1 - t_L Z j) (Z 15 (t_L Z j))))) (hp Z P L) from by have := x_great (h := hp Z P L) (r := 14) (a := 15) (n := 60) rfl rfl rfl (by decide) (l := t_L Z j) (u := t_H Z n j + 1) (by omega) (by omega); rw [nI_pred] at this; exact this) ?_
  show e_r 82 190 [.ref 4, .int (nI j), .int 8, .int (nI (t_L Z j)), .int (nI (t_H Z n j)), .int (Z 15 j)] [.int (t_mx (Z 15) (t_L Z j) (t_H Z n j + 1 - t_L Z j) (Z 15 (t_L Z j)))] (hp Z P L) _ _
  refine e_go hk_82 2 (c := (193, [.ref 4, .int (nI j), .int 8, .int (nI (t_L Z j)), .int (nI (t_H Z n j)), .int (Z 15 j)], [.int ((t_mx (Z 15) (t_L Z j) (t_H Z n j + 1 - t_L Z j) (Z 15 (t_L Z j))) - (Z 15 j))], hp Z P L)) rfl ?_
  exact e_ret hk_82 rfl rfl rfl rfl rfl
def c_node (Z : Nat → Nat → Int32) (n : Nat) (key : Int32) (k : Nat) : Int32 := if y_nm key = true then (match t_nd (Z 9) n key with
  | none => -1
  | some j => c_abt Z n j k) else -2
theorem x_cnode0 {Z : Nat → Nat → Int32} {P : Nat → Nat} {L n : Nat} (hN : Z 5 6 = nI n) (hn : n ≤ 60) {key : Int32} : m_r 62 [.ref 4, .int key, .int 0] (hp Z P L) (some (.int (c_node Z n key 0))) (hp Z P L) := by
  refine m_of (ls := [.ref 4, .int key, .int 0, s_no]) hk_62 rfl rfl rfl ?_
  refine e_go hk_62 1 (c := (1, [.ref 4, .int key, .int 0, s_no], [.int key], hp Z P L)) rfl ?_
  refine e_call hk_62 (as := [.int key]) (rest := []) rfl rfl hk_79 rfl (Nat.le_of_ble_eq_true rfl) rfl (x_num (k := key)) ?_
  show e_r 62 4 [.ref 4, .int key, .int 0, s_no] [.int (y_b (y_nm key))] (hp Z P L) _ _
  refine e_go hk_62 1 (c := (if s_cnd .eq (y_b (y_nm key)) 0 = true then 17 else 7, [.ref 4, .int key, .int 0, s_no], [], hp Z P L)) rfl ?_
  refine e_eq (a := 17) (b := 7) (x := y_b (y_nm key)) (y := 0) (fun hc4 => ?_) (fun hc4 => ?_)
  · skip
    rw [y_b0] at hc4
    refine e_go hk_62 1 (c := (19, [.ref 4, .int key, .int 0, s_no], [.int ((-2))], hp Z P L)) rfl ?_
    exact e_ret hk_62 rfl rfl rfl (by rw [c_node, if_neg (by rw [hc4]; decide)]) rfl
  · skip
    rw [y_b1] at hc4
    refine e_go hk_62 2 (c := (if s_cnd .lt 0 0 = true then 17 else 11, [.ref 4, .int key, .int 0, s_no], [], hp Z P L)) rfl ?_
    refine e_lt (a := 17) (b := 11) (x := 0) (y := 0) (fun hc8 => absurd hc8 (by decide)) (fun hc8 => ?_)
    refine e_go hk_62 3 (c := (if s_cnd .le 0 8 = true then 20 else 17, [.ref 4, .int key, .int 0, s_no], [], hp Z P L)) rfl ?_
    refine e_le (a := 20) (b := 17) (x := 0) (y := 8) (fun hc14 => ?_) (fun hc14 => absurd (by decide) hc14)
    refine e_go hk_62 3 (c := (25, [.ref 4, .int key, .int 0, s_no], [.int key, .ref 5], hp Z P L)) rfl ?_
    refine e_call hk_62 (as := [.ref 5, .int key]) (rest := []) rfl rfl hk_31 rfl (Nat.le_of_ble_eq_true rfl) rfl (x_node hN hn) ?_
    show e_r 62 28 [.ref 4, .int key, .int 0, s_no] [.int (y_o (t_nd (Z 9) n key))] (hp Z P L) _ _
    refine e_go hk_62 4 (c := (if s_cnd .ne (y_o (t_nd (Z 9) n key)) ((-6)) = true then 39 else 35, [.ref 4, .int key, .int 0, .int (y_o (t_nd (Z 9) n key))], [], hp Z P L)) rfl ?_
    refine e_ne (a := 39) (b := 35) (x := y_o (t_nd (Z 9) n key)) (y := (-6)) (fun hc32 => ?_) (fun hc32 => ?_)
    · skip
      rw [y_o_none (fun j hj => by have := (t_nd_lt hj).1; omega)] at hc32
      refine e_go hk_62 3 (c := (42, [.ref 4, .int key, .int 0, .int (y_o (t_nd (Z 9) n key))], [.int 0, .int (y_o (t_nd (Z 9) n key)), .ref 4], hp Z P L)) rfl ?_
      obtain ⟨j, hj⟩ := Option.ne_none_iff_exists'.mp hc32
      have hjn := (fun z => (t_nd_lt z).1) hj
      rw [hj]
      refine e_call hk_62 (as := [.ref 4, .int (nI j), .int 0]) (rest := []) rfl rfl hk_82 rfl (Nat.le_of_ble_eq_true rfl) rfl (x_abt0 hN hn hjn) ?_
      show e_r 62 45 [.ref 4, .int key, .int 0, .int (nI j)] [.int (c_abt Z n j 0)] (hp Z P L) _ _
      exact e_ret hk_62 rfl rfl rfl (by rw [c_node, if_pos hc4, hj]) rfl
    · skip
      rw [y_o_none (fun j hj => by have := (t_nd_lt hj).1; omega)] at hc32
      refine e_go hk_62 2 (c := (45, [.ref 4, .int key, .int 0, .int (y_o (t_nd (Z 9) n key))], [.int ((-1))], hp Z P L)) rfl ?_
      exact e_ret hk_62 rfl rfl rfl (by rw [c_node, if_pos hc4, hc32]) rfl
theorem x_cnode1 {Z : Nat → Nat → Int32} {P : Nat → Nat} {L n : Nat} (hN : Z 5 6 = nI n) (hn : n ≤ 60) {key : Int32} : m_r 62 [.ref 4, .int key, .int 1] (hp Z P L) (some (.int (c_node Z n key 1))) (hp Z P L) := by
  refine m_of (ls := [.ref 4, .int key, .int 1, s_no]) hk_62 rfl rfl rfl ?_
  refine e_go hk_62 1 (c := (1, [.ref 4, .int key, .int 1, s_no], [.int key], hp Z P L)) rfl ?_
  refine e_call hk_62 (as := [.int key]) (rest := []) rfl rfl hk_79 rfl (Nat.le_of_ble_eq_true rfl) rfl (x_num (k := key)) ?_
  show e_r 62 4 [.ref 4, .int key, .int 1, s_no] [.int (y_b (y_nm key))] (hp Z P L) _ _
  refine e_go hk_62 1 (c := (if s_cnd .eq (y_b (y_nm key)) 0 = true then 17 else 7, [.ref 4, .int key, .int 1, s_no], [], hp Z P L)) rfl ?_
  refine e_eq (a := 17) (b := 7) (x := y_b (y_nm key)) (y := 0) (fun hc4 => ?_) (fun hc4 => ?_)
  · skip
    rw [y_b0] at hc4
    refine e_go hk_62 1 (c := (19, [.ref 4, .int key, .int 1, s_no], [.int ((-2))], hp Z P L)) rfl ?_
    exact e_ret hk_62 rfl rfl rfl (by rw [c_node, if_neg (by rw [hc4]; decide)]) rfl
  · skip
    rw [y_b1] at hc4
    refine e_go hk_62 2 (c := (if s_cnd .lt 1 0 = true then 17 else 11, [.ref 4, .int key, .int 1, s_no], [], hp Z P L)) rfl ?_
    refine e_lt (a := 17) (b := 11) (x := 1) (y := 0) (fun hc8 => absurd hc8 (by decide)) (fun hc8 => ?_)
    refine e_go hk_62 3 (c := (if s_cnd .le 1 8 = true then 20 else 17, [.ref 4, .int key, .int 1, s_no], [], hp Z P L)) rfl ?_
    refine e_le (a := 20) (b := 17) (x := 1) (y := 8) (fun hc14 => ?_) (fun hc14 => absurd (by decide) hc14)
    refine e_go hk_62 3 (c := (25, [.ref 4, .int key, .int 1, s_no], [.int key, .ref 5], hp Z P L)) rfl ?_
    refine e_call hk_62 (as := [.ref 5, .int key]) (rest := []) rfl rfl hk_31 rfl (Nat.le_of_ble_eq_true rfl) rfl (x_node hN hn) ?_
    show e_r 62 28 [.ref 4, .int key, .int 1, s_no] [.int (y_o (t_nd (Z 9) n key))] (hp Z P L) _ _
    refine e_go hk_62 4 (c := (if s_cnd .ne (y_o (t_nd (Z 9) n key)) ((-6)) = true then 39 else 35, [.ref 4, .int key, .int 1, .int (y_o (t_nd (Z 9) n key))], [], hp Z P L)) rfl ?_
    refine e_ne (a := 39) (b := 35) (x := y_o (t_nd (Z 9) n key)) (y := (-6)) (fun hc32 => ?_) (fun hc32 => ?_)
    · skip
      rw [y_o_none (fun j hj => by have := (t_nd_lt hj).1; omega)] at hc32
      refine e_go hk_62 3 (c := (42, [.ref 4, .int key, .int 1, .int (y_o (t_nd (Z 9) n key))], [.int 1, .int (y_o (t_nd (Z 9) n key)), .ref 4], hp Z P L)) rfl ?_
      obtain ⟨j, hj⟩ := Option.ne_none_iff_exists'.mp hc32
      have hjn := (fun z => (t_nd_lt z).1) hj
      rw [hj]
      refine e_call hk_62 (as := [.ref 4, .int (nI j), .int 1]) (rest := []) rfl rfl hk_82 rfl (Nat.le_of_ble_eq_true rfl) rfl (x_abt1 hN hn hjn) ?_
      show e_r 62 45 [.ref 4, .int key, .int 1, .int (nI j)] [.int (c_abt Z n j 1)] (hp Z P L) _ _
      exact e_ret hk_62 rfl rfl rfl (by rw [c_node, if_pos hc4, hj]) rfl
    · skip
      rw [y_o_none (fun j hj => by have := (t_nd_lt hj).1; omega)] at hc32
      refine e_go hk_62 2 (c := (45, [.ref 4, .int key, .int 1, .int (y_o (t_nd (Z 9) n key))], [.int ((-1))], hp Z P L)) rfl ?_
      exact e_ret hk_62 rfl rfl rfl (by rw [c_node, if_pos hc4, hc32]) rfl
theorem x_cnode2 {Z : Nat → Nat → Int32} {P : Nat → Nat} {L n : Nat} (hN : Z 5 6 = nI n) (hn : n ≤ 60) {key : Int32} : m_r 62 [.ref 4, .int key, .int 2] (hp Z P L) (some (.int (c_node Z n key 2))) (hp Z P L) := by
  refine m_of (ls := [.ref 4, .int key, .int 2, s_no]) hk_62 rfl rfl rfl ?_
  refine e_go hk_62 1 (c := (1, [.ref 4, .int key, .int 2, s_no], [.int key], hp Z P L)) rfl ?_
  refine e_call hk_62 (as := [.int key]) (rest := []) rfl rfl hk_79 rfl (Nat.le_of_ble_eq_true rfl) rfl (x_num (k := key)) ?_
  show e_r 62 4 [.ref 4, .int key, .int 2, s_no] [.int (y_b (y_nm key))] (hp Z P L) _ _
  refine e_go hk_62 1 (c := (if s_cnd .eq (y_b (y_nm key)) 0 = true then 17 else 7, [.ref 4, .int key, .int 2, s_no], [], hp Z P L)) rfl ?_
  refine e_eq (a := 17) (b := 7) (x := y_b (y_nm key)) (y := 0) (fun hc4 => ?_) (fun hc4 => ?_)
  · skip
    rw [y_b0] at hc4
    refine e_go hk_62 1 (c := (19, [.ref 4, .int key, .int 2, s_no], [.int ((-2))], hp Z P L)) rfl ?_
    exact e_ret hk_62 rfl rfl rfl (by rw [c_node, if_neg (by rw [hc4]; decide)]) rfl
  · skip
    rw [y_b1] at hc4
    refine e_go hk_62 2 (c := (if s_cnd .lt 2 0 = true then 17 else 11, [.ref 4, .int key, .int 2, s_no], [], hp Z P L)) rfl ?_
    refine e_lt (a := 17) (b := 11) (x := 2) (y := 0) (fun hc8 => absurd hc8 (by decide)) (fun hc8 => ?_)
    refine e_go hk_62 3 (c := (if s_cnd .le 2 8 = true then 20 else 17, [.ref 4, .int key, .int 2, s_no], [], hp Z P L)) rfl ?_
    refine e_le (a := 20) (b := 17) (x := 2) (y := 8) (fun hc14 => ?_) (fun hc14 => absurd (by decide) hc14)
    refine e_go hk_62 3 (c := (25, [.ref 4, .int key, .int 2, s_no], [.int key, .ref 5], hp Z P L)) rfl ?_
    refine e_call hk_62 (as := [.ref 5, .int key]) (rest := []) rfl rfl hk_31 rfl (Nat.le_of_ble_eq_true rfl) rfl (x_node hN hn) ?_
    show e_r 62 28 [.ref 4, .int key, .int 2, s_no] [.int (y_o (t_nd (Z 9) n key))] (hp Z P L) _ _
    refine e_go hk_62 4 (c := (if s_cnd .ne (y_o (t_nd (Z 9) n key)) ((-6)) = true then 39 else 35, [.ref 4, .int key, .int 2, .int (y_o (t_nd (Z 9) n key))], [], hp Z P L)) rfl ?_
    refine e_ne (a := 39) (b := 35) (x := y_o (t_nd (Z 9) n key)) (y := (-6)) (fun hc32 => ?_) (fun hc32 => ?_)
    · skip
      rw [y_o_none (fun j hj => by have := (t_nd_lt hj).1; omega)] at hc32
      refine e_go hk_62 3 (c := (42, [.ref 4, .int key, .int 2, .int (y_o (t_nd (Z 9) n key))], [.int 2, .int (y_o (t_nd (Z 9) n key)), .ref 4], hp Z P L)) rfl ?_
      obtain ⟨j, hj⟩ := Option.ne_none_iff_exists'.mp hc32
      have hjn := (fun z => (t_nd_lt z).1) hj
      rw [hj]
      refine e_call hk_62 (as := [.ref 4, .int (nI j), .int 2]) (rest := []) rfl rfl hk_82 rfl (Nat.le_of_ble_eq_true rfl) rfl (x_abt2 hN hn hjn) ?_
      show e_r 62 45 [.ref 4, .int key, .int 2, .int (nI j)] [.int (c_abt Z n j 2)] (hp Z P L) _ _
      exact e_ret hk_62 rfl rfl rfl (by rw [c_node, if_pos hc4, hj]) rfl
    · skip
      rw [y_o_none (fun j hj => by have := (t_nd_lt hj).1; omega)] at hc32
      refine e_go hk_62 2 (c := (45, [.ref 4, .int key, .int 2, .int (y_o (t_nd (Z 9) n key))], [.int ((-1))], hp Z P L)) rfl ?_
      exact e_ret hk_62 rfl rfl rfl (by rw [c_node, if_pos hc4, hc32]) rfl
theorem x_cnode3 {Z : Nat → Nat → Int32} {P : Nat → Nat} {L n : Nat} (hN : Z 5 6 = nI n) (hn : n ≤ 60) {key : Int32} : m_r 62 [.ref 4, .int key, .int 3] (hp Z P L) (some (.int (c_node Z n key 3))) (hp Z P L) := by
  refine m_of (ls := [.ref 4, .int key, .int 3, s_no]) hk_62 rfl rfl rfl ?_
  refine e_go hk_62 1 (c := (1, [.ref 4, .int key, .int 3, s_no], [.int key], hp Z P L)) rfl ?_
  refine e_call hk_62 (as := [.int key]) (rest := []) rfl rfl hk_79 rfl (Nat.le_of_ble_eq_true rfl) rfl (x_num (k := key)) ?_
  show e_r 62 4 [.ref 4, .int key, .int 3, s_no] [.int (y_b (y_nm key))] (hp Z P L) _ _
  refine e_go hk_62 1 (c := (if s_cnd .eq (y_b (y_nm key)) 0 = true then 17 else 7, [.ref 4, .int key, .int 3, s_no], [], hp Z P L)) rfl ?_
  refine e_eq (a := 17) (b := 7) (x := y_b (y_nm key)) (y := 0) (fun hc4 => ?_) (fun hc4 => ?_)
  · skip
    rw [y_b0] at hc4
    refine e_go hk_62 1 (c := (19, [.ref 4, .int key, .int 3, s_no], [.int ((-2))], hp Z P L)) rfl ?_
    exact e_ret hk_62 rfl rfl rfl (by rw [c_node, if_neg (by rw [hc4]; decide)]) rfl
  · skip
    rw [y_b1] at hc4
    refine e_go hk_62 2 (c := (if s_cnd .lt 3 0 = true then 17 else 11, [.ref 4, .int key, .int 3, s_no], [], hp Z P L)) rfl ?_
    refine e_lt (a := 17) (b := 11) (x := 3) (y := 0) (fun hc8 => absurd hc8 (by decide)) (fun hc8 => ?_)
    refine e_go hk_62 3 (c := (if s_cnd .le 3 8 = true then 20 else 17, [.ref 4, .int key, .int 3, s_no], [], hp Z P L)) rfl ?_
    refine e_le (a := 20) (b := 17) (x := 3) (y := 8) (fun hc14 => ?_) (fun hc14 => absurd (by decide) hc14)
    refine e_go hk_62 3 (c := (25, [.ref 4, .int key, .int 3, s_no], [.int key, .ref 5], hp Z P L)) rfl ?_
    refine e_call hk_62 (as := [.ref 5, .int key]) (rest := []) rfl rfl hk_31 rfl (Nat.le_of_ble_eq_true rfl) rfl (x_node hN hn) ?_
    show e_r 62 28 [.ref 4, .int key, .int 3, s_no] [.int (y_o (t_nd (Z 9) n key))] (hp Z P L) _ _
    refine e_go hk_62 4 (c := (if s_cnd .ne (y_o (t_nd (Z 9) n key)) ((-6)) = true then 39 else 35, [.ref 4, .int key, .int 3, .int (y_o (t_nd (Z 9) n key))], [], hp Z P L)) rfl ?_
    refine e_ne (a := 39) (b := 35) (x := y_o (t_nd (Z 9) n key)) (y := (-6)) (fun hc32 => ?_) (fun hc32 => ?_)
    · skip
      rw [y_o_none (fun j hj => by have := (t_nd_lt hj).1; omega)] at hc32
      refine e_go hk_62 3 (c := (42, [.ref 4, .int key, .int 3, .int (y_o (t_nd (Z 9) n key))], [.int 3, .int (y_o (t_nd (Z 9) n key)), .ref 4], hp Z P L)) rfl ?_
      obtain ⟨j, hj⟩ := Option.ne_none_iff_exists'.mp hc32
      have hjn := (fun z => (t_nd_lt z).1) hj
      rw [hj]
      refine e_call hk_62 (as := [.ref 4, .int (nI j), .int 3]) (rest := []) rfl rfl hk_82 rfl (Nat.le_of_ble_eq_true rfl) rfl (x_abt3 hN hn hjn) ?_
      show e_r 62 45 [.ref 4, .int key, .int 3, .int (nI j)] [.int (c_abt Z n j 3)] (hp Z P L) _ _
      exact e_ret hk_62 rfl rfl rfl (by rw [c_node, if_pos hc4, hj]) rfl
    · skip
      rw [y_o_none (fun j hj => by have := (t_nd_lt hj).1; omega)] at hc32
      refine e_go hk_62 2 (c := (45, [.ref 4, .int key, .int 3, .int (y_o (t_nd (Z 9) n key))], [.int ((-1))], hp Z P L)) rfl ?_
      exact e_ret hk_62 rfl rfl rfl (by rw [c_node, if_pos hc4, hc32]) rfl
theorem x_cnode4 {Z : Nat → Nat → Int32} {P : Nat → Nat} {L n : Nat} (hN : Z 5 6 = nI n) (hn : n ≤ 60) {key : Int32} : m_r 62 [.ref 4, .int key, .int 4] (hp Z P L) (some (.int (c_node Z n key 4))) (hp Z P L) := by
  refine m_of (ls := [.ref 4, .int key, .int 4, s_no]) hk_62 rfl rfl rfl ?_
  refine e_go hk_62 1 (c := (1, [.ref 4, .int key, .int 4, s_no], [.int key], hp Z P L)) rfl ?_
  refine e_call hk_62 (as := [.int key]) (rest := []) rfl rfl hk_79 rfl (Nat.le_of_ble_eq_true rfl) rfl (x_num (k := key)) ?_
  show e_r 62 4 [.ref 4, .int key, .int 4, s_no] [.int (y_b (y_nm key))] (hp Z P L) _ _
  refine e_go hk_62 1 (c := (if s_cnd .eq (y_b (y_nm key)) 0 = true then 17 else 7, [.ref 4, .int key, .int 4, s_no], [], hp Z P L)) rfl ?_
  refine e_eq (a := 17) (b := 7) (x := y_b (y_nm key)) (y := 0) (fun hc4 => ?_) (fun hc4 => ?_)
  · skip
    rw [y_b0] at hc4
    refine e_go hk_62 1 (c := (19, [.ref 4, .int key, .int 4, s_no], [.int ((-2))], hp Z P L)) rfl ?_
    exact e_ret hk_62 rfl rfl rfl (by rw [c_node, if_neg (by rw [hc4]; decide)]) rfl
  · skip
    rw [y_b1] at hc4
    refine e_go hk_62 2 (c := (if s_cnd .lt 4 0 = true then 17 else 11, [.ref 4, .int key, .int 4, s_no], [], hp Z P L)) rfl ?_
    refine e_lt (a := 17) (b := 11) (x := 4) (y := 0) (fun hc8 => absurd hc8 (by decide)) (fun hc8 => ?_)
    refine e_go hk_62 3 (c := (if s_cnd .le 4 8 = true then 20 else 17, [.ref 4, .int key, .int 4, s_no], [], hp Z P L)) rfl ?_
    refine e_le (a := 20) (b := 17) (x := 4) (y := 8) (fun hc14 => ?_) (fun hc14 => absurd (by decide) hc14)
    refine e_go hk_62 3 (c := (25, [.ref 4, .int key, .int 4, s_no], [.int key, .ref 5], hp Z P L)) rfl ?_
    refine e_call hk_62 (as := [.ref 5, .int key]) (rest := []) rfl rfl hk_31 rfl (Nat.le_of_ble_eq_true rfl) rfl (x_node hN hn) ?_
    show e_r 62 28 [.ref 4, .int key, .int 4, s_no] [.int (y_o (t_nd (Z 9) n key))] (hp Z P L) _ _
    refine e_go hk_62 4 (c := (if s_cnd .ne (y_o (t_nd (Z 9) n key)) ((-6)) = true then 39 else 35, [.ref 4, .int key, .int 4, .int (y_o (t_nd (Z 9) n key))], [], hp Z P L)) rfl ?_
    refine e_ne (a := 39) (b := 35) (x := y_o (t_nd (Z 9) n key)) (y := (-6)) (fun hc32 => ?_) (fun hc32 => ?_)
    · skip
      rw [y_o_none (fun j hj => by have := (t_nd_lt hj).1; omega)] at hc32
      refine e_go hk_62 3 (c := (42, [.ref 4, .int key, .int 4, .int (y_o (t_nd (Z 9) n key))], [.int 4, .int (y_o (t_nd (Z 9) n key)), .ref 4], hp Z P L)) rfl ?_
      obtain ⟨j, hj⟩ := Option.ne_none_iff_exists'.mp hc32
      have hjn := (fun z => (t_nd_lt z).1) hj
      rw [hj]
      refine e_call hk_62 (as := [.ref 4, .int (nI j), .int 4]) (rest := []) rfl rfl hk_82 rfl (Nat.le_of_ble_eq_true rfl) rfl (x_abt4 hN hn hjn) ?_
      show e_r 62 45 [.ref 4, .int key, .int 4, .int (nI j)] [.int (c_abt Z n j 4)] (hp Z P L) _ _
      exact e_ret hk_62 rfl rfl rfl (by rw [c_node, if_pos hc4, hj]) rfl
    · skip
      rw [y_o_none (fun j hj => by have := (t_nd_lt hj).1; omega)] at hc32
      refine e_go hk_62 2 (c := (45, [.ref 4, .int key, .int 4, .int (y_o (t_nd (Z 9) n key))], [.int ((-1))], hp Z P L)) rfl ?_
      exact e_ret hk_62 rfl rfl rfl (by rw [c_node, if_pos hc4, hc32]) rfl
theorem x_cnode5 {Z : Nat → Nat → Int32} {P : Nat → Nat} {L n : Nat} (hN : Z 5 6 = nI n) (hn : n ≤ 60) {key : Int32} : m_r 62 [.ref 4, .int key, .int 5] (hp Z P L) (some (.int (c_node Z n key 5))) (hp Z P L) := by
  refine m_of (ls := [.ref 4, .int key, .int 5, s_no]) hk_62 rfl rfl rfl ?_
  refine e_go hk_62 1 (c := (1, [.ref 4, .int key, .int 5, s_no], [.int key], hp Z P L)) rfl ?_
  refine e_call hk_62 (as := [.int key]) (rest := []) rfl rfl hk_79 rfl (Nat.le_of_ble_eq_true rfl) rfl (x_num (k := key)) ?_
  show e_r 62 4 [.ref 4, .int key, .int 5, s_no] [.int (y_b (y_nm key))] (hp Z P L) _ _
  refine e_go hk_62 1 (c := (if s_cnd .eq (y_b (y_nm key)) 0 = true then 17 else 7, [.ref 4, .int key, .int 5, s_no], [], hp Z P L)) rfl ?_
  refine e_eq (a := 17) (b := 7) (x := y_b (y_nm key)) (y := 0) (fun hc4 => ?_) (fun hc4 => ?_)
  · skip
    rw [y_b0] at hc4
    refine e_go hk_62 1 (c := (19, [.ref 4, .int key, .int 5, s_no], [.int ((-2))], hp Z P L)) rfl ?_
    exact e_ret hk_62 rfl rfl rfl (by rw [c_node, if_neg (by rw [hc4]; decide)]) rfl
  · skip
    rw [y_b1] at hc4
    refine e_go hk_62 2 (c := (if s_cnd .lt 5 0 = true then 17 else 11, [.ref 4, .int key, .int 5, s_no], [], hp Z P L)) rfl ?_
    refine e_lt (a := 17) (b := 11) (x := 5) (y := 0) (fun hc8 => absurd hc8 (by decide)) (fun hc8 => ?_)
    refine e_go hk_62 3 (c := (if s_cnd .le 5 8 = true then 20 else 17, [.ref 4, .int key, .int 5, s_no], [], hp Z P L)) rfl ?_
    refine e_le (a := 20) (b := 17) (x := 5) (y := 8) (fun hc14 => ?_) (fun hc14 => absurd (by decide) hc14)
    refine e_go hk_62 3 (c := (25, [.ref 4, .int key, .int 5, s_no], [.int key, .ref 5], hp Z P L)) rfl ?_
    refine e_call hk_62 (as := [.ref 5, .int key]) (rest := []) rfl rfl hk_31 rfl (Nat.le_of_ble_eq_true rfl) rfl (x_node hN hn) ?_
    show e_r 62 28 [.ref 4, .int key, .int 5, s_no] [.int (y_o (t_nd (Z 9) n key))] (hp Z P L) _ _
    refine e_go hk_62 4 (c := (if s_cnd .ne (y_o (t_nd (Z 9) n key)) ((-6)) = true then 39 else 35, [.ref 4, .int key, .int 5, .int (y_o (t_nd (Z 9) n key))], [], hp Z P L)) rfl ?_
    refine e_ne (a := 39) (b := 35) (x := y_o (t_nd (Z 9) n key)) (y := (-6)) (fun hc32 => ?_) (fun hc32 => ?_)
    · skip
      rw [y_o_none (fun j hj => by have := (t_nd_lt hj).1; omega)] at hc32
      refine e_go hk_62 3 (c := (42, [.ref 4, .int key, .int 5, .int (y_o (t_nd (Z 9) n key))], [.int 5, .int (y_o (t_nd (Z 9) n key)), .ref 4], hp Z P L)) rfl ?_
      obtain ⟨j, hj⟩ := Option.ne_none_iff_exists'.mp hc32
      have hjn := (fun z => (t_nd_lt z).1) hj
      rw [hj]
      refine e_call hk_62 (as := [.ref 4, .int (nI j), .int 5]) (rest := []) rfl rfl hk_82 rfl (Nat.le_of_ble_eq_true rfl) rfl (x_abt5 hN hn hjn) ?_
      show e_r 62 45 [.ref 4, .int key, .int 5, .int (nI j)] [.int (c_abt Z n j 5)] (hp Z P L) _ _
      exact e_ret hk_62 rfl rfl rfl (by rw [c_node, if_pos hc4, hj]) rfl
    · skip
      rw [y_o_none (fun j hj => by have := (t_nd_lt hj).1; omega)] at hc32
      refine e_go hk_62 2 (c := (45, [.ref 4, .int key, .int 5, .int (y_o (t_nd (Z 9) n key))], [.int ((-1))], hp Z P L)) rfl ?_
      exact e_ret hk_62 rfl rfl rfl (by rw [c_node, if_pos hc4, hc32]) rfl
theorem x_cnode6 {Z : Nat → Nat → Int32} {P : Nat → Nat} {L n : Nat} (hN : Z 5 6 = nI n) (hn : n ≤ 60) {key : Int32} : m_r 62 [.ref 4, .int key, .int 6] (hp Z P L) (some (.int (c_node Z n key 6))) (hp Z P L) := by
  refine m_of (ls := [.ref 4, .int key, .int 6, s_no]) hk_62 rfl rfl rfl ?_
  refine e_go hk_62 1 (c := (1, [.ref 4, .int key, .int 6, s_no], [.int key], hp Z P L)) rfl ?_
  refine e_call hk_62 (as := [.int key]) (rest := []) rfl rfl hk_79 rfl (Nat.le_of_ble_eq_true rfl) rfl (x_num (k := key)) ?_
  show e_r 62 4 [.ref 4, .int key, .int 6, s_no] [.int (y_b (y_nm key))] (hp Z P L) _ _
  refine e_go hk_62 1 (c := (if s_cnd .eq (y_b (y_nm key)) 0 = true then 17 else 7, [.ref 4, .int key, .int 6, s_no], [], hp Z P L)) rfl ?_
  refine e_eq (a := 17) (b := 7) (x := y_b (y_nm key)) (y := 0) (fun hc4 => ?_) (fun hc4 => ?_)
  · skip
    rw [y_b0] at hc4
    refine e_go hk_62 1 (c := (19, [.ref 4, .int key, .int 6, s_no], [.int ((-2))], hp Z P L)) rfl ?_
    exact e_ret hk_62 rfl rfl rfl (by rw [c_node, if_neg (by rw [hc4]; decide)]) rfl
  · skip
    rw [y_b1] at hc4
    refine e_go hk_62 2 (c := (if s_cnd .lt 6 0 = true then 17 else 11, [.ref 4, .int key, .int 6, s_no], [], hp Z P L)) rfl ?_
    refine e_lt (a := 17) (b := 11) (x := 6) (y := 0) (fun hc8 => absurd hc8 (by decide)) (fun hc8 => ?_)
    refine e_go hk_62 3 (c := (if s_cnd .le 6 8 = true then 20 else 17, [.ref 4, .int key, .int 6, s_no], [], hp Z P L)) rfl ?_
    refine e_le (a := 20) (b := 17) (x := 6) (y := 8) (fun hc14 => ?_) (fun hc14 => absurd (by decide) hc14)
    refine e_go hk_62 3 (c := (25, [.ref 4, .int key, .int 6, s_no], [.int key, .ref 5], hp Z P L)) rfl ?_
    refine e_call hk_62 (as := [.ref 5, .int key]) (rest := []) rfl rfl hk_31 rfl (Nat.le_of_ble_eq_true rfl) rfl (x_node hN hn) ?_
    show e_r 62 28 [.ref 4, .int key, .int 6, s_no] [.int (y_o (t_nd (Z 9) n key))] (hp Z P L) _ _
    refine e_go hk_62 4 (c := (if s_cnd .ne (y_o (t_nd (Z 9) n key)) ((-6)) = true then 39 else 35, [.ref 4, .int key, .int 6, .int (y_o (t_nd (Z 9) n key))], [], hp Z P L)) rfl ?_
    refine e_ne (a := 39) (b := 35) (x := y_o (t_nd (Z 9) n key)) (y := (-6)) (fun hc32 => ?_) (fun hc32 => ?_)
    · skip
      rw [y_o_none (fun j hj => by have := (t_nd_lt hj).1; omega)] at hc32
      refine e_go hk_62 3 (c := (42, [.ref 4, .int key, .int 6, .int (y_o (t_nd (Z 9) n key))], [.int 6, .int (y_o (t_nd (Z 9) n key)), .ref 4], hp Z P L)) rfl ?_
      obtain ⟨j, hj⟩ := Option.ne_none_iff_exists'.mp hc32
      have hjn := (fun z => (t_nd_lt z).1) hj
      rw [hj]
      refine e_call hk_62 (as := [.ref 4, .int (nI j), .int 6]) (rest := []) rfl rfl hk_82 rfl (Nat.le_of_ble_eq_true rfl) rfl (x_abt6 hN hn hjn) ?_
      show e_r 62 45 [.ref 4, .int key, .int 6, .int (nI j)] [.int (c_abt Z n j 6)] (hp Z P L) _ _
      exact e_ret hk_62 rfl rfl rfl (by rw [c_node, if_pos hc4, hj]) rfl
    · skip
      rw [y_o_none (fun j hj => by have := (t_nd_lt hj).1; omega)] at hc32
      refine e_go hk_62 2 (c := (45, [.ref 4, .int key, .int 6, .int (y_o (t_nd (Z 9) n key))], [.int ((-1))], hp Z P L)) rfl ?_
      exact e_ret hk_62 rfl rfl rfl (by rw [c_node, if_pos hc4, hc32]) rfl
theorem x_cnode7 {Z : Nat → Nat → Int32} {P : Nat → Nat} {L n : Nat} (hN : Z 5 6 = nI n) (hn : n ≤ 60) {key : Int32} : m_r 62 [.ref 4, .int key, .int 7] (hp Z P L) (some (.int (c_node Z n key 7))) (hp Z P L) := by
  refine m_of (ls := [.ref 4, .int key, .int 7, s_no]) hk_62 rfl rfl rfl ?_
  refine e_go hk_62 1 (c := (1, [.ref 4, .int key, .int 7, s_no], [.int key], hp Z P L)) rfl ?_
  refine e_call hk_62 (as := [.int key]) (rest := []) rfl rfl hk_79 rfl (Nat.le_of_ble_eq_true rfl) rfl (x_num (k := key)) ?_
  show e_r 62 4 [.ref 4, .int key, .int 7, s_no] [.int (y_b (y_nm key))] (hp Z P L) _ _
  refine e_go hk_62 1 (c := (if s_cnd .eq (y_b (y_nm key)) 0 = true then 17 else 7, [.ref 4, .int key, .int 7, s_no], [], hp Z P L)) rfl ?_
  refine e_eq (a := 17) (b := 7) (x := y_b (y_nm key)) (y := 0) (fun hc4 => ?_) (fun hc4 => ?_)
  · skip
    rw [y_b0] at hc4
    refine e_go hk_62 1 (c := (19, [.ref 4, .int key, .int 7, s_no], [.int ((-2))], hp Z P L)) rfl ?_
    exact e_ret hk_62 rfl rfl rfl (by rw [c_node, if_neg (by rw [hc4]; decide)]) rfl
  · skip
    rw [y_b1] at hc4
    refine e_go hk_62 2 (c := (if s_cnd .lt 7 0 = true then 17 else 11, [.ref 4, .int key, .int 7, s_no], [], hp Z P L)) rfl ?_
    refine e_lt (a := 17) (b := 11) (x := 7) (y := 0) (fun hc8 => absurd hc8 (by decide)) (fun hc8 => ?_)
    refine e_go hk_62 3 (c := (if s_cnd .le 7 8 = true then 20 else 17, [.ref 4, .int key, .int 7, s_no], [], hp Z P L)) rfl ?_
    refine e_le (a := 20) (b := 17) (x := 7) (y := 8) (fun hc14 => ?_) (fun hc14 => absurd (by decide) hc14)
    refine e_go hk_62 3 (c := (25, [.ref 4, .int key, .int 7, s_no], [.int key, .ref 5], hp Z P L)) rfl ?_
    refine e_call hk_62 (as := [.ref 5, .int key]) (rest := []) rfl rfl hk_31 rfl (Nat.le_of_ble_eq_true rfl) rfl (x_node hN hn) ?_
    show e_r 62 28 [.ref 4, .int key, .int 7, s_no] [.int (y_o (t_nd (Z 9) n key))] (hp Z P L) _ _
    refine e_go hk_62 4 (c := (if s_cnd .ne (y_o (t_nd (Z 9) n key)) ((-6)) = true then 39 else 35, [.ref 4, .int key, .int 7, .int (y_o (t_nd (Z 9) n key))], [], hp Z P L)) rfl ?_
    refine e_ne (a := 39) (b := 35) (x := y_o (t_nd (Z 9) n key)) (y := (-6)) (fun hc32 => ?_) (fun hc32 => ?_)
    · skip
      rw [y_o_none (fun j hj => by have := (t_nd_lt hj).1; omega)] at hc32
      refine e_go hk_62 3 (c := (42, [.ref 4, .int key, .int 7, .int (y_o (t_nd (Z 9) n key))], [.int 7, .int (y_o (t_nd (Z 9) n key)), .ref 4], hp Z P L)) rfl ?_
      obtain ⟨j, hj⟩ := Option.ne_none_iff_exists'.mp hc32
      have hjn := (fun z => (t_nd_lt z).1) hj
      rw [hj]
      refine e_call hk_62 (as := [.ref 4, .int (nI j), .int 7]) (rest := []) rfl rfl hk_82 rfl (Nat.le_of_ble_eq_true rfl) rfl (x_abt7 hN hn hjn) ?_
      show e_r 62 45 [.ref 4, .int key, .int 7, .int (nI j)] [.int (c_abt Z n j 7)] (hp Z P L) _ _
      exact e_ret hk_62 rfl rfl rfl (by rw [c_node, if_pos hc4, hj]) rfl
    · skip
      rw [y_o_none (fun j hj => by have := (t_nd_lt hj).1; omega)] at hc32
      refine e_go hk_62 2 (c := (45, [.ref 4, .int key, .int 7, .int (y_o (t_nd (Z 9) n key))], [.int ((-1))], hp Z P L)) rfl ?_
      exact e_ret hk_62 rfl rfl rfl (by rw [c_node, if_pos hc4, hc32]) rfl
theorem x_cnode8 {Z : Nat → Nat → Int32} {P : Nat → Nat} {L n : Nat} (hN : Z 5 6 = nI n) (hn : n ≤ 60) {key : Int32} : m_r 62 [.ref 4, .int key, .int 8] (hp Z P L) (some (.int (c_node Z n key 8))) (hp Z P L) := by
  refine m_of (ls := [.ref 4, .int key, .int 8, s_no]) hk_62 rfl rfl rfl ?_
  refine e_go hk_62 1 (c := (1, [.ref 4, .int key, .int 8, s_no], [.int key], hp Z P L)) rfl ?_
  refine e_call hk_62 (as := [.int key]) (rest := []) rfl rfl hk_79 rfl (Nat.le_of_ble_eq_true rfl) rfl (x_num (k := key)) ?_
  show e_r 62 4 [.ref 4, .int key, .int 8, s_no] [.int (y_b (y_nm key))] (hp Z P L) _ _
  refine e_go hk_62 1 (c := (if s_cnd .eq (y_b (y_nm key)) 0 = true then 17 else 7, [.ref 4, .int key, .int 8, s_no], [], hp Z P L)) rfl ?_
  refine e_eq (a := 17) (b := 7) (x := y_b (y_nm key)) (y := 0) (fun hc4 => ?_) (fun hc4 => ?_)
  · skip
    rw [y_b0] at hc4
    refine e_go hk_62 1 (c := (19, [.ref 4, .int key, .int 8, s_no], [.int ((-2))], hp Z P L)) rfl ?_
    exact e_ret hk_62 rfl rfl rfl (by rw [c_node, if_neg (by rw [hc4]; decide)]) rfl
  · skip
    rw [y_b1] at hc4
    refine e_go hk_62 2 (c := (if s_cnd .lt 8 0 = true then 17 else 11, [.ref 4, .int key, .int 8, s_no], [], hp Z P L)) rfl ?_
    refine e_lt (a := 17) (b := 11) (x := 8) (y := 0) (fun hc8 => absurd hc8 (by decide)) (fun hc8 => ?_)
    refine e_go hk_62 3 (c := (if s_cnd .le 8 8 = true then 20 else 17, [.ref 4, .int key, .int 8, s_no], [], hp Z P L)) rfl ?_
    refine e_le (a := 20) (b := 17) (x := 8) (y := 8) (fun hc14 => ?_) (fun hc14 => absurd (by decide) hc14)
    refine e_go hk_62 3 (c := (25, [.ref 4, .int key, .int 8, s_no], [.int key, .ref 5], hp Z P L)) rfl ?_
    refine e_call hk_62 (as := [.ref 5, .int key]) (rest := []) rfl rfl hk_31 rfl (Nat.le_of_ble_eq_true rfl) rfl (x_node hN hn) ?_
    show e_r 62 28 [.ref 4, .int key, .int 8, s_no] [.int (y_o (t_nd (Z 9) n key))] (hp Z P L) _ _
    refine e_go hk_62 4 (c := (if s_cnd .ne (y_o (t_nd (Z 9) n key)) ((-6)) = true then 39 else 35, [.ref 4, .int key, .int 8, .int (y_o (t_nd (Z 9) n key))], [], hp Z P L)) rfl ?_
    refine e_ne (a := 39) (b := 35) (x := y_o (t_nd (Z 9) n key)) (y := (-6)) (fun hc32 => ?_) (fun hc32 => ?_)
    · skip
      rw [y_o_none (fun j hj => by have := (t_nd_lt hj).1; omega)] at hc32
      refine e_go hk_62 3 (c := (42, [.ref 4, .int key, .int 8, .int (y_o (t_nd (Z 9) n key))], [.int 8, .int (y_o (t_nd (Z 9) n key)), .ref 4], hp Z P L)) rfl ?_
      obtain ⟨j, hj⟩ := Option.ne_none_iff_exists'.mp hc32
      have hjn := (fun z => (t_nd_lt z).1) hj
      rw [hj]
      refine e_call hk_62 (as := [.ref 4, .int (nI j), .int 8]) (rest := []) rfl rfl hk_82 rfl (Nat.le_of_ble_eq_true rfl) rfl (x_abt8 hN hn hjn) ?_
      show e_r 62 45 [.ref 4, .int key, .int 8, .int (nI j)] [.int (c_abt Z n j 8)] (hp Z P L) _ _
      exact e_ret hk_62 rfl rfl rfl (by rw [c_node, if_pos hc4, hj]) rfl
    · skip
      rw [y_o_none (fun j hj => by have := (t_nd_lt hj).1; omega)] at hc32
      refine e_go hk_62 2 (c := (45, [.ref 4, .int key, .int 8, .int (y_o (t_nd (Z 9) n key))], [.int ((-1))], hp Z P L)) rfl ?_
      exact e_ret hk_62 rfl rfl rfl (by rw [c_node, if_pos hc4, hc32]) rfl
theorem x_cnode_no {Z : Nat → Nat → Int32} {P : Nat → Nat} {L : Nat} {key k : Int32} (hk : k < 0 ∨ 8 < k) : m_r 62 [.ref 4, .int key, .int k] (hp Z P L) (some (.int (-2))) (hp Z P L) := by
  refine m_of (ls := [.ref 4, .int key, .int k, s_no]) hk_62 rfl rfl rfl ?_
  refine e_go hk_62 1 (c := (1, [.ref 4, .int key, .int k, s_no], [.int key], hp Z P L)) rfl ?_
  refine e_call hk_62 (as := [.int key]) (rest := []) rfl rfl hk_79 rfl (Nat.le_of_ble_eq_true rfl) rfl (x_num (k := key)) ?_
  show e_r 62 4 [.ref 4, .int key, .int k, s_no] [.int (y_b (y_nm key))] (hp Z P L) _ _
  refine e_go hk_62 1 (c := (if s_cnd .eq (y_b (y_nm key)) 0 = true then 17 else 7, [.ref 4, .int key, .int k, s_no], [], hp Z P L)) rfl ?_
  refine e_eq (a := 17) (b := 7) (x := y_b (y_nm key)) (y := 0) (fun hc4 => ?_) (fun hc4 => ?_)
  · skip
    refine e_go hk_62 1 (c := (19, [.ref 4, .int key, .int k, s_no], [.int ((-2))], hp Z P L)) rfl ?_
    exact e_ret hk_62 rfl rfl rfl rfl rfl
  · skip
    refine e_go hk_62 2 (c := (if s_cnd .lt k 0 = true then 17 else 11, [.ref 4, .int key, .int k, s_no], [], hp Z P L)) rfl ?_
    refine e_lt (a := 17) (b := 11) (x := k) (y := 0) (fun hc8 => ?_) (fun hc8 => ?_)
    · skip
      refine e_go hk_62 1 (c := (19, [.ref 4, .int key, .int k, s_no], [.int ((-2))], hp Z P L)) rfl ?_
      exact e_ret hk_62 rfl rfl rfl rfl rfl
    · skip
      have h3 : 8 < k := hk.elim (fun z => absurd z hc8) id
      refine e_go hk_62 3 (c := (if s_cnd .le k 8 = true then 20 else 17, [.ref 4, .int key, .int k, s_no], [], hp Z P L)) rfl ?_
      refine e_le (a := 20) (b := 17) (x := k) (y := 8) (fun hc14 => absurd hc14 (Int32.not_le.mpr h3)) (fun hc14 => ?_)
      refine e_go hk_62 1 (c := (19, [.ref 4, .int key, .int k, s_no], [.int ((-2))], hp Z P L)) rfl ?_
      exact e_ret hk_62 rfl rfl rfl rfl rfl
end
section
/-! what a change leaves alone, out of whole's 28, 46, 47 -/
theorem t_ly_o {lo c q : Nat} {dep : Int32} (hq : q ≠ 15) (hq2 : q ≠ 13) : ∀ (k i : Nat) (Z : Nat → Nat → Int32), t_ly lo c dep k i Z q = Z q
  | 0, i, Z => rfl
  | k + 1, i, Z => by rw [t_ly, t_ly_o hq hq2 k, s_upd_o hq2, s_upd_o hq]
theorem t_dh_o {hi c : Nat} (hc : ¬ t_cl c) (h5 : c ≠ 5) : ∀ (k i q : Nat) (Z : Nat → Nat → Int32), t_dh hi k i q Z c = Z c
  | 0, i, q, Z => s_upd_o h5
  | k + 1, i, q, Z => by
    rw [t_dh]
    split
    · rw [t_dh_o hc h5 k, t_mv_o hc]
    · rw [t_dh_o hc h5 k]
theorem t_sp_o {Z : Nat → Nat → Int32} {pd w : Int32} {c : Nat} (h : c ≠ 5) : t_sp Z pd w c = Z c := by
  unfold t_sp
  rw [s_upd_o h, s_upd_o h, s_upd_o h, s_upd_o h]
theorem t_la_x {Z : Nat → Nat → Int32} {n j c : Nat} (h1 : ¬ t_cl c) (h5 : c ≠ 5) : t_la Z n j c = Z c := by
  have h := h1
  unfold t_cl at h
  unfold t_la
  rw [t_ly_o (by omega) (by omega), t_dh_o h1 h5, t_sp_o h5]
theorem t_en_x {Z : Nat → Nat → Int32} {n c : Nat} {key value : Int32} (h1 : ¬ t_cl c) (h5 : c ≠ 5) : (t_en Z n key value).2 c = Z c := by
  have h := h1
  unfold t_cl at h
  unfold t_en
  split
  · rfl
  · split
    · show t_py _ 60 0 0 n (s_upd (s_upd Z 11 _ value) 17 _ 1) c = Z c
      rw [t_py_o (by omega), s_upd_o (by omega), s_upd_o (by omega)]
    · split
      · show t_py _ 60 0 0 (n + 1) (t_mk Z n _ key value) c = Z c
        rw [t_py_o (by omega), t_mk_o h1 h5]
      · show t_la _ (n + 1) _ c = Z c
        rw [t_la_x h1 h5, t_py_o (by omega), t_mk_o h1 h5]
theorem t_hl_x {Z : Nat → Nat → Int32} {n c : Nat} {key : Int32} (h1 : ¬ t_cl c) (h5 : c ≠ 5) : (t_hl Z n key).2 c = Z c := by
  have h := h1
  unfold t_cl at h
  unfold t_hl t_h2
  split
  · rfl
  · split
    · show t_la _ n _ c = Z c
      rw [t_la_x h1 h5, t_py_o (by omega), s_upd_o (by omega)]
    · show t_py _ 60 0 0 n (s_upd Z 17 _ 0) c = Z c
      rw [t_py_o (by omega), s_upd_o (by omega)]
theorem t_lk_x {Z : Nat → Nat → Int32} {n c : Nat} {key : Int32} (h1 : ¬ t_cl c) (h5 : c ≠ 5) : (t_lk Z n key).2 c = Z c := by
  unfold t_lk
  split
  · rfl
  · exact t_la_x h1 h5
theorem cl_out {c : Nat} (h : c < 5 ∨ 18 ≤ c) : ¬ t_cl c ∧ c ≠ 5 := by
  unfold t_cl
  omega
theorem t_cp_g {Z : Nat → Nat → Int32} {a b n i : Nat} (hi : i < n) : t_cp Z a b n b i = Z a i := by
  unfold t_cp va_cpy
  rw [if_pos rfl, if_pos (by omega), Nat.zero_add, Nat.sub_zero]
theorem t_bc_rows {Z : Nat → Nat → Int32} {x y : Nat} (h : y + 12 < x ∨ x + 12 < y) : (∀ i, i < 3 → t_bc Z x y (x + 2) i = Z (y + 2) i) ∧ (∀ i, i < 60 → t_bc Z x y (x + 4) i = Z (y + 4) i ∧ t_bc Z x y (x + 6) i = Z (y + 6) i ∧ t_bc Z x y (x + 8) i = Z (y + 8) i ∧ t_bc Z x y (x + 10) i = Z (y + 10) i ∧ t_bc Z x y (x + 12) i = Z (y + 12) i) := by
  have h5 : ∀ o, 0 < o → t_bc Z x y (x + o) = t_bc6 Z x y (x + o) := fun o ho => by
    unfold t_bc t_bc5
    rw [s_upd_o (by omega), s_upd_o (by omega), s_upd_o (by omega), s_upd_o (by omega), s_upd_o (by omega)]
  refine ⟨fun i hi => ?_, fun i hi => ⟨?_, ?_, ?_, ?_, ?_⟩⟩
  · rw [h5 2 (by omega)]
    unfold t_bc6
    rw [t_cp_o (by omega), t_cp_o (by omega), t_cp_o (by omega), t_cp_o (by omega), t_cp_o (by omega), t_cp_g hi]
  · rw [h5 4 (by omega)]
    unfold t_bc6
    rw [t_cp_o (by omega), t_cp_o (by omega), t_cp_o (by omega), t_cp_o (by omega), t_cp_g hi, t_cp_o (by omega)]
  · rw [h5 6 (by omega)]
    unfold t_bc6
    rw [t_cp_o (by omega), t_cp_o (by omega), t_cp_o (by omega), t_cp_g hi, t_cp_o (by omega), t_cp_o (by omega)]
  · rw [h5 8 (by omega)]
    unfold t_bc6
    rw [t_cp_o (by omega), t_cp_o (by omega), t_cp_g hi, t_cp_o (by omega), t_cp_o (by omega), t_cp_o (by omega)]
  · rw [h5 10 (by omega)]
    unfold t_bc6
    rw [t_cp_o (by omega), t_cp_g hi, t_cp_o (by omega), t_cp_o (by omega), t_cp_o (by omega), t_cp_o (by omega)]
  · rw [h5 12 (by omega)]
    unfold t_bc6
    rw [t_cp_g hi, t_cp_o (by omega), t_cp_o (by omega), t_cp_o (by omega), t_cp_o (by omega), t_cp_o (by omega)]
theorem hs_far {x y : Nat} (hx : t_hs x) (hy : t_hs y) (h : x ≠ y) : y + 12 < x ∨ x + 12 < y := by
  unfold t_hs at hx hy
  omega
theorem t_dh_5 {hi s : Nat} (hs : s ≠ 6) : ∀ (k i q : Nat) (Z : Nat → Nat → Int32), t_dh hi k i q Z 5 s = Z 5 s
  | 0, i, q, Z => by rw [t_dh, s_upd_c, if_neg (fun z => hs z.2)]
  | k + 1, i, q, Z => by
    rw [t_dh]
    split
    · rw [t_dh_5 hs k, t_mv_o t_cl5]
    · exact t_dh_5 hs k _ _ _
theorem t_sp_get {Z : Nat → Nat → Int32} {pd w : Int32} : t_sp Z pd w 5 7 = Z 5 7 + w ∧ t_sp Z pd w 5 8 = Z 5 8 + (pd - w) ∧ t_sp Z pd w 5 9 = Z 5 9 + 1 ∧ t_sp Z pd w 5 10 = y_mx (Z 5 10) w := by
  unfold t_sp
  refine ⟨by simp [s_upd_c], by simp [s_upd_c], by simp [s_upd_c], by simp [s_upd_c, y_mx]⟩
theorem s_upd_ne {Z : Nat → Nat → Int32} {a k c i : Nat} {x : Int32} (h : ¬ (c = a ∧ i = k)) : s_upd Z a k x c i = Z c i := by rw [s_upd_c, if_neg h]
end
section
/-! The constructors, step by step; printed by wip/p25/gen/ctor.py -/
def s_UL : List (Nat × Nat × Nat) := [(6, 0, 7), (5, 0, 6), (8, 0, 9), (5, 1, 8), (10, 0, 11), (5, 2, 10), (12, 0, 13), (5, 3, 12), (14, 0, 15), (5, 4, 14), (16, 0, 17), (5, 5, 16), (4, 0, 5), (18, 0, 19), (21, 0, 22), (20, 0, 21), (23, 0, 24), (20, 1, 23), (25, 0, 26), (20, 2, 25), (27, 0, 28), (20, 3, 27), (29, 0, 30), (20, 4, 29), (31, 0, 32), (20, 5, 31), (19, 0, 20), (34, 0, 35), (33, 0, 34), (36, 0, 37), (33, 1, 36), (38, 0, 39), (33, 2, 38), (40, 0, 41), (33, 3, 40), (42, 0, 43), (33, 4, 42), (44, 0, 45), (33, 5, 44), (19, 1, 33), (47, 0, 48), (46, 0, 47), (49, 0, 50), (46, 1, 49), (51, 0, 52), (46, 2, 51), (53, 0, 54), (46, 3, 53), (55, 0, 56), (46, 4, 55), (57, 0, 58), (46, 5, 57), (19, 2, 46), (60, 0, 61), (59, 0, 60), (62, 0, 63), (59, 1, 62), (64, 0, 65), (59, 2, 64), (66, 0, 67), (59, 3, 66), (68, 0, 69), (59, 4, 68), (70, 0, 71), (59, 5, 70), (19, 3, 59), (73, 0, 74), (72, 0, 73), (75, 0, 76), (72, 1, 75), (77, 0, 78), (72, 2, 77), (79, 0, 80), (72, 3, 79), (81, 0, 82), (72, 4, 81), (83, 0, 84), (72, 5, 83), (19, 4, 72), (86, 0, 87), (85, 0, 86), (88, 0, 89), (85, 1, 88), (90, 0, 91), (85, 2, 90), (92, 0, 93), (85, 3, 92), (94, 0, 95), (85, 4, 94), (96, 0, 97), (85, 5, 96), (19, 5, 85), (4, 1, 18), (4, 2, 98), (100, 0, 101), (99, 0, 100), (4, 3, 99), (4, 4, 102), (105, 0, 106), (104, 0, 105), (107, 0, 108), (104, 1, 107), (109, 0, 110), (104, 2, 109), (111, 0, 112), (104, 3, 111), (113, 0, 114), (104, 4, 113), (115, 0, 116), (104, 5, 115), (103, 0, 104), (98, 0, 103), (119, 0, 120), (118, 0, 119), (121, 0, 122), (118, 1, 121), (123, 0, 124), (118, 2, 123), (125, 0, 126), (118, 3, 125), (127, 0, 128), (118, 4, 127), (129, 0, 130), (118, 5, 129), (117, 0, 118), (98, 1, 117)]
def s_WL : List (Nat × Nat × Int32) := [(7, 0, 70), (7, 1, 40), (7, 2, 2), (22, 0, 70), (22, 1, 40), (22, 2, 2), (35, 0, 70), (35, 1, 40), (35, 2, 2), (48, 0, 70), (48, 1, 40), (48, 2, 2), (61, 0, 70), (61, 1, 40), (61, 2, 2), (74, 0, 70), (74, 1, 40), (74, 2, 2), (87, 0, 70), (87, 1, 40), (87, 2, 2), (106, 0, 70), (106, 1, 40), (106, 2, 2), (120, 0, 70), (120, 1, 40), (120, 2, 2)]
def s_u (m : Nat) : Nat × Nat × Nat := (s_nth s_UL m).getD (0, 0, 0)
def s_w (m : Nat) : Nat × Nat × Int32 := (s_nth s_WL m).getD (0, 0, 0)
def rU : Nat → Nat → Nat → Option Nat
  | 0 => fun _ _ => none
  | m + 1 => s_updR (rU m) (s_u m).1 (s_u m).2.1 (some (s_u m).2.2)
theorem rU_out {i j : Nat} : ∀ m, (∀ x, x < m → ¬ ((s_u x).1 = i ∧ (s_u x).2.1 = j)) → rU m i j = none
  | 0, h => rfl
  | m + 1, h => by
    show s_updR (rU m) (s_u m).1 (s_u m).2.1 (some (s_u m).2.2) i j = none
    unfold s_updR va_up
    by_cases h1 : i = (s_u m).1
    · rw [if_pos h1]
      by_cases h2 : j = (s_u m).2.1
      · exact absurd ⟨h1.symm, h2.symm⟩ (h m (by omega))
      · show (if j = (s_u m).2.1 then some (s_u m).2.2 else rU m i j) = none
        rw [if_neg h2]
        exact rU_out m (fun x hx => h x (by omega))
    · rw [if_neg h1]
      exact rU_out m (fun x hx => h x (by omega))
def frU (u k : Nat) : Bool := (List.range u).all (fun x => Nat.blt (s_u x).1 k)
theorem rU_fresh {u k : Nat} (h : frU u k = true) : rU u k = fun _ => none := by
  funext j
  refine rU_out u (fun x hx z => ?_)
  have := List.all_eq_true.mp h x (List.mem_range.mpr hx)
  have := Nat.le_of_ble_eq_true this
  omega
def zW (xs : Nat → Int32) : Nat → Nat → Nat → Int32
  | 0 => s_Z0 xs
  | m + 1 => s_upd (zW xs m) (s_w m).1 (s_w m).2.1 (s_w m).2.2
abbrev c_h (xs : Nat → Int32) (L w u k : Nat) : sHp := (zW xs w, rU u, (s_SH L).take k)
theorem new_heap {xs : Nat → Int32} {L w u k t n : Nat} (hz : zW xs w k = fun _ => 0) (hr : rU u k = fun _ => none) (hl : ((s_SH L).take k).length = k) (hs : (s_SH L).take k ++ [(t, n)] = (s_SH L).take (k + 1)) : s_new (c_h xs L w u k) t n = c_h xs L w u (k + 1) := by
  unfold s_new
  dsimp only
  rw [hl, hs]
  have e1 : (fun i => if i = k then (fun _ => 0) else zW xs w i) = zW xs w := by
    funext i
    by_cases h : i = k
    · rw [if_pos h, h, hz]
    · rw [if_neg h]
  have e2 : (fun i => if i = k then (fun _ => none) else rU u i) = rU u := by
    funext i
    by_cases h : i = k
    · rw [if_pos h, h, hr]
    · rw [if_neg h]
  rw [e1, e2]
section NEW
variable {q pc : Nat} {r : sM} {cn : Option Nat} {ls rest : List Value} {h2 : sHp} {v : Option Value} {xs : Nat → Int32} {L w u k : Nat}
theorem e_newo (hk : s_T q = some (r, cn)) {e : sE} {c : Nat} (hat : s_at (s_cd r) pc = some e) (hi : e.2.1 = .new c) (hz : zW xs w k = fun _ => 0) (hr : rU u k = fun _ => none) (hl : ((s_SH L).take k).length = k) (hs : (s_SH L).take k ++ [(0, c)] = (s_SH L).take (k + 1)) (kk : e_r q (pc + e.2.2.1) ls (.ref k :: rest) (c_h xs L w u (k + 1)) v h2) : e_r q pc ls rest (c_h xs L w u k) v h2 := by
  refine e_step (c := (pc + e.2.2.1, ls, .ref k :: rest, c_h xs L w u (k + 1))) hk hat (by rw [hi]; rfl) (by rw [hi]; rfl) ?_ kk
  rw [hi]
  dsimp only [s_x]
  rw [new_heap hz hr hl hs, hl]
theorem e_newa (hk : s_T q = some (r, cn)) {e : sE} {m : Nat} (hat : s_at (s_cd r) pc = some e) (hi : e.2.1 = .newarray .int) (hm : m ≤ 65536) (hz : zW xs w k = fun _ => 0) (hr : rU u k = fun _ => none) (hl : ((s_SH L).take k).length = k) (hs : (s_SH L).take k ++ [(1, m)] = (s_SH L).take (k + 1)) (kk : e_r q (pc + e.2.2.1) ls (.ref k :: rest) (c_h xs L w u (k + 1)) v h2) : e_r q pc ls (.int (nI m) :: rest) (c_h xs L w u k) v h2 := by
  refine e_step (c := (pc + e.2.2.1, ls, .ref k :: rest, c_h xs L w u (k + 1))) hk hat (by rw [hi]; rfl) (by rw [hi]; rfl) ?_ kk
  rw [hi]
  dsimp only [s_x]
  rw [if_neg, nI_clamp (by omega), new_heap hz hr hl hs, hl]
  rintro (h | h)
  · exact nI_pos (by omega) h
  · exact absurd ((y_lt (a := 65536) (b := m) (by omega) (by omega)).mp h) (by omega)
theorem e_newr (hk : s_T q = some (r, cn)) {e : sE} {t m : Nat} (hat : s_at (s_cd r) pc = some e) (hi : e.2.1 = .anewarray t) (hm : m ≤ 65536) (hz : zW xs w k = fun _ => 0) (hr : rU u k = fun _ => none) (hl : ((s_SH L).take k).length = k) (hs : (s_SH L).take k ++ [(t + 2, m)] = (s_SH L).take (k + 1)) (kk : e_r q (pc + e.2.2.1) ls (.ref k :: rest) (c_h xs L w u (k + 1)) v h2) : e_r q pc ls (.int (nI m) :: rest) (c_h xs L w u k) v h2 := by
  refine e_step (c := (pc + e.2.2.1, ls, .ref k :: rest, c_h xs L w u (k + 1))) hk hat (by rw [hi]; rfl) (by rw [hi]; rfl) ?_ kk
  rw [hi]
  dsimp only [s_x]
  rw [if_neg, nI_clamp (by omega), new_heap hz hr hl hs, hl]
  rintro (h | h)
  · exact nI_pos (by omega) h
  · exact absurd ((y_lt (a := 65536) (b := m) (by omega) (by omega)).mp h) (by omega)
theorem e_putr (hk : s_T q = some (r, cn)) {e : sE} {ev a b : Nat} (hat : s_at (s_cd r) pc = some e) (hi : e.2.1 = .putfield ev) (hs : s_nth ((s_SH L).take k) a = some (0, ev / 1024)) (hkd : ev % 8 = 2) (hu : s_u u = (a, ev % 1024 / 8, b)) (kk : e_r q (pc + e.2.2.1) ls rest (c_h xs L w (u + 1) k) v h2) : e_r q pc ls (.ref b :: .ref a :: rest) (c_h xs L w u k) v h2 := by
  refine e_step (c := (pc + e.2.2.1, ls, rest, c_h xs L w (u + 1) k)) hk hat (by rw [hi]; rfl) (by rw [hi]; rfl) ?_ kk
  rw [hi]
  dsimp only [s_x]
  rw [hs]
  show (if ev / 1024 = ev / 1024 then (if ev % 8 = 2 then some (pc + e.2.2.1, ls, rest, (zW xs w, s_updR (rU u) a (ev % 1024 / 8) (some b), (s_SH L).take k)) else none) else none) = _
  rw [if_pos rfl, if_pos hkd]
  show _ = some (pc + e.2.2.1, ls, rest, (zW xs w, s_updR (rU u) (s_u u).1 (s_u u).2.1 (some (s_u u).2.2), (s_SH L).take k))
  rw [hu]
theorem e_aast (hk : s_T q = some (r, cn)) {e : sE} {a b t n i : Nat} (hat : s_at (s_cd r) pc = some e) (hi : e.2.1 = .aastore) (hs : s_nth ((s_SH L).take k) a = some (t + 2, n)) (hb : s_nth ((s_SH L).take k) b = some (0, t)) (hin : i < n) (hn : n < 2 ^ 31) (ha4 : 4 ≤ a) (hb4 : 4 ≤ b) (hu : s_u u = (a, i, b)) (kk : e_r q (pc + e.2.2.1) ls rest (c_h xs L w (u + 1) k) v h2) : e_r q pc ls (.ref b :: .int (nI i) :: .ref a :: rest) (c_h xs L w u k) v h2 := by
  refine e_step (c := (pc + e.2.2.1, ls, rest, c_h xs L w (u + 1) k)) hk hat (by rw [hi]; rfl) (by rw [hi]; rfl) ?_ kk
  rw [hi]
  dsimp only [s_x]
  rw [hs, hb]
  show (if s_outb (nI i) n = true ∨ a < 4 ∨ b < 4 ∨ t ≠ t then none else some (pc + e.2.2.1, ls, rest, (zW xs w, s_updR (rU u) a (nI i).toNatClampNeg (some b), (s_SH L).take k))) = _
  rw [if_neg (by
    rintro (h | h | h | h)
    · exact s_outb_nI hin hn h
    · omega
    · omega
    · exact h rfl), nI_clamp (by omega)]
  show _ = some (pc + e.2.2.1, ls, rest, (zW xs w, s_updR (rU u) (s_u u).1 (s_u u).2.1 (some (s_u u).2.2), (s_SH L).take k))
  rw [hu]
end NEW
theorem x_row {xs : Nat → Int32} {L w u k a n : Nat} (hz : zW xs w k = fun _ => 0) (hr : rU u k = fun _ => none) (hl : ((s_SH L).take k).length = k) (hs : (s_SH L).take k ++ [(1, n)] = (s_SH L).take (k + 1)) (hn : n ≤ 65536) (ha : s_nth ((s_SH L).take (k + 1)) a = some (0, 3)) (hu : s_u u = (a, 0, k)) : m_r 21 [.ref a, .int (nI n)] (c_h xs L w u k) none (c_h xs L w (u + 1) (k + 1)) := by
  refine m_of (ls := [.ref a, .int (nI n)]) hk_21 rfl rfl rfl ?_
  refine e_go hk_21 5 (c := (if s_cnd .ge (nI n) 0 = true then 13 else 9, [.ref a, .int (nI n)], [.ref a], c_h xs L w u k)) rfl ?_
  refine e_ge (a := 13) (b := 9) (x := nI n) (y := 0) (fun _ => ?_) (fun h => absurd (nI_pos' (by omega)) h)
  refine e_go hk_21 1 (c := (14, [.ref a, .int (nI n)], [.int (nI n), .ref a], c_h xs L w u k)) rfl ?_
  refine e_newa hk_21 (m := n) rfl rfl hn hz hr hl hs ?_
  show e_r 21 16 [.ref a, .int (nI n)] [.ref k, .ref a] (c_h xs L w u (k + 1)) _ _
  refine e_putr hk_21 (ev := 3074) rfl rfl ha rfl hu ?_
  exact e_ret hk_21 rfl rfl rfl rfl rfl
set_option maxRecDepth 20000 in
theorem k_28_5 {xs : Nat → Int32} {L : Nat} : m_r 28 [.ref 5] (c_h xs L 0 0 6) none (c_h xs L 3 12 18) := by
  refine m_of (ls := [.ref 5, s_no]) hk_28 rfl rfl rfl ?_
  refine e_go hk_28 3 (c := (5, [.ref 5, s_no], [.ref 5], c_h xs L 0 0 6)) rfl ?_
  refine e_newo hk_28 rfl rfl rfl (rU_fresh (by decide +kernel)) rfl rfl ?_
  show e_r 28 8 [.ref 5, s_no] [.ref 6, .ref 5] (c_h xs L 0 0 7) _ _
  refine e_go hk_28 3 (c := (13, [.ref 5, s_no], [.int 3, .ref 6, .ref 6, .ref 5], c_h xs L 0 0 7)) rfl ?_
  refine e_call hk_28 (as := [.ref 6, .int 3]) (rest := [.ref 6, .ref 5]) rfl rfl hk_21 rfl (Nat.le_of_ble_eq_true rfl) rfl (x_row (n := 3) rfl (rU_fresh (by decide +kernel)) rfl rfl (by decide) rfl rfl) ?_
  show e_r 28 16 [.ref 5, s_no] [.ref 6, .ref 5] (c_h xs L 0 1 8) _ _
  refine e_putr hk_28 (ev := 5122) rfl rfl rfl rfl rfl ?_
  show e_r 28 19 [.ref 5, s_no] [] (c_h xs L 0 2 8) _ _
  refine e_go hk_28 1 (c := (20, [.ref 5, s_no], [.ref 5], c_h xs L 0 2 8)) rfl ?_
  refine e_newo hk_28 rfl rfl rfl (rU_fresh (by decide +kernel)) rfl rfl ?_
  show e_r 28 23 [.ref 5, s_no] [.ref 8, .ref 5] (c_h xs L 0 2 9) _ _
  refine e_go hk_28 2 (c := (26, [.ref 5, s_no], [.int 60, .ref 8, .ref 8, .ref 5], c_h xs L 0 2 9)) rfl ?_
  refine e_call hk_28 (as := [.ref 8, .int 60]) (rest := [.ref 8, .ref 5]) rfl rfl hk_21 rfl (Nat.le_of_ble_eq_true rfl) rfl (x_row (n := 60) rfl (rU_fresh (by decide +kernel)) rfl rfl (by decide) rfl rfl) ?_
  show e_r 28 29 [.ref 5, s_no] [.ref 8, .ref 5] (c_h xs L 0 3 10) _ _
  refine e_putr hk_28 (ev := 5130) rfl rfl rfl rfl rfl ?_
  show e_r 28 32 [.ref 5, s_no] [] (c_h xs L 0 4 10) _ _
  refine e_go hk_28 1 (c := (33, [.ref 5, s_no], [.ref 5], c_h xs L 0 4 10)) rfl ?_
  refine e_newo hk_28 rfl rfl rfl (rU_fresh (by decide +kernel)) rfl rfl ?_
  show e_r 28 36 [.ref 5, s_no] [.ref 10, .ref 5] (c_h xs L 0 4 11) _ _
  refine e_go hk_28 2 (c := (39, [.ref 5, s_no], [.int 60, .ref 10, .ref 10, .ref 5], c_h xs L 0 4 11)) rfl ?_
  refine e_call hk_28 (as := [.ref 10, .int 60]) (rest := [.ref 10, .ref 5]) rfl rfl hk_21 rfl (Nat.le_of_ble_eq_true rfl) rfl (x_row (n := 60) rfl (rU_fresh (by decide +kernel)) rfl rfl (by decide) rfl rfl) ?_
  show e_r 28 42 [.ref 5, s_no] [.ref 10, .ref 5] (c_h xs L 0 5 12) _ _
  refine e_putr hk_28 (ev := 5138) rfl rfl rfl rfl rfl ?_
  show e_r 28 45 [.ref 5, s_no] [] (c_h xs L 0 6 12) _ _
  refine e_go hk_28 1 (c := (46, [.ref 5, s_no], [.ref 5], c_h xs L 0 6 12)) rfl ?_
  refine e_newo hk_28 rfl rfl rfl (rU_fresh (by decide +kernel)) rfl rfl ?_
  show e_r 28 49 [.ref 5, s_no] [.ref 12, .ref 5] (c_h xs L 0 6 13) _ _
  refine e_go hk_28 2 (c := (52, [.ref 5, s_no], [.int 60, .ref 12, .ref 12, .ref 5], c_h xs L 0 6 13)) rfl ?_
  refine e_call hk_28 (as := [.ref 12, .int 60]) (rest := [.ref 12, .ref 5]) rfl rfl hk_21 rfl (Nat.le_of_ble_eq_true rfl) rfl (x_row (n := 60) rfl (rU_fresh (by decide +kernel)) rfl rfl (by decide) rfl rfl) ?_
  show e_r 28 55 [.ref 5, s_no] [.ref 12, .ref 5] (c_h xs L 0 7 14) _ _
  refine e_putr hk_28 (ev := 5146) rfl rfl rfl rfl rfl ?_
  show e_r 28 58 [.ref 5, s_no] [] (c_h xs L 0 8 14) _ _
  refine e_go hk_28 1 (c := (59, [.ref 5, s_no], [.ref 5], c_h xs L 0 8 14)) rfl ?_
  refine e_newo hk_28 rfl rfl rfl (rU_fresh (by decide +kernel)) rfl rfl ?_
  show e_r 28 62 [.ref 5, s_no] [.ref 14, .ref 5] (c_h xs L 0 8 15) _ _
  refine e_go hk_28 2 (c := (65, [.ref 5, s_no], [.int 60, .ref 14, .ref 14, .ref 5], c_h xs L 0 8 15)) rfl ?_
  refine e_call hk_28 (as := [.ref 14, .int 60]) (rest := [.ref 14, .ref 5]) rfl rfl hk_21 rfl (Nat.le_of_ble_eq_true rfl) rfl (x_row (n := 60) rfl (rU_fresh (by decide +kernel)) rfl rfl (by decide) rfl rfl) ?_
  show e_r 28 68 [.ref 5, s_no] [.ref 14, .ref 5] (c_h xs L 0 9 16) _ _
  refine e_putr hk_28 (ev := 5154) rfl rfl rfl rfl rfl ?_
  show e_r 28 71 [.ref 5, s_no] [] (c_h xs L 0 10 16) _ _
  refine e_go hk_28 1 (c := (72, [.ref 5, s_no], [.ref 5], c_h xs L 0 10 16)) rfl ?_
  refine e_newo hk_28 rfl rfl rfl (rU_fresh (by decide +kernel)) rfl rfl ?_
  show e_r 28 75 [.ref 5, s_no] [.ref 16, .ref 5] (c_h xs L 0 10 17) _ _
  refine e_go hk_28 2 (c := (78, [.ref 5, s_no], [.int 60, .ref 16, .ref 16, .ref 5], c_h xs L 0 10 17)) rfl ?_
  refine e_call hk_28 (as := [.ref 16, .int 60]) (rest := [.ref 16, .ref 5]) rfl rfl hk_21 rfl (Nat.le_of_ble_eq_true rfl) rfl (x_row (n := 60) rfl (rU_fresh (by decide +kernel)) rfl rfl (by decide) rfl rfl) ?_
  show e_r 28 81 [.ref 5, s_no] [.ref 16, .ref 5] (c_h xs L 0 11 18) _ _
  refine e_putr hk_28 (ev := 5162) rfl rfl rfl rfl rfl ?_
  show e_r 28 84 [.ref 5, s_no] [] (c_h xs L 0 12 18) _ _
  refine e_go hk_28 6 (c := (if s_cnd .ge 0 3 = true then 113 else 94, [.ref 5, .int 0], [], c_h xs L 0 12 18)) rfl ?_
  refine e_ge (a := 113) (b := 94) (x := 0) (y := 3) (fun hc91 => absurd hc91 (by decide)) (fun hc91 => ?_)
  refine e_go hk_28 5 (c := (103, [.ref 5, .int 0], [.int 0, .ref 0, .int 0, .ref 6], c_h xs L 0 12 18)) rfl ?_
  refine e_ald hk_28 (a := 0) (j := 0) (n := 3) rfl rfl rfl (by decide) (by decide) ?_
  show e_r 28 104 [.ref 5, .int 0] [.int 70, .int 0, .ref 6] (c_h xs L 0 12 18) _ _
  refine e_call hk_28 (as := [.ref 6, .int 0, .int 70]) (rest := []) rfl rfl hk_23 rfl (Nat.le_of_ble_eq_true rfl) rfl (x_write (r := 6) (a := 7) (n := 3) (x := 70) rfl rfl rfl (by decide) (by decide) (j := 0) (by decide)) ?_
  show e_r 28 107 [.ref 5, .int 0] [] (c_h xs L 1 12 18) _ _
  refine e_go hk_28 6 (c := (if s_cnd .ge 1 3 = true then 113 else 94, [.ref 5, .int 1], [], c_h xs L 1 12 18)) rfl ?_
  refine e_ge (a := 113) (b := 94) (x := 1) (y := 3) (fun hc91 => absurd hc91 (by decide)) (fun hc91 => ?_)
  refine e_go hk_28 5 (c := (103, [.ref 5, .int 1], [.int 1, .ref 0, .int 1, .ref 6], c_h xs L 1 12 18)) rfl ?_
  refine e_ald hk_28 (a := 0) (j := 1) (n := 3) rfl rfl rfl (by decide) (by decide) ?_
  show e_r 28 104 [.ref 5, .int 1] [.int 40, .int 1, .ref 6] (c_h xs L 1 12 18) _ _
  refine e_call hk_28 (as := [.ref 6, .int 1, .int 40]) (rest := []) rfl rfl hk_23 rfl (Nat.le_of_ble_eq_true rfl) rfl (x_write (r := 6) (a := 7) (n := 3) (x := 40) rfl rfl rfl (by decide) (by decide) (j := 1) (by decide)) ?_
  show e_r 28 107 [.ref 5, .int 1] [] (c_h xs L 2 12 18) _ _
  refine e_go hk_28 6 (c := (if s_cnd .ge 2 3 = true then 113 else 94, [.ref 5, .int 2], [], c_h xs L 2 12 18)) rfl ?_
  refine e_ge (a := 113) (b := 94) (x := 2) (y := 3) (fun hc91 => absurd hc91 (by decide)) (fun hc91 => ?_)
  refine e_go hk_28 5 (c := (103, [.ref 5, .int 2], [.int 2, .ref 0, .int 2, .ref 6], c_h xs L 2 12 18)) rfl ?_
  refine e_ald hk_28 (a := 0) (j := 2) (n := 3) rfl rfl rfl (by decide) (by decide) ?_
  show e_r 28 104 [.ref 5, .int 2] [.int 2, .int 2, .ref 6] (c_h xs L 2 12 18) _ _
  refine e_call hk_28 (as := [.ref 6, .int 2, .int 2]) (rest := []) rfl rfl hk_23 rfl (Nat.le_of_ble_eq_true rfl) rfl (x_write (r := 6) (a := 7) (n := 3) (x := 2) rfl rfl rfl (by decide) (by decide) (j := 2) (by decide)) ?_
  show e_r 28 107 [.ref 5, .int 2] [] (c_h xs L 3 12 18) _ _
  refine e_go hk_28 6 (c := (if s_cnd .ge 3 3 = true then 113 else 94, [.ref 5, .int 3], [], c_h xs L 3 12 18)) rfl ?_
  refine e_ge (a := 113) (b := 94) (x := 3) (y := 3) (fun hc91 => ?_) (fun hc91 => absurd (by decide) hc91)
  exact e_ret hk_28 rfl rfl rfl rfl rfl
set_option maxRecDepth 20000 in
theorem k_28_20 {xs : Nat → Int32} {L : Nat} : m_r 28 [.ref 20] (c_h xs L 3 14 21) none (c_h xs L 6 26 33) := by
  refine m_of (ls := [.ref 20, s_no]) hk_28 rfl rfl rfl ?_
  refine e_go hk_28 3 (c := (5, [.ref 20, s_no], [.ref 20], c_h xs L 3 14 21)) rfl ?_
  refine e_newo hk_28 rfl rfl rfl (rU_fresh (by decide +kernel)) rfl rfl ?_
  show e_r 28 8 [.ref 20, s_no] [.ref 21, .ref 20] (c_h xs L 3 14 22) _ _
  refine e_go hk_28 3 (c := (13, [.ref 20, s_no], [.int 3, .ref 21, .ref 21, .ref 20], c_h xs L 3 14 22)) rfl ?_
  refine e_call hk_28 (as := [.ref 21, .int 3]) (rest := [.ref 21, .ref 20]) rfl rfl hk_21 rfl (Nat.le_of_ble_eq_true rfl) rfl (x_row (n := 3) rfl (rU_fresh (by decide +kernel)) rfl rfl (by decide) rfl rfl) ?_
  show e_r 28 16 [.ref 20, s_no] [.ref 21, .ref 20] (c_h xs L 3 15 23) _ _
  refine e_putr hk_28 (ev := 5122) rfl rfl rfl rfl rfl ?_
  show e_r 28 19 [.ref 20, s_no] [] (c_h xs L 3 16 23) _ _
  refine e_go hk_28 1 (c := (20, [.ref 20, s_no], [.ref 20], c_h xs L 3 16 23)) rfl ?_
  refine e_newo hk_28 rfl rfl rfl (rU_fresh (by decide +kernel)) rfl rfl ?_
  show e_r 28 23 [.ref 20, s_no] [.ref 23, .ref 20] (c_h xs L 3 16 24) _ _
  refine e_go hk_28 2 (c := (26, [.ref 20, s_no], [.int 60, .ref 23, .ref 23, .ref 20], c_h xs L 3 16 24)) rfl ?_
  refine e_call hk_28 (as := [.ref 23, .int 60]) (rest := [.ref 23, .ref 20]) rfl rfl hk_21 rfl (Nat.le_of_ble_eq_true rfl) rfl (x_row (n := 60) rfl (rU_fresh (by decide +kernel)) rfl rfl (by decide) rfl rfl) ?_
  show e_r 28 29 [.ref 20, s_no] [.ref 23, .ref 20] (c_h xs L 3 17 25) _ _
  refine e_putr hk_28 (ev := 5130) rfl rfl rfl rfl rfl ?_
  show e_r 28 32 [.ref 20, s_no] [] (c_h xs L 3 18 25) _ _
  refine e_go hk_28 1 (c := (33, [.ref 20, s_no], [.ref 20], c_h xs L 3 18 25)) rfl ?_
  refine e_newo hk_28 rfl rfl rfl (rU_fresh (by decide +kernel)) rfl rfl ?_
  show e_r 28 36 [.ref 20, s_no] [.ref 25, .ref 20] (c_h xs L 3 18 26) _ _
  refine e_go hk_28 2 (c := (39, [.ref 20, s_no], [.int 60, .ref 25, .ref 25, .ref 20], c_h xs L 3 18 26)) rfl ?_
  refine e_call hk_28 (as := [.ref 25, .int 60]) (rest := [.ref 25, .ref 20]) rfl rfl hk_21 rfl (Nat.le_of_ble_eq_true rfl) rfl (x_row (n := 60) rfl (rU_fresh (by decide +kernel)) rfl rfl (by decide) rfl rfl) ?_
  show e_r 28 42 [.ref 20, s_no] [.ref 25, .ref 20] (c_h xs L 3 19 27) _ _
  refine e_putr hk_28 (ev := 5138) rfl rfl rfl rfl rfl ?_
  show e_r 28 45 [.ref 20, s_no] [] (c_h xs L 3 20 27) _ _
  refine e_go hk_28 1 (c := (46, [.ref 20, s_no], [.ref 20], c_h xs L 3 20 27)) rfl ?_
  refine e_newo hk_28 rfl rfl rfl (rU_fresh (by decide +kernel)) rfl rfl ?_
  show e_r 28 49 [.ref 20, s_no] [.ref 27, .ref 20] (c_h xs L 3 20 28) _ _
  refine e_go hk_28 2 (c := (52, [.ref 20, s_no], [.int 60, .ref 27, .ref 27, .ref 20], c_h xs L 3 20 28)) rfl ?_
  refine e_call hk_28 (as := [.ref 27, .int 60]) (rest := [.ref 27, .ref 20]) rfl rfl hk_21 rfl (Nat.le_of_ble_eq_true rfl) rfl (x_row (n := 60) rfl (rU_fresh (by decide +kernel)) rfl rfl (by decide) rfl rfl) ?_
  show e_r 28 55 [.ref 20, s_no] [.ref 27, .ref 20] (c_h xs L 3 21 29) _ _
  refine e_putr hk_28 (ev := 5146) rfl rfl rfl rfl rfl ?_
  show e_r 28 58 [.ref 20, s_no] [] (c_h xs L 3 22 29) _ _
  refine e_go hk_28 1 (c := (59, [.ref 20, s_no], [.ref 20], c_h xs L 3 22 29)) rfl ?_
  refine e_newo hk_28 rfl rfl rfl (rU_fresh (by decide +kernel)) rfl rfl ?_
  show e_r 28 62 [.ref 20, s_no] [.ref 29, .ref 20] (c_h xs L 3 22 30) _ _
  refine e_go hk_28 2 (c := (65, [.ref 20, s_no], [.int 60, .ref 29, .ref 29, .ref 20], c_h xs L 3 22 30)) rfl ?_
  refine e_call hk_28 (as := [.ref 29, .int 60]) (rest := [.ref 29, .ref 20]) rfl rfl hk_21 rfl (Nat.le_of_ble_eq_true rfl) rfl (x_row (n := 60) rfl (rU_fresh (by decide +kernel)) rfl rfl (by decide) rfl rfl) ?_
  show e_r 28 68 [.ref 20, s_no] [.ref 29, .ref 20] (c_h xs L 3 23 31) _ _
  refine e_putr hk_28 (ev := 5154) rfl rfl rfl rfl rfl ?_
  show e_r 28 71 [.ref 20, s_no] [] (c_h xs L 3 24 31) _ _
  refine e_go hk_28 1 (c := (72, [.ref 20, s_no], [.ref 20], c_h xs L 3 24 31)) rfl ?_
  refine e_newo hk_28 rfl rfl rfl (rU_fresh (by decide +kernel)) rfl rfl ?_
  show e_r 28 75 [.ref 20, s_no] [.ref 31, .ref 20] (c_h xs L 3 24 32) _ _
  refine e_go hk_28 2 (c := (78, [.ref 20, s_no], [.int 60, .ref 31, .ref 31, .ref 20], c_h xs L 3 24 32)) rfl ?_
  refine e_call hk_28 (as := [.ref 31, .int 60]) (rest := [.ref 31, .ref 20]) rfl rfl hk_21 rfl (Nat.le_of_ble_eq_true rfl) rfl (x_row (n := 60) rfl (rU_fresh (by decide +kernel)) rfl rfl (by decide) rfl rfl) ?_
  show e_r 28 81 [.ref 20, s_no] [.ref 31, .ref 20] (c_h xs L 3 25 33) _ _
  refine e_putr hk_28 (ev := 5162) rfl rfl rfl rfl rfl ?_
  show e_r 28 84 [.ref 20, s_no] [] (c_h xs L 3 26 33) _ _
  refine e_go hk_28 6 (c := (if s_cnd .ge 0 3 = true then 113 else 94, [.ref 20, .int 0], [], c_h xs L 3 26 33)) rfl ?_
  refine e_ge (a := 113) (b := 94) (x := 0) (y := 3) (fun hc91 => absurd hc91 (by decide)) (fun hc91 => ?_)
  refine e_go hk_28 5 (c := (103, [.ref 20, .int 0], [.int 0, .ref 0, .int 0, .ref 21], c_h xs L 3 26 33)) rfl ?_
  refine e_ald hk_28 (a := 0) (j := 0) (n := 3) rfl rfl rfl (by decide) (by decide) ?_
  show e_r 28 104 [.ref 20, .int 0] [.int 70, .int 0, .ref 21] (c_h xs L 3 26 33) _ _
  refine e_call hk_28 (as := [.ref 21, .int 0, .int 70]) (rest := []) rfl rfl hk_23 rfl (Nat.le_of_ble_eq_true rfl) rfl (x_write (r := 21) (a := 22) (n := 3) (x := 70) rfl rfl rfl (by decide) (by decide) (j := 0) (by decide)) ?_
  show e_r 28 107 [.ref 20, .int 0] [] (c_h xs L 4 26 33) _ _
  refine e_go hk_28 6 (c := (if s_cnd .ge 1 3 = true then 113 else 94, [.ref 20, .int 1], [], c_h xs L 4 26 33)) rfl ?_
  refine e_ge (a := 113) (b := 94) (x := 1) (y := 3) (fun hc91 => absurd hc91 (by decide)) (fun hc91 => ?_)
  refine e_go hk_28 5 (c := (103, [.ref 20, .int 1], [.int 1, .ref 0, .int 1, .ref 21], c_h xs L 4 26 33)) rfl ?_
  refine e_ald hk_28 (a := 0) (j := 1) (n := 3) rfl rfl rfl (by decide) (by decide) ?_
  show e_r 28 104 [.ref 20, .int 1] [.int 40, .int 1, .ref 21] (c_h xs L 4 26 33) _ _
  refine e_call hk_28 (as := [.ref 21, .int 1, .int 40]) (rest := []) rfl rfl hk_23 rfl (Nat.le_of_ble_eq_true rfl) rfl (x_write (r := 21) (a := 22) (n := 3) (x := 40) rfl rfl rfl (by decide) (by decide) (j := 1) (by decide)) ?_
  show e_r 28 107 [.ref 20, .int 1] [] (c_h xs L 5 26 33) _ _
  refine e_go hk_28 6 (c := (if s_cnd .ge 2 3 = true then 113 else 94, [.ref 20, .int 2], [], c_h xs L 5 26 33)) rfl ?_
  refine e_ge (a := 113) (b := 94) (x := 2) (y := 3) (fun hc91 => absurd hc91 (by decide)) (fun hc91 => ?_)
  refine e_go hk_28 5 (c := (103, [.ref 20, .int 2], [.int 2, .ref 0, .int 2, .ref 21], c_h xs L 5 26 33)) rfl ?_
  refine e_ald hk_28 (a := 0) (j := 2) (n := 3) rfl rfl rfl (by decide) (by decide) ?_
  show e_r 28 104 [.ref 20, .int 2] [.int 2, .int 2, .ref 21] (c_h xs L 5 26 33) _ _
  refine e_call hk_28 (as := [.ref 21, .int 2, .int 2]) (rest := []) rfl rfl hk_23 rfl (Nat.le_of_ble_eq_true rfl) rfl (x_write (r := 21) (a := 22) (n := 3) (x := 2) rfl rfl rfl (by decide) (by decide) (j := 2) (by decide)) ?_
  show e_r 28 107 [.ref 20, .int 2] [] (c_h xs L 6 26 33) _ _
  refine e_go hk_28 6 (c := (if s_cnd .ge 3 3 = true then 113 else 94, [.ref 20, .int 3], [], c_h xs L 6 26 33)) rfl ?_
  refine e_ge (a := 113) (b := 94) (x := 3) (y := 3) (fun hc91 => ?_) (fun hc91 => absurd (by decide) hc91)
  exact e_ret hk_28 rfl rfl rfl rfl rfl
set_option maxRecDepth 20000 in
theorem k_28_33 {xs : Nat → Int32} {L : Nat} : m_r 28 [.ref 33] (c_h xs L 6 27 34) none (c_h xs L 9 39 46) := by
  refine m_of (ls := [.ref 33, s_no]) hk_28 rfl rfl rfl ?_
  refine e_go hk_28 3 (c := (5, [.ref 33, s_no], [.ref 33], c_h xs L 6 27 34)) rfl ?_
  refine e_newo hk_28 rfl rfl rfl (rU_fresh (by decide +kernel)) rfl rfl ?_
  show e_r 28 8 [.ref 33, s_no] [.ref 34, .ref 33] (c_h xs L 6 27 35) _ _
  refine e_go hk_28 3 (c := (13, [.ref 33, s_no], [.int 3, .ref 34, .ref 34, .ref 33], c_h xs L 6 27 35)) rfl ?_
  refine e_call hk_28 (as := [.ref 34, .int 3]) (rest := [.ref 34, .ref 33]) rfl rfl hk_21 rfl (Nat.le_of_ble_eq_true rfl) rfl (x_row (n := 3) rfl (rU_fresh (by decide +kernel)) rfl rfl (by decide) rfl rfl) ?_
  show e_r 28 16 [.ref 33, s_no] [.ref 34, .ref 33] (c_h xs L 6 28 36) _ _
  refine e_putr hk_28 (ev := 5122) rfl rfl rfl rfl rfl ?_
  show e_r 28 19 [.ref 33, s_no] [] (c_h xs L 6 29 36) _ _
  refine e_go hk_28 1 (c := (20, [.ref 33, s_no], [.ref 33], c_h xs L 6 29 36)) rfl ?_
  refine e_newo hk_28 rfl rfl rfl (rU_fresh (by decide +kernel)) rfl rfl ?_
  show e_r 28 23 [.ref 33, s_no] [.ref 36, .ref 33] (c_h xs L 6 29 37) _ _
  refine e_go hk_28 2 (c := (26, [.ref 33, s_no], [.int 60, .ref 36, .ref 36, .ref 33], c_h xs L 6 29 37)) rfl ?_
  refine e_call hk_28 (as := [.ref 36, .int 60]) (rest := [.ref 36, .ref 33]) rfl rfl hk_21 rfl (Nat.le_of_ble_eq_true rfl) rfl (x_row (n := 60) rfl (rU_fresh (by decide +kernel)) rfl rfl (by decide) rfl rfl) ?_
  show e_r 28 29 [.ref 33, s_no] [.ref 36, .ref 33] (c_h xs L 6 30 38) _ _
  refine e_putr hk_28 (ev := 5130) rfl rfl rfl rfl rfl ?_
  show e_r 28 32 [.ref 33, s_no] [] (c_h xs L 6 31 38) _ _
  refine e_go hk_28 1 (c := (33, [.ref 33, s_no], [.ref 33], c_h xs L 6 31 38)) rfl ?_
  refine e_newo hk_28 rfl rfl rfl (rU_fresh (by decide +kernel)) rfl rfl ?_
  show e_r 28 36 [.ref 33, s_no] [.ref 38, .ref 33] (c_h xs L 6 31 39) _ _
  refine e_go hk_28 2 (c := (39, [.ref 33, s_no], [.int 60, .ref 38, .ref 38, .ref 33], c_h xs L 6 31 39)) rfl ?_
  refine e_call hk_28 (as := [.ref 38, .int 60]) (rest := [.ref 38, .ref 33]) rfl rfl hk_21 rfl (Nat.le_of_ble_eq_true rfl) rfl (x_row (n := 60) rfl (rU_fresh (by decide +kernel)) rfl rfl (by decide) rfl rfl) ?_
  show e_r 28 42 [.ref 33, s_no] [.ref 38, .ref 33] (c_h xs L 6 32 40) _ _
  refine e_putr hk_28 (ev := 5138) rfl rfl rfl rfl rfl ?_
  show e_r 28 45 [.ref 33, s_no] [] (c_h xs L 6 33 40) _ _
  refine e_go hk_28 1 (c := (46, [.ref 33, s_no], [.ref 33], c_h xs L 6 33 40)) rfl ?_
  refine e_newo hk_28 rfl rfl rfl (rU_fresh (by decide +kernel)) rfl rfl ?_
  show e_r 28 49 [.ref 33, s_no] [.ref 40, .ref 33] (c_h xs L 6 33 41) _ _
  refine e_go hk_28 2 (c := (52, [.ref 33, s_no], [.int 60, .ref 40, .ref 40, .ref 33], c_h xs L 6 33 41)) rfl ?_
  refine e_call hk_28 (as := [.ref 40, .int 60]) (rest := [.ref 40, .ref 33]) rfl rfl hk_21 rfl (Nat.le_of_ble_eq_true rfl) rfl (x_row (n := 60) rfl (rU_fresh (by decide +kernel)) rfl rfl (by decide) rfl rfl) ?_
  show e_r 28 55 [.ref 33, s_no] [.ref 40, .ref 33] (c_h xs L 6 34 42) _ _
  refine e_putr hk_28 (ev := 5146) rfl rfl rfl rfl rfl ?_
  show e_r 28 58 [.ref 33, s_no] [] (c_h xs L 6 35 42) _ _
  refine e_go hk_28 1 (c := (59, [.ref 33, s_no], [.ref 33], c_h xs L 6 35 42)) rfl ?_
  refine e_newo hk_28 rfl rfl rfl (rU_fresh (by decide +kernel)) rfl rfl ?_
  show e_r 28 62 [.ref 33, s_no] [.ref 42, .ref 33] (c_h xs L 6 35 43) _ _
  refine e_go hk_28 2 (c := (65, [.ref 33, s_no], [.int 60, .ref 42, .ref 42, .ref 33], c_h xs L 6 35 43)) rfl ?_
  refine e_call hk_28 (as := [.ref 42, .int 60]) (rest := [.ref 42, .ref 33]) rfl rfl hk_21 rfl (Nat.le_of_ble_eq_true rfl) rfl (x_row (n := 60) rfl (rU_fresh (by decide +kernel)) rfl rfl (by decide) rfl rfl) ?_
  show e_r 28 68 [.ref 33, s_no] [.ref 42, .ref 33] (c_h xs L 6 36 44) _ _
  refine e_putr hk_28 (ev := 5154) rfl rfl rfl rfl rfl ?_
  show e_r 28 71 [.ref 33, s_no] [] (c_h xs L 6 37 44) _ _
  refine e_go hk_28 1 (c := (72, [.ref 33, s_no], [.ref 33], c_h xs L 6 37 44)) rfl ?_
  refine e_newo hk_28 rfl rfl rfl (rU_fresh (by decide +kernel)) rfl rfl ?_
  show e_r 28 75 [.ref 33, s_no] [.ref 44, .ref 33] (c_h xs L 6 37 45) _ _
  refine e_go hk_28 2 (c := (78, [.ref 33, s_no], [.int 60, .ref 44, .ref 44, .ref 33], c_h xs L 6 37 45)) rfl ?_
  refine e_call hk_28 (as := [.ref 44, .int 60]) (rest := [.ref 44, .ref 33]) rfl rfl hk_21 rfl (Nat.le_of_ble_eq_true rfl) rfl (x_row (n := 60) rfl (rU_fresh (by decide +kernel)) rfl rfl (by decide) rfl rfl) ?_
  show e_r 28 81 [.ref 33, s_no] [.ref 44, .ref 33] (c_h xs L 6 38 46) _ _
  refine e_putr hk_28 (ev := 5162) rfl rfl rfl rfl rfl ?_
  show e_r 28 84 [.ref 33, s_no] [] (c_h xs L 6 39 46) _ _
  refine e_go hk_28 6 (c := (if s_cnd .ge 0 3 = true then 113 else 94, [.ref 33, .int 0], [], c_h xs L 6 39 46)) rfl ?_
  refine e_ge (a := 113) (b := 94) (x := 0) (y := 3) (fun hc91 => absurd hc91 (by decide)) (fun hc91 => ?_)
  refine e_go hk_28 5 (c := (103, [.ref 33, .int 0], [.int 0, .ref 0, .int 0, .ref 34], c_h xs L 6 39 46)) rfl ?_
  refine e_ald hk_28 (a := 0) (j := 0) (n := 3) rfl rfl rfl (by decide) (by decide) ?_
  show e_r 28 104 [.ref 33, .int 0] [.int 70, .int 0, .ref 34] (c_h xs L 6 39 46) _ _
  refine e_call hk_28 (as := [.ref 34, .int 0, .int 70]) (rest := []) rfl rfl hk_23 rfl (Nat.le_of_ble_eq_true rfl) rfl (x_write (r := 34) (a := 35) (n := 3) (x := 70) rfl rfl rfl (by decide) (by decide) (j := 0) (by decide)) ?_
  show e_r 28 107 [.ref 33, .int 0] [] (c_h xs L 7 39 46) _ _
  refine e_go hk_28 6 (c := (if s_cnd .ge 1 3 = true then 113 else 94, [.ref 33, .int 1], [], c_h xs L 7 39 46)) rfl ?_
  refine e_ge (a := 113) (b := 94) (x := 1) (y := 3) (fun hc91 => absurd hc91 (by decide)) (fun hc91 => ?_)
  refine e_go hk_28 5 (c := (103, [.ref 33, .int 1], [.int 1, .ref 0, .int 1, .ref 34], c_h xs L 7 39 46)) rfl ?_
  refine e_ald hk_28 (a := 0) (j := 1) (n := 3) rfl rfl rfl (by decide) (by decide) ?_
  show e_r 28 104 [.ref 33, .int 1] [.int 40, .int 1, .ref 34] (c_h xs L 7 39 46) _ _
  refine e_call hk_28 (as := [.ref 34, .int 1, .int 40]) (rest := []) rfl rfl hk_23 rfl (Nat.le_of_ble_eq_true rfl) rfl (x_write (r := 34) (a := 35) (n := 3) (x := 40) rfl rfl rfl (by decide) (by decide) (j := 1) (by decide)) ?_
  show e_r 28 107 [.ref 33, .int 1] [] (c_h xs L 8 39 46) _ _
  refine e_go hk_28 6 (c := (if s_cnd .ge 2 3 = true then 113 else 94, [.ref 33, .int 2], [], c_h xs L 8 39 46)) rfl ?_
  refine e_ge (a := 113) (b := 94) (x := 2) (y := 3) (fun hc91 => absurd hc91 (by decide)) (fun hc91 => ?_)
  refine e_go hk_28 5 (c := (103, [.ref 33, .int 2], [.int 2, .ref 0, .int 2, .ref 34], c_h xs L 8 39 46)) rfl ?_
  refine e_ald hk_28 (a := 0) (j := 2) (n := 3) rfl rfl rfl (by decide) (by decide) ?_
  show e_r 28 104 [.ref 33, .int 2] [.int 2, .int 2, .ref 34] (c_h xs L 8 39 46) _ _
  refine e_call hk_28 (as := [.ref 34, .int 2, .int 2]) (rest := []) rfl rfl hk_23 rfl (Nat.le_of_ble_eq_true rfl) rfl (x_write (r := 34) (a := 35) (n := 3) (x := 2) rfl rfl rfl (by decide) (by decide) (j := 2) (by decide)) ?_
  show e_r 28 107 [.ref 33, .int 2] [] (c_h xs L 9 39 46) _ _
  refine e_go hk_28 6 (c := (if s_cnd .ge 3 3 = true then 113 else 94, [.ref 33, .int 3], [], c_h xs L 9 39 46)) rfl ?_
  refine e_ge (a := 113) (b := 94) (x := 3) (y := 3) (fun hc91 => ?_) (fun hc91 => absurd (by decide) hc91)
  exact e_ret hk_28 rfl rfl rfl rfl rfl
set_option maxRecDepth 20000 in
theorem k_28_46 {xs : Nat → Int32} {L : Nat} : m_r 28 [.ref 46] (c_h xs L 9 40 47) none (c_h xs L 12 52 59) := by
  refine m_of (ls := [.ref 46, s_no]) hk_28 rfl rfl rfl ?_
  refine e_go hk_28 3 (c := (5, [.ref 46, s_no], [.ref 46], c_h xs L 9 40 47)) rfl ?_
  refine e_newo hk_28 rfl rfl rfl (rU_fresh (by decide +kernel)) rfl rfl ?_
  show e_r 28 8 [.ref 46, s_no] [.ref 47, .ref 46] (c_h xs L 9 40 48) _ _
  refine e_go hk_28 3 (c := (13, [.ref 46, s_no], [.int 3, .ref 47, .ref 47, .ref 46], c_h xs L 9 40 48)) rfl ?_
  refine e_call hk_28 (as := [.ref 47, .int 3]) (rest := [.ref 47, .ref 46]) rfl rfl hk_21 rfl (Nat.le_of_ble_eq_true rfl) rfl (x_row (n := 3) rfl (rU_fresh (by decide +kernel)) rfl rfl (by decide) rfl rfl) ?_
  show e_r 28 16 [.ref 46, s_no] [.ref 47, .ref 46] (c_h xs L 9 41 49) _ _
  refine e_putr hk_28 (ev := 5122) rfl rfl rfl rfl rfl ?_
  show e_r 28 19 [.ref 46, s_no] [] (c_h xs L 9 42 49) _ _
  refine e_go hk_28 1 (c := (20, [.ref 46, s_no], [.ref 46], c_h xs L 9 42 49)) rfl ?_
  refine e_newo hk_28 rfl rfl rfl (rU_fresh (by decide +kernel)) rfl rfl ?_
  show e_r 28 23 [.ref 46, s_no] [.ref 49, .ref 46] (c_h xs L 9 42 50) _ _
  refine e_go hk_28 2 (c := (26, [.ref 46, s_no], [.int 60, .ref 49, .ref 49, .ref 46], c_h xs L 9 42 50)) rfl ?_
  refine e_call hk_28 (as := [.ref 49, .int 60]) (rest := [.ref 49, .ref 46]) rfl rfl hk_21 rfl (Nat.le_of_ble_eq_true rfl) rfl (x_row (n := 60) rfl (rU_fresh (by decide +kernel)) rfl rfl (by decide) rfl rfl) ?_
  show e_r 28 29 [.ref 46, s_no] [.ref 49, .ref 46] (c_h xs L 9 43 51) _ _
  refine e_putr hk_28 (ev := 5130) rfl rfl rfl rfl rfl ?_
  show e_r 28 32 [.ref 46, s_no] [] (c_h xs L 9 44 51) _ _
  refine e_go hk_28 1 (c := (33, [.ref 46, s_no], [.ref 46], c_h xs L 9 44 51)) rfl ?_
  refine e_newo hk_28 rfl rfl rfl (rU_fresh (by decide +kernel)) rfl rfl ?_
  show e_r 28 36 [.ref 46, s_no] [.ref 51, .ref 46] (c_h xs L 9 44 52) _ _
  refine e_go hk_28 2 (c := (39, [.ref 46, s_no], [.int 60, .ref 51, .ref 51, .ref 46], c_h xs L 9 44 52)) rfl ?_
  refine e_call hk_28 (as := [.ref 51, .int 60]) (rest := [.ref 51, .ref 46]) rfl rfl hk_21 rfl (Nat.le_of_ble_eq_true rfl) rfl (x_row (n := 60) rfl (rU_fresh (by decide +kernel)) rfl rfl (by decide) rfl rfl) ?_
  show e_r 28 42 [.ref 46, s_no] [.ref 51, .ref 46] (c_h xs L 9 45 53) _ _
  refine e_putr hk_28 (ev := 5138) rfl rfl rfl rfl rfl ?_
  show e_r 28 45 [.ref 46, s_no] [] (c_h xs L 9 46 53) _ _
  refine e_go hk_28 1 (c := (46, [.ref 46, s_no], [.ref 46], c_h xs L 9 46 53)) rfl ?_
  refine e_newo hk_28 rfl rfl rfl (rU_fresh (by decide +kernel)) rfl rfl ?_
  show e_r 28 49 [.ref 46, s_no] [.ref 53, .ref 46] (c_h xs L 9 46 54) _ _
  refine e_go hk_28 2 (c := (52, [.ref 46, s_no], [.int 60, .ref 53, .ref 53, .ref 46], c_h xs L 9 46 54)) rfl ?_
  refine e_call hk_28 (as := [.ref 53, .int 60]) (rest := [.ref 53, .ref 46]) rfl rfl hk_21 rfl (Nat.le_of_ble_eq_true rfl) rfl (x_row (n := 60) rfl (rU_fresh (by decide +kernel)) rfl rfl (by decide) rfl rfl) ?_
  show e_r 28 55 [.ref 46, s_no] [.ref 53, .ref 46] (c_h xs L 9 47 55) _ _
  refine e_putr hk_28 (ev := 5146) rfl rfl rfl rfl rfl ?_
  show e_r 28 58 [.ref 46, s_no] [] (c_h xs L 9 48 55) _ _
  refine e_go hk_28 1 (c := (59, [.ref 46, s_no], [.ref 46], c_h xs L 9 48 55)) rfl ?_
  refine e_newo hk_28 rfl rfl rfl (rU_fresh (by decide +kernel)) rfl rfl ?_
  show e_r 28 62 [.ref 46, s_no] [.ref 55, .ref 46] (c_h xs L 9 48 56) _ _
  refine e_go hk_28 2 (c := (65, [.ref 46, s_no], [.int 60, .ref 55, .ref 55, .ref 46], c_h xs L 9 48 56)) rfl ?_
  refine e_call hk_28 (as := [.ref 55, .int 60]) (rest := [.ref 55, .ref 46]) rfl rfl hk_21 rfl (Nat.le_of_ble_eq_true rfl) rfl (x_row (n := 60) rfl (rU_fresh (by decide +kernel)) rfl rfl (by decide) rfl rfl) ?_
  show e_r 28 68 [.ref 46, s_no] [.ref 55, .ref 46] (c_h xs L 9 49 57) _ _
  refine e_putr hk_28 (ev := 5154) rfl rfl rfl rfl rfl ?_
  show e_r 28 71 [.ref 46, s_no] [] (c_h xs L 9 50 57) _ _
  refine e_go hk_28 1 (c := (72, [.ref 46, s_no], [.ref 46], c_h xs L 9 50 57)) rfl ?_
  refine e_newo hk_28 rfl rfl rfl (rU_fresh (by decide +kernel)) rfl rfl ?_
  show e_r 28 75 [.ref 46, s_no] [.ref 57, .ref 46] (c_h xs L 9 50 58) _ _
  refine e_go hk_28 2 (c := (78, [.ref 46, s_no], [.int 60, .ref 57, .ref 57, .ref 46], c_h xs L 9 50 58)) rfl ?_
  refine e_call hk_28 (as := [.ref 57, .int 60]) (rest := [.ref 57, .ref 46]) rfl rfl hk_21 rfl (Nat.le_of_ble_eq_true rfl) rfl (x_row (n := 60) rfl (rU_fresh (by decide +kernel)) rfl rfl (by decide) rfl rfl) ?_
  show e_r 28 81 [.ref 46, s_no] [.ref 57, .ref 46] (c_h xs L 9 51 59) _ _
  refine e_putr hk_28 (ev := 5162) rfl rfl rfl rfl rfl ?_
  show e_r 28 84 [.ref 46, s_no] [] (c_h xs L 9 52 59) _ _
  refine e_go hk_28 6 (c := (if s_cnd .ge 0 3 = true then 113 else 94, [.ref 46, .int 0], [], c_h xs L 9 52 59)) rfl ?_
  refine e_ge (a := 113) (b := 94) (x := 0) (y := 3) (fun hc91 => absurd hc91 (by decide)) (fun hc91 => ?_)
  refine e_go hk_28 5 (c := (103, [.ref 46, .int 0], [.int 0, .ref 0, .int 0, .ref 47], c_h xs L 9 52 59)) rfl ?_
  refine e_ald hk_28 (a := 0) (j := 0) (n := 3) rfl rfl rfl (by decide) (by decide) ?_
  show e_r 28 104 [.ref 46, .int 0] [.int 70, .int 0, .ref 47] (c_h xs L 9 52 59) _ _
  refine e_call hk_28 (as := [.ref 47, .int 0, .int 70]) (rest := []) rfl rfl hk_23 rfl (Nat.le_of_ble_eq_true rfl) rfl (x_write (r := 47) (a := 48) (n := 3) (x := 70) rfl rfl rfl (by decide) (by decide) (j := 0) (by decide)) ?_
  show e_r 28 107 [.ref 46, .int 0] [] (c_h xs L 10 52 59) _ _
  refine e_go hk_28 6 (c := (if s_cnd .ge 1 3 = true then 113 else 94, [.ref 46, .int 1], [], c_h xs L 10 52 59)) rfl ?_
  refine e_ge (a := 113) (b := 94) (x := 1) (y := 3) (fun hc91 => absurd hc91 (by decide)) (fun hc91 => ?_)
  refine e_go hk_28 5 (c := (103, [.ref 46, .int 1], [.int 1, .ref 0, .int 1, .ref 47], c_h xs L 10 52 59)) rfl ?_
  refine e_ald hk_28 (a := 0) (j := 1) (n := 3) rfl rfl rfl (by decide) (by decide) ?_
  show e_r 28 104 [.ref 46, .int 1] [.int 40, .int 1, .ref 47] (c_h xs L 10 52 59) _ _
  refine e_call hk_28 (as := [.ref 47, .int 1, .int 40]) (rest := []) rfl rfl hk_23 rfl (Nat.le_of_ble_eq_true rfl) rfl (x_write (r := 47) (a := 48) (n := 3) (x := 40) rfl rfl rfl (by decide) (by decide) (j := 1) (by decide)) ?_
  show e_r 28 107 [.ref 46, .int 1] [] (c_h xs L 11 52 59) _ _
  refine e_go hk_28 6 (c := (if s_cnd .ge 2 3 = true then 113 else 94, [.ref 46, .int 2], [], c_h xs L 11 52 59)) rfl ?_
  refine e_ge (a := 113) (b := 94) (x := 2) (y := 3) (fun hc91 => absurd hc91 (by decide)) (fun hc91 => ?_)
  refine e_go hk_28 5 (c := (103, [.ref 46, .int 2], [.int 2, .ref 0, .int 2, .ref 47], c_h xs L 11 52 59)) rfl ?_
  refine e_ald hk_28 (a := 0) (j := 2) (n := 3) rfl rfl rfl (by decide) (by decide) ?_
  show e_r 28 104 [.ref 46, .int 2] [.int 2, .int 2, .ref 47] (c_h xs L 11 52 59) _ _
  refine e_call hk_28 (as := [.ref 47, .int 2, .int 2]) (rest := []) rfl rfl hk_23 rfl (Nat.le_of_ble_eq_true rfl) rfl (x_write (r := 47) (a := 48) (n := 3) (x := 2) rfl rfl rfl (by decide) (by decide) (j := 2) (by decide)) ?_
  show e_r 28 107 [.ref 46, .int 2] [] (c_h xs L 12 52 59) _ _
  refine e_go hk_28 6 (c := (if s_cnd .ge 3 3 = true then 113 else 94, [.ref 46, .int 3], [], c_h xs L 12 52 59)) rfl ?_
  refine e_ge (a := 113) (b := 94) (x := 3) (y := 3) (fun hc91 => ?_) (fun hc91 => absurd (by decide) hc91)
  exact e_ret hk_28 rfl rfl rfl rfl rfl
set_option maxRecDepth 20000 in
theorem k_28_59 {xs : Nat → Int32} {L : Nat} : m_r 28 [.ref 59] (c_h xs L 12 53 60) none (c_h xs L 15 65 72) := by
  refine m_of (ls := [.ref 59, s_no]) hk_28 rfl rfl rfl ?_
  refine e_go hk_28 3 (c := (5, [.ref 59, s_no], [.ref 59], c_h xs L 12 53 60)) rfl ?_
  refine e_newo hk_28 rfl rfl rfl (rU_fresh (by decide +kernel)) rfl rfl ?_
  show e_r 28 8 [.ref 59, s_no] [.ref 60, .ref 59] (c_h xs L 12 53 61) _ _
  refine e_go hk_28 3 (c := (13, [.ref 59, s_no], [.int 3, .ref 60, .ref 60, .ref 59], c_h xs L 12 53 61)) rfl ?_
  refine e_call hk_28 (as := [.ref 60, .int 3]) (rest := [.ref 60, .ref 59]) rfl rfl hk_21 rfl (Nat.le_of_ble_eq_true rfl) rfl (x_row (n := 3) rfl (rU_fresh (by decide +kernel)) rfl rfl (by decide) rfl rfl) ?_
  show e_r 28 16 [.ref 59, s_no] [.ref 60, .ref 59] (c_h xs L 12 54 62) _ _
  refine e_putr hk_28 (ev := 5122) rfl rfl rfl rfl rfl ?_
  show e_r 28 19 [.ref 59, s_no] [] (c_h xs L 12 55 62) _ _
  refine e_go hk_28 1 (c := (20, [.ref 59, s_no], [.ref 59], c_h xs L 12 55 62)) rfl ?_
  refine e_newo hk_28 rfl rfl rfl (rU_fresh (by decide +kernel)) rfl rfl ?_
  show e_r 28 23 [.ref 59, s_no] [.ref 62, .ref 59] (c_h xs L 12 55 63) _ _
  refine e_go hk_28 2 (c := (26, [.ref 59, s_no], [.int 60, .ref 62, .ref 62, .ref 59], c_h xs L 12 55 63)) rfl ?_
  refine e_call hk_28 (as := [.ref 62, .int 60]) (rest := [.ref 62, .ref 59]) rfl rfl hk_21 rfl (Nat.le_of_ble_eq_true rfl) rfl (x_row (n := 60) rfl (rU_fresh (by decide +kernel)) rfl rfl (by decide) rfl rfl) ?_
  show e_r 28 29 [.ref 59, s_no] [.ref 62, .ref 59] (c_h xs L 12 56 64) _ _
  refine e_putr hk_28 (ev := 5130) rfl rfl rfl rfl rfl ?_
  show e_r 28 32 [.ref 59, s_no] [] (c_h xs L 12 57 64) _ _
  refine e_go hk_28 1 (c := (33, [.ref 59, s_no], [.ref 59], c_h xs L 12 57 64)) rfl ?_
  refine e_newo hk_28 rfl rfl rfl (rU_fresh (by decide +kernel)) rfl rfl ?_
  show e_r 28 36 [.ref 59, s_no] [.ref 64, .ref 59] (c_h xs L 12 57 65) _ _
  refine e_go hk_28 2 (c := (39, [.ref 59, s_no], [.int 60, .ref 64, .ref 64, .ref 59], c_h xs L 12 57 65)) rfl ?_
  refine e_call hk_28 (as := [.ref 64, .int 60]) (rest := [.ref 64, .ref 59]) rfl rfl hk_21 rfl (Nat.le_of_ble_eq_true rfl) rfl (x_row (n := 60) rfl (rU_fresh (by decide +kernel)) rfl rfl (by decide) rfl rfl) ?_
  show e_r 28 42 [.ref 59, s_no] [.ref 64, .ref 59] (c_h xs L 12 58 66) _ _
  refine e_putr hk_28 (ev := 5138) rfl rfl rfl rfl rfl ?_
  show e_r 28 45 [.ref 59, s_no] [] (c_h xs L 12 59 66) _ _
  refine e_go hk_28 1 (c := (46, [.ref 59, s_no], [.ref 59], c_h xs L 12 59 66)) rfl ?_
  refine e_newo hk_28 rfl rfl rfl (rU_fresh (by decide +kernel)) rfl rfl ?_
  show e_r 28 49 [.ref 59, s_no] [.ref 66, .ref 59] (c_h xs L 12 59 67) _ _
  refine e_go hk_28 2 (c := (52, [.ref 59, s_no], [.int 60, .ref 66, .ref 66, .ref 59], c_h xs L 12 59 67)) rfl ?_
  refine e_call hk_28 (as := [.ref 66, .int 60]) (rest := [.ref 66, .ref 59]) rfl rfl hk_21 rfl (Nat.le_of_ble_eq_true rfl) rfl (x_row (n := 60) rfl (rU_fresh (by decide +kernel)) rfl rfl (by decide) rfl rfl) ?_
  show e_r 28 55 [.ref 59, s_no] [.ref 66, .ref 59] (c_h xs L 12 60 68) _ _
  refine e_putr hk_28 (ev := 5146) rfl rfl rfl rfl rfl ?_
  show e_r 28 58 [.ref 59, s_no] [] (c_h xs L 12 61 68) _ _
  refine e_go hk_28 1 (c := (59, [.ref 59, s_no], [.ref 59], c_h xs L 12 61 68)) rfl ?_
  refine e_newo hk_28 rfl rfl rfl (rU_fresh (by decide +kernel)) rfl rfl ?_
  show e_r 28 62 [.ref 59, s_no] [.ref 68, .ref 59] (c_h xs L 12 61 69) _ _
  refine e_go hk_28 2 (c := (65, [.ref 59, s_no], [.int 60, .ref 68, .ref 68, .ref 59], c_h xs L 12 61 69)) rfl ?_
  refine e_call hk_28 (as := [.ref 68, .int 60]) (rest := [.ref 68, .ref 59]) rfl rfl hk_21 rfl (Nat.le_of_ble_eq_true rfl) rfl (x_row (n := 60) rfl (rU_fresh (by decide +kernel)) rfl rfl (by decide) rfl rfl) ?_
  show e_r 28 68 [.ref 59, s_no] [.ref 68, .ref 59] (c_h xs L 12 62 70) _ _
  refine e_putr hk_28 (ev := 5154) rfl rfl rfl rfl rfl ?_
  show e_r 28 71 [.ref 59, s_no] [] (c_h xs L 12 63 70) _ _
  refine e_go hk_28 1 (c := (72, [.ref 59, s_no], [.ref 59], c_h xs L 12 63 70)) rfl ?_
  refine e_newo hk_28 rfl rfl rfl (rU_fresh (by decide +kernel)) rfl rfl ?_
  show e_r 28 75 [.ref 59, s_no] [.ref 70, .ref 59] (c_h xs L 12 63 71) _ _
  refine e_go hk_28 2 (c := (78, [.ref 59, s_no], [.int 60, .ref 70, .ref 70, .ref 59], c_h xs L 12 63 71)) rfl ?_
  refine e_call hk_28 (as := [.ref 70, .int 60]) (rest := [.ref 70, .ref 59]) rfl rfl hk_21 rfl (Nat.le_of_ble_eq_true rfl) rfl (x_row (n := 60) rfl (rU_fresh (by decide +kernel)) rfl rfl (by decide) rfl rfl) ?_
  show e_r 28 81 [.ref 59, s_no] [.ref 70, .ref 59] (c_h xs L 12 64 72) _ _
  refine e_putr hk_28 (ev := 5162) rfl rfl rfl rfl rfl ?_
  show e_r 28 84 [.ref 59, s_no] [] (c_h xs L 12 65 72) _ _
  refine e_go hk_28 6 (c := (if s_cnd .ge 0 3 = true then 113 else 94, [.ref 59, .int 0], [], c_h xs L 12 65 72)) rfl ?_
  refine e_ge (a := 113) (b := 94) (x := 0) (y := 3) (fun hc91 => absurd hc91 (by decide)) (fun hc91 => ?_)
  refine e_go hk_28 5 (c := (103, [.ref 59, .int 0], [.int 0, .ref 0, .int 0, .ref 60], c_h xs L 12 65 72)) rfl ?_
  refine e_ald hk_28 (a := 0) (j := 0) (n := 3) rfl rfl rfl (by decide) (by decide) ?_
  show e_r 28 104 [.ref 59, .int 0] [.int 70, .int 0, .ref 60] (c_h xs L 12 65 72) _ _
  refine e_call hk_28 (as := [.ref 60, .int 0, .int 70]) (rest := []) rfl rfl hk_23 rfl (Nat.le_of_ble_eq_true rfl) rfl (x_write (r := 60) (a := 61) (n := 3) (x := 70) rfl rfl rfl (by decide) (by decide) (j := 0) (by decide)) ?_
  show e_r 28 107 [.ref 59, .int 0] [] (c_h xs L 13 65 72) _ _
  refine e_go hk_28 6 (c := (if s_cnd .ge 1 3 = true then 113 else 94, [.ref 59, .int 1], [], c_h xs L 13 65 72)) rfl ?_
  refine e_ge (a := 113) (b := 94) (x := 1) (y := 3) (fun hc91 => absurd hc91 (by decide)) (fun hc91 => ?_)
  refine e_go hk_28 5 (c := (103, [.ref 59, .int 1], [.int 1, .ref 0, .int 1, .ref 60], c_h xs L 13 65 72)) rfl ?_
  refine e_ald hk_28 (a := 0) (j := 1) (n := 3) rfl rfl rfl (by decide) (by decide) ?_
  show e_r 28 104 [.ref 59, .int 1] [.int 40, .int 1, .ref 60] (c_h xs L 13 65 72) _ _
  refine e_call hk_28 (as := [.ref 60, .int 1, .int 40]) (rest := []) rfl rfl hk_23 rfl (Nat.le_of_ble_eq_true rfl) rfl (x_write (r := 60) (a := 61) (n := 3) (x := 40) rfl rfl rfl (by decide) (by decide) (j := 1) (by decide)) ?_
  show e_r 28 107 [.ref 59, .int 1] [] (c_h xs L 14 65 72) _ _
  refine e_go hk_28 6 (c := (if s_cnd .ge 2 3 = true then 113 else 94, [.ref 59, .int 2], [], c_h xs L 14 65 72)) rfl ?_
  refine e_ge (a := 113) (b := 94) (x := 2) (y := 3) (fun hc91 => absurd hc91 (by decide)) (fun hc91 => ?_)
  refine e_go hk_28 5 (c := (103, [.ref 59, .int 2], [.int 2, .ref 0, .int 2, .ref 60], c_h xs L 14 65 72)) rfl ?_
  refine e_ald hk_28 (a := 0) (j := 2) (n := 3) rfl rfl rfl (by decide) (by decide) ?_
  show e_r 28 104 [.ref 59, .int 2] [.int 2, .int 2, .ref 60] (c_h xs L 14 65 72) _ _
  refine e_call hk_28 (as := [.ref 60, .int 2, .int 2]) (rest := []) rfl rfl hk_23 rfl (Nat.le_of_ble_eq_true rfl) rfl (x_write (r := 60) (a := 61) (n := 3) (x := 2) rfl rfl rfl (by decide) (by decide) (j := 2) (by decide)) ?_
  show e_r 28 107 [.ref 59, .int 2] [] (c_h xs L 15 65 72) _ _
  refine e_go hk_28 6 (c := (if s_cnd .ge 3 3 = true then 113 else 94, [.ref 59, .int 3], [], c_h xs L 15 65 72)) rfl ?_
  refine e_ge (a := 113) (b := 94) (x := 3) (y := 3) (fun hc91 => ?_) (fun hc91 => absurd (by decide) hc91)
  exact e_ret hk_28 rfl rfl rfl rfl rfl
set_option maxRecDepth 20000 in
theorem k_28_72 {xs : Nat → Int32} {L : Nat} : m_r 28 [.ref 72] (c_h xs L 15 66 73) none (c_h xs L 18 78 85) := by
  refine m_of (ls := [.ref 72, s_no]) hk_28 rfl rfl rfl ?_
  refine e_go hk_28 3 (c := (5, [.ref 72, s_no], [.ref 72], c_h xs L 15 66 73)) rfl ?_
  refine e_newo hk_28 rfl rfl rfl (rU_fresh (by decide +kernel)) rfl rfl ?_
  show e_r 28 8 [.ref 72, s_no] [.ref 73, .ref 72] (c_h xs L 15 66 74) _ _
  refine e_go hk_28 3 (c := (13, [.ref 72, s_no], [.int 3, .ref 73, .ref 73, .ref 72], c_h xs L 15 66 74)) rfl ?_
  refine e_call hk_28 (as := [.ref 73, .int 3]) (rest := [.ref 73, .ref 72]) rfl rfl hk_21 rfl (Nat.le_of_ble_eq_true rfl) rfl (x_row (n := 3) rfl (rU_fresh (by decide +kernel)) rfl rfl (by decide) rfl rfl) ?_
  show e_r 28 16 [.ref 72, s_no] [.ref 73, .ref 72] (c_h xs L 15 67 75) _ _
  refine e_putr hk_28 (ev := 5122) rfl rfl rfl rfl rfl ?_
  show e_r 28 19 [.ref 72, s_no] [] (c_h xs L 15 68 75) _ _
  refine e_go hk_28 1 (c := (20, [.ref 72, s_no], [.ref 72], c_h xs L 15 68 75)) rfl ?_
  refine e_newo hk_28 rfl rfl rfl (rU_fresh (by decide +kernel)) rfl rfl ?_
  show e_r 28 23 [.ref 72, s_no] [.ref 75, .ref 72] (c_h xs L 15 68 76) _ _
  refine e_go hk_28 2 (c := (26, [.ref 72, s_no], [.int 60, .ref 75, .ref 75, .ref 72], c_h xs L 15 68 76)) rfl ?_
  refine e_call hk_28 (as := [.ref 75, .int 60]) (rest := [.ref 75, .ref 72]) rfl rfl hk_21 rfl (Nat.le_of_ble_eq_true rfl) rfl (x_row (n := 60) rfl (rU_fresh (by decide +kernel)) rfl rfl (by decide) rfl rfl) ?_
  show e_r 28 29 [.ref 72, s_no] [.ref 75, .ref 72] (c_h xs L 15 69 77) _ _
  refine e_putr hk_28 (ev := 5130) rfl rfl rfl rfl rfl ?_
  show e_r 28 32 [.ref 72, s_no] [] (c_h xs L 15 70 77) _ _
  refine e_go hk_28 1 (c := (33, [.ref 72, s_no], [.ref 72], c_h xs L 15 70 77)) rfl ?_
  refine e_newo hk_28 rfl rfl rfl (rU_fresh (by decide +kernel)) rfl rfl ?_
  show e_r 28 36 [.ref 72, s_no] [.ref 77, .ref 72] (c_h xs L 15 70 78) _ _
  refine e_go hk_28 2 (c := (39, [.ref 72, s_no], [.int 60, .ref 77, .ref 77, .ref 72], c_h xs L 15 70 78)) rfl ?_
  refine e_call hk_28 (as := [.ref 77, .int 60]) (rest := [.ref 77, .ref 72]) rfl rfl hk_21 rfl (Nat.le_of_ble_eq_true rfl) rfl (x_row (n := 60) rfl (rU_fresh (by decide +kernel)) rfl rfl (by decide) rfl rfl) ?_
  show e_r 28 42 [.ref 72, s_no] [.ref 77, .ref 72] (c_h xs L 15 71 79) _ _
  refine e_putr hk_28 (ev := 5138) rfl rfl rfl rfl rfl ?_
  show e_r 28 45 [.ref 72, s_no] [] (c_h xs L 15 72 79) _ _
  refine e_go hk_28 1 (c := (46, [.ref 72, s_no], [.ref 72], c_h xs L 15 72 79)) rfl ?_
  refine e_newo hk_28 rfl rfl rfl (rU_fresh (by decide +kernel)) rfl rfl ?_
  show e_r 28 49 [.ref 72, s_no] [.ref 79, .ref 72] (c_h xs L 15 72 80) _ _
  refine e_go hk_28 2 (c := (52, [.ref 72, s_no], [.int 60, .ref 79, .ref 79, .ref 72], c_h xs L 15 72 80)) rfl ?_
  refine e_call hk_28 (as := [.ref 79, .int 60]) (rest := [.ref 79, .ref 72]) rfl rfl hk_21 rfl (Nat.le_of_ble_eq_true rfl) rfl (x_row (n := 60) rfl (rU_fresh (by decide +kernel)) rfl rfl (by decide) rfl rfl) ?_
  show e_r 28 55 [.ref 72, s_no] [.ref 79, .ref 72] (c_h xs L 15 73 81) _ _
  refine e_putr hk_28 (ev := 5146) rfl rfl rfl rfl rfl ?_
  show e_r 28 58 [.ref 72, s_no] [] (c_h xs L 15 74 81) _ _
  refine e_go hk_28 1 (c := (59, [.ref 72, s_no], [.ref 72], c_h xs L 15 74 81)) rfl ?_
  refine e_newo hk_28 rfl rfl rfl (rU_fresh (by decide +kernel)) rfl rfl ?_
  show e_r 28 62 [.ref 72, s_no] [.ref 81, .ref 72] (c_h xs L 15 74 82) _ _
  refine e_go hk_28 2 (c := (65, [.ref 72, s_no], [.int 60, .ref 81, .ref 81, .ref 72], c_h xs L 15 74 82)) rfl ?_
  refine e_call hk_28 (as := [.ref 81, .int 60]) (rest := [.ref 81, .ref 72]) rfl rfl hk_21 rfl (Nat.le_of_ble_eq_true rfl) rfl (x_row (n := 60) rfl (rU_fresh (by decide +kernel)) rfl rfl (by decide) rfl rfl) ?_
  show e_r 28 68 [.ref 72, s_no] [.ref 81, .ref 72] (c_h xs L 15 75 83) _ _
  refine e_putr hk_28 (ev := 5154) rfl rfl rfl rfl rfl ?_
  show e_r 28 71 [.ref 72, s_no] [] (c_h xs L 15 76 83) _ _
  refine e_go hk_28 1 (c := (72, [.ref 72, s_no], [.ref 72], c_h xs L 15 76 83)) rfl ?_
  refine e_newo hk_28 rfl rfl rfl (rU_fresh (by decide +kernel)) rfl rfl ?_
  show e_r 28 75 [.ref 72, s_no] [.ref 83, .ref 72] (c_h xs L 15 76 84) _ _
  refine e_go hk_28 2 (c := (78, [.ref 72, s_no], [.int 60, .ref 83, .ref 83, .ref 72], c_h xs L 15 76 84)) rfl ?_
  refine e_call hk_28 (as := [.ref 83, .int 60]) (rest := [.ref 83, .ref 72]) rfl rfl hk_21 rfl (Nat.le_of_ble_eq_true rfl) rfl (x_row (n := 60) rfl (rU_fresh (by decide +kernel)) rfl rfl (by decide) rfl rfl) ?_
  show e_r 28 81 [.ref 72, s_no] [.ref 83, .ref 72] (c_h xs L 15 77 85) _ _
  refine e_putr hk_28 (ev := 5162) rfl rfl rfl rfl rfl ?_
  show e_r 28 84 [.ref 72, s_no] [] (c_h xs L 15 78 85) _ _
  refine e_go hk_28 6 (c := (if s_cnd .ge 0 3 = true then 113 else 94, [.ref 72, .int 0], [], c_h xs L 15 78 85)) rfl ?_
  refine e_ge (a := 113) (b := 94) (x := 0) (y := 3) (fun hc91 => absurd hc91 (by decide)) (fun hc91 => ?_)
  refine e_go hk_28 5 (c := (103, [.ref 72, .int 0], [.int 0, .ref 0, .int 0, .ref 73], c_h xs L 15 78 85)) rfl ?_
  refine e_ald hk_28 (a := 0) (j := 0) (n := 3) rfl rfl rfl (by decide) (by decide) ?_
  show e_r 28 104 [.ref 72, .int 0] [.int 70, .int 0, .ref 73] (c_h xs L 15 78 85) _ _
  refine e_call hk_28 (as := [.ref 73, .int 0, .int 70]) (rest := []) rfl rfl hk_23 rfl (Nat.le_of_ble_eq_true rfl) rfl (x_write (r := 73) (a := 74) (n := 3) (x := 70) rfl rfl rfl (by decide) (by decide) (j := 0) (by decide)) ?_
  show e_r 28 107 [.ref 72, .int 0] [] (c_h xs L 16 78 85) _ _
  refine e_go hk_28 6 (c := (if s_cnd .ge 1 3 = true then 113 else 94, [.ref 72, .int 1], [], c_h xs L 16 78 85)) rfl ?_
  refine e_ge (a := 113) (b := 94) (x := 1) (y := 3) (fun hc91 => absurd hc91 (by decide)) (fun hc91 => ?_)
  refine e_go hk_28 5 (c := (103, [.ref 72, .int 1], [.int 1, .ref 0, .int 1, .ref 73], c_h xs L 16 78 85)) rfl ?_
  refine e_ald hk_28 (a := 0) (j := 1) (n := 3) rfl rfl rfl (by decide) (by decide) ?_
  show e_r 28 104 [.ref 72, .int 1] [.int 40, .int 1, .ref 73] (c_h xs L 16 78 85) _ _
  refine e_call hk_28 (as := [.ref 73, .int 1, .int 40]) (rest := []) rfl rfl hk_23 rfl (Nat.le_of_ble_eq_true rfl) rfl (x_write (r := 73) (a := 74) (n := 3) (x := 40) rfl rfl rfl (by decide) (by decide) (j := 1) (by decide)) ?_
  show e_r 28 107 [.ref 72, .int 1] [] (c_h xs L 17 78 85) _ _
  refine e_go hk_28 6 (c := (if s_cnd .ge 2 3 = true then 113 else 94, [.ref 72, .int 2], [], c_h xs L 17 78 85)) rfl ?_
  refine e_ge (a := 113) (b := 94) (x := 2) (y := 3) (fun hc91 => absurd hc91 (by decide)) (fun hc91 => ?_)
  refine e_go hk_28 5 (c := (103, [.ref 72, .int 2], [.int 2, .ref 0, .int 2, .ref 73], c_h xs L 17 78 85)) rfl ?_
  refine e_ald hk_28 (a := 0) (j := 2) (n := 3) rfl rfl rfl (by decide) (by decide) ?_
  show e_r 28 104 [.ref 72, .int 2] [.int 2, .int 2, .ref 73] (c_h xs L 17 78 85) _ _
  refine e_call hk_28 (as := [.ref 73, .int 2, .int 2]) (rest := []) rfl rfl hk_23 rfl (Nat.le_of_ble_eq_true rfl) rfl (x_write (r := 73) (a := 74) (n := 3) (x := 2) rfl rfl rfl (by decide) (by decide) (j := 2) (by decide)) ?_
  show e_r 28 107 [.ref 72, .int 2] [] (c_h xs L 18 78 85) _ _
  refine e_go hk_28 6 (c := (if s_cnd .ge 3 3 = true then 113 else 94, [.ref 72, .int 3], [], c_h xs L 18 78 85)) rfl ?_
  refine e_ge (a := 113) (b := 94) (x := 3) (y := 3) (fun hc91 => ?_) (fun hc91 => absurd (by decide) hc91)
  exact e_ret hk_28 rfl rfl rfl rfl rfl
set_option maxRecDepth 20000 in
theorem k_28_85 {xs : Nat → Int32} {L : Nat} : m_r 28 [.ref 85] (c_h xs L 18 79 86) none (c_h xs L 21 91 98) := by
  refine m_of (ls := [.ref 85, s_no]) hk_28 rfl rfl rfl ?_
  refine e_go hk_28 3 (c := (5, [.ref 85, s_no], [.ref 85], c_h xs L 18 79 86)) rfl ?_
  refine e_newo hk_28 rfl rfl rfl (rU_fresh (by decide +kernel)) rfl rfl ?_
  show e_r 28 8 [.ref 85, s_no] [.ref 86, .ref 85] (c_h xs L 18 79 87) _ _
  refine e_go hk_28 3 (c := (13, [.ref 85, s_no], [.int 3, .ref 86, .ref 86, .ref 85], c_h xs L 18 79 87)) rfl ?_
  refine e_call hk_28 (as := [.ref 86, .int 3]) (rest := [.ref 86, .ref 85]) rfl rfl hk_21 rfl (Nat.le_of_ble_eq_true rfl) rfl (x_row (n := 3) rfl (rU_fresh (by decide +kernel)) rfl rfl (by decide) rfl rfl) ?_
  show e_r 28 16 [.ref 85, s_no] [.ref 86, .ref 85] (c_h xs L 18 80 88) _ _
  refine e_putr hk_28 (ev := 5122) rfl rfl rfl rfl rfl ?_
  show e_r 28 19 [.ref 85, s_no] [] (c_h xs L 18 81 88) _ _
  refine e_go hk_28 1 (c := (20, [.ref 85, s_no], [.ref 85], c_h xs L 18 81 88)) rfl ?_
  refine e_newo hk_28 rfl rfl rfl (rU_fresh (by decide +kernel)) rfl rfl ?_
  show e_r 28 23 [.ref 85, s_no] [.ref 88, .ref 85] (c_h xs L 18 81 89) _ _
  refine e_go hk_28 2 (c := (26, [.ref 85, s_no], [.int 60, .ref 88, .ref 88, .ref 85], c_h xs L 18 81 89)) rfl ?_
  refine e_call hk_28 (as := [.ref 88, .int 60]) (rest := [.ref 88, .ref 85]) rfl rfl hk_21 rfl (Nat.le_of_ble_eq_true rfl) rfl (x_row (n := 60) rfl (rU_fresh (by decide +kernel)) rfl rfl (by decide) rfl rfl) ?_
  show e_r 28 29 [.ref 85, s_no] [.ref 88, .ref 85] (c_h xs L 18 82 90) _ _
  refine e_putr hk_28 (ev := 5130) rfl rfl rfl rfl rfl ?_
  show e_r 28 32 [.ref 85, s_no] [] (c_h xs L 18 83 90) _ _
  refine e_go hk_28 1 (c := (33, [.ref 85, s_no], [.ref 85], c_h xs L 18 83 90)) rfl ?_
  refine e_newo hk_28 rfl rfl rfl (rU_fresh (by decide +kernel)) rfl rfl ?_
  show e_r 28 36 [.ref 85, s_no] [.ref 90, .ref 85] (c_h xs L 18 83 91) _ _
  refine e_go hk_28 2 (c := (39, [.ref 85, s_no], [.int 60, .ref 90, .ref 90, .ref 85], c_h xs L 18 83 91)) rfl ?_
  refine e_call hk_28 (as := [.ref 90, .int 60]) (rest := [.ref 90, .ref 85]) rfl rfl hk_21 rfl (Nat.le_of_ble_eq_true rfl) rfl (x_row (n := 60) rfl (rU_fresh (by decide +kernel)) rfl rfl (by decide) rfl rfl) ?_
  show e_r 28 42 [.ref 85, s_no] [.ref 90, .ref 85] (c_h xs L 18 84 92) _ _
  refine e_putr hk_28 (ev := 5138) rfl rfl rfl rfl rfl ?_
  show e_r 28 45 [.ref 85, s_no] [] (c_h xs L 18 85 92) _ _
  refine e_go hk_28 1 (c := (46, [.ref 85, s_no], [.ref 85], c_h xs L 18 85 92)) rfl ?_
  refine e_newo hk_28 rfl rfl rfl (rU_fresh (by decide +kernel)) rfl rfl ?_
  show e_r 28 49 [.ref 85, s_no] [.ref 92, .ref 85] (c_h xs L 18 85 93) _ _
  refine e_go hk_28 2 (c := (52, [.ref 85, s_no], [.int 60, .ref 92, .ref 92, .ref 85], c_h xs L 18 85 93)) rfl ?_
  refine e_call hk_28 (as := [.ref 92, .int 60]) (rest := [.ref 92, .ref 85]) rfl rfl hk_21 rfl (Nat.le_of_ble_eq_true rfl) rfl (x_row (n := 60) rfl (rU_fresh (by decide +kernel)) rfl rfl (by decide) rfl rfl) ?_
  show e_r 28 55 [.ref 85, s_no] [.ref 92, .ref 85] (c_h xs L 18 86 94) _ _
  refine e_putr hk_28 (ev := 5146) rfl rfl rfl rfl rfl ?_
  show e_r 28 58 [.ref 85, s_no] [] (c_h xs L 18 87 94) _ _
  refine e_go hk_28 1 (c := (59, [.ref 85, s_no], [.ref 85], c_h xs L 18 87 94)) rfl ?_
  refine e_newo hk_28 rfl rfl rfl (rU_fresh (by decide +kernel)) rfl rfl ?_
  show e_r 28 62 [.ref 85, s_no] [.ref 94, .ref 85] (c_h xs L 18 87 95) _ _
  refine e_go hk_28 2 (c := (65, [.ref 85, s_no], [.int 60, .ref 94, .ref 94, .ref 85], c_h xs L 18 87 95)) rfl ?_
  refine e_call hk_28 (as := [.ref 94, .int 60]) (rest := [.ref 94, .ref 85]) rfl rfl hk_21 rfl (Nat.le_of_ble_eq_true rfl) rfl (x_row (n := 60) rfl (rU_fresh (by decide +kernel)) rfl rfl (by decide) rfl rfl) ?_
  show e_r 28 68 [.ref 85, s_no] [.ref 94, .ref 85] (c_h xs L 18 88 96) _ _
  refine e_putr hk_28 (ev := 5154) rfl rfl rfl rfl rfl ?_
  show e_r 28 71 [.ref 85, s_no] [] (c_h xs L 18 89 96) _ _
  refine e_go hk_28 1 (c := (72, [.ref 85, s_no], [.ref 85], c_h xs L 18 89 96)) rfl ?_
  refine e_newo hk_28 rfl rfl rfl (rU_fresh (by decide +kernel)) rfl rfl ?_
  show e_r 28 75 [.ref 85, s_no] [.ref 96, .ref 85] (c_h xs L 18 89 97) _ _
  refine e_go hk_28 2 (c := (78, [.ref 85, s_no], [.int 60, .ref 96, .ref 96, .ref 85], c_h xs L 18 89 97)) rfl ?_
  refine e_call hk_28 (as := [.ref 96, .int 60]) (rest := [.ref 96, .ref 85]) rfl rfl hk_21 rfl (Nat.le_of_ble_eq_true rfl) rfl (x_row (n := 60) rfl (rU_fresh (by decide +kernel)) rfl rfl (by decide) rfl rfl) ?_
  show e_r 28 81 [.ref 85, s_no] [.ref 96, .ref 85] (c_h xs L 18 90 98) _ _
  refine e_putr hk_28 (ev := 5162) rfl rfl rfl rfl rfl ?_
  show e_r 28 84 [.ref 85, s_no] [] (c_h xs L 18 91 98) _ _
  refine e_go hk_28 6 (c := (if s_cnd .ge 0 3 = true then 113 else 94, [.ref 85, .int 0], [], c_h xs L 18 91 98)) rfl ?_
  refine e_ge (a := 113) (b := 94) (x := 0) (y := 3) (fun hc91 => absurd hc91 (by decide)) (fun hc91 => ?_)
  refine e_go hk_28 5 (c := (103, [.ref 85, .int 0], [.int 0, .ref 0, .int 0, .ref 86], c_h xs L 18 91 98)) rfl ?_
  refine e_ald hk_28 (a := 0) (j := 0) (n := 3) rfl rfl rfl (by decide) (by decide) ?_
  show e_r 28 104 [.ref 85, .int 0] [.int 70, .int 0, .ref 86] (c_h xs L 18 91 98) _ _
  refine e_call hk_28 (as := [.ref 86, .int 0, .int 70]) (rest := []) rfl rfl hk_23 rfl (Nat.le_of_ble_eq_true rfl) rfl (x_write (r := 86) (a := 87) (n := 3) (x := 70) rfl rfl rfl (by decide) (by decide) (j := 0) (by decide)) ?_
  show e_r 28 107 [.ref 85, .int 0] [] (c_h xs L 19 91 98) _ _
  refine e_go hk_28 6 (c := (if s_cnd .ge 1 3 = true then 113 else 94, [.ref 85, .int 1], [], c_h xs L 19 91 98)) rfl ?_
  refine e_ge (a := 113) (b := 94) (x := 1) (y := 3) (fun hc91 => absurd hc91 (by decide)) (fun hc91 => ?_)
  refine e_go hk_28 5 (c := (103, [.ref 85, .int 1], [.int 1, .ref 0, .int 1, .ref 86], c_h xs L 19 91 98)) rfl ?_
  refine e_ald hk_28 (a := 0) (j := 1) (n := 3) rfl rfl rfl (by decide) (by decide) ?_
  show e_r 28 104 [.ref 85, .int 1] [.int 40, .int 1, .ref 86] (c_h xs L 19 91 98) _ _
  refine e_call hk_28 (as := [.ref 86, .int 1, .int 40]) (rest := []) rfl rfl hk_23 rfl (Nat.le_of_ble_eq_true rfl) rfl (x_write (r := 86) (a := 87) (n := 3) (x := 40) rfl rfl rfl (by decide) (by decide) (j := 1) (by decide)) ?_
  show e_r 28 107 [.ref 85, .int 1] [] (c_h xs L 20 91 98) _ _
  refine e_go hk_28 6 (c := (if s_cnd .ge 2 3 = true then 113 else 94, [.ref 85, .int 2], [], c_h xs L 20 91 98)) rfl ?_
  refine e_ge (a := 113) (b := 94) (x := 2) (y := 3) (fun hc91 => absurd hc91 (by decide)) (fun hc91 => ?_)
  refine e_go hk_28 5 (c := (103, [.ref 85, .int 2], [.int 2, .ref 0, .int 2, .ref 86], c_h xs L 20 91 98)) rfl ?_
  refine e_ald hk_28 (a := 0) (j := 2) (n := 3) rfl rfl rfl (by decide) (by decide) ?_
  show e_r 28 104 [.ref 85, .int 2] [.int 2, .int 2, .ref 86] (c_h xs L 20 91 98) _ _
  refine e_call hk_28 (as := [.ref 86, .int 2, .int 2]) (rest := []) rfl rfl hk_23 rfl (Nat.le_of_ble_eq_true rfl) rfl (x_write (r := 86) (a := 87) (n := 3) (x := 2) rfl rfl rfl (by decide) (by decide) (j := 2) (by decide)) ?_
  show e_r 28 107 [.ref 85, .int 2] [] (c_h xs L 21 91 98) _ _
  refine e_go hk_28 6 (c := (if s_cnd .ge 3 3 = true then 113 else 94, [.ref 85, .int 3], [], c_h xs L 21 91 98)) rfl ?_
  refine e_ge (a := 113) (b := 94) (x := 3) (y := 3) (fun hc91 => ?_) (fun hc91 => absurd (by decide) hc91)
  exact e_ret hk_28 rfl rfl rfl rfl rfl
set_option maxRecDepth 20000 in
theorem k_0_18 {xs : Nat → Int32} {L : Nat} : m_r 0 [.ref 18] (c_h xs L 3 13 19) none (c_h xs L 21 92 98) := by
  refine m_of (ls := [.ref 18, s_no]) hk_0 rfl rfl rfl ?_
  refine e_go hk_0 4 (c := (7, [.ref 18, s_no], [.int 6, .ref 18], c_h xs L 3 13 19)) rfl ?_
  refine e_newr hk_0 (m := 6) rfl rfl (by decide) rfl (rU_fresh (by decide +kernel)) rfl rfl ?_
  show e_r 0 10 [.ref 18, s_no] [.ref 19, .ref 18] (c_h xs L 3 13 20) _ _
  refine e_putr hk_0 (ev := 2) rfl rfl rfl rfl rfl ?_
  show e_r 0 13 [.ref 18, s_no] [] (c_h xs L 3 14 20) _ _
  refine e_go hk_0 7 (c := (if s_cnd .ge 0 6 = true then 43 else 24, [.ref 18, .int 0], [], c_h xs L 3 14 20)) rfl ?_
  refine e_ge (a := 43) (b := 24) (x := 0) (y := 6) (fun hc21 => absurd hc21 (by decide)) (fun hc21 => ?_)
  refine e_go hk_0 3 (c := (29, [.ref 18, .int 0], [.int 0, .ref 19], c_h xs L 3 14 20)) rfl ?_
  refine e_newo hk_0 rfl rfl rfl (rU_fresh (by decide +kernel)) rfl rfl ?_
  show e_r 0 32 [.ref 18, .int 0] [.ref 20, .int 0, .ref 19] (c_h xs L 3 14 21) _ _
  refine e_go hk_0 1 (c := (33, [.ref 18, .int 0], [.ref 20, .ref 20, .int 0, .ref 19], c_h xs L 3 14 21)) rfl ?_
  refine e_call hk_0 (as := [.ref 20]) (rest := [.ref 20, .int 0, .ref 19]) rfl rfl hk_28 rfl (Nat.le_of_ble_eq_true rfl) rfl k_28_20 ?_
  show e_r 0 36 [.ref 18, .int 0] [.ref 20, .int 0, .ref 19] (c_h xs L 6 26 33) _ _
  refine e_aast hk_0 (i := 0) rfl rfl rfl rfl (by decide) (by decide) (by decide) (by decide) rfl ?_
  show e_r 0 37 [.ref 18, .int 0] [] (c_h xs L 6 27 33) _ _
  refine e_go hk_0 7 (c := (if s_cnd .ge 1 6 = true then 43 else 24, [.ref 18, .int 1], [], c_h xs L 6 27 33)) rfl ?_
  refine e_ge (a := 43) (b := 24) (x := 1) (y := 6) (fun hc21 => absurd hc21 (by decide)) (fun hc21 => ?_)
  refine e_go hk_0 3 (c := (29, [.ref 18, .int 1], [.int 1, .ref 19], c_h xs L 6 27 33)) rfl ?_
  refine e_newo hk_0 rfl rfl rfl (rU_fresh (by decide +kernel)) rfl rfl ?_
  show e_r 0 32 [.ref 18, .int 1] [.ref 33, .int 1, .ref 19] (c_h xs L 6 27 34) _ _
  refine e_go hk_0 1 (c := (33, [.ref 18, .int 1], [.ref 33, .ref 33, .int 1, .ref 19], c_h xs L 6 27 34)) rfl ?_
  refine e_call hk_0 (as := [.ref 33]) (rest := [.ref 33, .int 1, .ref 19]) rfl rfl hk_28 rfl (Nat.le_of_ble_eq_true rfl) rfl k_28_33 ?_
  show e_r 0 36 [.ref 18, .int 1] [.ref 33, .int 1, .ref 19] (c_h xs L 9 39 46) _ _
  refine e_aast hk_0 (i := 1) rfl rfl rfl rfl (by decide) (by decide) (by decide) (by decide) rfl ?_
  show e_r 0 37 [.ref 18, .int 1] [] (c_h xs L 9 40 46) _ _
  refine e_go hk_0 7 (c := (if s_cnd .ge 2 6 = true then 43 else 24, [.ref 18, .int 2], [], c_h xs L 9 40 46)) rfl ?_
  refine e_ge (a := 43) (b := 24) (x := 2) (y := 6) (fun hc21 => absurd hc21 (by decide)) (fun hc21 => ?_)
  refine e_go hk_0 3 (c := (29, [.ref 18, .int 2], [.int 2, .ref 19], c_h xs L 9 40 46)) rfl ?_
  refine e_newo hk_0 rfl rfl rfl (rU_fresh (by decide +kernel)) rfl rfl ?_
  show e_r 0 32 [.ref 18, .int 2] [.ref 46, .int 2, .ref 19] (c_h xs L 9 40 47) _ _
  refine e_go hk_0 1 (c := (33, [.ref 18, .int 2], [.ref 46, .ref 46, .int 2, .ref 19], c_h xs L 9 40 47)) rfl ?_
  refine e_call hk_0 (as := [.ref 46]) (rest := [.ref 46, .int 2, .ref 19]) rfl rfl hk_28 rfl (Nat.le_of_ble_eq_true rfl) rfl k_28_46 ?_
  show e_r 0 36 [.ref 18, .int 2] [.ref 46, .int 2, .ref 19] (c_h xs L 12 52 59) _ _
  refine e_aast hk_0 (i := 2) rfl rfl rfl rfl (by decide) (by decide) (by decide) (by decide) rfl ?_
  show e_r 0 37 [.ref 18, .int 2] [] (c_h xs L 12 53 59) _ _
  refine e_go hk_0 7 (c := (if s_cnd .ge 3 6 = true then 43 else 24, [.ref 18, .int 3], [], c_h xs L 12 53 59)) rfl ?_
  refine e_ge (a := 43) (b := 24) (x := 3) (y := 6) (fun hc21 => absurd hc21 (by decide)) (fun hc21 => ?_)
  refine e_go hk_0 3 (c := (29, [.ref 18, .int 3], [.int 3, .ref 19], c_h xs L 12 53 59)) rfl ?_
  refine e_newo hk_0 rfl rfl rfl (rU_fresh (by decide +kernel)) rfl rfl ?_
  show e_r 0 32 [.ref 18, .int 3] [.ref 59, .int 3, .ref 19] (c_h xs L 12 53 60) _ _
  refine e_go hk_0 1 (c := (33, [.ref 18, .int 3], [.ref 59, .ref 59, .int 3, .ref 19], c_h xs L 12 53 60)) rfl ?_
  refine e_call hk_0 (as := [.ref 59]) (rest := [.ref 59, .int 3, .ref 19]) rfl rfl hk_28 rfl (Nat.le_of_ble_eq_true rfl) rfl k_28_59 ?_
  show e_r 0 36 [.ref 18, .int 3] [.ref 59, .int 3, .ref 19] (c_h xs L 15 65 72) _ _
  refine e_aast hk_0 (i := 3) rfl rfl rfl rfl (by decide) (by decide) (by decide) (by decide) rfl ?_
  show e_r 0 37 [.ref 18, .int 3] [] (c_h xs L 15 66 72) _ _
  refine e_go hk_0 7 (c := (if s_cnd .ge 4 6 = true then 43 else 24, [.ref 18, .int 4], [], c_h xs L 15 66 72)) rfl ?_
  refine e_ge (a := 43) (b := 24) (x := 4) (y := 6) (fun hc21 => absurd hc21 (by decide)) (fun hc21 => ?_)
  refine e_go hk_0 3 (c := (29, [.ref 18, .int 4], [.int 4, .ref 19], c_h xs L 15 66 72)) rfl ?_
  refine e_newo hk_0 rfl rfl rfl (rU_fresh (by decide +kernel)) rfl rfl ?_
  show e_r 0 32 [.ref 18, .int 4] [.ref 72, .int 4, .ref 19] (c_h xs L 15 66 73) _ _
  refine e_go hk_0 1 (c := (33, [.ref 18, .int 4], [.ref 72, .ref 72, .int 4, .ref 19], c_h xs L 15 66 73)) rfl ?_
  refine e_call hk_0 (as := [.ref 72]) (rest := [.ref 72, .int 4, .ref 19]) rfl rfl hk_28 rfl (Nat.le_of_ble_eq_true rfl) rfl k_28_72 ?_
  show e_r 0 36 [.ref 18, .int 4] [.ref 72, .int 4, .ref 19] (c_h xs L 18 78 85) _ _
  refine e_aast hk_0 (i := 4) rfl rfl rfl rfl (by decide) (by decide) (by decide) (by decide) rfl ?_
  show e_r 0 37 [.ref 18, .int 4] [] (c_h xs L 18 79 85) _ _
  refine e_go hk_0 7 (c := (if s_cnd .ge 5 6 = true then 43 else 24, [.ref 18, .int 5], [], c_h xs L 18 79 85)) rfl ?_
  refine e_ge (a := 43) (b := 24) (x := 5) (y := 6) (fun hc21 => absurd hc21 (by decide)) (fun hc21 => ?_)
  refine e_go hk_0 3 (c := (29, [.ref 18, .int 5], [.int 5, .ref 19], c_h xs L 18 79 85)) rfl ?_
  refine e_newo hk_0 rfl rfl rfl (rU_fresh (by decide +kernel)) rfl rfl ?_
  show e_r 0 32 [.ref 18, .int 5] [.ref 85, .int 5, .ref 19] (c_h xs L 18 79 86) _ _
  refine e_go hk_0 1 (c := (33, [.ref 18, .int 5], [.ref 85, .ref 85, .int 5, .ref 19], c_h xs L 18 79 86)) rfl ?_
  refine e_call hk_0 (as := [.ref 85]) (rest := [.ref 85, .int 5, .ref 19]) rfl rfl hk_28 rfl (Nat.le_of_ble_eq_true rfl) rfl k_28_85 ?_
  show e_r 0 36 [.ref 18, .int 5] [.ref 85, .int 5, .ref 19] (c_h xs L 21 91 98) _ _
  refine e_aast hk_0 (i := 5) rfl rfl rfl rfl (by decide) (by decide) (by decide) (by decide) rfl ?_
  show e_r 0 37 [.ref 18, .int 5] [] (c_h xs L 21 92 98) _ _
  refine e_go hk_0 7 (c := (if s_cnd .ge 6 6 = true then 43 else 24, [.ref 18, .int 6], [], c_h xs L 21 92 98)) rfl ?_
  refine e_ge (a := 43) (b := 24) (x := 6) (y := 6) (fun hc21 => ?_) (fun hc21 => absurd (by decide) hc21)
  exact e_ret hk_0 rfl rfl rfl rfl rfl
set_option maxRecDepth 20000 in
theorem k_17_99 {xs : Nat → Int32} {L : Nat} : m_r 17 [.ref 99] (c_h xs L 21 94 100) none (c_h xs L 21 96 102) := by
  refine m_of (ls := [.ref 99]) hk_17 rfl rfl rfl ?_
  refine e_go hk_17 3 (c := (5, [.ref 99], [.ref 99], c_h xs L 21 94 100)) rfl ?_
  refine e_newo hk_17 rfl rfl rfl (rU_fresh (by decide +kernel)) rfl rfl ?_
  show e_r 17 8 [.ref 99] [.ref 100, .ref 99] (c_h xs L 21 94 101) _ _
  refine e_go hk_17 2 (c := (11, [.ref 99], [.int 80, .ref 100, .ref 100, .ref 99], c_h xs L 21 94 101)) rfl ?_
  refine e_call hk_17 (as := [.ref 100, .int 80]) (rest := [.ref 100, .ref 99]) rfl rfl hk_21 rfl (Nat.le_of_ble_eq_true rfl) rfl (x_row (n := 80) rfl (rU_fresh (by decide +kernel)) rfl rfl (by decide) rfl rfl) ?_
  show e_r 17 14 [.ref 99] [.ref 100, .ref 99] (c_h xs L 21 95 102) _ _
  refine e_putr hk_17 (ev := 2050) rfl rfl rfl rfl rfl ?_
  show e_r 17 17 [.ref 99] [] (c_h xs L 21 96 102) _ _
  exact e_ret hk_17 rfl rfl rfl rfl rfl
set_option maxRecDepth 20000 in
theorem k_5_102 {xs : Nat → Int32} {L : Nat} : m_r 5 [.ref 102] (c_h xs L 21 97 103) none (c_h xs L 21 97 103) := by
  refine m_of (ls := [.ref 102]) hk_5 rfl rfl rfl ?_
  refine e_go hk_5 2 (c := (4, [.ref 102], [], c_h xs L 21 97 103)) rfl ?_
  exact e_ret hk_5 rfl rfl rfl rfl rfl
set_option maxRecDepth 20000 in
theorem k_28_104 {xs : Nat → Int32} {L : Nat} : m_r 28 [.ref 104] (c_h xs L 21 98 105) none (c_h xs L 24 110 117) := by
  refine m_of (ls := [.ref 104, s_no]) hk_28 rfl rfl rfl ?_
  refine e_go hk_28 3 (c := (5, [.ref 104, s_no], [.ref 104], c_h xs L 21 98 105)) rfl ?_
  refine e_newo hk_28 rfl rfl rfl (rU_fresh (by decide +kernel)) rfl rfl ?_
  show e_r 28 8 [.ref 104, s_no] [.ref 105, .ref 104] (c_h xs L 21 98 106) _ _
  refine e_go hk_28 3 (c := (13, [.ref 104, s_no], [.int 3, .ref 105, .ref 105, .ref 104], c_h xs L 21 98 106)) rfl ?_
  refine e_call hk_28 (as := [.ref 105, .int 3]) (rest := [.ref 105, .ref 104]) rfl rfl hk_21 rfl (Nat.le_of_ble_eq_true rfl) rfl (x_row (n := 3) rfl (rU_fresh (by decide +kernel)) rfl rfl (by decide) rfl rfl) ?_
  show e_r 28 16 [.ref 104, s_no] [.ref 105, .ref 104] (c_h xs L 21 99 107) _ _
  refine e_putr hk_28 (ev := 5122) rfl rfl rfl rfl rfl ?_
  show e_r 28 19 [.ref 104, s_no] [] (c_h xs L 21 100 107) _ _
  refine e_go hk_28 1 (c := (20, [.ref 104, s_no], [.ref 104], c_h xs L 21 100 107)) rfl ?_
  refine e_newo hk_28 rfl rfl rfl (rU_fresh (by decide +kernel)) rfl rfl ?_
  show e_r 28 23 [.ref 104, s_no] [.ref 107, .ref 104] (c_h xs L 21 100 108) _ _
  refine e_go hk_28 2 (c := (26, [.ref 104, s_no], [.int 60, .ref 107, .ref 107, .ref 104], c_h xs L 21 100 108)) rfl ?_
  refine e_call hk_28 (as := [.ref 107, .int 60]) (rest := [.ref 107, .ref 104]) rfl rfl hk_21 rfl (Nat.le_of_ble_eq_true rfl) rfl (x_row (n := 60) rfl (rU_fresh (by decide +kernel)) rfl rfl (by decide) rfl rfl) ?_
  show e_r 28 29 [.ref 104, s_no] [.ref 107, .ref 104] (c_h xs L 21 101 109) _ _
  refine e_putr hk_28 (ev := 5130) rfl rfl rfl rfl rfl ?_
  show e_r 28 32 [.ref 104, s_no] [] (c_h xs L 21 102 109) _ _
  refine e_go hk_28 1 (c := (33, [.ref 104, s_no], [.ref 104], c_h xs L 21 102 109)) rfl ?_
  refine e_newo hk_28 rfl rfl rfl (rU_fresh (by decide +kernel)) rfl rfl ?_
  show e_r 28 36 [.ref 104, s_no] [.ref 109, .ref 104] (c_h xs L 21 102 110) _ _
  refine e_go hk_28 2 (c := (39, [.ref 104, s_no], [.int 60, .ref 109, .ref 109, .ref 104], c_h xs L 21 102 110)) rfl ?_
  refine e_call hk_28 (as := [.ref 109, .int 60]) (rest := [.ref 109, .ref 104]) rfl rfl hk_21 rfl (Nat.le_of_ble_eq_true rfl) rfl (x_row (n := 60) rfl (rU_fresh (by decide +kernel)) rfl rfl (by decide) rfl rfl) ?_
  show e_r 28 42 [.ref 104, s_no] [.ref 109, .ref 104] (c_h xs L 21 103 111) _ _
  refine e_putr hk_28 (ev := 5138) rfl rfl rfl rfl rfl ?_
  show e_r 28 45 [.ref 104, s_no] [] (c_h xs L 21 104 111) _ _
  refine e_go hk_28 1 (c := (46, [.ref 104, s_no], [.ref 104], c_h xs L 21 104 111)) rfl ?_
  refine e_newo hk_28 rfl rfl rfl (rU_fresh (by decide +kernel)) rfl rfl ?_
  show e_r 28 49 [.ref 104, s_no] [.ref 111, .ref 104] (c_h xs L 21 104 112) _ _
  refine e_go hk_28 2 (c := (52, [.ref 104, s_no], [.int 60, .ref 111, .ref 111, .ref 104], c_h xs L 21 104 112)) rfl ?_
  refine e_call hk_28 (as := [.ref 111, .int 60]) (rest := [.ref 111, .ref 104]) rfl rfl hk_21 rfl (Nat.le_of_ble_eq_true rfl) rfl (x_row (n := 60) rfl (rU_fresh (by decide +kernel)) rfl rfl (by decide) rfl rfl) ?_
  show e_r 28 55 [.ref 104, s_no] [.ref 111, .ref 104] (c_h xs L 21 105 113) _ _
  refine e_putr hk_28 (ev := 5146) rfl rfl rfl rfl rfl ?_
  show e_r 28 58 [.ref 104, s_no] [] (c_h xs L 21 106 113) _ _
  refine e_go hk_28 1 (c := (59, [.ref 104, s_no], [.ref 104], c_h xs L 21 106 113)) rfl ?_
  refine e_newo hk_28 rfl rfl rfl (rU_fresh (by decide +kernel)) rfl rfl ?_
  show e_r 28 62 [.ref 104, s_no] [.ref 113, .ref 104] (c_h xs L 21 106 114) _ _
  refine e_go hk_28 2 (c := (65, [.ref 104, s_no], [.int 60, .ref 113, .ref 113, .ref 104], c_h xs L 21 106 114)) rfl ?_
  refine e_call hk_28 (as := [.ref 113, .int 60]) (rest := [.ref 113, .ref 104]) rfl rfl hk_21 rfl (Nat.le_of_ble_eq_true rfl) rfl (x_row (n := 60) rfl (rU_fresh (by decide +kernel)) rfl rfl (by decide) rfl rfl) ?_
  show e_r 28 68 [.ref 104, s_no] [.ref 113, .ref 104] (c_h xs L 21 107 115) _ _
  refine e_putr hk_28 (ev := 5154) rfl rfl rfl rfl rfl ?_
  show e_r 28 71 [.ref 104, s_no] [] (c_h xs L 21 108 115) _ _
  refine e_go hk_28 1 (c := (72, [.ref 104, s_no], [.ref 104], c_h xs L 21 108 115)) rfl ?_
  refine e_newo hk_28 rfl rfl rfl (rU_fresh (by decide +kernel)) rfl rfl ?_
  show e_r 28 75 [.ref 104, s_no] [.ref 115, .ref 104] (c_h xs L 21 108 116) _ _
  refine e_go hk_28 2 (c := (78, [.ref 104, s_no], [.int 60, .ref 115, .ref 115, .ref 104], c_h xs L 21 108 116)) rfl ?_
  refine e_call hk_28 (as := [.ref 115, .int 60]) (rest := [.ref 115, .ref 104]) rfl rfl hk_21 rfl (Nat.le_of_ble_eq_true rfl) rfl (x_row (n := 60) rfl (rU_fresh (by decide +kernel)) rfl rfl (by decide) rfl rfl) ?_
  show e_r 28 81 [.ref 104, s_no] [.ref 115, .ref 104] (c_h xs L 21 109 117) _ _
  refine e_putr hk_28 (ev := 5162) rfl rfl rfl rfl rfl ?_
  show e_r 28 84 [.ref 104, s_no] [] (c_h xs L 21 110 117) _ _
  refine e_go hk_28 6 (c := (if s_cnd .ge 0 3 = true then 113 else 94, [.ref 104, .int 0], [], c_h xs L 21 110 117)) rfl ?_
  refine e_ge (a := 113) (b := 94) (x := 0) (y := 3) (fun hc91 => absurd hc91 (by decide)) (fun hc91 => ?_)
  refine e_go hk_28 5 (c := (103, [.ref 104, .int 0], [.int 0, .ref 0, .int 0, .ref 105], c_h xs L 21 110 117)) rfl ?_
  refine e_ald hk_28 (a := 0) (j := 0) (n := 3) rfl rfl rfl (by decide) (by decide) ?_
  show e_r 28 104 [.ref 104, .int 0] [.int 70, .int 0, .ref 105] (c_h xs L 21 110 117) _ _
  refine e_call hk_28 (as := [.ref 105, .int 0, .int 70]) (rest := []) rfl rfl hk_23 rfl (Nat.le_of_ble_eq_true rfl) rfl (x_write (r := 105) (a := 106) (n := 3) (x := 70) rfl rfl rfl (by decide) (by decide) (j := 0) (by decide)) ?_
  show e_r 28 107 [.ref 104, .int 0] [] (c_h xs L 22 110 117) _ _
  refine e_go hk_28 6 (c := (if s_cnd .ge 1 3 = true then 113 else 94, [.ref 104, .int 1], [], c_h xs L 22 110 117)) rfl ?_
  refine e_ge (a := 113) (b := 94) (x := 1) (y := 3) (fun hc91 => absurd hc91 (by decide)) (fun hc91 => ?_)
  refine e_go hk_28 5 (c := (103, [.ref 104, .int 1], [.int 1, .ref 0, .int 1, .ref 105], c_h xs L 22 110 117)) rfl ?_
  refine e_ald hk_28 (a := 0) (j := 1) (n := 3) rfl rfl rfl (by decide) (by decide) ?_
  show e_r 28 104 [.ref 104, .int 1] [.int 40, .int 1, .ref 105] (c_h xs L 22 110 117) _ _
  refine e_call hk_28 (as := [.ref 105, .int 1, .int 40]) (rest := []) rfl rfl hk_23 rfl (Nat.le_of_ble_eq_true rfl) rfl (x_write (r := 105) (a := 106) (n := 3) (x := 40) rfl rfl rfl (by decide) (by decide) (j := 1) (by decide)) ?_
  show e_r 28 107 [.ref 104, .int 1] [] (c_h xs L 23 110 117) _ _
  refine e_go hk_28 6 (c := (if s_cnd .ge 2 3 = true then 113 else 94, [.ref 104, .int 2], [], c_h xs L 23 110 117)) rfl ?_
  refine e_ge (a := 113) (b := 94) (x := 2) (y := 3) (fun hc91 => absurd hc91 (by decide)) (fun hc91 => ?_)
  refine e_go hk_28 5 (c := (103, [.ref 104, .int 2], [.int 2, .ref 0, .int 2, .ref 105], c_h xs L 23 110 117)) rfl ?_
  refine e_ald hk_28 (a := 0) (j := 2) (n := 3) rfl rfl rfl (by decide) (by decide) ?_
  show e_r 28 104 [.ref 104, .int 2] [.int 2, .int 2, .ref 105] (c_h xs L 23 110 117) _ _
  refine e_call hk_28 (as := [.ref 105, .int 2, .int 2]) (rest := []) rfl rfl hk_23 rfl (Nat.le_of_ble_eq_true rfl) rfl (x_write (r := 105) (a := 106) (n := 3) (x := 2) rfl rfl rfl (by decide) (by decide) (j := 2) (by decide)) ?_
  show e_r 28 107 [.ref 104, .int 2] [] (c_h xs L 24 110 117) _ _
  refine e_go hk_28 6 (c := (if s_cnd .ge 3 3 = true then 113 else 94, [.ref 104, .int 3], [], c_h xs L 24 110 117)) rfl ?_
  refine e_ge (a := 113) (b := 94) (x := 3) (y := 3) (fun hc91 => ?_) (fun hc91 => absurd (by decide) hc91)
  exact e_ret hk_28 rfl rfl rfl rfl rfl
set_option maxRecDepth 20000 in
theorem k_27_103 {xs : Nat → Int32} {L : Nat} : m_r 27 [.ref 103] (c_h xs L 21 98 104) none (c_h xs L 24 111 117) := by
  refine m_of (ls := [.ref 103]) hk_27 rfl rfl rfl ?_
  refine e_go hk_27 3 (c := (5, [.ref 103], [.ref 103], c_h xs L 21 98 104)) rfl ?_
  refine e_newo hk_27 rfl rfl rfl (rU_fresh (by decide +kernel)) rfl rfl ?_
  show e_r 27 8 [.ref 103] [.ref 104, .ref 103] (c_h xs L 21 98 105) _ _
  refine e_go hk_27 1 (c := (9, [.ref 103], [.ref 104, .ref 104, .ref 103], c_h xs L 21 98 105)) rfl ?_
  refine e_call hk_27 (as := [.ref 104]) (rest := [.ref 104, .ref 103]) rfl rfl hk_28 rfl (Nat.le_of_ble_eq_true rfl) rfl k_28_104 ?_
  show e_r 27 12 [.ref 103] [.ref 104, .ref 103] (c_h xs L 24 110 117) _ _
  refine e_putr hk_27 (ev := 4098) rfl rfl rfl rfl rfl ?_
  show e_r 27 15 [.ref 103] [] (c_h xs L 24 111 117) _ _
  exact e_ret hk_27 rfl rfl rfl rfl rfl
set_option maxRecDepth 20000 in
theorem k_28_118 {xs : Nat → Int32} {L : Nat} : m_r 28 [.ref 118] (c_h xs L 24 112 119) none (c_h xs L 27 124 131) := by
  refine m_of (ls := [.ref 118, s_no]) hk_28 rfl rfl rfl ?_
  refine e_go hk_28 3 (c := (5, [.ref 118, s_no], [.ref 118], c_h xs L 24 112 119)) rfl ?_
  refine e_newo hk_28 rfl rfl rfl (rU_fresh (by decide +kernel)) rfl rfl ?_
  show e_r 28 8 [.ref 118, s_no] [.ref 119, .ref 118] (c_h xs L 24 112 120) _ _
  refine e_go hk_28 3 (c := (13, [.ref 118, s_no], [.int 3, .ref 119, .ref 119, .ref 118], c_h xs L 24 112 120)) rfl ?_
  refine e_call hk_28 (as := [.ref 119, .int 3]) (rest := [.ref 119, .ref 118]) rfl rfl hk_21 rfl (Nat.le_of_ble_eq_true rfl) rfl (x_row (n := 3) rfl (rU_fresh (by decide +kernel)) rfl rfl (by decide) rfl rfl) ?_
  show e_r 28 16 [.ref 118, s_no] [.ref 119, .ref 118] (c_h xs L 24 113 121) _ _
  refine e_putr hk_28 (ev := 5122) rfl rfl rfl rfl rfl ?_
  show e_r 28 19 [.ref 118, s_no] [] (c_h xs L 24 114 121) _ _
  refine e_go hk_28 1 (c := (20, [.ref 118, s_no], [.ref 118], c_h xs L 24 114 121)) rfl ?_
  refine e_newo hk_28 rfl rfl rfl (rU_fresh (by decide +kernel)) rfl rfl ?_
  show e_r 28 23 [.ref 118, s_no] [.ref 121, .ref 118] (c_h xs L 24 114 122) _ _
  refine e_go hk_28 2 (c := (26, [.ref 118, s_no], [.int 60, .ref 121, .ref 121, .ref 118], c_h xs L 24 114 122)) rfl ?_
  refine e_call hk_28 (as := [.ref 121, .int 60]) (rest := [.ref 121, .ref 118]) rfl rfl hk_21 rfl (Nat.le_of_ble_eq_true rfl) rfl (x_row (n := 60) rfl (rU_fresh (by decide +kernel)) rfl rfl (by decide) rfl rfl) ?_
  show e_r 28 29 [.ref 118, s_no] [.ref 121, .ref 118] (c_h xs L 24 115 123) _ _
  refine e_putr hk_28 (ev := 5130) rfl rfl rfl rfl rfl ?_
  show e_r 28 32 [.ref 118, s_no] [] (c_h xs L 24 116 123) _ _
  refine e_go hk_28 1 (c := (33, [.ref 118, s_no], [.ref 118], c_h xs L 24 116 123)) rfl ?_
  refine e_newo hk_28 rfl rfl rfl (rU_fresh (by decide +kernel)) rfl rfl ?_
  show e_r 28 36 [.ref 118, s_no] [.ref 123, .ref 118] (c_h xs L 24 116 124) _ _
  refine e_go hk_28 2 (c := (39, [.ref 118, s_no], [.int 60, .ref 123, .ref 123, .ref 118], c_h xs L 24 116 124)) rfl ?_
  refine e_call hk_28 (as := [.ref 123, .int 60]) (rest := [.ref 123, .ref 118]) rfl rfl hk_21 rfl (Nat.le_of_ble_eq_true rfl) rfl (x_row (n := 60) rfl (rU_fresh (by decide +kernel)) rfl rfl (by decide) rfl rfl) ?_
  show e_r 28 42 [.ref 118, s_no] [.ref 123, .ref 118] (c_h xs L 24 117 125) _ _
  refine e_putr hk_28 (ev := 5138) rfl rfl rfl rfl rfl ?_
  show e_r 28 45 [.ref 118, s_no] [] (c_h xs L 24 118 125) _ _
  refine e_go hk_28 1 (c := (46, [.ref 118, s_no], [.ref 118], c_h xs L 24 118 125)) rfl ?_
  refine e_newo hk_28 rfl rfl rfl (rU_fresh (by decide +kernel)) rfl rfl ?_
  show e_r 28 49 [.ref 118, s_no] [.ref 125, .ref 118] (c_h xs L 24 118 126) _ _
  refine e_go hk_28 2 (c := (52, [.ref 118, s_no], [.int 60, .ref 125, .ref 125, .ref 118], c_h xs L 24 118 126)) rfl ?_
  refine e_call hk_28 (as := [.ref 125, .int 60]) (rest := [.ref 125, .ref 118]) rfl rfl hk_21 rfl (Nat.le_of_ble_eq_true rfl) rfl (x_row (n := 60) rfl (rU_fresh (by decide +kernel)) rfl rfl (by decide) rfl rfl) ?_
  show e_r 28 55 [.ref 118, s_no] [.ref 125, .ref 118] (c_h xs L 24 119 127) _ _
  refine e_putr hk_28 (ev := 5146) rfl rfl rfl rfl rfl ?_
  show e_r 28 58 [.ref 118, s_no] [] (c_h xs L 24 120 127) _ _
  refine e_go hk_28 1 (c := (59, [.ref 118, s_no], [.ref 118], c_h xs L 24 120 127)) rfl ?_
  refine e_newo hk_28 rfl rfl rfl (rU_fresh (by decide +kernel)) rfl rfl ?_
  show e_r 28 62 [.ref 118, s_no] [.ref 127, .ref 118] (c_h xs L 24 120 128) _ _
  refine e_go hk_28 2 (c := (65, [.ref 118, s_no], [.int 60, .ref 127, .ref 127, .ref 118], c_h xs L 24 120 128)) rfl ?_
  refine e_call hk_28 (as := [.ref 127, .int 60]) (rest := [.ref 127, .ref 118]) rfl rfl hk_21 rfl (Nat.le_of_ble_eq_true rfl) rfl (x_row (n := 60) rfl (rU_fresh (by decide +kernel)) rfl rfl (by decide) rfl rfl) ?_
  show e_r 28 68 [.ref 118, s_no] [.ref 127, .ref 118] (c_h xs L 24 121 129) _ _
  refine e_putr hk_28 (ev := 5154) rfl rfl rfl rfl rfl ?_
  show e_r 28 71 [.ref 118, s_no] [] (c_h xs L 24 122 129) _ _
  refine e_go hk_28 1 (c := (72, [.ref 118, s_no], [.ref 118], c_h xs L 24 122 129)) rfl ?_
  refine e_newo hk_28 rfl rfl rfl (rU_fresh (by decide +kernel)) rfl rfl ?_
  show e_r 28 75 [.ref 118, s_no] [.ref 129, .ref 118] (c_h xs L 24 122 130) _ _
  refine e_go hk_28 2 (c := (78, [.ref 118, s_no], [.int 60, .ref 129, .ref 129, .ref 118], c_h xs L 24 122 130)) rfl ?_
  refine e_call hk_28 (as := [.ref 129, .int 60]) (rest := [.ref 129, .ref 118]) rfl rfl hk_21 rfl (Nat.le_of_ble_eq_true rfl) rfl (x_row (n := 60) rfl (rU_fresh (by decide +kernel)) rfl rfl (by decide) rfl rfl) ?_
  show e_r 28 81 [.ref 118, s_no] [.ref 129, .ref 118] (c_h xs L 24 123 131) _ _
  refine e_putr hk_28 (ev := 5162) rfl rfl rfl rfl rfl ?_
  show e_r 28 84 [.ref 118, s_no] [] (c_h xs L 24 124 131) _ _
  refine e_go hk_28 6 (c := (if s_cnd .ge 0 3 = true then 113 else 94, [.ref 118, .int 0], [], c_h xs L 24 124 131)) rfl ?_
  refine e_ge (a := 113) (b := 94) (x := 0) (y := 3) (fun hc91 => absurd hc91 (by decide)) (fun hc91 => ?_)
  refine e_go hk_28 5 (c := (103, [.ref 118, .int 0], [.int 0, .ref 0, .int 0, .ref 119], c_h xs L 24 124 131)) rfl ?_
  refine e_ald hk_28 (a := 0) (j := 0) (n := 3) rfl rfl rfl (by decide) (by decide) ?_
  show e_r 28 104 [.ref 118, .int 0] [.int 70, .int 0, .ref 119] (c_h xs L 24 124 131) _ _
  refine e_call hk_28 (as := [.ref 119, .int 0, .int 70]) (rest := []) rfl rfl hk_23 rfl (Nat.le_of_ble_eq_true rfl) rfl (x_write (r := 119) (a := 120) (n := 3) (x := 70) rfl rfl rfl (by decide) (by decide) (j := 0) (by decide)) ?_
  show e_r 28 107 [.ref 118, .int 0] [] (c_h xs L 25 124 131) _ _
  refine e_go hk_28 6 (c := (if s_cnd .ge 1 3 = true then 113 else 94, [.ref 118, .int 1], [], c_h xs L 25 124 131)) rfl ?_
  refine e_ge (a := 113) (b := 94) (x := 1) (y := 3) (fun hc91 => absurd hc91 (by decide)) (fun hc91 => ?_)
  refine e_go hk_28 5 (c := (103, [.ref 118, .int 1], [.int 1, .ref 0, .int 1, .ref 119], c_h xs L 25 124 131)) rfl ?_
  refine e_ald hk_28 (a := 0) (j := 1) (n := 3) rfl rfl rfl (by decide) (by decide) ?_
  show e_r 28 104 [.ref 118, .int 1] [.int 40, .int 1, .ref 119] (c_h xs L 25 124 131) _ _
  refine e_call hk_28 (as := [.ref 119, .int 1, .int 40]) (rest := []) rfl rfl hk_23 rfl (Nat.le_of_ble_eq_true rfl) rfl (x_write (r := 119) (a := 120) (n := 3) (x := 40) rfl rfl rfl (by decide) (by decide) (j := 1) (by decide)) ?_
  show e_r 28 107 [.ref 118, .int 1] [] (c_h xs L 26 124 131) _ _
  refine e_go hk_28 6 (c := (if s_cnd .ge 2 3 = true then 113 else 94, [.ref 118, .int 2], [], c_h xs L 26 124 131)) rfl ?_
  refine e_ge (a := 113) (b := 94) (x := 2) (y := 3) (fun hc91 => absurd hc91 (by decide)) (fun hc91 => ?_)
  refine e_go hk_28 5 (c := (103, [.ref 118, .int 2], [.int 2, .ref 0, .int 2, .ref 119], c_h xs L 26 124 131)) rfl ?_
  refine e_ald hk_28 (a := 0) (j := 2) (n := 3) rfl rfl rfl (by decide) (by decide) ?_
  show e_r 28 104 [.ref 118, .int 2] [.int 2, .int 2, .ref 119] (c_h xs L 26 124 131) _ _
  refine e_call hk_28 (as := [.ref 119, .int 2, .int 2]) (rest := []) rfl rfl hk_23 rfl (Nat.le_of_ble_eq_true rfl) rfl (x_write (r := 119) (a := 120) (n := 3) (x := 2) rfl rfl rfl (by decide) (by decide) (j := 2) (by decide)) ?_
  show e_r 28 107 [.ref 118, .int 2] [] (c_h xs L 27 124 131) _ _
  refine e_go hk_28 6 (c := (if s_cnd .ge 3 3 = true then 113 else 94, [.ref 118, .int 3], [], c_h xs L 27 124 131)) rfl ?_
  refine e_ge (a := 113) (b := 94) (x := 3) (y := 3) (fun hc91 => ?_) (fun hc91 => absurd (by decide) hc91)
  exact e_ret hk_28 rfl rfl rfl rfl rfl
set_option maxRecDepth 20000 in
theorem k_27_117 {xs : Nat → Int32} {L : Nat} : m_r 27 [.ref 117] (c_h xs L 24 112 118) none (c_h xs L 27 125 131) := by
  refine m_of (ls := [.ref 117]) hk_27 rfl rfl rfl ?_
  refine e_go hk_27 3 (c := (5, [.ref 117], [.ref 117], c_h xs L 24 112 118)) rfl ?_
  refine e_newo hk_27 rfl rfl rfl (rU_fresh (by decide +kernel)) rfl rfl ?_
  show e_r 27 8 [.ref 117] [.ref 118, .ref 117] (c_h xs L 24 112 119) _ _
  refine e_go hk_27 1 (c := (9, [.ref 117], [.ref 118, .ref 118, .ref 117], c_h xs L 24 112 119)) rfl ?_
  refine e_call hk_27 (as := [.ref 118]) (rest := [.ref 118, .ref 117]) rfl rfl hk_28 rfl (Nat.le_of_ble_eq_true rfl) rfl k_28_118 ?_
  show e_r 27 12 [.ref 117] [.ref 118, .ref 117] (c_h xs L 27 124 131) _ _
  refine e_putr hk_27 (ev := 4098) rfl rfl rfl rfl rfl ?_
  show e_r 27 15 [.ref 117] [] (c_h xs L 27 125 131) _ _
  exact e_ret hk_27 rfl rfl rfl rfl rfl
set_option maxRecDepth 20000 in
theorem k_56_4 {xs : Nat → Int32} {L : Nat} : m_r 56 [.ref 4] (c_h xs L 0 0 5) none (c_h xs L 27 126 131) := by
  refine m_of (ls := [.ref 4, s_no]) hk_56 rfl rfl rfl ?_
  refine e_go hk_56 3 (c := (5, [.ref 4, s_no], [.ref 4], c_h xs L 0 0 5)) rfl ?_
  refine e_newo hk_56 rfl rfl rfl (rU_fresh (by decide +kernel)) rfl rfl ?_
  show e_r 56 8 [.ref 4, s_no] [.ref 5, .ref 4] (c_h xs L 0 0 6) _ _
  refine e_go hk_56 1 (c := (9, [.ref 4, s_no], [.ref 5, .ref 5, .ref 4], c_h xs L 0 0 6)) rfl ?_
  refine e_call hk_56 (as := [.ref 5]) (rest := [.ref 5, .ref 4]) rfl rfl hk_28 rfl (Nat.le_of_ble_eq_true rfl) rfl k_28_5 ?_
  show e_r 56 12 [.ref 4, s_no] [.ref 5, .ref 4] (c_h xs L 3 12 18) _ _
  refine e_putr hk_56 (ev := 6146) rfl rfl rfl rfl rfl ?_
  show e_r 56 15 [.ref 4, s_no] [] (c_h xs L 3 13 18) _ _
  refine e_go hk_56 1 (c := (16, [.ref 4, s_no], [.ref 4], c_h xs L 3 13 18)) rfl ?_
  refine e_newo hk_56 rfl rfl rfl (rU_fresh (by decide +kernel)) rfl rfl ?_
  show e_r 56 19 [.ref 4, s_no] [.ref 18, .ref 4] (c_h xs L 3 13 19) _ _
  refine e_go hk_56 1 (c := (20, [.ref 4, s_no], [.ref 18, .ref 18, .ref 4], c_h xs L 3 13 19)) rfl ?_
  refine e_call hk_56 (as := [.ref 18]) (rest := [.ref 18, .ref 4]) rfl rfl hk_0 rfl (Nat.le_of_ble_eq_true rfl) rfl k_0_18 ?_
  show e_r 56 23 [.ref 4, s_no] [.ref 18, .ref 4] (c_h xs L 21 92 98) _ _
  refine e_putr hk_56 (ev := 6154) rfl rfl rfl rfl rfl ?_
  show e_r 56 26 [.ref 4, s_no] [] (c_h xs L 21 93 98) _ _
  refine e_go hk_56 2 (c := (28, [.ref 4, s_no], [.int 2, .ref 4], c_h xs L 21 93 98)) rfl ?_
  refine e_newr hk_56 (m := 2) rfl rfl (by decide) rfl (rU_fresh (by decide +kernel)) rfl rfl ?_
  show e_r 56 31 [.ref 4, s_no] [.ref 98, .ref 4] (c_h xs L 21 93 99) _ _
  refine e_putr hk_56 (ev := 6162) rfl rfl rfl rfl rfl ?_
  show e_r 56 34 [.ref 4, s_no] [] (c_h xs L 21 94 99) _ _
  refine e_go hk_56 1 (c := (35, [.ref 4, s_no], [.ref 4], c_h xs L 21 94 99)) rfl ?_
  refine e_newo hk_56 rfl rfl rfl (rU_fresh (by decide +kernel)) rfl rfl ?_
  show e_r 56 38 [.ref 4, s_no] [.ref 99, .ref 4] (c_h xs L 21 94 100) _ _
  refine e_go hk_56 1 (c := (39, [.ref 4, s_no], [.ref 99, .ref 99, .ref 4], c_h xs L 21 94 100)) rfl ?_
  refine e_call hk_56 (as := [.ref 99]) (rest := [.ref 99, .ref 4]) rfl rfl hk_17 rfl (Nat.le_of_ble_eq_true rfl) rfl k_17_99 ?_
  show e_r 56 42 [.ref 4, s_no] [.ref 99, .ref 4] (c_h xs L 21 96 102) _ _
  refine e_putr hk_56 (ev := 6170) rfl rfl rfl rfl rfl ?_
  show e_r 56 45 [.ref 4, s_no] [] (c_h xs L 21 97 102) _ _
  refine e_go hk_56 1 (c := (46, [.ref 4, s_no], [.ref 4], c_h xs L 21 97 102)) rfl ?_
  refine e_newo hk_56 rfl rfl rfl (rU_fresh (by decide +kernel)) rfl rfl ?_
  show e_r 56 49 [.ref 4, s_no] [.ref 102, .ref 4] (c_h xs L 21 97 103) _ _
  refine e_go hk_56 1 (c := (50, [.ref 4, s_no], [.ref 102, .ref 102, .ref 4], c_h xs L 21 97 103)) rfl ?_
  refine e_call hk_56 (as := [.ref 102]) (rest := [.ref 102, .ref 4]) rfl rfl hk_5 rfl (Nat.le_of_ble_eq_true rfl) rfl k_5_102 ?_
  show e_r 56 53 [.ref 4, s_no] [.ref 102, .ref 4] (c_h xs L 21 97 103) _ _
  refine e_putr hk_56 (ev := 6178) rfl rfl rfl rfl rfl ?_
  show e_r 56 56 [.ref 4, s_no] [] (c_h xs L 21 98 103) _ _
  refine e_go hk_56 7 (c := (if s_cnd .ge 0 2 = true then 86 else 67, [.ref 4, .int 0], [], c_h xs L 21 98 103)) rfl ?_
  refine e_ge (a := 86) (b := 67) (x := 0) (y := 2) (fun hc64 => absurd hc64 (by decide)) (fun hc64 => ?_)
  refine e_go hk_56 3 (c := (72, [.ref 4, .int 0], [.int 0, .ref 98], c_h xs L 21 98 103)) rfl ?_
  refine e_newo hk_56 rfl rfl rfl (rU_fresh (by decide +kernel)) rfl rfl ?_
  show e_r 56 75 [.ref 4, .int 0] [.ref 103, .int 0, .ref 98] (c_h xs L 21 98 104) _ _
  refine e_go hk_56 1 (c := (76, [.ref 4, .int 0], [.ref 103, .ref 103, .int 0, .ref 98], c_h xs L 21 98 104)) rfl ?_
  refine e_call hk_56 (as := [.ref 103]) (rest := [.ref 103, .int 0, .ref 98]) rfl rfl hk_27 rfl (Nat.le_of_ble_eq_true rfl) rfl k_27_103 ?_
  show e_r 56 79 [.ref 4, .int 0] [.ref 103, .int 0, .ref 98] (c_h xs L 24 111 117) _ _
  refine e_aast hk_56 (i := 0) rfl rfl rfl rfl (by decide) (by decide) (by decide) (by decide) rfl ?_
  show e_r 56 80 [.ref 4, .int 0] [] (c_h xs L 24 112 117) _ _
  refine e_go hk_56 7 (c := (if s_cnd .ge 1 2 = true then 86 else 67, [.ref 4, .int 1], [], c_h xs L 24 112 117)) rfl ?_
  refine e_ge (a := 86) (b := 67) (x := 1) (y := 2) (fun hc64 => absurd hc64 (by decide)) (fun hc64 => ?_)
  refine e_go hk_56 3 (c := (72, [.ref 4, .int 1], [.int 1, .ref 98], c_h xs L 24 112 117)) rfl ?_
  refine e_newo hk_56 rfl rfl rfl (rU_fresh (by decide +kernel)) rfl rfl ?_
  show e_r 56 75 [.ref 4, .int 1] [.ref 117, .int 1, .ref 98] (c_h xs L 24 112 118) _ _
  refine e_go hk_56 1 (c := (76, [.ref 4, .int 1], [.ref 117, .ref 117, .int 1, .ref 98], c_h xs L 24 112 118)) rfl ?_
  refine e_call hk_56 (as := [.ref 117]) (rest := [.ref 117, .int 1, .ref 98]) rfl rfl hk_27 rfl (Nat.le_of_ble_eq_true rfl) rfl k_27_117 ?_
  show e_r 56 79 [.ref 4, .int 1] [.ref 117, .int 1, .ref 98] (c_h xs L 27 125 131) _ _
  refine e_aast hk_56 (i := 1) rfl rfl rfl rfl (by decide) (by decide) (by decide) (by decide) rfl ?_
  show e_r 56 80 [.ref 4, .int 1] [] (c_h xs L 27 126 131) _ _
  refine e_go hk_56 7 (c := (if s_cnd .ge 2 2 = true then 86 else 67, [.ref 4, .int 2], [], c_h xs L 27 126 131)) rfl ?_
  refine e_ge (a := 86) (b := 67) (x := 2) (y := 2) (fun hc64 => ?_) (fun hc64 => absurd (by decide) hc64)
  exact e_ret hk_56 rfl rfl rfl rfl rfl
/-- the references behind the constructors -/
def p_0 (j : Nat) : Nat := 20 + 13 * j
theorem rU_in : (List.range 131).all (fun i => (List.range 16).all (fun j => decide (rU 126 i j = s_RR p_0 i j))) = true := by decide +kernel
theorem s_u_b : (List.range 126).all (fun x => decide ((s_u x).1 < 131 ∧ (s_u x).2.1 < 16)) = true := by decide +kernel
theorem s_RF_b : s_RF.all (fun l => decide (l.length ≤ 16)) = true := by decide +kernel
theorem rU_fin : rU 126 = s_RR p_0 := by
  funext i j
  by_cases h : i < 131 ∧ j < 16
  · have h1 := List.all_eq_true.mp rU_in i (List.mem_range.mpr h.1)
    exact of_decide_eq_true (List.all_eq_true.mp h1 j (List.mem_range.mpr h.2))
  · rw [rU_out 126 (fun x hx z => by
      have := of_decide_eq_true (List.all_eq_true.mp s_u_b x (List.mem_range.mpr hx))
      omega)]
    unfold s_RR
    by_cases h19 : i = 19
    · subst h19
      have hj : Nat.blt j 6 = false := by
        cases hb : Nat.blt j 6 with
        | false => rfl
        | true =>
          have := Nat.le_of_ble_eq_true hb
          omega
      rw [hj]
    · have hb : Nat.beq i 19 = false := Bool.eq_false_iff.mpr (fun z => h19 (Nat.eq_of_beq_eq_true z))
      rw [hb]
      dsimp only
      rw [s_nth_eq]
      cases hl : s_RF[i]? with
      | none => rfl
      | some l =>
        dsimp only
        rw [s_nth_eq]
        have hm := List.mem_of_getElem? hl
        have hlen := of_decide_eq_true (List.all_eq_true.mp s_RF_b l hm)
        have hi : i < 131 := (List.getElem?_eq_some_iff.mp hl).1
        rw [List.getElem?_eq_none (by omega)]
abbrev z_0 (xs : Nat → Int32) : Nat → Nat → Int32 := zW xs 27
end
section
/-! out of whole's 38 -/
/-! The shape of a tree: its depths in the order of keys (by hand) -/
def d_t (D : Nat → Int32) : Nat → Nat → Nat → Nat → Prop
  | 0, _, l, u => l = u
  | k + 1, d, l, u => l = u ∨ ∃ t, l ≤ t ∧ t < u ∧ D t = nI d ∧ d_t D k (d + 1) l t ∧ d_t D k (d + 1) (t + 1) u
/-- the places from l on, below u, are a tree whose root has depth d -/
def DT (D : Nat → Int32) (d l u : Nat) : Prop := ∃ k, d_t D k d l u
theorem d_t_up {D : Nat → Int32} : ∀ (k d l u : Nat), d_t D k d l u → d_t D (k + 1) d l u
  | 0, d, l, u, h => Or.inl h
  | k + 1, d, l, u, h => by
    rcases h with h | ⟨t, h1, h2, h3, h4, h5⟩
    · exact Or.inl h
    · exact Or.inr ⟨t, h1, h2, h3, d_t_up k _ _ _ h4, d_t_up k _ _ _ h5⟩
theorem d_t_ge {D : Nat → Int32} {k d l u : Nat} (h : d_t D k d l u) : ∀ m, d_t D (k + m) d l u
  | 0 => h
  | m + 1 => d_t_up _ _ _ _ (d_t_ge h m)
theorem DT_nil {D : Nat → Int32} {d l : Nat} : DT D d l l := ⟨0, rfl⟩
theorem DT_node {D : Nat → Int32} {d l u t : Nat} (h1 : l ≤ t) (h2 : t < u) (h3 : D t = nI d) (h4 : DT D (d + 1) l t) (h5 : DT D (d + 1) (t + 1) u) : DT D d l u := by
  obtain ⟨a, ha⟩ := h4
  obtain ⟨b, hb⟩ := h5
  refine ⟨a + b + 1, Or.inr ⟨t, h1, h2, h3, d_t_ge ha b, ?_⟩⟩
  have := d_t_ge hb a
  rw [Nat.add_comm] at this
  exact this
theorem DT_cases {D : Nat → Int32} {d l u : Nat} (h : DT D d l u) : l = u ∨ ∃ t, l ≤ t ∧ t < u ∧ D t = nI d ∧ DT D (d + 1) l t ∧ DT D (d + 1) (t + 1) u := by
  obtain ⟨k, hk⟩ := h
  cases k with
  | zero => exact Or.inl hk
  | succ k =>
    rcases hk with h | ⟨t, h1, h2, h3, h4, h5⟩
    · exact Or.inl h
    · exact Or.inr ⟨t, h1, h2, h3, ⟨k, h4⟩, ⟨k, h5⟩⟩
theorem d_t_le {D : Nat → Int32} : ∀ (k d l u : Nat), d_t D k d l u → l ≤ u
  | 0, d, l, u, h => Nat.le_of_eq h
  | k + 1, d, l, u, h => by
    rcases h with h | ⟨t, h1, h2, h3, h4, h5⟩
    · exact Nat.le_of_eq h
    · omega
theorem DT_le {D : Nat → Int32} {d l u : Nat} (h : DT D d l u) : l ≤ u := by
  obtain ⟨k, hk⟩ := h
  exact d_t_le k d l u hk
theorem d_t_val {D : Nat → Int32} : ∀ (k d l u : Nat), d_t D k d l u → ∀ i, l ≤ i → i < u → ∃ e, D i = nI e ∧ d ≤ e ∧ e < d + (u - l)
  | 0, d, l, u, h, i, h1, h2 => by
    have h : l = u := h
    omega
  | k + 1, d, l, u, h, i, h1, h2 => by
    rcases h with h | ⟨t, g1, g2, g3, g4, g5⟩
    · omega
    · rcases Nat.lt_trichotomy i t with z | z | z
      · obtain ⟨e, e1, e2, e3⟩ := d_t_val k _ _ _ g4 i h1 z
        exact ⟨e, e1, by omega, by omega⟩
      · exact ⟨d, by rw [z]; exact g3, Nat.le_refl _, by omega⟩
      · obtain ⟨e, e1, e2, e3⟩ := d_t_val k _ _ _ g5 i (by omega) h2
        exact ⟨e, e1, by omega, by omega⟩
theorem DT_val {D : Nat → Int32} {d l u : Nat} (h : DT D d l u) {i : Nat} (h1 : l ≤ i) (h2 : i < u) : ∃ e, D i = nI e ∧ d ≤ e ∧ e < d + (u - l) := by
  obtain ⟨k, hk⟩ := h
  exact d_t_val k d l u hk i h1 h2
theorem d_t_congr {D E : Nat → Int32} : ∀ (k d l u : Nat), d_t D k d l u → (∀ i, l ≤ i → i < u → E i = D i) → d_t E k d l u
  | 0, d, l, u, h, he => h
  | k + 1, d, l, u, h, he => by
    rcases h with h | ⟨t, g1, g2, g3, g4, g5⟩
    · exact Or.inl h
    · exact Or.inr ⟨t, g1, g2, by rw [he t g1 g2]; exact g3, d_t_congr k _ _ _ g4 (fun i a b => he i a (by omega)), d_t_congr k _ _ _ g5 (fun i a b => he i (by omega) b)⟩
theorem DT_congr {D E : Nat → Int32} {d l u : Nat} (h : DT D d l u) (he : ∀ i, l ≤ i → i < u → E i = D i) : DT E d l u := by
  obtain ⟨k, hk⟩ := h
  exact ⟨k, d_t_congr k d l u hk he⟩
theorem d_t_up1 {D E : Nat → Int32} {s : Nat} : ∀ (k d l u : Nat), d_t D k d l u → (∀ i, l ≤ i → i < u → E (i + s) = D i) → d_t E k d (l + s) (u + s)
  | 0, d, l, u, h, he => by
    have h : l = u := h
    show l + s = u + s
    rw [h]
  | k + 1, d, l, u, h, he => by
    rcases h with h | ⟨t, g1, g2, g3, g4, g5⟩
    · exact Or.inl (by rw [h])
    · refine Or.inr ⟨t + s, by omega, by omega, by rw [he t g1 g2]; exact g3, d_t_up1 k _ _ _ g4 (fun i a b => he i a (by omega)), ?_⟩
      have := d_t_up1 (E := E) (s := s) k _ _ _ g5 (fun i a b => he i (by omega) b)
      rw [show t + 1 + s = t + s + 1 by omega] at this
      exact this
theorem DT_shift {D E : Nat → Int32} {s d l u : Nat} (h : DT D d l u) (he : ∀ i, l ≤ i → i < u → E (i + s) = D i) : DT E d (l + s) (u + s) := by
  obtain ⟨k, hk⟩ := h
  exact ⟨k, d_t_up1 k d l u hk he⟩
theorem d_t_dn {D E : Nat → Int32} {s : Nat} : ∀ (k d l u : Nat), d_t D k d (l + s) (u + s) → (∀ i, l ≤ i → i < u → E i = D (i + s)) → d_t E k d l u
  | 0, d, l, u, h, he => by
    have h : l + s = u + s := h
    show l = u
    omega
  | k + 1, d, l, u, h, he => by
    rcases h with h | ⟨t, g1, g2, g3, g4, g5⟩
    · exact Or.inl (by omega)
    · obtain ⟨r, rfl⟩ : ∃ r, t = r + s := ⟨t - s, by omega⟩
      refine Or.inr ⟨r, by omega, by omega, by rw [he r (by omega) (by omega)]; exact g3, d_t_dn k _ _ _ g4 (fun i a b => he i a (by omega)), ?_⟩
      rw [show r + s + 1 = r + 1 + s by omega] at g5
      exact d_t_dn k _ _ _ g5 (fun i a b => he i (by omega) b)
theorem DT_down {D E : Nat → Int32} {s d l u : Nat} (h : DT D d (l + s) (u + s)) (he : ∀ i, l ≤ i → i < u → E i = D (i + s)) : DT E d l u := by
  obtain ⟨k, hk⟩ := h
  exact ⟨k, d_t_dn k d l u hk he⟩
/-! a part of a tree in its place -/
def d_bl (D : Nat → Int32) (l : Nat) : Int := (t_bf D l).toInt
def d_bh (D : Nat → Int32) (n u : Nat) : Int := (t_bh D n u).toInt
def CT (D : Nat → Int32) (n d l u : Nat) : Prop := DT D d l u ∧ u ≤ n ∧ d + (u - l) ≤ 60 ∧ d_bl D l < d ∧ d_bh D n u < d ∧ (d_bl D l = (d : Int) - 1 ∨ d_bh D n u = (d : Int) - 1)
theorem y_mone : (-1 : Int32).toInt = -1 := by decide
theorem CT_root {D : Nat → Int32} {n : Nat} (h : DT D 0 0 n) (hn : n ≤ 60) : CT D n 0 0 n := by
  have h1 : d_bl D 0 = -1 := y_mone
  have h2 : d_bh D n n = -1 := by
    unfold d_bh t_bh
    rw [if_neg (Nat.lt_irrefl n)]
    exact y_mone
  exact ⟨h, Nat.le_refl _, by omega, by rw [h1]; decide, by rw [h2]; decide, Or.inl (by rw [h1]; rfl)⟩
theorem t_tp_eq {D : Nat → Int32} {x : Int32} {t : Nat} : ∀ (k l : Nat), l ≤ t → t ≤ l + k → (∀ i, l ≤ i → i < t → ¬ D i = x) → (t < l + k → D t = x) → t_tp D x l k = t
  | 0, l, h1, h2, h3, h4 => by
    rw [t_tp]
    omega
  | k + 1, l, h1, h2, h3, h4 => by
    rw [t_tp]
    by_cases hl : l = t
    · rw [if_pos (by rw [hl]; exact h4 (by omega)), hl]
    · rw [if_neg (h3 l (Nat.le_refl _) (by omega)), t_tp_eq k (l + 1) (by omega) (by omega) (fun i a b => h3 i (by omega) b) (fun h => h4 (by omega))]
theorem t_lo_eq {D : Nat → Int32} {x : Int32} {l : Nat} (h0 : l = 0 ∨ D (l - 1) ≤ x) : ∀ (t : Nat), l ≤ t → (∀ i, l ≤ i → i < t → x < D i) → t_lo D x t = l
  | 0, h1, h2 => by
    rw [t_lo]
    omega
  | t + 1, h1, h2 => by
    rw [t_lo]
    by_cases hl : l = t + 1
    · rw [if_pos (by rcases h0 with h0 | h0; omega; rw [hl] at h0; exact h0), hl]
    · rw [if_neg (Int32.not_le.mpr (h2 t (by omega) (by omega))), t_lo_eq h0 t (by omega) (fun i a b => h2 i a (by omega))]
theorem t_hi_eq {D : Nat → Int32} {x : Int32} {h : Nat} : ∀ (k t : Nat), t ≤ h → h ≤ t + k → (∀ i, t < i → i ≤ h → x < D i) → (h < t + k → D (h + 1) ≤ x) → t_hi D x t k = h
  | 0, t, h1, h2, h3, h4 => by
    rw [t_hi]
    omega
  | k + 1, t, h1, h2, h3, h4 => by
    rw [t_hi]
    by_cases hl : t = h
    · rw [if_pos (by rw [hl]; exact h4 (by omega)), hl]
    · rw [if_neg (Int32.not_le.mpr (h3 (t + 1) (by omega) (by omega))), t_hi_eq k (t + 1) (by omega) (by omega) (fun i a b => h3 i (by omega) b) (fun h => h4 (by omega))]
theorem CT_top {D : Nat → Int32} {n d l u : Nat} (h : CT D n d l u) (hlu : l < u) : ∃ t, t_tp D (nI d) l (u - 1 - l) = t ∧ l ≤ t ∧ t < u ∧ D t = nI d ∧ CT D n (d + 1) l t ∧ CT D n (d + 1) (t + 1) u ∧ ∀ i, l ≤ i → i < u → i ≠ t → nI d < D i := by
  obtain ⟨h1, h2, h3, h4, h5, h6⟩ := h
  rcases DT_cases h1 with z | ⟨t, g1, g2, g3, g4, g5⟩
  · omega
  have hv : ∀ i, l ≤ i → i < u → i ≠ t → nI d < D i := by
    intro i a b c
    rcases Nat.lt_or_ge i t with z | z
    · obtain ⟨e, e1, e2, e3⟩ := DT_val g4 a z
      rw [e1]
      exact nI_lt (by omega) (by omega)
    · obtain ⟨e, e1, e2, e3⟩ := DT_val g5 (i := i) (by omega) b
      rw [e1]
      exact nI_lt (by omega) (by omega)
  have ht : (D t).toInt = d := by rw [g3]; exact nI_toInt (by omega)
  have hbl : d_bl D (t + 1) = d := ht
  have hbh : d_bh D n t = d := by
    unfold d_bh t_bh
    rw [if_pos (by omega)]
    exact ht
  refine ⟨t, t_tp_eq _ _ g1 (by omega) (fun i a b => ?_) (fun _ => g3), g1, g2, g3, ⟨g4, by omega, by omega, by omega, by rw [hbh]; omega, Or.inr (by rw [hbh]; omega)⟩, ⟨g5, h2, by omega, by rw [hbl]; omega, by omega, Or.inl (by rw [hbl]; omega)⟩, hv⟩
  intro hc
  have := hv i a (by omega) (by omega)
  rw [hc] at this
  exact Int32.lt_irrefl this
theorem CT_bl {D : Nat → Int32} {n d l u : Nat} (h : CT D n d l u) : l = 0 ∨ D (l - 1) ≤ nI d := by
  obtain ⟨h1, h2, h3, h4, h5, h6⟩ := h
  cases l with
  | zero => exact Or.inl rfl
  | succ l =>
    right
    have h4 : (D l).toInt < d := h4
    show D l ≤ nI d
    rw [Int32.le_iff_toInt_le, nI_toInt (by omega)]
    omega
theorem CT_bh {D : Nat → Int32} {n d l u : Nat} (h : CT D n d l u) (hu : u < n) : D u ≤ nI d := by
  obtain ⟨h1, h2, h3, h4, h5, h6⟩ := h
  unfold d_bh t_bh at h5
  rw [if_pos hu] at h5
  rw [Int32.le_iff_toInt_le, nI_toInt (by omega)]
  omega
theorem CT_span {D : Nat → Int32} {n d l u t : Nat} (h : CT D n d l u) (h1 : l ≤ t) (h2 : t < u) (h3 : D t = nI d) (h4 : ∀ i, l ≤ i → i < u → i ≠ t → nI d < D i) : t_lo D (D t) t = l ∧ t_hi D (D t) t (n - 1 - t) = u - 1 := by
  rw [h3]
  have hun := h.2.1
  refine ⟨t_lo_eq (CT_bl h) t h1 (fun i a b => h4 i a (by omega) (by omega)), t_hi_eq _ _ (by omega) (by omega) (fun i a b => h4 i (by omega) (by omega) (by omega)) (fun hh => ?_)⟩
  rw [show u - 1 + 1 = u by omega]
  exact CT_bh h (by omega)
/-- each place has its part -/
theorem CT_at {D : Nat → Int32} {n : Nat} : ∀ (k d l u : Nat), u - l ≤ k → CT D n d l u → ∀ j, l ≤ j → j < u → ∃ e a b, CT D n e a b ∧ l ≤ a ∧ b ≤ u ∧ a ≤ j ∧ j < b ∧ D j = nI e ∧ d ≤ e ∧ ∀ i, a ≤ i → i < b → i ≠ j → nI e < D i
  | 0, d, l, u, hk, h, j, h1, h2 => by omega
  | k + 1, d, l, u, hk, h, j, h1, h2 => by
    obtain ⟨t, q0, q1, q2, q3, q4, q5, q6⟩ := CT_top h (by omega)
    rcases Nat.lt_trichotomy j t with z | z | z
    · obtain ⟨e, a, b, p1, p2, p3, p4, p5, p6, p7, p8⟩ := CT_at k (d + 1) l t (by omega) q4 j h1 z
      exact ⟨e, a, b, p1, p2, by omega, p4, p5, p6, by omega, p8⟩
    · subst z
      exact ⟨d, l, u, h, Nat.le_refl _, Nat.le_refl _, h1, h2, q3, Nat.le_refl _, q6⟩
    · obtain ⟨e, a, b, p1, p2, p3, p4, p5, p6, p7, p8⟩ := CT_at k (d + 1) (t + 1) u (by omega) q5 j (by omega) h2
      exact ⟨e, a, b, p1, by omega, p3, p4, p5, p6, by omega, p8⟩
/-- the first and the last place below j, as functions of the depths -/
abbrev dL (D : Nat → Int32) (j : Nat) : Nat := t_lo D (D j) j
abbrev dH (D : Nat → Int32) (n j : Nat) : Nat := t_hi D (D j) j (n - 1 - j)
theorem CT_in {D : Nat → Int32} {n d l u j : Nat} (h : CT D n d l u) (h1 : l ≤ j) (h2 : j < u) : l ≤ dL D j ∧ dL D j ≤ j ∧ j ≤ dH D n j ∧ dH D n j < u := by
  obtain ⟨e, a, b, p1, p2, p3, p4, p5, p6, p7, p8⟩ := CT_at (u - l) d l u (Nat.le_refl _) h j h1 h2
  obtain ⟨s1, s2⟩ := CT_span p1 p4 p5 p6 p8
  show l ≤ t_lo D (D j) j ∧ t_lo D (D j) j ≤ j ∧ j ≤ t_hi D (D j) j (n - 1 - j) ∧ t_hi D (D j) j (n - 1 - j) < u
  rw [s1, s2]
  omega
/-! functions of the depths that see the places of the tree alone -/
theorem t_lo_congr {D E : Nat → Int32} {x : Int32} : ∀ (t : Nat), (∀ i, i < t → E i = D i) → t_lo E x t = t_lo D x t
  | 0, h => rfl
  | t + 1, h => by rw [t_lo, t_lo, h t (by omega), t_lo_congr t (fun i a => h i (by omega))]
theorem t_hi_congr {D E : Nat → Int32} {x : Int32} : ∀ (k t : Nat), (∀ i, t < i → i ≤ t + k → E i = D i) → t_hi E x t k = t_hi D x t k
  | 0, t, h => rfl
  | k + 1, t, h => by rw [t_hi, t_hi, h (t + 1) (by omega) (by omega), t_hi_congr k (t + 1) (fun i a b => h i (by omega) (by omega))]
theorem t_tp_congr {D E : Nat → Int32} {x : Int32} : ∀ (k t : Nat), (∀ i, t ≤ i → i < t + k → E i = D i) → t_tp E x t k = t_tp D x t k
  | 0, t, h => rfl
  | k + 1, t, h => by rw [t_tp, t_tp, h t (by omega) (by omega), t_tp_congr k (t + 1) (fun i a b => h i (by omega) (by omega))]
theorem t_sm_congr {f g : Nat → Int32} : ∀ (k i : Nat) (a : Int32), (∀ j, i ≤ j → j < i + k → f j = g j) → t_sm f i k a = t_sm g i k a
  | 0, i, a, h => rfl
  | k + 1, i, a, h => by rw [t_sm, t_sm, h i (Nat.le_refl _) (by omega), t_sm_congr k (i + 1) _ (fun j a b => h j (by omega) (by omega))]
theorem t_mx_congr {f g : Nat → Int32} : ∀ (k i : Nat) (a : Int32), (∀ j, i ≤ j → j < i + k → f j = g j) → t_mx f i k a = t_mx g i k a
  | 0, i, a, h => rfl
  | k + 1, i, a, h => by rw [t_mx, t_mx, h i (Nat.le_refl _) (by omega), t_mx_congr k (i + 1) _ (fun j a b => h j (by omega) (by omega))]
theorem t_pl_congr {f g : Nat → Int32} {x : Int32} : ∀ (k i : Nat), (∀ j, i ≤ j → j < i + k → f j = g j) → t_pl f x i k = t_pl g x i k
  | 0, i, h => rfl
  | k + 1, i, h => by rw [t_pl, t_pl, h i (Nat.le_refl _) (by omega), t_pl_congr k (i + 1) (fun j a b => h j (by omega) (by omega))]
theorem dL_congr {D E : Nat → Int32} {n j : Nat} (h : ∀ i, i < n → E i = D i) (hj : j < n) : dL E j = dL D j := by
  show t_lo E (E j) j = t_lo D (D j) j
  rw [h j hj, t_lo_congr j (fun i a => h i (by omega))]
theorem dH_congr {D E : Nat → Int32} {n j : Nat} (h : ∀ i, i < n → E i = D i) (hj : j < n) : dH E n j = dH D n j := by
  show t_hi E (E j) j (n - 1 - j) = t_hi D (D j) j (n - 1 - j)
  rw [h j hj, t_hi_congr _ j (fun i a b => h i (by omega))]
/-- no place above j is deeper than where j's part ends: the places below a hold j if and only if a is above j -/
theorem CT_top_in {D : Nat → Int32} {n d l u t p : Nat} (h : CT D n d l u) (h1 : l ≤ t) (h2 : t < u) (h3 : D t = nI d) (h4 : ∀ i, l ≤ i → i < u → i ≠ t → nI d < D i) (p1 : l ≤ p) (p2 : p < u) : dL D t ≤ p ∧ p ≤ dH D n t := by
  obtain ⟨s1, s2⟩ := CT_span h h1 h2 h3 h4
  show t_lo D (D t) t ≤ p ∧ p ≤ t_hi D (D t) t (n - 1 - t)
  rw [s1, s2]
  omega
end
section
/-! out of whole's 39 -/
/-! Ways: paying, leaning, a new node (by hand) -/
theorem nI_sub {a b : Nat} (h : b ≤ a) : nI a - nI b = nI (a - b) := by
  have h1 : nI a = nI (a - b) + nI b := by rw [nI_add, Nat.sub_add_cancel h]
  rw [h1, Int32.add_sub_cancel]
/-- who is paid: those above p -/
theorem py_eff {n p : Nat} {D : Nat → Int32} : ∀ (k d l u : Nat) (Z : Nat → Nat → Int32), Z 15 = D → CT D n d l u → u - l ≤ k → l ≤ p → p < u → ∀ i, t_py p k d l u Z 13 i = Z 13 i + (if l ≤ i ∧ i < u ∧ dL D i ≤ p ∧ p ≤ dH D n i then Z 7 2 else 0)
  | 0, d, l, u, Z, hD, h, hk, h1, h2, i => by omega
  | k + 1, d, l, u, Z, hD, h, hk, h1, h2, i => by
    obtain ⟨t, q0, q1, q2, q3, q4, q5, q6⟩ := CT_top h (by omega)
    rw [t_py, if_neg (by omega), hD, q0]
    have hti := CT_top_in h q1 q2 q3 q6 h1 h2
    have e1 : ∀ x, s_upd Z 13 t x 13 i = if i = t then x else Z 13 i := fun x => by
      rw [s_upd_c]
      by_cases hi : i = t
      · rw [if_pos ⟨rfl, hi⟩, if_pos hi]
      · rw [if_neg (fun z => hi z.2), if_neg hi]
    have e7 : ∀ x, s_upd Z 13 t x 7 = Z 7 := fun x => s_upd_o (by decide)
    have e15 : ∀ x, s_upd Z 13 t x 15 = D := fun x => by rw [s_upd_o (by decide)]; exact hD
    by_cases hp : t = p
    · rw [if_pos hp, e1]
      by_cases hi : i = t
      · rw [if_pos hi, if_pos (by rw [hi]; exact ⟨q1, q2, hti⟩), hi]
      · rw [if_neg hi, if_neg, Int32.add_zero]
        rintro ⟨a, b, c, e⟩
        rcases Nat.lt_or_ge i t with z | z
        · have := CT_in q4 a z; omega
        · have := CT_in q5 (j := i) (by omega) b; omega
    · rw [if_neg hp]
      by_cases hlt : t < p
      · rw [if_pos hlt, py_eff k (d + 1) (t + 1) u _ (e15 _) q5 (by omega) (by omega) h2 i, e1, e7]
        by_cases hi : i = t
        · rw [if_pos hi, if_neg (by omega), if_pos (by rw [hi]; exact ⟨q1, q2, hti⟩), Int32.add_zero, hi]
        · rw [if_neg hi]
          by_cases hc : t + 1 ≤ i ∧ i < u ∧ dL D i ≤ p ∧ p ≤ dH D n i
          · rw [if_pos hc, if_pos ⟨by omega, hc.2⟩]
          · rw [if_neg hc, if_neg]
            rintro ⟨a, b, c, e⟩
            rcases Nat.lt_or_ge i t with z | z
            · have := CT_in q4 a z; omega
            · exact hc ⟨by omega, b, c, e⟩
      · rw [if_neg hlt, py_eff k (d + 1) l t _ (e15 _) q4 (by omega) h1 (by omega) i, e1, e7]
        by_cases hi : i = t
        · rw [if_pos hi, if_neg (by omega), if_pos (by rw [hi]; exact ⟨q1, q2, hti⟩), Int32.add_zero, hi]
        · rw [if_neg hi]
          by_cases hc : l ≤ i ∧ i < t ∧ dL D i ≤ p ∧ p ≤ dH D n i
          · rw [if_pos hc, if_pos ⟨hc.1, by omega, hc.2.2⟩]
          · rw [if_neg hc, if_neg]
            rintro ⟨a, b, c, e⟩
            rcases Nat.lt_or_ge i t with z | z
            · exact hc ⟨a, z, c, e⟩
            · have := CT_in q5 (j := i) (by omega) b; omega
/-! the way to p: the first node that leans -/
def d_ln (D : Nat → Int32) (n : Nat) (lean : Int32) (i : Nat) : Bool := y_th lean (nI i - nI (dL D i)) (nI (dH D n i) - nI i)
def d_cd (D : Nat → Int32) (n : Nat) (lean : Int32) (p i : Nat) : Prop := dL D i ≤ p ∧ p ≤ dH D n i ∧ d_ln D n lean i = true
def d_wp (D : Nat → Int32) (lean : Int32) (p : Nat) : Nat → Nat → Nat → Nat → Option Nat
  | 0, _, _, _ => none
  | k + 1, d, l, u => if y_th lean (nI (t_tp D (nI d) l (u - 1 - l)) - nI l) (nI (u - 1) - nI (t_tp D (nI d) l (u - 1 - l))) = true then some (t_tp D (nI d) l (u - 1 - l)) else if t_tp D (nI d) l (u - 1 - l) = p then none else if t_tp D (nI d) l (u - 1 - l) < p then d_wp D lean p k (d + 1) (t_tp D (nI d) l (u - 1 - l) + 1) u else d_wp D lean p k (d + 1) l (t_tp D (nI d) l (u - 1 - l))
theorem d_wp_spec {D : Nat → Int32} {n p : Nat} {lean : Int32} : ∀ (k d l u : Nat), CT D n d l u → u - l ≤ k → l ≤ p → p < u → (d_wp D lean p k d l u = none → ∀ i, l ≤ i → i < u → ¬ d_cd D n lean p i) ∧ (∀ j, d_wp D lean p k d l u = some j → l ≤ j ∧ j < u ∧ d_cd D n lean p j ∧ ∀ i, l ≤ i → i < u → i ≠ j → d_cd D n lean p i → D j < D i)
  | 0, d, l, u, h, hk, h1, h2 => by omega
  | k + 1, d, l, u, h, hk, h1, h2 => by
    obtain ⟨t, q0, q1, q2, q3, q4, q5, q6⟩ := CT_top h (by omega)
    obtain ⟨s1, s2⟩ := CT_span h q1 q2 q3 q6
    have hti := CT_top_in h q1 q2 q3 q6 h1 h2
    have hln : d_ln D n lean t = y_th lean (nI t - nI l) (nI (u - 1) - nI t) := by
      show y_th lean (nI t - nI (t_lo D (D t) t)) (nI (t_hi D (D t) t (n - 1 - t)) - nI t) = _
      rw [s1, s2]
    rw [d_wp, q0, ← hln]
    cases hl : d_ln D n lean t with
    | true =>
      rw [if_pos rfl]
      refine ⟨fun z => (by cases z), fun j hj => ?_⟩
      cases hj
      exact ⟨q1, q2, ⟨hti.1, hti.2, hl⟩, fun i a b c _ => by rw [q3]; exact q6 i a b c⟩
    | false =>
      rw [if_neg (by decide)]
      have htn : ¬ d_cd D n lean p t := fun z => (by have z3 := z.2.2; rw [hl] at z3; cases z3)
      by_cases hp : t = p
      · rw [if_pos hp]
        refine ⟨fun _ i a b z => ?_, fun j hj => by cases hj⟩
        by_cases hi : i = t
        · rw [hi] at z; exact htn z
        · rcases Nat.lt_or_ge i t with y | y
          · have := CT_in q4 a y; have := z.2.1; omega
          · have := CT_in q5 (j := i) (by omega) b; have := z.1; omega
      · rw [if_neg hp]
        by_cases hlt : t < p
        · rw [if_pos hlt]
          obtain ⟨r1, r2⟩ := d_wp_spec (lean := lean) k (d + 1) (t + 1) u q5 (by omega) (by omega) h2
          have key : ∀ i, l ≤ i → i < u → d_cd D n lean p i → t + 1 ≤ i := by
            intro i a b z
            by_cases hi : i = t
            · rw [hi] at z; exact absurd z htn
            · rcases Nat.lt_or_ge i t with y | y
              · have := CT_in q4 a y; have := z.2.1; omega
              · omega
          refine ⟨fun hn i a b z => r1 hn i (key i a b z) b z, fun j hj => ?_⟩
          obtain ⟨p1, p2, p3, p4⟩ := r2 j hj
          exact ⟨by omega, p2, p3, fun i a b c z => p4 i (key i a b z) b c z⟩
        · rw [if_neg hlt]
          obtain ⟨r1, r2⟩ := d_wp_spec (lean := lean) k (d + 1) l t q4 (by omega) h1 (by omega)
          have key : ∀ i, l ≤ i → i < u → d_cd D n lean p i → i < t := by
            intro i a b z
            by_cases hi : i = t
            · rw [hi] at z; exact absurd z htn
            · rcases Nat.lt_or_ge i t with y | y
              · exact y
              · have := CT_in q5 (j := i) (by omega) b; have := z.1; omega
          refine ⟨fun hn i a b z => r1 hn i a (key i a b z) z, fun j hj => ?_⟩
          obtain ⟨p1, p2, p3, p4⟩ := r2 j hj
          exact ⟨p1, by omega, p3, fun i a b c z => p4 i a (key i a b z) c z⟩
/-! a new node at place p -/
def d_in (D E : Nat → Int32) (n p : Nat) : Prop := (∀ i, i < p → E i = D i) ∧ (∀ i, p ≤ i → i < n → E (i + 1) = D i) ∧ E p = y_mx (t_bf D p) (t_bh D n p) + 1
theorem y_mx_nI {a b : Int32} {d : Nat} (hd : d < 2 ^ 31) (h1 : a.toInt < d) (h2 : b.toInt < d) (h3 : a.toInt = (d : Int) - 1 ∨ b.toInt = (d : Int) - 1) : y_mx a b + 1 = nI d := by
  have h : (y_mx a b).toInt = (d : Int) - 1 := by
    unfold y_mx
    by_cases hc : a < b
    · rw [if_pos hc]
      rw [Int32.lt_iff_toInt_lt] at hc
      omega
    · rw [if_neg hc]
      rw [Int32.lt_iff_toInt_lt] at hc
      omega
  have h4 : y_mx a b = nI d - 1 := Int32.toInt_inj.mp (by rw [h, y_m1 hd])
  rw [h4, Int32.sub_add_cancel]
theorem d_in_nil {D E : Nat → Int32} {n d p : Nat} (hi : d_in D E n p) (h : CT D n d p p) : E p = nI d := by
  obtain ⟨h1, h2, h3, h4, h5, h6⟩ := h
  rw [hi.2.2]
  exact y_mx_nI (by omega) h4 h5 h6
theorem DT_ins {D E : Nat → Int32} {n p : Nat} (hi : d_in D E n p) : ∀ (k d l u : Nat), u - l ≤ k → CT D n d l u → l ≤ p → p ≤ u → DT E d l (u + 1)
  | 0, d, l, u, hk, h, h1, h2 => by
    obtain rfl : l = p := by omega
    obtain rfl : u = l := by omega
    exact DT_node (Nat.le_refl _) (by omega) (d_in_nil hi h) DT_nil DT_nil
  | k + 1, d, l, u, hk, h, h1, h2 => by
    rcases Nat.lt_or_ge l u with hlu | hlu
    · obtain ⟨t, q0, q1, q2, q3, q4, q5, q6⟩ := CT_top h hlu
      have hun := h.2.1
      rcases Nat.lt_or_ge t p with z | z
      · refine DT_node q1 (by omega) (by rw [hi.1 t z]; exact q3) (DT_congr q4.1 (fun i a b => hi.1 i (by omega))) ?_
        exact DT_ins hi k (d + 1) (t + 1) u (by omega) q5 (by omega) h2
      · refine DT_node (t := t + 1) (by omega) (by omega) (by rw [hi.2.1 t z (by omega)]; exact q3) (DT_ins hi k (d + 1) l t (by omega) q4 h1 z) ?_
        exact DT_shift (s := 1) q5.1 (fun i a b => hi.2.1 i (by omega) (by omega))
    · obtain rfl : l = p := by omega
      obtain rfl : u = l := by omega
      exact DT_node (Nat.le_refl _) (by omega) (d_in_nil hi h) DT_nil DT_nil
theorem y_th0 {lean : Int32} (h : 0 ≤ lean) {a b : Int32} (ha : a = 0) (hb : b = 0) : y_th lean a b = false := by
  subst ha; subst hb
  unfold y_th
  rw [decide_eq_false]
  show ¬ lean * (0 + 0 + 1) < 100 * (if (0 : Int32) < 0 then 0 else 0)
  rw [show (0 : Int32) + 0 + 1 = 1 from by decide, Int32.mul_one, show (100 : Int32) * (if (0 : Int32) < 0 then 0 else 0) = 0 from by decide]
  exact Int32.not_lt.mpr h
/-- the way in the old tree, with the new node counted, and the way in the new one -/
theorem wl_wp {D E : Nat → Int32} {n p : Nat} {lean : Int32} (h0 : 0 ≤ lean) (hi : d_in D E n p) : ∀ (k d l u : Nat), u + 1 - l ≤ k → CT D n d l u → CT E (n + 1) d l (u + 1) → l ≤ p → p ≤ u →
    (t_wl D lean p k d l u = none → d_wp E lean p k d l (u + 1) = none) ∧ (∀ j, t_wl D lean p k d l u = some j → j < n ∧ d_wp E lean p k d l (u + 1) = some (if j < p then j else j + 1) ∧ nI (dH E (n + 1) (if j < p then j else j + 1)) - nI (dL E (if j < p then j else j + 1)) + 1 = nI (dH D n j) - nI (dL D j) + 2)
  | 0, d, l, u, hk, h, hE, h1, h2 => by omega
  | k + 1, d, l, u, hk, h, hE, h1, h2 => by
    obtain ⟨s, r0, r1, r2, r3, r4, r5, r6⟩ := CT_top hE (by omega)
    have hun := h.2.1
    rw [t_wl]
    rcases Nat.lt_or_ge l u with hlu | hlu
    · obtain ⟨t, q0, q1, q2, q3, q4, q5, q6⟩ := CT_top h hlu
      rw [if_neg (by omega)]
      dsimp only
      rw [q0, d_wp, r0]
      have two : ∀ x, l ≤ x → x < u + 1 → E x = nI d → s = x := by
        intro x a b c
        by_cases hx : x = s
        · exact hx.symm
        · have := r6 x a b hx
          rw [c] at this
          exact absurd this Int32.lt_irrefl
      obtain ⟨v1, v2⟩ := CT_span h q1 q2 q3 q6
      obtain ⟨w1, w2⟩ := CT_span hE r1 r2 r3 r6
      rcases Nat.lt_or_ge t p with z | z
      · have hs : s = t := two t q1 (by omega) (by rw [hi.1 t z]; exact q3)
        subst hs
        rw [if_neg (by omega)]
        have ey : y_th lean (nI s - nI l) (nI (u + 1 - 1) - nI s) = y_th lean (nI s - nI l) (nI (u - 1) - nI s + 1) := by
          congr 1
          rw [nI_sub (by omega), nI_sub (by omega), nI_1]
          congr 1
          omega
        rw [ey]
        by_cases hc : y_th lean (nI s - nI l) (nI (u - 1) - nI s + 1) = true
        · rw [if_pos hc, if_pos hc]
          refine ⟨fun z => (by cases z), fun j hj => ?_⟩
          cases hj
          refine ⟨by omega, by rw [if_pos z], ?_⟩
          rw [if_pos z]
          show nI (t_hi E (E s) s (n + 1 - 1 - s)) - nI (t_lo E (E s) s) + 1 = nI (t_hi D (D s) s (n - 1 - s)) - nI (t_lo D (D s) s) + 2
          rw [v1, v2, w1, w2, nI_sub (by omega), nI_sub (by omega), nI_1, show (2 : Int32) = nI 2 from rfl, nI_add]
          congr 1
          omega
        · rw [if_neg hc, if_neg hc, if_neg (by omega), if_pos z]
          exact wl_wp h0 hi k (d + 1) (s + 1) u (by omega) q5 r5 (by omega) h2
      · have hs : s = t + 1 := two (t + 1) (by omega) (by omega) (by rw [hi.2.1 t z (by omega)]; exact q3)
        subst hs
        rw [if_pos z]
        have ey : y_th lean (nI (t + 1) - nI l) (nI (u + 1 - 1) - nI (t + 1)) = y_th lean (nI t - nI l + 1) (nI (u - 1) - nI t) := by
          rw [nI_sub (by omega), nI_sub (by omega), nI_sub (by omega), nI_sub (by omega), nI_1]
          congr 2
          · omega
          · omega
        rw [ey]
        by_cases hc : y_th lean (nI t - nI l + 1) (nI (u - 1) - nI t) = true
        · rw [if_pos hc, if_pos hc]
          refine ⟨fun z => (by cases z), fun j hj => ?_⟩
          cases hj
          refine ⟨by omega, by rw [if_neg (by omega)], ?_⟩
          rw [if_neg (by omega)]
          show nI (t_hi E (E (t + 1)) (t + 1) (n + 1 - 1 - (t + 1))) - nI (t_lo E (E (t + 1)) (t + 1)) + 1 = nI (t_hi D (D t) t (n - 1 - t)) - nI (t_lo D (D t) t) + 2
          rw [v1, v2, w1, w2, nI_sub (by omega), nI_sub (by omega), nI_1, show (2 : Int32) = nI 2 from rfl, nI_add]
          congr 1
          omega
        · rw [if_neg hc, if_neg hc, if_neg (by omega), if_neg (by omega)]
          exact wl_wp h0 hi k (d + 1) l t (by omega) q4 r4 h1 z
    · rw [if_pos hlu]
      refine ⟨fun _ => ?_, fun j hj => by cases hj⟩
      have hs : s = p := by omega
      rw [d_wp, r0, hs, y_th0 h0, if_neg (by decide), if_pos rfl]
      · rw [nI_sub (by omega)]
        rw [show p - l = 0 by omega]
        rfl
      · rw [nI_sub (by omega), show u + 1 - 1 - p = 0 by omega]
        rfl
end
section
/-! out of whole's 40 -/
/-! Dropping hollow nodes and laying anew (by hand) -/
def d_n (M : Nat → Bool) : Nat → Nat → Nat
  | _, 0 => 0
  | i, k + 1 => (if M i = true then 1 else 0) + d_n M (i + 1) k
theorem d_n_le {M : Nat → Bool} : ∀ (k i : Nat), d_n M i k ≤ k
  | 0, i => Nat.le_refl _
  | k + 1, i => by
    have := d_n_le (M := M) k (i + 1)
    rw [d_n]
    split <;> omega
theorem d_n_snoc {M : Nat → Bool} : ∀ (k i : Nat), d_n M i (k + 1) = d_n M i k + (if M (i + k) = true then 1 else 0)
  | 0, i => by
    show (if M i = true then 1 else 0) + 0 = 0 + (if M (i + 0) = true then 1 else 0)
    rw [Nat.add_zero, Nat.add_zero, Nat.zero_add]
  | k + 1, i => by
    rw [d_n, d_n_snoc k (i + 1), d_n, show i + 1 + k = i + (k + 1) by omega]
    omega
theorem d_n_add {M : Nat → Bool} : ∀ (a b i : Nat), d_n M i (a + b) = d_n M i a + d_n M (i + a) b
  | 0, b, i => by rw [Nat.zero_add, d_n, Nat.zero_add, Nat.add_zero]
  | a + 1, b, i => by
    rw [show a + 1 + b = a + b + 1 by omega, d_n, d_n_add a b (i + 1), d_n, show i + 1 + a = i + (a + 1) by omega]
    omega
theorem d_n_congr {M N : Nat → Bool} : ∀ (k i : Nat), (∀ x, i ≤ x → x < i + k → M x = N x) → d_n M i k = d_n N i k
  | 0, i, h => rfl
  | k + 1, i, h => by rw [d_n, d_n, h i (Nat.le_refl _) (by omega), d_n_congr k (i + 1) (fun x a b => h x (by omega) (by omega))]
theorem d_n_all {M : Nat → Bool} : ∀ (k i : Nat), (∀ x, i ≤ x → x < i + k → M x = true) → d_n M i k = k
  | 0, i, h => rfl
  | k + 1, i, h => by
    rw [d_n, if_pos (h i (Nat.le_refl _) (by omega)), d_n_all k (i + 1) (fun x a b => h x (by omega) (by omega))]
    omega
theorem d_n_sur {M : Nat → Bool} {i : Nat} : ∀ (k y : Nat), y < d_n M i k → ∃ x, i ≤ x ∧ x < i + k ∧ M x = true ∧ d_n M i (x - i) = y
  | 0, y, h => by cases h
  | k + 1, y, h => by
    rw [d_n_snoc] at h
    rcases Nat.lt_or_ge y (d_n M i k) with z | z
    · obtain ⟨x, a, b, c, e⟩ := d_n_sur k y z
      exact ⟨x, a, by omega, c, e⟩
    · by_cases hm : M (i + k) = true
      · rw [if_pos hm] at h
        exact ⟨i + k, by omega, by omega, hm, by rw [show i + k - i = k by omega]; omega⟩
      · rw [if_neg hm] at h
        omega
theorem t_ct_dn {F : Nat → Int32} : ∀ (k i : Nat), t_ct F i k = d_n (fun x => decide (F x = 1)) i k
  | 0, i => rfl
  | k + 1, i => by
    rw [t_ct, d_n, t_ct_dn k (i + 1)]
    by_cases h : F i = 1
    · rw [if_pos h, if_pos (decide_eq_true h)]
    · rw [if_neg h, if_neg (by rw [decide_eq_false h]; decide)]
/-! the class -/
theorem t_dh_get {hi n c : Nat} {M : Nat → Bool} (hc : t_cl c) : ∀ (k i q : Nat) (Z : Nat → Nat → Int32), i + k = n → q ≤ i → (∀ x, i ≤ x → x < n → (M x = true ↔ hi < x ∨ Z 17 x = 1)) →
    (∀ y, y < q → t_dh hi k i q Z c y = Z c y) ∧ (∀ x, i ≤ x → x < n → M x = true → t_dh hi k i q Z c (q + d_n M i (x - i)) = Z c x) ∧ t_dh hi k i q Z 5 6 = nI (q + d_n M i k)
  | 0, i, q, Z, hi2, hq, hM => by
    refine ⟨fun y hy => ?_, fun x a b => by omega, ?_⟩
    · rw [t_dh, s_upd_o (fun z => by rw [z] at hc; exact t_cl5 hc)]
    · rw [t_dh, s_upd_c, if_pos ⟨rfl, rfl⟩]
      rfl
  | k + 1, i, q, Z, hi2, hq, hM => by
    rw [t_dh]
    by_cases hm : M i = true
    · rw [if_pos ((hM i (Nat.le_refl _) (by omega)).mp hm)]
      have hM2 : ∀ x, i + 1 ≤ x → x < n → (M x = true ↔ hi < x ∨ t_mv Z i q 17 x = 1) := fun x a b => by
        rw [t_mv_get (Or.inr (Or.inr (Or.inr (Or.inr rfl)))), if_neg (by omega)]
        exact hM x (by omega) b
      obtain ⟨r1, r2, r3⟩ := t_dh_get (hi := hi) (n := n) hc k (i + 1) (q + 1) (t_mv Z i q) (by omega) (by omega) hM2
      refine ⟨fun y hy => ?_, fun x a b m => ?_, ?_⟩
      · rw [r1 y (by omega), t_mv_get hc, if_neg (by omega)]
      · by_cases hx : x = i
        · have e := r1 q (by omega)
          rw [t_mv_get hc, if_pos rfl] at e
          rw [hx, Nat.sub_self]
          exact e
        · have := r2 x (by omega) b m
          rw [t_mv_get hc, if_neg (by omega)] at this
          rw [← this, show x - i = (x - (i + 1)) + 1 by omega, d_n, if_pos hm]
          congr 1
          omega
      · rw [r3, d_n, if_pos hm]
        congr 1
        omega
    · rw [if_neg (fun z => hm ((hM i (Nat.le_refl _) (by omega)).mpr z))]
      obtain ⟨r1, r2, r3⟩ := t_dh_get (hi := hi) (n := n) hc k (i + 1) q Z (by omega) (by omega) (fun x a b => hM x (by omega) b)
      refine ⟨r1, fun x a b m => ?_, ?_⟩
      · have hx : x ≠ i := fun z => by rw [z] at m; exact hm m
        rw [← r2 x (by omega) b m, show x - i = (x - (i + 1)) + 1 by omega, d_n, if_neg hm, Nat.zero_add]
      · rw [r3, d_n, if_neg hm, Nat.zero_add]
theorem t_ly_get {lo c y : Nat} {dep : Int32} : ∀ (k i : Nat) (Z : Nat → Nat → Int32), t_ly lo c dep k i Z 15 y = (if lo + i ≤ y ∧ y < lo + i + k then dep + nI (t_de (y - lo) c) else Z 15 y) ∧ t_ly lo c dep k i Z 13 y = (if lo + i ≤ y ∧ y < lo + i + k then 0 else Z 13 y)
  | 0, i, Z => by
    rw [if_neg (by omega), if_neg (by omega)]
    exact ⟨rfl, rfl⟩
  | k + 1, i, Z => by
    rw [t_ly]
    obtain ⟨r1, r2⟩ := t_ly_get (lo := lo) (c := c) (y := y) (dep := dep) k (i + 1) (s_upd (s_upd Z 15 (lo + i) (dep + nI (t_de i c))) 13 (lo + i) 0)
    rw [r1, r2, s_upd_c, s_upd_c, s_upd_c, s_upd_c]
    rw [if_neg (show ¬ (15 = 13 ∧ y = lo + i) by omega), if_neg (show ¬ (13 = 15 ∧ y = lo + i) by omega)]
    by_cases h1 : y = lo + i
    · rw [if_neg (by omega), if_pos ⟨rfl, h1⟩, if_pos (by omega), if_neg (by omega), if_pos ⟨rfl, h1⟩, if_pos (by omega), show y - lo = i by omega]
      exact ⟨rfl, rfl⟩
    · rw [if_neg (fun z : 15 = 15 ∧ y = lo + i => h1 z.2), if_neg (fun z : 13 = 13 ∧ y = lo + i => h1 z.2)]
      by_cases h2 : lo + (i + 1) ≤ y ∧ y < lo + (i + 1) + k
      · rw [if_pos h2, if_pos h2, if_pos (by omega), if_pos (by omega)]
        exact ⟨rfl, rfl⟩
      · rw [if_neg h2, if_neg h2, if_neg (by omega), if_neg (by omega)]
        exact ⟨rfl, rfl⟩
/-- how deep place y comes to lie below the root of an even part -/
def d_ev : Nat → Nat → Nat → Nat → Nat
  | 0, _, _, _ => 0
  | f + 1, a, u, y => if u ≤ a then 0 else if y = a + (u - 1 - a) / 2 then 0 else if a + (u - 1 - a) / 2 < y then 1 + d_ev f (a + (u - 1 - a) / 2 + 1) u y else 1 + d_ev f a (a + (u - 1 - a) / 2) y
theorem t_dl_ev {lo x : Nat} : ∀ (k f l u d : Nat), l ≤ x → x < u → u - l ≤ k → u - l ≤ f → t_dl x k l u d = d + d_ev f (lo + l) (lo + u) (lo + x)
  | 0, f, l, u, d, h1, h2, h3, h4 => by omega
  | k + 1, 0, l, u, d, h1, h2, h3, h4 => by omega
  | k + 1, f + 1, l, u, d, h1, h2, h3, h4 => by
    rw [t_dl, d_ev, if_neg (show ¬ lo + u ≤ lo + l by omega), show lo + l + (lo + u - 1 - (lo + l)) / 2 = lo + (l + (u - 1 - l) / 2) by omega]
    by_cases hs : u ≤ l + 1
    · rw [if_pos hs, if_pos (show lo + x = lo + (l + (u - 1 - l) / 2) by omega), Nat.add_zero]
    · rw [if_neg hs]
      have hr0 : l + (u - 1 - l) / 2 < u := by omega
      have hr1 : l ≤ l + (u - 1 - l) / 2 := Nat.le_add_right _ _
      generalize l + (u - 1 - l) / 2 = r at hr0 hr1 ⊢
      rcases Nat.lt_trichotomy x r with z | z | z
      · rw [if_neg (by omega), if_neg (by omega), if_neg (by omega), if_neg (by omega), t_dl_ev (lo := lo) k f l r (d + 1) h1 z (by omega) (by omega)]
        omega
      · rw [if_pos z, if_pos (by omega), Nat.add_zero]
      · rw [if_neg (by omega), if_pos z, if_neg (by omega), if_pos (by omega), t_dl_ev (lo := lo) k f (r + 1) u (d + 1) (by omega) h2 (by omega) (by omega), show lo + (r + 1) = lo + r + 1 by omega]
        omega
theorem DT_even {E : Nat → Int32} : ∀ (f d a u : Nat), u - a ≤ f → a ≤ u → (∀ y, a ≤ y → y < u → E y = nI (d + d_ev f a u y)) → DT E d a u
  | 0, d, a, u, h, hau, hE => by
    obtain rfl : a = u := by omega
    exact DT_nil
  | f + 1, d, a, u, h, hau, hE => by
    by_cases hua : u ≤ a
    · obtain rfl : a = u := by omega
      exact DT_nil
    · have hr0 : a + (u - 1 - a) / 2 < u := by omega
      have hr1 : a ≤ a + (u - 1 - a) / 2 := Nat.le_add_right _ _
      have hde : ∀ y, d_ev (f + 1) a u y = if y = a + (u - 1 - a) / 2 then 0 else if a + (u - 1 - a) / 2 < y then 1 + d_ev f (a + (u - 1 - a) / 2 + 1) u y else 1 + d_ev f a (a + (u - 1 - a) / 2) y := fun y => by rw [d_ev, if_neg hua]
      generalize a + (u - 1 - a) / 2 = r at hr0 hr1 hde
      refine DT_node hr1 hr0 (by rw [hE r hr1 hr0, hde, if_pos rfl, Nat.add_zero]) (DT_even f (d + 1) a r (by omega) hr1 (fun y a1 b1 => ?_)) (DT_even f (d + 1) (r + 1) u (by omega) (by omega) (fun y a1 b1 => ?_))
      · rw [hE y a1 (by omega), hde, if_neg (by omega), if_neg (by omega)]
        congr 1
        omega
      · rw [hE y (by omega) b1, hde, if_neg (by omega), if_pos (by omega)]
        congr 1
        omega
/-- a part is laid anew in its place, h places fewer -/
theorem DT_repl {D E : Nat → Int32} {n j e h : Nat} (he : e < 2 ^ 31) (hj : D j = nI e) : ∀ (k d l u : Nat), u - l ≤ k → CT D n d l u → l ≤ j → j < u → h ≤ dH D n j + 1 - dL D j → DT E e (dL D j) (dH D n j + 1 - h) → (∀ i, l ≤ i → i < dL D j → E i = D i) → (∀ i, dH D n j + 1 - h ≤ i → i < u - h → E i = D (i + h)) → DT E d l (u - h)
  | 0, d, l, u, hk, hc, h1, h2, hh, hE, hL, hR => by omega
  | k + 1, d, l, u, hk, hc, h1, h2, hh, hE, hL, hR => by
    obtain ⟨t, q0, q1, q2, q3, q4, q5, q6⟩ := CT_top hc (by omega)
    have h60 := hc.2.2.1
    have hin := CT_in hc h1 h2
    rcases Nat.lt_trichotomy j t with z | z | z
    · have hi := CT_in q4 h1 z
      refine DT_node (t := t - h) (by omega) (by omega) (by rw [hR (t - h) (by omega) (by omega), show t - h + h = t by omega]; exact q3) (DT_repl he hj k (d + 1) l t (by omega) q4 h1 z hh hE hL (fun i a b => hR i a (by omega))) ?_
      refine DT_down (s := h) (D := D) ?_ (fun i a b => hR i (by omega) b)
      rw [show t - h + 1 + h = t + 1 by omega, show u - h + h = u by omega]
      exact q5.1
    · subst z
      obtain ⟨s1, s2⟩ := CT_span hc q1 q2 q3 q6
      have s1 : dL D j = l := s1
      have s2 : dH D n j = u - 1 := s2
      rw [s1, s2, show u - 1 + 1 = u by omega] at hE
      have hed : e = d := by
        rw [hj] at q3
        have hv := CT_in hc h1 h2
        obtain ⟨e2, g1, g2, g3⟩ := DT_val hc.1 h1 h2
        rw [hj] at g1
        have := congrArg Int32.toInt q3
        have hd2 : (nI d).toInt = d := nI_toInt (by omega)
        rw [nI_toInt he, hd2] at this
        omega
      rw [hed] at hE
      exact hE
    · have hi := CT_in q5 (j := j) (by omega) h2
      refine DT_node (t := t) q1 (by omega) (by rw [hL t q1 (by omega)]; exact q3) (DT_congr q4.1 (fun i a b => hL i a (by omega))) ?_
      exact DT_repl he hj k (d + 1) (t + 1) u (by omega) q5 (by omega) h2 hh hE (fun i a b => hL i (by omega) b) hR
end
section
/-! looking for keys, out of whole's 42, 43, 44 -/
theorem t_pl_spec {K : Nat → Int32} {key : Int32} : ∀ (k i : Nat), (∀ x, i ≤ x → x < t_pl K key i k → K x < key) ∧ (t_pl K key i k < i + k → ¬ K (t_pl K key i k) < key)
  | 0, i => by
    rw [t_pl]
    exact ⟨fun x a b => by omega, fun h => by omega⟩
  | k + 1, i => by
    rw [t_pl]
    by_cases h : K i < key
    · rw [if_pos h]
      obtain ⟨h1, h2⟩ := t_pl_spec (K := K) (key := key) k (i + 1)
      refine ⟨fun x a b => ?_, fun g => h2 (by omega)⟩
      by_cases hx : x = i
      · rw [hx]; exact h
      · exact h1 x (by omega) b
    · rw [if_neg h]
      exact ⟨fun x a b => by omega, fun _ => h⟩
theorem Int32_ne_lt {a b : Int32} (h : a < b) : ¬ a = b := fun z => by rw [z] at h; exact Int32.lt_irrefl h
theorem t_wl_congr {D E : Nat → Int32} {lean : Int32} {p : Nat} : ∀ (k d l u : Nat), (∀ i, l ≤ i → i < u → E i = D i) → t_wl E lean p k d l u = t_wl D lean p k d l u
  | 0, d, l, u, h => rfl
  | k + 1, d, l, u, h => by
    rw [t_wl, t_wl]
    by_cases hul : u ≤ l
    · rw [if_pos hul, if_pos hul]
    · rw [if_neg hul, if_neg hul]
      dsimp only
      have ht := t_tp_le D (nI d) (u - 1 - l) l
      rw [t_tp_congr (u - 1 - l) l (fun i a b => h i a (by omega))]
      rw [t_wl_congr k (d + 1) l _ (fun i a b => h i a (by omega)), t_wl_congr k (d + 1) _ u (fun i a b => h i (by omega) b)]
theorem t_kt_non {F : Nat → Int32} {q : Int32} : ∀ (m i a : Nat), a + m < 2 ^ 31 → (q.toInt < a ∨ ((a + d_n (fun x => decide (F x = 1)) i m : Nat) : Int) ≤ q.toInt) → t_kt F q i m (nI a) = none
  | 0, i, a, ha, h => rfl
  | m + 1, i, a, ha, h => by
    rw [t_kt]
    rw [d_n] at h
    by_cases hF : F i = 1
    · rw [if_pos hF]
      rw [if_pos (decide_eq_true hF)] at h
      have hne : ¬ nI a = q := fun z => by
        rw [← z, nI_toInt (by omega)] at h
        omega
      rw [if_neg hne, nI_1]
      exact t_kt_non m (i + 1) (a + 1) (by omega) (by omega)
    · rw [if_neg hF]
      rw [if_neg (by rw [decide_eq_false hF]; decide), Nat.zero_add] at h
      exact t_kt_non m (i + 1) a (by omega) h
theorem t_kt_som {F : Nat → Int32} {q : Int32} : ∀ (m i a : Nat), a + m < 2 ^ 31 → (a : Int) ≤ q.toInt → q.toInt < ((a + d_n (fun x => decide (F x = 1)) i m : Nat) : Int) → ∃ j, t_kt F q i m (nI a) = some j
  | 0, i, a, ha, h1, h2 => by
    rw [d_n] at h2
    omega
  | m + 1, i, a, ha, h1, h2 => by
    rw [t_kt]
    rw [d_n] at h2
    by_cases hF : F i = 1
    · rw [if_pos hF]
      rw [if_pos (decide_eq_true hF)] at h2
      by_cases hq : nI a = q
      · rw [if_pos hq]; exact ⟨i, rfl⟩
      · rw [if_neg hq, nI_1]
        have hne : (a : Int) ≠ q.toInt := fun z => hq (Int32.toInt_inj.mp (by rw [nI_toInt (by omega)]; exact z))
        exact t_kt_som m (i + 1) (a + 1) (by omega) (by omega) (by omega)
    · rw [if_neg hF]
      rw [if_neg (by rw [decide_eq_false hF]; decide), Nat.zero_add] at h2
      exact t_kt_som m (i + 1) a (by omega) h1 h2
theorem t_kt_at {F : Nat → Int32} {j : Nat} (hF : F j = 1) : ∀ (m i a : Nat), a + m < 2 ^ 31 → i ≤ j → j < i + m → t_kt F (nI (a + d_n (fun x => decide (F x = 1)) i (j - i))) i m (nI a) = some j
  | 0, i, a, ha, h1, h2 => by omega
  | m + 1, i, a, ha, h1, h2 => by
    rw [t_kt]
    by_cases hi : i = j
    · rw [hi, if_pos hF, Nat.sub_self]
      exact if_pos rfl
    · have hle := d_n_le (M := fun x => decide (F x = 1)) (j - (i + 1)) (i + 1)
      rw [show j - i = (j - (i + 1)) + 1 by omega, d_n]
      by_cases hF2 : F i = 1
      · rw [if_pos hF2, if_pos (decide_eq_true hF2), if_neg (fun z => by
          have := (nI_eq (by omega) (by omega)).mp z
          omega), nI_1, show a + (1 + d_n (fun x => decide (F x = 1)) (i + 1) (j - (i + 1))) = a + 1 + d_n (fun x => decide (F x = 1)) (i + 1) (j - (i + 1)) by omega]
        exact t_kt_at hF m (i + 1) (a + 1) (by omega) (by omega) (by omega)
      · rw [if_neg hF2, if_neg (by rw [decide_eq_false hF2]; decide), Nat.zero_add]
        exact t_kt_at hF m (i + 1) a (by omega) (by omega) (by omega)
theorem t_kt_F {F : Nat → Int32} {q : Int32} : ∀ (k i : Nat) (a : Int32) (j : Nat), t_kt F q i k a = some j → F j = 1
  | 0, i, a, j, h => by cases h
  | k + 1, i, a, j, h => by
    rw [t_kt] at h
    by_cases hF : F i = 1
    · rw [if_pos hF] at h
      by_cases hq : a = q
      · rw [if_pos hq] at h
        cases h
        exact hF
      · rw [if_neg hq] at h
        exact t_kt_F k (i + 1) _ j h
    · rw [if_neg hF] at h
      exact t_kt_F k (i + 1) _ j h
theorem t_kt_congr {F G : Nat → Int32} {q : Int32} : ∀ (k i : Nat) (a : Int32), (∀ x, i ≤ x → x < i + k → F x = G x) → t_kt F q i k a = t_kt G q i k a
  | 0, i, a, h => rfl
  | k + 1, i, a, h => by rw [t_kt, t_kt, h i (Nat.le_refl _) (by omega), t_kt_congr k (i + 1) _ (fun x a b => h x (by omega) (by omega)), t_kt_congr k (i + 1) _ (fun x a b => h x (by omega) (by omega))]
theorem t_mx_first {f : Nat → Int32} {k i : Nat} {a : Int32} (hk : 0 < k) (ha : a < f i) : t_mx f i k a = t_mx f i k (f i) := by
  obtain ⟨m, rfl⟩ : ∃ m, k = m + 1 := ⟨k - 1, by omega⟩
  rw [t_mx, t_mx, if_pos ha, if_neg Int32.lt_irrefl]
def d_kp (F : Nat → Int32) (L H : Nat) (x : Nat) : Bool := decide (x < L ∨ H < x ∨ F x = 1)
theorem d_kp_pos {F : Nat → Int32} {L H x : Nat} : d_n (d_kp F L H) 0 x = if x ≤ L then x else L + d_n (d_kp F L H) L (x - L) := by
  have hall : ∀ y, y ≤ L → d_n (d_kp F L H) 0 y = y := fun y hy => d_n_all y 0 (fun z _ h => decide_eq_true (Or.inl (by omega)))
  by_cases h : x ≤ L
  · rw [if_pos h, hall x h]
  · rw [if_neg h]
    have := d_n_add (M := d_kp F L H) L (x - L) 0
    rw [show L + (x - L) = x by omega, hall L (Nat.le_refl _), Nat.zero_add] at this
    exact this
theorem d_n_mono {M : Nat → Bool} {a b : Nat} (h : a ≤ b) : d_n M 0 a ≤ d_n M 0 b := by
  have := d_n_add (M := M) a (b - a) 0
  rw [show a + (b - a) = b by omega] at this
  omega
end
section
/-! Sums, and a part laid anew: the class alone (by hand) -/
theorem t_sm_acc {f : Nat → Int32} : ∀ (k i : Nat) (a : Int32), t_sm f i k a = a + t_sm f i k 0
  | 0, i, a => by
    show a = a + 0
    rw [Int32.add_zero]
  | k + 1, i, a => by
    rw [t_sm, t_sm, t_sm_acc k (i + 1) (a + f i), t_sm_acc k (i + 1) (0 + f i), Int32.zero_add, Int32.add_assoc]
theorem t_sm_one {f : Nat → Int32} {k i : Nat} : t_sm f i (k + 1) 0 = f i + t_sm f (i + 1) k 0 := by
  rw [t_sm, t_sm_acc, Int32.zero_add]
theorem t_sm_add {f : Nat → Int32} : ∀ (a b i : Nat), t_sm f i (a + b) 0 = t_sm f i a 0 + t_sm f (i + a) b 0
  | 0, b, i => by
    show t_sm f i (0 + b) 0 = 0 + t_sm f (i + 0) b 0
    rw [Nat.zero_add, Int32.zero_add, Nat.add_zero]
  | a + 1, b, i => by
    rw [show a + 1 + b = a + b + 1 by omega, t_sm_one, t_sm_one, t_sm_add a b (i + 1), show i + 1 + a = i + (a + 1) by omega, Int32.add_assoc]
theorem t_sm_snoc {f : Nat → Int32} (k i : Nat) : t_sm f i (k + 1) 0 = t_sm f i k 0 + f (i + k) := by
  rw [t_sm_add k 1 i, t_sm_one]
  show _ + (f (i + k) + 0) = _
  rw [Int32.add_zero]
theorem t_sm_plus {f g h : Nat → Int32} : ∀ (k i : Nat), (∀ j, i ≤ j → j < i + k → h j = f j + g j) → t_sm h i k 0 = t_sm f i k 0 + t_sm g i k 0
  | 0, i, e => by
    show (0 : Int32) = 0 + 0
    rw [Int32.add_zero]
  | k + 1, i, e => by
    rw [t_sm_one, t_sm_one, t_sm_one, t_sm_plus k (i + 1) (fun j a b => e j (by omega) (by omega)), e i (Nat.le_refl _) (by omega)]
    rw [Int32.add_assoc, Int32.add_assoc, ← Int32.add_assoc (g i), Int32.add_comm (g i), Int32.add_assoc]
theorem t_sm_nil {f : Nat → Int32} : ∀ (k i : Nat), (∀ j, i ≤ j → j < i + k → f j = 0) → t_sm f i k 0 = 0
  | 0, i, e => rfl
  | k + 1, i, e => by rw [t_sm_one, t_sm_nil k (i + 1) (fun j a b => e j (by omega) (by omega)), e i (Nat.le_refl _) (by omega), Int32.add_zero]
theorem nI_mul (a b : Nat) : nI a * nI b = nI (a * b) := (Int32.ofNat_mul a b).symm
theorem t_sm_ind {f : Nat → Int32} {M : Nat → Bool} {p : Nat} : ∀ (k i : Nat), (∀ j, i ≤ j → j < i + k → f j = if M j = true then nI p else 0) → t_sm f i k 0 = nI (d_n M i k * p)
  | 0, i, e => by
    show (0 : Int32) = nI (0 * p)
    rw [Nat.zero_mul]
    rfl
  | k + 1, i, e => by
    rw [t_sm_one, d_n, t_sm_ind k (i + 1) (fun j a b => e j (by omega) (by omega)), e i (Nat.le_refl _) (by omega)]
    by_cases h : M i = true
    · rw [if_pos h, if_pos h, nI_add, Nat.add_mul, Nat.one_mul]
    · rw [if_neg h, if_neg h, Int32.zero_add, Nat.zero_add]
/-- a sum over the kept places -/
theorem t_sm_kept {f g : Nat → Int32} {M : Nat → Bool} : ∀ (n : Nat), (∀ x, x < n → M x = true → g (d_n M 0 x) = f x) → t_sm g 0 (d_n M 0 n) 0 = t_sm (fun x => if M x = true then f x else 0) 0 n 0
  | 0, h => rfl
  | n + 1, h => by
    rw [t_sm_snoc n, Nat.zero_add, d_n_snoc, Nat.zero_add, ← t_sm_kept n (fun x a b => h x (by omega) b)]
    by_cases hm : M n = true
    · rw [if_pos hm, if_pos hm, t_sm_snoc, Nat.zero_add, h n (by omega) hm]
    · rw [if_neg hm, if_neg hm, Nat.add_zero, Int32.add_zero]
/-- a part laid anew, place by place -/
theorem reb_pt {Z : Nat → Nat → Int32} {n j : Nat} (hn : n ≤ 60) (hDT : DT (Z 15) 0 0 n) (hj : j < n) :
    ∃ (l H c n2 : Nat) (M : Nat → Bool), (t_L Z j = l ∧ t_H Z n j = H ∧ l ≤ j ∧ j ≤ H ∧ H < n) ∧ (∀ x, M x = decide (x < l ∨ H < x ∨ Z 17 x = 1)) ∧ (c ≤ H + 1 - l ∧ d_n M l (H + 1 - l) = c ∧ n2 = n - (H + 1 - l - c) ∧ d_n M 0 n = n2) ∧
    (t_la Z n j 5 6 = nI n2 ∧ t_la Z n j 5 7 = Z 5 7 + t_wt Z n j ∧ t_la Z n j 5 8 = Z 5 8 + (t_sm (Z 13) l (H + 1 - l) 0 - t_wt Z n j) ∧ t_la Z n j 5 10 = y_mx (Z 5 10) (t_wt Z n j) ∧ t_wt Z n j = nI (H + 1 - l)) ∧
    (∀ x, x < n → M x = true → ∀ y, d_n M 0 x = y → t_la Z n j 9 y = Z 9 x ∧ t_la Z n j 11 y = Z 11 x ∧ t_la Z n j 17 y = Z 17 x ∧ t_la Z n j 13 y = (if l ≤ x ∧ x ≤ H then 0 else Z 13 x) ∧ t_la Z n j 15 y = (if l ≤ x ∧ x ≤ H then Z 15 j + nI (t_de (y - l) c) else Z 15 x)) ∧
    (∀ y, y < n2 → ∃ x, x < n ∧ M x = true ∧ d_n M 0 x = y) ∧
    DT (t_la Z n j 15) 0 0 n2 := by
  have hroot := CT_root hDT hn
  have hin := CT_in hroot (Nat.zero_le j) hj
  have hLj : t_L Z j ≤ j := hin.2.1
  have hHj : j ≤ t_H Z n j := hin.2.2.1
  have hHn : t_H Z n j < n := hin.2.2.2
  have hw : t_wt Z n j = nI (t_H Z n j + 1 - t_L Z j) := by
    unfold t_wt
    rw [nI_sub (by omega), nI_1]
    congr 1
    omega
  have hrepl : ∀ (E : Nat → Int32) (e h : Nat), e < 2 ^ 31 → Z 15 j = nI e → h ≤ t_H Z n j + 1 - t_L Z j → DT E e (t_L Z j) (t_H Z n j + 1 - h) → (∀ i, i < t_L Z j → E i = Z 15 i) → (∀ i, t_H Z n j + 1 - h ≤ i → i < n - h → E i = Z 15 (i + h)) → DT E 0 0 (n - h) := fun E e h h31 he hh hE h1 h2 => DT_repl h31 he n 0 0 n (by omega) hroot (Nat.zero_le j) hj hh hE (fun i _ a => h1 i a) h2
  have hla : t_la Z n j = t_ly (t_L Z j) (t_ct (Z 17) (t_L Z j) (t_H Z n j + 1 - t_L Z j)) (Z 15 j) (t_ct (Z 17) (t_L Z j) (t_H Z n j + 1 - t_L Z j)) 0 (t_dh (t_H Z n j) (n - t_L Z j) (t_L Z j) (t_L Z j) (t_sp Z (t_sm (Z 13) (t_L Z j) (t_H Z n j + 1 - t_L Z j) 0) (t_wt Z n j))) := rfl
  obtain ⟨e, hej, -, he60⟩ := DT_val hDT (Nat.zero_le j) hj
  generalize t_wt Z n j = w at *
  generalize t_la Z n j = V at *
  obtain ⟨l, hl⟩ : ∃ l, t_L Z j = l := ⟨_, rfl⟩
  obtain ⟨H, hH⟩ : ∃ H, t_H Z n j = H := ⟨_, rfl⟩
  rw [hl] at hLj hw hrepl hla
  rw [hH] at hHj hHn hw hrepl hla
  generalize hMg : d_kp (Z 17) l H = M
  have hMv : ∀ x, M x = decide (x < l ∨ H < x ∨ Z 17 x = 1) := fun x => by rw [← hMg]; rfl
  have hct : t_ct (Z 17) l (H + 1 - l) = d_n M l (H + 1 - l) := by
    rw [t_ct_dn]
    refine d_n_congr _ _ (fun x a b => ?_)
    rw [hMv]
    exact decide_eq_decide.mpr ⟨fun z => Or.inr (Or.inr z), fun z => z.elim (fun z => by omega) (fun z => z.elim (fun z => by omega) id)⟩
  rw [hct] at hla
  obtain ⟨c, hcg⟩ : ∃ c, d_n M l (H + 1 - l) = c := ⟨_, rfl⟩
  rw [hcg] at hla
  have hcle : c ≤ H + 1 - l := by rw [← hcg]; exact d_n_le _ _
  have hpos : ∀ x, d_n M 0 x = if x ≤ l then x else l + d_n M l (x - l) := fun x => by rw [← hMg]; exact d_kp_pos
  have hpastH : ∀ x, H + 1 ≤ x → d_n M l (x - l) = c + (x - (H + 1)) := fun x hx => by
    have h1 := d_n_add (M := M) (H + 1 - l) (x - (H + 1)) l
    rw [show H + 1 - l + (x - (H + 1)) = x - l by omega, hcg, show l + (H + 1 - l) = H + 1 by omega] at h1
    rw [h1, d_n_all (x - (H + 1)) (H + 1) (fun y a b => by rw [hMv]; exact decide_eq_true (Or.inr (Or.inl (by omega))))]
  have hsp : ∀ cc, cc ≠ 5 → t_sp Z (t_sm (Z 13) l (H + 1 - l) 0) w cc = Z cc := fun cc h => t_sp_o h
  have hdh := fun (cc : Nat) (hcc : t_cl cc) => t_dh_get (hi := H) (n := n) (M := M) hcc (n - l) l l (t_sp Z (t_sm (Z 13) l (H + 1 - l) 0) w) (by omega) (Nat.le_refl _) (fun x a b => by
    rw [hMv, decide_eq_true_eq, hsp 17 (by decide)]
    exact ⟨fun z => z.elim (fun z => by omega) id, fun z => Or.inr z⟩)
  have hU5 : ∀ s, s ≠ 6 → t_dh H (n - l) l l (t_sp Z (t_sm (Z 13) l (H + 1 - l) 0) w) 5 s = t_sp Z (t_sm (Z 13) l (H + 1 - l) 0) w 5 s := fun s hs => t_dh_5 hs _ _ _ _
  generalize t_dh H (n - l) l l (t_sp Z (t_sm (Z 13) l (H + 1 - l) 0) w) = U at hdh hU5 hla
  have hly := fun (y : Nat) => t_ly_get (lo := l) (c := c) (y := y) (dep := Z 15 j) c 0 U
  have hlyo : ∀ cc, cc ≠ 15 → cc ≠ 13 → t_ly l c (Z 15 j) c 0 U cc = U cc := fun cc h1 h2 => t_ly_o h1 h2 _ _ _
  rw [← hla] at hly hlyo
  have hnn : d_n M 0 n = n - (H + 1 - l - c) := by
    rw [hpos, if_neg (by omega), hpastH n (by omega)]
    omega
  have kept : ∀ x, x < n → M x = true → ∀ y, d_n M 0 x = y →
      (∀ cc, t_cl cc → U cc y = Z cc x) ∧ (l ≤ x ∧ x ≤ H ↔ l ≤ y ∧ y < l + c) ∧ (x < l → y = x) ∧ (H < x → y = x - (H + 1 - l - c)) := by
    intro x hx hm y hy
    rw [hpos] at hy
    rcases Nat.lt_or_ge x l with z | z
    · rw [if_pos (by omega)] at hy
      subst hy
      refine ⟨fun cc h => ?_, by omega, fun _ => rfl, by omega⟩
      rw [(hdh cc h).1 x z, hsp cc (fun q => by rw [q] at h; exact t_cl5 h)]
    · have hy2 : l + d_n M l (x - l) = y := by
        by_cases hxl : x ≤ l
        · obtain rfl : x = l := by omega
          rw [if_pos hxl] at hy
          rw [Nat.sub_self]
          exact hy
        · rw [if_neg hxl] at hy
          exact hy
      have hcls : ∀ cc, t_cl cc → U cc y = Z cc x := fun cc h => by
        have := (hdh cc h).2.1 x z hx hm
        rw [hy2, hsp cc (fun q => by rw [q] at h; exact t_cl5 h)] at this
        exact this
      rcases Nat.lt_or_ge H x with zz | zz
      · have hp := hpastH x zz
        exact ⟨hcls, by omega, by omega, fun _ => by omega⟩
      · refine ⟨hcls, ?_, by omega, by omega⟩
        have h1 := d_n_add (M := M) (x - l) (H + 1 - l - (x - l)) l
        rw [show x - l + (H + 1 - l - (x - l)) = H + 1 - l by omega, hcg, show l + (x - l) = x by omega, show H + 1 - l - (x - l) = (H - x) + 1 by omega, d_n, if_pos hm] at h1
        omega
  have fin : ∀ x, x < n → M x = true → ∀ y, d_n M 0 x = y → V 9 y = Z 9 x ∧ V 11 y = Z 11 x ∧ V 17 y = Z 17 x ∧ V 13 y = (if l ≤ x ∧ x ≤ H then 0 else Z 13 x) ∧ V 15 y = (if l ≤ x ∧ x ≤ H then Z 15 j + nI (t_de (y - l) c) else Z 15 x) := by
    intro x hx hm y hy
    obtain ⟨k1, k3, k4, k5⟩ := kept x hx hm y hy
    refine ⟨?_, ?_, ?_, ?_, ?_⟩
    · rw [hlyo 9 (by decide) (by decide)]; exact k1 9 (Or.inl rfl)
    · rw [hlyo 11 (by decide) (by decide)]; exact k1 11 (Or.inr (Or.inl rfl))
    · rw [hlyo 17 (by decide) (by decide)]; exact k1 17 (Or.inr (Or.inr (Or.inr (Or.inr rfl))))
    · rw [(hly y).2, Nat.add_zero]
      by_cases hc : l ≤ x ∧ x ≤ H
      · rw [if_pos hc, if_pos (k3.mp hc)]
      · rw [if_neg hc, if_neg (fun z => hc (k3.mpr z)), k1 13 (Or.inr (Or.inr (Or.inl rfl)))]
    · rw [(hly y).1, Nat.add_zero]
      by_cases hc : l ≤ x ∧ x ≤ H
      · rw [if_pos hc, if_pos (k3.mp hc)]
      · rw [if_neg hc, if_neg (fun z => hc (k3.mpr z)), k1 15 (Or.inr (Or.inr (Or.inr (Or.inl rfl))))]
  have sur : ∀ y, y < n - (H + 1 - l - c) → ∃ x, x < n ∧ M x = true ∧ d_n M 0 x = y := fun y hy => by
    rw [← hnn] at hy
    obtain ⟨x, a, b, m, p⟩ := d_n_sur (i := 0) n y hy
    exact ⟨x, by omega, m, by rw [Nat.sub_zero] at p; exact p⟩
  have hV5 : ∀ s, V 5 s = U 5 s := fun s => by rw [hlyo 5 (by decide) (by decide)]
  have hts := t_sp_get (Z := Z) (pd := t_sm (Z 13) l (H + 1 - l) 0) (w := w)
  refine ⟨l, H, c, n - (H + 1 - l - c), M, ⟨hl, hH, hLj, hHj, hHn⟩, hMv, ⟨hcle, hcg, rfl, hnn⟩, ⟨?_, ?_, ?_, ?_, hw⟩, fin, sur, ?_⟩
  · rw [hV5, (hdh 9 (Or.inl rfl)).2.2, hpastH n (by omega)]
    congr 1
    omega
  · rw [hV5, hU5 7 (by decide), hts.1]
  · rw [hV5, hU5 8 (by decide), hts.2.1]
  · rw [hV5, hU5 10 (by decide), hts.2.2.2]
  · refine hrepl _ e (H + 1 - l - c) (by omega) hej (by omega) ?_ (fun i hi => ?_) (fun i h1 h2 => ?_)
    · rw [show H + 1 - (H + 1 - l - c) = l + c by omega]
      refine DT_even 60 e l (l + c) (by omega) (by omega) (fun y a b => ?_)
      rw [(hly y).1, Nat.add_zero, if_pos ⟨a, b⟩, hej]
      unfold t_de
      rw [t_dl_ev (lo := l) c 60 0 c 0 (Nat.zero_le _) (by omega) (by omega) (by omega), Nat.zero_add, Nat.add_zero, show l + (y - l) = y by omega, nI_add]
    · have hm : M i = true := by rw [hMv]; exact decide_eq_true (Or.inl hi)
      rw [(fin i (by omega) hm i (by rw [hpos, if_pos (by omega)])).2.2.2.2, if_neg (by omega)]
    · have hm : M (i + (H + 1 - l - c)) = true := by rw [hMv]; exact decide_eq_true (Or.inr (Or.inl (by omega)))
      rw [(fin (i + (H + 1 - l - c)) (by omega) hm i ?_).2.2.2.2, if_neg (by omega)]
      rw [hpos, if_neg (by omega), hpastH _ (by omega)]
      omega
end
section
/-! The tree's picture, and what a part laid anew leaves (by hand) -/
/-- what always holds of the tree -/
def K_J (Z : Nat → Nat → Int32) (n : Nat) : Prop :=
  Z 5 6 = nI n ∧ n ≤ 60 ∧ (∀ i, i < n → 0 ≤ Z 9 i ∧ Z 9 i ≤ 999) ∧ (∀ i j, i < j → j < n → Z 9 i < Z 9 j) ∧ (∀ i, i < n → Z 17 i = 0 ∨ Z 17 i = 1) ∧ (∀ i, i < n → 0 ≤ Z 11 i ∧ Z 11 i ≤ 999) ∧ DT (Z 15) 0 0 n
/-- work, funds and what is paid, together -/
def k_p (Z : Nat → Nat → Int32) (n : Nat) : Int32 := Z 5 7 + Z 5 8 + t_sm (Z 13) 0 n 0
/-- a key with its value -/
def k_in (Z : Nat → Nat → Int32) (n : Nat) (key v : Int32) : Prop := ∃ i, i < n ∧ Z 9 i = key ∧ Z 17 i = 1 ∧ Z 11 i = v
theorem K_J_congr {Z V : Nat → Nat → Int32} {n : Nat} (h : K_J Z n) (h5 : V 5 6 = Z 5 6) (h9 : V 9 = Z 9) (h11 : V 11 = Z 11) (h15 : V 15 = Z 15) (h17 : V 17 = Z 17) : K_J V n := by
  unfold K_J
  rw [h5, h9, h11, h15, h17]
  exact h
theorem k_in_congr {Z V : Nat → Nat → Int32} {n : Nat} {key v : Int32} (h9 : V 9 = Z 9) (h11 : V 11 = Z 11) (h17 : V 17 = Z 17) : k_in V n key v ↔ k_in Z n key v := by
  unfold k_in
  rw [h9, h11, h17]
theorem t_sm_part {f : Nat → Int32} {l H n : Nat} (h1 : l ≤ H + 1) (h2 : H < n) : t_sm f 0 n 0 = t_sm (fun x => if l ≤ x ∧ x ≤ H then 0 else f x) 0 n 0 + t_sm f l (H + 1 - l) 0 := by
  have e : ∀ g : Nat → Int32, t_sm g 0 n 0 = t_sm g 0 l 0 + (t_sm g l (H + 1 - l) 0 + t_sm g (H + 1) (n - (H + 1)) 0) := fun g => by
    have h := t_sm_add (f := g) l (H + 1 - l + (n - (H + 1))) 0
    rw [show l + (H + 1 - l + (n - (H + 1))) = n by omega, Nat.zero_add, t_sm_add (f := g) (H + 1 - l), show l + (H + 1 - l) = H + 1 by omega] at h
    exact h
  rw [e f, e (fun x => if l ≤ x ∧ x ≤ H then 0 else f x), t_sm_congr (f := fun x => if l ≤ x ∧ x ≤ H then 0 else f x) (g := f) l 0 0 (fun j a b => if_neg (by omega)), t_sm_nil (f := fun x => if l ≤ x ∧ x ≤ H then 0 else f x) (H + 1 - l) l (fun j a b => if_pos ⟨a, by omega⟩), t_sm_congr (f := fun x => if l ≤ x ∧ x ≤ H then 0 else f x) (g := f) (n - (H + 1)) (H + 1) 0 (fun j a b => if_neg (by omega)), Int32.zero_add]
  ac_rfl
theorem d_n_pos {M : Nat → Bool} {n x : Nat} (hx : x < n) (hm : M x = true) : d_n M 0 x < d_n M 0 n := by
  have h1 := d_n_snoc (M := M) x 0
  rw [Nat.zero_add, if_pos hm] at h1
  have h2 := d_n_mono (M := M) (show x + 1 ≤ n by omega)
  omega
theorem y_spend {a b w p s : Int32} : a + w + (b + (p - w)) + s = a + b + (s + p) := by
  have h : w + (p - w) = p := by rw [Int32.add_comm, Int32.sub_add_cancel]
  rw [show a + w + (b + (p - w)) + s = a + b + (s + (w + (p - w))) by ac_rfl, h]
theorem y_range {a b : Int32} (h : a = b) (g : 0 ≤ b ∧ b ≤ 999) : 0 ≤ a ∧ a ≤ 999 := by rw [h]; exact g
/-- the sum of ones and zeros -/
theorem t_sm_dn {F : Nat → Int32} {n : Nat} (h : ∀ i, i < n → F i = 0 ∨ F i = 1) : t_sm F 0 n 0 = nI (d_n (fun x => decide (F x = 1)) 0 n) := by
  rw [t_sm_c0 (fun j _ b => h j (by omega)), t_ct_dn]
theorem la_J {Z : Nat → Nat → Int32} {n j : Nat} (hJ : K_J Z n) (hj : j < n) : ∃ n2 w, K_J (t_la Z n j) n2 ∧ t_wt Z n j = nI w ∧ (1 ≤ w ∧ w ≤ n ∧ n2 ≤ n) ∧ t_la Z n j 5 7 = Z 5 7 + nI w ∧ t_la Z n j 5 10 = y_mx (Z 5 10) (nI w) ∧ k_p (t_la Z n j) n2 = k_p Z n ∧ t_sm (t_la Z n j 17) 0 n2 0 = t_sm (Z 17) 0 n 0 ∧ (∀ key v, k_in (t_la Z n j) n2 key v ↔ k_in Z n key v) ∧ (w = n → nI n2 = t_sm (Z 17) 0 n 0 ∧ ∀ y, y < n2 → t_la Z n j 13 y = 0 ∧ t_la Z n j 15 y = Z 15 j + nI (t_de y n2)) := by
  obtain ⟨hN, hn, hk, hs, hF, hv, hD⟩ := hJ
  obtain ⟨l, H, c, n2, M, ⟨r1, r2, r3, r4, r5⟩, hM, ⟨c1, c2, c3, c4⟩, ⟨v1, v2, v3, v4, v5⟩, fin, sur, hDT⟩ := reb_pt hn hD hj
  generalize t_la Z n j = V at *
  have hMf : ∀ x, x < n → Z 17 x = 1 → M x = true := fun x _ h => by rw [hM]; exact decide_eq_true (Or.inr (Or.inr h))
  have hMn : ∀ x, ¬ M x = true → l ≤ x ∧ x ≤ H ∧ ¬ Z 17 x = 1 := fun x h => by
    rw [hM, decide_eq_true_eq] at h
    exact ⟨Nat.le_of_not_lt (fun z => h (Or.inl z)), Nat.le_of_not_lt (fun z => h (Or.inr (Or.inl z))), fun z => h (Or.inr (Or.inr z))⟩
  have hsum : t_sm (V 17) 0 n2 0 = t_sm (Z 17) 0 n 0 := by
    rw [← c4, t_sm_kept (f := Z 17) (g := V 17) n (fun x a b => (fin x a b _ rfl).2.2.1)]
    refine t_sm_congr n 0 0 (fun x _ b => ?_)
    by_cases h : M x = true
    · rw [if_pos h]
    · rw [if_neg h]
      exact ((hF x (by omega)).resolve_right (hMn x h).2.2).symm
  refine ⟨n2, H + 1 - l, ⟨v1, by omega, fun y hy => ?_, fun y1 y2 h12 hy2 => ?_, fun y hy => ?_, fun y hy => ?_, hDT⟩, v5, ⟨by omega, by omega, by omega⟩, by rw [v2, v5], by rw [v4, v5], ?_, hsum, fun key v => ⟨?_, ?_⟩, fun hw => ⟨?_, fun y hy => ?_⟩⟩
  · obtain ⟨x, a, m, p⟩ := sur y hy
    exact y_range (fin x a m y p).1 (hk x a)
  · obtain ⟨x1, a1, m1, p1⟩ := sur y1 (by omega)
    obtain ⟨x2, a2, m2, p2⟩ := sur y2 hy2
    rw [(fin x1 a1 m1 y1 p1).1, (fin x2 a2 m2 y2 p2).1]
    refine hs x1 x2 ?_ a2
    rcases Nat.lt_or_ge x1 x2 with z | z
    · exact z
    · have := d_n_mono (M := M) z
      omega
  · obtain ⟨x, a, m, p⟩ := sur y hy
    rw [(fin x a m y p).2.2.1]
    exact hF x a
  · obtain ⟨x, a, m, p⟩ := sur y hy
    exact y_range (fin x a m y p).2.1 (hv x a)
  · unfold k_p
    rw [v2, v3, y_spend]
    congr 1
    have h13 : t_sm (V 13) 0 n2 0 = t_sm (fun x => if l ≤ x ∧ x ≤ H then 0 else Z 13 x) 0 n 0 := by
      rw [← c4, t_sm_kept (f := fun x => if l ≤ x ∧ x ≤ H then 0 else Z 13 x) (g := V 13) n (fun x a b => (fin x a b _ rfl).2.2.2.1)]
      refine t_sm_congr n 0 0 (fun x _ b => ?_)
      by_cases h : M x = true
      · rw [if_pos h]
      · rw [if_neg h, if_pos ⟨(hMn x h).1, (hMn x h).2.1⟩]
    rw [h13]
    exact (t_sm_part (by omega) r5).symm
  · rintro ⟨y, hy, e1, e2, e3⟩
    obtain ⟨x, a, m, p⟩ := sur y hy
    obtain ⟨f1, f2, f3, -⟩ := fin x a m y p
    exact ⟨x, a, by rw [← f1]; exact e1, by rw [← f3]; exact e2, by rw [← f2]; exact e3⟩
  · rintro ⟨x, a, e1, e2, e3⟩
    have m := hMf x a e2
    obtain ⟨f1, f2, f3, -⟩ := fin x a m _ rfl
    refine ⟨d_n M 0 x, ?_, by rw [f1]; exact e1, by rw [f3]; exact e2, by rw [f2]; exact e3⟩
    rw [← c4]
    exact d_n_pos a m
  · rw [t_sm_dn hF, ← c4]
    congr 1
    refine d_n_congr n 0 (fun x _ b => ?_)
    rw [hM]
    exact decide_eq_decide.mpr ⟨fun z => z.elim (fun z => by omega) (fun z => z.elim (fun z => by omega) id), fun z => Or.inr (Or.inr z)⟩
  · obtain ⟨x, a, m, p⟩ := sur y hy
    obtain ⟨-, -, -, f4, f5⟩ := fin x a m y p
    rw [f4, f5, if_pos (by omega), if_pos (by omega)]
    refine ⟨rfl, ?_⟩
    congr 3
    · omega
    · omega
/-- the root's part is the whole tree -/
theorem root_J {Z : Nat → Nat → Int32} {n : Nat} (hJ : K_J Z n) (h0 : 0 < n) : ∃ t, t_tp (Z 15) 0 0 (n - 1 - 0) = t ∧ t < n ∧ Z 15 t = 0 ∧ t_wt Z n t = nI n := by
  obtain ⟨hN, hn, hk, hs, hF, hv, hD⟩ := hJ
  have hR := CT_root hD hn
  obtain ⟨t, q0, q1, q2, q3, q4, q5, q6⟩ := CT_top hR h0
  obtain ⟨s1, s2⟩ := CT_span hR q1 q2 q3 q6
  refine ⟨t, q0, q2, q3, ?_⟩
  unfold t_wt
  rw [show t_L Z t = 0 from s1, show t_H Z n t = n - 1 from s2, nI_sub (by omega), nI_1]
  congr 1
  omega
end
section
/-! Paying, one node, a new node; what the changes leave (by hand) -/
theorem t_pl_at {K : Nat → Int32} {key : Int32} {n i : Nat} (hi : i ≤ n) (h1 : ∀ y, y < i → K y < key) (h2 : i < n → ¬ K i < key) : t_pl K key 0 n = i := by
  obtain ⟨p1, p2⟩ := t_pl_spec (K := K) (key := key) n 0
  have hle := (t_pl_le K key n 0).2
  rcases Nat.lt_trichotomy (t_pl K key 0 n) i with z | z | z
  · exact absurd (h1 _ z) (p2 (by omega))
  · exact z
  · exact absurd (p1 i (Nat.zero_le _) z) (h2 (by omega))
theorem nd_at {K : Nat → Int32} {n x : Nat} (hs : ∀ i j, i < j → j < n → K i < K j) (hx : x < n) : t_nd K n (K x) = some x := by
  have hp : t_pl K (K x) 0 n = x := t_pl_at (by omega) (fun y hy => hs y x hy hx) (fun _ => Int32.lt_irrefl)
  unfold t_nd
  rw [hp, if_pos ⟨hx, rfl⟩]
theorem nd_non {K : Nat → Int32} {n : Nat} {key : Int32} (hs : ∀ i j, i < j → j < n → K i < K j) (h : t_nd K n key = none) : ∀ x, x < n → ¬ K x = key := by
  intro x hx e
  subst e
  rw [nd_at hs hx] at h
  cases h
theorem val_in {Z : Nat → Nat → Int32} {n : Nat} {key v : Int32} (hJ : K_J Z n) (hk : y_nm key = true) (h : k_in Z n key v) : c_val Z n key = v := by
  obtain ⟨i, hi, e1, e2, e3⟩ := h
  subst e1
  unfold c_val t_fn
  rw [if_pos hk, nd_at hJ.2.2.2.1 hi]
  dsimp only
  rw [if_pos e2]
  exact e3
theorem fn_in {Z : Nat → Nat → Int32} {n j : Nat} {key : Int32} (h : t_fn (Z 9) (Z 17) n key = some j) : k_in Z n key (Z 11 j) := ⟨j, (t_fn_lt h).1, (t_fn_lt h).2.1, (t_fn_lt h).2.2, rfl⟩
theorem val_out {Z : Nat → Nat → Int32} {n : Nat} {key : Int32} (hk : y_nm key = true) (h : ∀ v, ¬ k_in Z n key v) : c_val Z n key = -6 := by
  unfold c_val
  rw [if_pos hk]
  cases hq : t_fn (Z 9) (Z 17) n key with
  | none => rfl
  | some j => exact absurd (fn_in hq) (h _)
theorem y_ne6 {v : Int32} (h : 0 ≤ v ∧ v ≤ 999) : ¬ v = -6 := by
  intro e
  rw [e] at h
  exact absurd h.1 (by decide)
theorem in_val {Z : Nat → Nat → Int32} {n : Nat} {key v : Int32} (hJ : K_J Z n) (h : k_in Z n key v) : ¬ v = -6 := by
  obtain ⟨i, hi, e1, e2, e3⟩ := h
  rw [← e3]
  exact y_ne6 (hJ.2.2.2.2.2.1 i hi)
theorem fn_none {Z : Nat → Nat → Int32} {n : Nat} {key : Int32} (hJ : K_J Z n) (h : t_fn (Z 9) (Z 17) n key = none) : ∀ v, ¬ k_in Z n key v := by
  rintro v ⟨i, hi, e1, e2, e3⟩
  subst e1
  unfold t_fn at h
  rw [nd_at hJ.2.2.2.1 hi] at h
  dsimp only at h
  rw [if_pos e2] at h
  cases h
theorem py_J {Z : Nat → Nat → Int32} {n p q : Nat} (hJ : K_J Z n) (hp : p < n) (hq : Z 7 2 = nI q) : ∃ cnt, 1 ≤ cnt ∧ cnt ≤ n ∧ t_sm (t_py p 60 0 0 n Z 13) 0 n 0 = t_sm (Z 13) 0 n 0 + nI (cnt * q) := by
  obtain ⟨hN, hn, hk, hs, hF, hv, hD⟩ := hJ
  have h := py_eff (n := n) (p := p) (D := Z 15) 60 0 0 n Z rfl (CT_root hD hn) (by omega) (Nat.zero_le _) hp
  obtain ⟨M, hM⟩ : ∃ M : Nat → Bool, ∀ i, M i = decide (dL (Z 15) i ≤ p ∧ p ≤ dH (Z 15) n i) := ⟨_, fun _ => rfl⟩
  have hg : ∀ i, i < n → t_py p 60 0 0 n Z 13 i = Z 13 i + (if M i = true then nI q else 0) := fun i hi => by
    rw [h i, hq, hM]
    by_cases hc : dL (Z 15) i ≤ p ∧ p ≤ dH (Z 15) n i
    · rw [if_pos ⟨Nat.zero_le _, hi, hc⟩, if_pos (decide_eq_true hc)]
    · rw [if_neg (fun z => hc z.2.2), if_neg (by rw [decide_eq_false hc]; decide)]
  refine ⟨d_n M 0 n, ?_, d_n_le _ _, ?_⟩
  · have hMp : M p = true := by
      rw [hM]
      exact decide_eq_true ⟨t_lo_le _ _ _, (t_hi_le _ _ _ _).1⟩
    have := d_n_pos (M := M) hp hMp
    omega
  · rw [t_sm_plus (f := Z 13) (g := fun i => if M i = true then nI q else 0) n 0 (fun i _ b => hg i (by omega)), t_sm_ind (p := q) (M := M) (f := fun i => if M i = true then nI q else 0) n 0 (fun i _ _ => rfl)]
theorem t_sm_at {f g : Nat → Int32} {n j : Nat} (hj : j < n) (h : ∀ i, i < n → i ≠ j → g i = f i) : t_sm g 0 n 0 + f j = t_sm f 0 n 0 + g j := by
  have e : ∀ u : Nat → Int32, t_sm u 0 n 0 = t_sm u 0 j 0 + (u j + t_sm u (j + 1) (n - (j + 1)) 0) := fun u => by
    have h := t_sm_add (f := u) j (n - (j + 1) + 1) 0
    rw [show j + (n - (j + 1) + 1) = n by omega, Nat.zero_add, t_sm_one] at h
    exact h
  rw [e g, e f, t_sm_congr (f := g) (g := f) j 0 0 (fun i _ b => h i (by omega) (by omega)), t_sm_congr (f := g) (g := f) (n - (j + 1)) (j + 1) 0 (fun i a b => h i (by omega) (by omega))]
  ac_rfl
theorem t_sm_move {f g : Nat → Int32} : ∀ (k i : Nat), (∀ x, i ≤ x → x < i + k → g (x + 1) = f x) → t_sm g (i + 1) k 0 = t_sm f i k 0
  | 0, i, h => rfl
  | k + 1, i, h => by rw [t_sm_one, t_sm_one, t_sm_move k (i + 1) (fun x a b => h x (by omega) (by omega)), h i (Nat.le_refl _) (by omega)]
/-- a sum with one more place -/
theorem t_sm_ins {f g : Nat → Int32} {n p : Nat} (hp : p ≤ n) (h1 : ∀ i, i < p → g i = f i) (h2 : ∀ i, p ≤ i → i < n → g (i + 1) = f i) : t_sm g 0 (n + 1) 0 = t_sm f 0 n 0 + g p := by
  have a := t_sm_add (f := g) p (n - p + 1) 0
  have b := t_sm_add (f := f) p (n - p) 0
  rw [show p + (n - p + 1) = n + 1 by omega, Nat.zero_add, t_sm_one (k := n - p) (i := p), t_sm_move (f := f) (n - p) p (fun x c d => h2 x c (by omega)), t_sm_congr (f := g) (g := f) p 0 0 (fun j _ d => h1 j (by omega))] at a
  rw [show p + (n - p) = n by omega, Nat.zero_add] at b
  rw [a, b]
  ac_rfl
theorem mk_J {Z : Nat → Nat → Int32} {n p : Nat} {key value : Int32} (hJ : K_J Z n) (h60 : n < 60) (hk : 0 ≤ key ∧ key ≤ 999) (hv : 0 ≤ value ∧ value ≤ 999) (hq : t_nd (Z 9) n key = none) (hp : t_pl (Z 9) key 0 n = p) :
    p ≤ n ∧ K_J (t_mk Z n p key value) (n + 1) ∧ d_in (Z 15) (t_mk Z n p key value 15) n p ∧ t_sm (t_mk Z n p key value 13) 0 (n + 1) 0 = t_sm (Z 13) 0 n 0 ∧ t_sm (t_mk Z n p key value 17) 0 (n + 1) 0 = t_sm (Z 17) 0 n 0 + 1 ∧ k_in (t_mk Z n p key value) (n + 1) key value ∧ (∀ s, s ≠ 6 → t_mk Z n p key value 5 s = Z 5 s) ∧ t_mk Z n p key value 7 = Z 7 := by
  obtain ⟨hN, hn, hkr, hs, hF, hvr, hD⟩ := hJ
  obtain ⟨p1, p2⟩ := t_pl_spec (K := Z 9) (key := key) n 0
  have hpn : p ≤ n := by have := (t_pl_le (Z 9) key n 0).2; omega
  rw [hp] at p1 p2
  have h5 : ∀ s, s ≠ 6 → t_mk Z n p key value 5 s = Z 5 s := fun s hs => by
    unfold t_mk t_mt
    rw [s_upd_ne (by omega), s_upd_ne (by omega), s_upd_ne (by omega), s_upd_ne (by omega), s_upd_ne (by omega), s_upd_ne (by omega), t_sh_o t_cl5]
  have h7 : t_mk Z n p key value 7 = Z 7 := t_mk_o (by unfold t_cl; omega) (by decide)
  have h56 : t_mk Z n p key value 5 6 = nI (n + 1) := t_mk_N hN
  have hz := fun (i : Nat) (hi : i ≤ n) (c : Nat) (hc : t_cl c) => t_mk_get (Z := Z) (n := n) (p := p) (i := i) (key := key) (value := value) hpn hi c hc
  have c9 : t_cl 9 := Or.inl rfl
  have c11 : t_cl 11 := Or.inr (Or.inl rfl)
  have c13 : t_cl 13 := Or.inr (Or.inr (Or.inl rfl))
  have c15 : t_cl 15 := Or.inr (Or.inr (Or.inr (Or.inl rfl)))
  have c17 : t_cl 17 := Or.inr (Or.inr (Or.inr (Or.inr rfl)))
  generalize t_mk Z n p key value = V at *
  have lo : ∀ c, t_cl c → ∀ i, i < p → V c i = Z c i := fun c hc i hi => by rw [hz i (by omega) c hc, if_pos hi]
  have hi : ∀ c, t_cl c → ∀ i, p ≤ i → i < n → V c (i + 1) = Z c i := fun c hc i h1 h2 => by rw [hz (i + 1) (by omega) c hc, if_neg (by omega), if_neg (by omega), Nat.add_sub_cancel]
  have e9 : V 9 p = key := by rw [hz p hpn 9 c9, if_neg (by omega), if_pos rfl]; rfl
  have e11 : V 11 p = value := by rw [hz p hpn 11 c11, if_neg (by omega), if_pos rfl]; rfl
  have e13 : V 13 p = 0 := by rw [hz p hpn 13 c13, if_neg (by omega), if_pos rfl]; rfl
  have e17 : V 17 p = 1 := by rw [hz p hpn 17 c17, if_neg (by omega), if_pos rfl]; rfl
  have hin : d_in (Z 15) (V 15) n p := ⟨lo 15 c15, hi 15 c15, by rw [hz p hpn 15 c15, if_neg (by omega), if_pos rfl]; rfl⟩
  have sp : ∀ i, i < n + 1 → i < p ∨ i = p ∨ ∃ x, p ≤ x ∧ x < n ∧ i = x + 1 := fun i h => by
    rcases Nat.lt_trichotomy i p with z | z | z
    · exact Or.inl z
    · exact Or.inr (Or.inl z)
    · exact Or.inr (Or.inr ⟨i - 1, by omega, by omega, by omega⟩)
  have hne := nd_non hs hq
  have hgt : ∀ x, p ≤ x → x < n → key < Z 9 x := fun x h1 h2 => by
    have h3 : ¬ Z 9 p < key := p2 (by omega)
    have h4 : ¬ Z 9 p = key := hne p (by omega)
    have h5 : key < Z 9 p := by
      rw [Int32.lt_iff_toInt_lt] at h3 ⊢
      have h6 : (Z 9 p).toInt ≠ key.toInt := fun z => h4 (Int32.toInt_inj.mp z)
      omega
    by_cases hx : x = p
    · rw [hx]; exact h5
    · exact Int32.lt_trans h5 (hs p x (by omega) h2)
  refine ⟨hpn, ⟨h56, by omega, fun i h => ?_, fun i j hij hj => ?_, fun i h => ?_, fun i h => ?_, DT_ins hin n 0 0 n (by omega) (CT_root hD hn) (Nat.zero_le _) hpn⟩, hin, ?_, ?_, ⟨p, by omega, e9, e17, e11⟩, h5, h7⟩
  · rcases sp i h with z | z | ⟨x, z1, z2, z3⟩
    · rw [lo 9 c9 i z]; exact hkr i (by omega)
    · rw [z, e9]; exact hk
    · rw [z3, hi 9 c9 x z1 z2]; exact hkr x z2
  · rcases sp i (by omega) with z | z | ⟨x, z1, z2, z3⟩
    · rcases sp j hj with y | y | ⟨w, y1, y2, y3⟩
      · rw [lo 9 c9 i z, lo 9 c9 j y]; exact hs i j hij (by omega)
      · rw [lo 9 c9 i z, y, e9]; exact p1 i (Nat.zero_le _) z
      · rw [lo 9 c9 i z, y3, hi 9 c9 w y1 y2]; exact Int32.lt_trans (p1 i (Nat.zero_le _) z) (hgt w y1 y2)
    · rcases sp j hj with y | y | ⟨w, y1, y2, y3⟩
      · omega
      · omega
      · rw [z, e9, y3, hi 9 c9 w y1 y2]; exact hgt w y1 y2
    · rcases sp j hj with y | y | ⟨w, y1, y2, y3⟩
      · omega
      · omega
      · rw [z3, hi 9 c9 x z1 z2, y3, hi 9 c9 w y1 y2]; exact hs x w (by omega) y2
  · rcases sp i h with z | z | ⟨x, z1, z2, z3⟩
    · rw [lo 17 c17 i z]; exact hF i (by omega)
    · rw [z, e17]; exact Or.inr rfl
    · rw [z3, hi 17 c17 x z1 z2]; exact hF x z2
  · rcases sp i h with z | z | ⟨x, z1, z2, z3⟩
    · rw [lo 11 c11 i z]; exact hvr i (by omega)
    · rw [z, e11]; exact hv
    · rw [z3, hi 11 c11 x z1 z2]; exact hvr x z2
  · rw [t_sm_ins (f := Z 13) hpn (lo 13 c13) (hi 13 c13), e13, Int32.add_zero]
  · rw [t_sm_ins (f := Z 17) hpn (lo 17 c17) (hi 17 c17), e17]
/-- one node's value and fullness -/
theorem up_J {Z : Nat → Nat → Int32} {n j : Nat} {v f : Int32} (hJ : K_J Z n) (hj : j < n) (hv : 0 ≤ v ∧ v ≤ 999) (hf : f = 0 ∨ f = 1) : K_J (s_upd (s_upd Z 11 j v) 17 j f) n ∧ t_sm (s_upd (s_upd Z 11 j v) 17 j f 17) 0 n 0 + Z 17 j = t_sm (Z 17) 0 n 0 + f ∧ (s_upd (s_upd Z 11 j v) 17 j f 9 = Z 9 ∧ s_upd (s_upd Z 11 j v) 17 j f 11 j = v ∧ s_upd (s_upd Z 11 j v) 17 j f 17 j = f) ∧ ∀ c, c ≠ 11 → c ≠ 17 → s_upd (s_upd Z 11 j v) 17 j f c = Z c := by
  have ho : ∀ c, c ≠ 11 → c ≠ 17 → s_upd (s_upd Z 11 j v) 17 j f c = Z c := fun c h1 h2 => by rw [s_upd_o h2, s_upd_o h1]
  have h11 : ∀ i, s_upd (s_upd Z 11 j v) 17 j f 11 i = if i = j then v else Z 11 i := fun i => by
    rw [s_upd_ne (by omega), s_upd_c]
    by_cases h : i = j
    · rw [if_pos ⟨rfl, h⟩, if_pos h]
    · rw [if_neg (fun z => h z.2), if_neg h]
  have h17 : ∀ i, s_upd (s_upd Z 11 j v) 17 j f 17 i = if i = j then f else Z 17 i := fun i => by
    rw [s_upd_c]
    by_cases h : i = j
    · rw [if_pos ⟨rfl, h⟩, if_pos h]
    · rw [if_neg (fun z => h z.2), if_neg h, s_upd_o (by decide)]
  generalize s_upd (s_upd Z 11 j v) 17 j f = V at *
  obtain ⟨hN, hn, hk, hs, hF, hvr, hD⟩ := hJ
  refine ⟨?_, ?_, ⟨ho 9 (by decide) (by decide), by rw [h11, if_pos rfl], by rw [h17, if_pos rfl]⟩, ho⟩
  · unfold K_J
    rw [ho 5 (by decide) (by decide), ho 9 (by decide) (by decide), ho 15 (by decide) (by decide)]
    refine ⟨hN, hn, hk, hs, fun i hi => ?_, fun i hi => ?_, hD⟩
    · rw [h17]
      by_cases h : i = j
      · rw [if_pos h]; exact hf
      · rw [if_neg h]; exact hF i hi
    · rw [h11]
      by_cases h : i = j
      · rw [if_pos h]; exact hv
      · rw [if_neg h]; exact hvr i hi
  · have := t_sm_at (f := Z 17) (g := V 17) hj (fun i _ h => by rw [h17, if_neg h])
    rw [h17 j, if_pos rfl] at this
    exact this
theorem y_c1 {a b : Int32} (h : a + 1 = b + 1) : a = b := by
  have h2 := congrArg (fun z => z - 1) h
  simpa only [Int32.add_sub_cancel] using h2
theorem k_p_pay {Z V : Nat → Nat → Int32} {n : Nat} {x : Int32} (h5 : V 5 = Z 5) (h : t_sm (V 13) 0 n 0 = t_sm (Z 13) 0 n 0 + x) : k_p V n = k_p Z n + x := by
  unfold k_p
  rw [h5, h, Int32.add_assoc, Int32.add_assoc, Int32.add_assoc]
/-- a key put in -/
theorem en_J {Z : Nat → Nat → Int32} {n q : Nat} {key value : Int32} (hJ : K_J Z n) (hq : Z 7 2 = nI q) (h0 : 0 ≤ Z 7 0) (hk : 0 ≤ key ∧ key ≤ 999) (hv : 0 ≤ value ∧ value ≤ 999) (hr : t_rm Z n key = true) : ∃ n2 w cnt, (t_en Z n key value).1 = nI w ∧ w ≤ 60 ∧ t_cs Z n key = nI w ∧ K_J (t_en Z n key value).2 n2 ∧ (t_en Z n key value).2 5 7 = Z 5 7 + nI w ∧ k_p (t_en Z n key value).2 n2 = k_p Z n + nI (cnt * q) ∧ (1 ≤ cnt ∧ cnt ≤ 60) ∧ k_in (t_en Z n key value).2 n2 key value ∧ t_sm ((t_en Z n key value).2 17) 0 n2 0 = t_sm (Z 17) 0 n 0 + (if t_fn (Z 9) (Z 17) n key = none then 1 else 0) ∧ (w = 0 ∨ (t_en Z n key value).2 5 10 = y_mx (Z 5 10) (nI w)) := by
  have hn := hJ.2.1
  unfold t_en t_cs
  rw [if_neg (by rw [hr]; decide)]
  cases hq2 : t_nd (Z 9) n key with
  | some j =>
    dsimp only
    obtain ⟨hj, hkj⟩ := t_nd_lt hq2
    obtain ⟨w1, w2, ⟨w3, w4, w5⟩, w6⟩ := up_J hJ hj hv (Or.inr rfl : (1 : Int32) = 0 ∨ (1 : Int32) = 1)
    generalize s_upd (s_upd Z 11 j value) 17 j 1 = W at *
    obtain ⟨cnt, c1, c2, c3⟩ := py_J w1 hj (q := q) (by rw [w6 7 (by decide) (by decide)]; exact hq)
    have po : ∀ c, c ≠ 13 → t_py j 60 0 0 n W c = W c := fun c hc => t_py_o hc _ _ _ _ _
    generalize t_py j 60 0 0 n W = V at *
    have v5 : V 5 = Z 5 := by rw [po 5 (by decide), w6 5 (by decide) (by decide)]
    refine ⟨n, 0, cnt, rfl, by omega, rfl, K_J_congr w1 (by rw [po 5 (by decide)]) (po 9 (by decide)) (po 11 (by decide)) (po 15 (by decide)) (po 17 (by decide)), by rw [v5, nI_0, Int32.add_zero], k_p_pay v5 (by rw [c3, w6 13 (by decide) (by decide)]), ⟨c1, by omega⟩, ⟨j, hj, by rw [po 9 (by decide), w3]; exact hkj, by rw [po 17 (by decide)]; exact w5, by rw [po 11 (by decide)]; exact w4⟩, ?_, Or.inl rfl⟩
    rw [po 17 (by decide)]
    rcases hJ.2.2.2.2.1 j hj with hz | hz
    · have e : t_fn (Z 9) (Z 17) n key = none := by
        unfold t_fn
        rw [hq2]
        exact if_neg (by rw [hz]; decide)
      rw [if_pos e]
      rw [hz, Int32.add_zero] at w2
      exact w2
    · have e : t_fn (Z 9) (Z 17) n key = some j := by
        unfold t_fn
        rw [hq2]
        exact if_pos hz
      rw [if_neg (by rw [e]; simp), Int32.add_zero]
      rw [hz] at w2
      exact y_c1 w2
  | none =>
    have h60 : n < 60 := by
      unfold t_rm at hr
      rw [hq2] at hr
      simpa using hr
    have hfn : t_fn (Z 9) (Z 17) n key = none := by
      unfold t_fn
      rw [hq2]
    rw [hfn, if_pos rfl]
    dsimp only
    obtain ⟨p, hp⟩ : ∃ p, t_pl (Z 9) key 0 n = p := ⟨_, rfl⟩
    obtain ⟨m1, m2, m3, m4, m5, m6, m7, m8⟩ := mk_J hJ h60 hk hv hq2 hp
    rw [hp]
    generalize t_mk Z n p key value = W at *
    obtain ⟨cnt, c1, c2, c3⟩ := py_J m2 (p := p) (by omega) (q := q) (by rw [m8]; exact hq)
    have po : ∀ c, c ≠ 13 → t_py p 60 0 0 (n + 1) W c = W c := fun c hc => t_py_o hc _ _ _ _ _
    generalize t_py p 60 0 0 (n + 1) W = V at *
    have v1 : K_J V (n + 1) := K_J_congr m2 (by rw [po 5 (by decide)]) (po 9 (by decide)) (po 11 (by decide)) (po 15 (by decide)) (po 17 (by decide))
    have v5 : ∀ s, s ≠ 6 → V 5 s = Z 5 s := fun s hs => by rw [po 5 (by decide), m7 s hs]
    have vp : k_p V (n + 1) = k_p Z n + nI (cnt * q) := by
      unfold k_p
      rw [v5 7 (by decide), v5 8 (by decide), c3, m4, Int32.add_assoc, Int32.add_assoc, Int32.add_assoc]
    have vi : k_in V (n + 1) key value := (k_in_congr (po 9 (by decide)) (po 11 (by decide)) (po 17 (by decide))).mpr m6
    have vs : t_sm (V 17) 0 (n + 1) 0 = t_sm (Z 17) 0 n 0 + 1 := by rw [po 17 (by decide)]; exact m5
    have m3 : d_in (Z 15) (V 15) n p := by rw [po 15 (by decide)]; exact m3
    obtain ⟨r1, r2⟩ := wl_wp h0 m3 60 0 0 n (by omega) (CT_root hJ.2.2.2.2.2.2 hn) (CT_root v1.2.2.2.2.2.2 v1.2.1) (Nat.zero_le _) m1
    cases hw : t_wl (Z 15) (Z 7 0) p 60 0 0 n with
    | none =>
      dsimp only
      exact ⟨n + 1, 0, cnt, rfl, by omega, rfl, v1, by rw [v5 7 (by decide), nI_0, Int32.add_zero], vp, ⟨c1, by omega⟩, vi, vs, Or.inl rfl⟩
    | some j =>
      obtain ⟨s1, s2, s3⟩ := r2 j hw
      dsimp only
      have hj2 : (if j < p then j else j + 1) < n + 1 := by split <;> omega
      generalize (if j < p then j else j + 1) = j2 at *
      obtain ⟨n2, w, k1, k2, ⟨k3, k4, k5⟩, k6, k7, k8, k9, k10, -⟩ := la_J v1 hj2
      refine ⟨n2, w, cnt, k2, by omega, ?_, k1, by rw [k6, v5 7 (by decide)], by rw [k8, vp], ⟨c1, by omega⟩, (k10 key value).mpr vi, by rw [k9, vs], Or.inr (by rw [k7, v5 10 (by decide)])⟩
      rw [← k2]
      exact s3.symm
/-- a key removed -/
theorem hl_J {Z : Nat → Nat → Int32} {n q j : Nat} {key : Int32} (hJ : K_J Z n) (hq : Z 7 2 = nI q) (hfn : t_fn (Z 9) (Z 17) n key = some j) : ∃ n2 w cnt, (t_hl Z n key).1 = nI w ∧ w ≤ 60 ∧ K_J (t_hl Z n key).2 n2 ∧ (t_hl Z n key).2 5 7 = Z 5 7 + nI w ∧ k_p (t_hl Z n key).2 n2 = k_p Z n + nI (cnt * q) ∧ (1 ≤ cnt ∧ cnt ≤ 60) ∧ (∀ v, ¬ k_in (t_hl Z n key).2 n2 key v) ∧ t_sm ((t_hl Z n key).2 17) 0 n2 0 + 1 = t_sm (Z 17) 0 n 0 ∧ (w = 0 ∨ nI n2 = t_sm ((t_hl Z n key).2 17) 0 n2 0) := by
  have hn := hJ.2.1
  obtain ⟨hj, hkj, hf1⟩ := t_fn_lt hfn
  unfold t_hl
  rw [hfn]
  dsimp only
  have hself : s_upd Z 11 j (Z 11 j) = Z := by
    funext c i
    rw [s_upd_c]
    by_cases h : c = 11 ∧ i = j
    · rw [if_pos h, h.1, h.2]
    · rw [if_neg h]
  obtain ⟨w1, w2, ⟨w3, w4, w5⟩, w6⟩ := up_J hJ hj (hJ.2.2.2.2.2.1 j hj) (Or.inl rfl : (0 : Int32) = 0 ∨ (0 : Int32) = 1)
  rw [hself] at w1 w2 w3 w4 w5 w6
  have hout : ∀ v, ¬ k_in (s_upd Z 17 j 0) n key v := by
    rintro v ⟨i, hi, e1, e2, e3⟩
    rw [w3] at e1
    have h1 := nd_at hJ.2.2.2.1 hi
    have h2 := nd_at hJ.2.2.2.1 hj
    rw [e1] at h1
    rw [hkj, h1] at h2
    rw [Option.some.inj h2, w5] at e2
    exact absurd e2 (by decide)
  generalize s_upd Z 17 j 0 = W at *
  obtain ⟨cnt, c1, c2, c3⟩ := py_J w1 hj (q := q) (by rw [w6 7 (by decide) (by decide)]; exact hq)
  have po : ∀ c, c ≠ 13 → t_py j 60 0 0 n W c = W c := fun c hc => t_py_o hc _ _ _ _ _
  generalize t_py j 60 0 0 n W = V at *
  have v5 : V 5 = Z 5 := by rw [po 5 (by decide), w6 5 (by decide) (by decide)]
  have v1 : K_J V n := K_J_congr w1 (by rw [po 5 (by decide)]) (po 9 (by decide)) (po 11 (by decide)) (po 15 (by decide)) (po 17 (by decide))
  have vp : k_p V n = k_p Z n + nI (cnt * q) := k_p_pay v5 (by rw [c3, w6 13 (by decide) (by decide)])
  have vo : ∀ v, ¬ k_in V n key v := fun v h => hout v ((k_in_congr (po 9 (by decide)) (po 11 (by decide)) (po 17 (by decide))).mp h)
  have vs : t_sm (V 17) 0 n 0 + 1 = t_sm (Z 17) 0 n 0 := by
    rw [po 17 (by decide)]
    rw [hf1, Int32.add_zero] at w2
    exact w2
  unfold t_h2
  obtain ⟨t, q0, q1, q2, q3⟩ := root_J v1 (by omega)
  rw [q0]
  by_cases hc : V 7 1 * nI n < 100 * (nI n - t_sm (V 17) 0 n 0)
  · rw [if_pos hc]
    obtain ⟨n2, w, k1, k2, ⟨k3, k4, k5⟩, k6, k7, k8, k9, k10, k11⟩ := la_J v1 q1
    have hwn : w = n := by
      rw [q3] at k2
      exact ((nI_eq (by omega) (by omega)).mp k2).symm
    dsimp only
    exact ⟨n2, w, cnt, k2, by omega, k1, by rw [k6, v5], by rw [k8, vp], ⟨c1, by omega⟩, fun v h => vo v ((k10 key v).mp h), by rw [k9]; exact vs, Or.inr (by rw [k9]; exact (k11 hwn).1)⟩
  · rw [if_neg hc]
    dsimp only
    exact ⟨n, 0, cnt, rfl, by omega, v1, by rw [v5, nI_0, Int32.add_zero], vp, ⟨c1, by omega⟩, vo, vs, Or.inl rfl⟩
end
section
/-! A node and what lies from it downwards (by hand) -/
theorem sp_split {f : Nat → Int32} {l t u : Nat} (h1 : l ≤ t) (h2 : t < u) : t_sm f l (u - l) 0 = f t + (t_sm f l (t - l) 0 + t_sm f (t + 1) (u - (t + 1)) 0) := by
  have h := t_sm_add (f := f) (t - l) (u - (t + 1) + 1) l
  rw [show t - l + (u - (t + 1) + 1) = u - l by omega, show l + (t - l) = t by omega, t_sm_one] at h
  rw [h]
  ac_rfl
/-- the greatest of natural numbers -/
def n_mx (e : Nat → Nat) : Nat → Nat → Nat → Nat
  | _, 0, a => a
  | i, k + 1, a => n_mx e (i + 1) k (max a (e i))
theorem n_mx_max {e : Nat → Nat} : ∀ (k i a : Nat), n_mx e i k a = max a (n_mx e i k 0)
  | 0, i, a => by
    show a = max a 0
    omega
  | k + 1, i, a => by
    rw [n_mx, n_mx, n_mx_max k (i + 1) (max a (e i)), n_mx_max k (i + 1) (max 0 (e i))]
    omega
theorem n_mx_add {e : Nat → Nat} : ∀ (a b i x : Nat), n_mx e i (a + b) x = n_mx e (i + a) b (n_mx e i a x)
  | 0, b, i, x => by rw [Nat.zero_add, Nat.add_zero]; rfl
  | a + 1, b, i, x => by
    rw [show a + 1 + b = a + b + 1 by omega, n_mx, n_mx_add a b (i + 1), n_mx, show i + 1 + a = i + (a + 1) by omega]
theorem n_mx_split {e : Nat → Nat} {l t u a : Nat} (h1 : l ≤ t) (h2 : t < u) : n_mx e l (u - l) a = n_mx e l (t - l) (n_mx e (t + 1) (u - (t + 1)) (max a (e t))) := by
  have h := n_mx_add (e := e) (t - l) (u - (t + 1) + 1) l a
  rw [show t - l + (u - (t + 1) + 1) = u - l by omega, show l + (t - l) = t by omega, n_mx] at h
  rw [h]
  have a1 := n_mx_max (e := e) (u - (t + 1)) (t + 1) (max (n_mx e l (t - l) a) (e t))
  have a2 := n_mx_max (e := e) (t - l) l a
  have a3 := n_mx_max (e := e) (t - l) l (n_mx e (t + 1) (u - (t + 1)) (max a (e t)))
  have a4 := n_mx_max (e := e) (u - (t + 1)) (t + 1) (max a (e t))
  omega
theorem n_mx_le {e : Nat → Nat} {b : Nat} : ∀ (k i a : Nat), a ≤ b → (∀ j, i ≤ j → j < i + k → e j ≤ b) → a ≤ n_mx e i k a ∧ n_mx e i k a ≤ b
  | 0, i, a, h1, h2 => ⟨Nat.le_refl _, h1⟩
  | k + 1, i, a, h1, h2 => by
    have h3 := h2 i (Nat.le_refl _) (by omega)
    have := n_mx_le (e := e) (b := b) k (i + 1) (max a (e i)) (by omega) (fun j a b => h2 j (by omega) (by omega))
    rw [n_mx]
    omega
theorem y_mx_n {a b : Nat} (ha : a < 2 ^ 31) (hb : b < 2 ^ 31) : y_mx (nI a) (nI b) = nI (max a b) := by
  unfold y_mx
  by_cases h : a < b
  · rw [if_pos ((y_lt ha hb).mpr h), Nat.max_eq_right (by omega)]
  · rw [if_neg (fun z => h ((y_lt ha hb).mp z)), Nat.max_eq_left (by omega)]
/-- the depths as natural numbers -/
def k_e (Z : Nat → Nat → Int32) (j : Nat) : Nat := (Z 15 j).toNatClampNeg
theorem t_mx_n {D : Nat → Int32} {e : Nat → Nat} : ∀ (k i a : Nat), a ≤ 100 → (∀ j, i ≤ j → j < i + k → D j = nI (e j) ∧ e j ≤ 100) → t_mx D i k (nI a) = nI (n_mx e i k a)
  | 0, i, a, ha, h => rfl
  | k + 1, i, a, ha, h => by
    obtain ⟨h1, h2⟩ := h i (Nat.le_refl _) (by omega)
    rw [t_mx, n_mx, ← t_mx_n k (i + 1) (max a (e i)) (by omega) (fun j a b => h j (by omega) (by omega)), ← y_mx_n (by omega) (by omega), ← h1]
    rfl
theorem y_cx {a b c : Int32} (h : a + c = b + c) : a = b := by
  have h2 := congrArg (fun z => z - c) h
  simpa only [Int32.add_sub_cancel] using h2
section PRT
variable {Z : Nat → Nat → Int32} {n : Nat}
theorem k_e_eq (hJ : K_J Z n) {j : Nat} (hj : j < n) : Z 15 j = nI (k_e Z j) ∧ k_e Z j < 60 := by
  obtain ⟨e, h1, h2, h3⟩ := DT_val hJ.2.2.2.2.2.2 (Nat.zero_le j) hj
  have hn := hJ.2.1
  unfold k_e
  rw [h1, nI_clamp (by omega)]
  exact ⟨rfl, by omega⟩
theorem k_e_ct (hJ : K_J Z n) {d l u : Nat} (h : CT (Z 15) n d l u) {i : Nat} (h1 : l ≤ i) (h2 : i < u) : d ≤ k_e Z i := by
  obtain ⟨e, e1, e2, e3⟩ := DT_val h.1 h1 h2
  have hi := k_e_eq hJ (j := i) (by have := h.2.1; omega)
  have hn := hJ.2.1
  have h60 := h.2.2.1
  rw [e1] at hi
  have := (nI_eq (a := e) (b := k_e Z i) (by omega) (by omega)).mp hi.1
  omega
/-- how deep a part goes below depth d, 0 if there is nothing -/
def k_h (Z : Nat → Nat → Int32) (d l u : Nat) : Nat := n_mx (k_e Z) l (u - l) d - d
theorem k_h_nil {d l : Nat} : k_h Z d l l = 0 := by
  unfold k_h
  rw [Nat.sub_self]
  show d - d = 0
  omega
theorem k_h_b (hJ : K_J Z n) {d l u : Nat} (hd : d ≤ 60) (hu : u ≤ n) : d ≤ n_mx (k_e Z) l (u - l) d ∧ n_mx (k_e Z) l (u - l) d ≤ 60 ∧ k_h Z d l u ≤ 60 := by
  have := n_mx_le (e := k_e Z) (b := 60) (u - l) l d hd (fun j a b => by have := (k_e_eq hJ (j := j) (by omega)).2; omega)
  unfold k_h
  omega
/-- all about the top of a part -/
theorem part_J (hJ : K_J Z n) {d l u : Nat} (h : CT (Z 15) n d l u) (hlu : l < u) : ∃ t, t_tp (Z 15) (nI d) l (u - 1 - l) = t ∧ (l ≤ t ∧ t < u ∧ u ≤ n) ∧ (CT (Z 15) n (d + 1) l t ∧ CT (Z 15) n (d + 1) (t + 1) u) ∧ d < 60 ∧
    Z 15 t = nI d ∧ t_wt Z n t = nI (u - l) ∧ t_ln Z n t = y_th (Z 7 0) (nI (t - l)) (nI (u - 1 - t)) ∧
    c_abt Z n t 0 = t_ktp Z l t (nI (d + 1)) ∧ c_abt Z n t 1 = t_ktp Z (t + 1) u (nI (d + 1)) ∧ c_abt Z n t 2 = nI (u - l) ∧ c_abt Z n t 3 = nI d ∧ c_abt Z n t 5 = Z 17 t ∧ c_abt Z n t 6 = t_sm (Z 17) l (u - l) 0 ∧ c_abt Z n t 7 = y_b (y_th (Z 7 0) (nI (t - l)) (nI (u - 1 - t))) ∧ c_abt Z n t 8 = nI (k_h Z d l u) := by
  obtain ⟨t, q0, q1, q2, q3, q4, q5, q6⟩ := CT_top h hlu
  obtain ⟨s1, s2⟩ := CT_span h q1 q2 q3 q6
  have s1 : t_L Z t = l := s1
  have s2 : t_H Z n t = u - 1 := s2
  have hun := h.2.1
  have h60 := h.2.2.1
  have hn := hJ.2.1
  have hw : t_wt Z n t = nI (u - l) := by
    unfold t_wt
    rw [s1, s2, nI_sub (by omega), nI_1]
    congr 1
    omega
  have hln : t_ln Z n t = y_th (Z 7 0) (nI (t - l)) (nI (u - 1 - t)) := by
    unfold t_ln
    rw [s1, s2, nI_sub (by omega), nI_sub (by omega)]
  refine ⟨t, q0, ⟨q1, q2, hun⟩, ⟨q4, q5⟩, by omega, q3, hw, hln, ?_, ?_, hw, q3, ?_, ?_, ?_, ?_⟩
  · show t_ktp Z (t_L Z t) t (Z 15 t + 1) = _
    rw [s1, q3, nI_1]
  · show t_ktp Z (t + 1) (t_H Z n t + 1) (Z 15 t + 1) = _
    rw [s2, q3, nI_1, show u - 1 + 1 = u by omega]
  · show y_b (decide (Z 17 t = 1)) = _
    rcases hJ.2.2.2.2.1 t (by omega) with z | z
    · rw [z]; rfl
    · rw [z]; rfl
  · show t_sm (Z 17) (t_L Z t) (t_H Z n t + 1 - t_L Z t) 0 = _
    rw [s1, s2, show u - 1 + 1 - l = u - l by omega]
  · show y_b (t_ln Z n t) = _
    rw [hln]
  · show t_mx (Z 15) (t_L Z t) (t_H Z n t + 1 - t_L Z t) (Z 15 (t_L Z t)) - Z 15 t = _
    have hl := k_e_eq hJ (j := l) (by omega)
    rw [s1, s2, show u - 1 + 1 - l = u - l by omega, hl.1, q3, t_mx_n (e := k_e Z) (u - l) l _ (by omega) (fun j a b => ⟨(k_e_eq hJ (by omega)).1, by have := (k_e_eq hJ (j := j) (by omega)).2; omega⟩)]
    have e1 : n_mx (k_e Z) l (u - l) (k_e Z l) = n_mx (k_e Z) l (u - l) d := by
      have hdl := k_e_ct hJ h (Nat.le_refl l) hlu
      rw [show u - l = u - l - 1 + 1 by omega, n_mx, n_mx]
      congr 1
      omega
    rw [e1, nI_sub (k_h_b hJ (by omega) hun).1]
    rfl
theorem k_h_split (hJ : K_J Z n) {d l t u : Nat} (h1 : l ≤ t) (h2 : t < u) (hu : u ≤ n) (ht : Z 15 t = nI d) (hd : d < 60) : k_h Z d l u = max (k_h Z d l t) (k_h Z d (t + 1) u) := by
  have he : k_e Z t = d := by
    unfold k_e
    rw [ht, nI_clamp (by omega)]
  unfold k_h
  rw [n_mx_split h1 h2, he, Nat.max_self, n_mx_max _ l]
  have a := n_mx_max (e := k_e Z) (t - l) l d
  have b := n_mx_max (e := k_e Z) (u - (t + 1)) (t + 1) d
  omega
/-- a child's height and one, seen from its parent -/
theorem k_h_up (hJ : K_J Z n) {d l u : Nat} (h : CT (Z 15) n (d + 1) l u) (hlu : l < u) : k_h Z d l u = k_h Z (d + 1) l u + 1 := by
  unfold k_h
  have hdl := k_e_ct hJ h (Nat.le_refl l) hlu
  have e1 : n_mx (k_e Z) l (u - l) d = n_mx (k_e Z) l (u - l) (d + 1) := by
    rw [show u - l = u - l - 1 + 1 by omega, n_mx, n_mx]
    congr 1
    omega
  rw [e1]
  have := n_mx_max (e := k_e Z) (u - l) l (d + 1)
  omega
/-- weights and depths -/
theorem w_sum (hJ : K_J Z n) : ∀ (k d l u : Nat), u - l ≤ k → CT (Z 15) n d l u → t_sm (fun j => t_wt Z n j) l (u - l) 0 + nI (d * (u - l)) = t_sm (Z 15) l (u - l) 0 + nI (u - l) := by
  intro k
  induction k with
  | zero =>
    intro d l u hk h
    rw [show u - l = 0 by omega]
    rfl
  | succ k ih =>
    intro d l u hk h
    rcases Nat.lt_or_ge l u with hlu | hlu
    · obtain ⟨t, q0, ⟨q1, q2, hun⟩, ⟨q4, q5⟩, q6, q3, hw, -⟩ := part_J hJ h hlu
      have a := ih (d + 1) l t (by omega) q4
      have b := ih (d + 1) (t + 1) u (by omega) q5
      rw [Nat.add_mul, Nat.one_mul, ← nI_add, ← Int32.add_assoc] at a b
      have a := y_cx a
      have b := y_cx b
      rw [sp_split q1 q2, sp_split q1 q2, hw, q3, ← a, ← b, show d * (u - l) = d + (d * (t - l) + d * (u - (t + 1))) by rw [← Nat.mul_add, show u - l = t - l + (u - (t + 1)) + 1 by omega, Nat.mul_succ, Nat.add_comm], ← nI_add, ← nI_add]
      ac_rfl
    · rw [show u - l = 0 by omega]
      rfl
end PRT
end
section
/-! Keys by their places and back (by hand) -/
def k_M (Z : Nat → Nat → Int32) : Nat → Bool := fun x => decide (Z 17 x = 1)
/-- how many keys there are -/
def k_c (Z : Nat → Nat → Int32) (n : Nat) : Nat := d_n (k_M Z) 0 n
def k_v (Z : Nat → Nat → Int32) (i : Nat) : Int32 := if Z 17 i = 1 then Z 11 i else 0
/-- the values of the first k keys together -/
def k_s (Z : Nat → Nat → Int32) (n : Nat) : Nat → Int32
  | 0 => 0
  | k + 1 => k_s Z n k + c_val Z n (c_kth Z n (nI k))
theorem y_nmt {k : Int32} (h : 0 ≤ k ∧ k ≤ 999) : y_nm k = true := decide_eq_true h
theorem su_eq {Z : Nat → Nat → Int32} {hi : Int32} : ∀ (r k i : Nat) (a : Int32), r ≤ k → (∀ x, i ≤ x → x < i + r → Z 9 x ≤ hi) → (r < k → ¬ Z 9 (i + r) ≤ hi) → t_su Z hi i k a = t_sm (k_v Z) i r a
  | 0, 0, i, a, h1, h2, h3 => rfl
  | 0, k + 1, i, a, h1, h2, h3 => by
    have h4 : ¬ Z 9 i ≤ hi := h3 (by omega)
    rw [t_su, if_neg h4]
    rfl
  | r + 1, 0, i, a, h1, h2, h3 => by omega
  | r + 1, k + 1, i, a, h1, h2, h3 => by
    rw [t_su, if_pos (h2 i (Nat.le_refl _) (by omega)), t_sm, su_eq r k (i + 1) _ (by omega) (fun x a b => h2 x (by omega) (by omega)) (fun h => by rw [show i + 1 + r = i + (r + 1) by omega]; exact h3 (by omega))]
    rfl
section KEY
variable {Z : Nat → Nat → Int32} {n : Nat}
theorem k_c_le : k_c Z n ≤ n := d_n_le _ _
theorem k_c_sum (hJ : K_J Z n) : t_sm (Z 17) 0 n 0 = nI (k_c Z n) := t_sm_dn hJ.2.2.2.2.1
theorem k_pl (hJ : K_J Z n) {j : Nat} (hj : j < n) : t_pl (Z 9) (Z 9 j) 0 n = j := t_pl_at (by omega) (fun y hy => hJ.2.2.2.1 y j hy hj) (fun _ => Int32.lt_irrefl)
theorem k_fn (hJ : K_J Z n) {j : Nat} (hj : j < n) (hf : Z 17 j = 1) : t_fn (Z 9) (Z 17) n (Z 9 j) = some j := by
  unfold t_fn
  rw [nd_at hJ.2.2.2.1 hj]
  dsimp only
  rw [if_pos hf]
/-- the place of the k-th key -/
theorem k_at (hJ : K_J Z n) {k : Nat} (hk : k < k_c Z n) : ∃ j, j < n ∧ Z 17 j = 1 ∧ d_n (k_M Z) 0 j = k ∧ c_kth Z n (nI k) = Z 9 j := by
  obtain ⟨j, h1, h2, h3, h4⟩ := d_n_sur (M := k_M Z) (i := 0) n k hk
  rw [Nat.sub_zero] at h4
  have hf : Z 17 j = 1 := of_decide_eq_true h3
  have hn := hJ.2.1
  have := t_kt_at hf n 0 0 (by omega) (Nat.zero_le j) h2
  rw [Nat.sub_zero, Nat.zero_add] at this
  have h5 : d_n (fun x => decide (Z 17 x = 1)) 0 j = k := h4
  rw [h5] at this
  refine ⟨j, by omega, hf, h4, ?_⟩
  unfold c_kth
  rw [show t_kt (Z 17) (nI k) 0 n 0 = some j from this]
theorem k_kt_non (hJ : K_J Z n) {q : Int32} (h : q.toInt < 0 ∨ (k_c Z n : Int) ≤ q.toInt) : t_kt (Z 17) q 0 n 0 = none := by
  have hn := hJ.2.1
  refine t_kt_non (q := q) n 0 0 (by omega) ?_
  rw [Nat.zero_add]
  exact h
theorem k_kth_non (hJ : K_J Z n) {q : Int32} (h : q.toInt < 0 ∨ (k_c Z n : Int) ≤ q.toInt) : c_kth Z n q = -1 := by
  unfold c_kth
  rw [k_kt_non hJ h]
theorem k_kth_end (hJ : K_J Z n) : c_kth Z n (nI (k_c Z n)) = -1 := k_kth_non hJ (Or.inr (by
  have := k_c_le (Z := Z) (n := n)
  have hn := hJ.2.1
  rw [nI_toInt (by omega)]
  omega))
theorem k_kth_m1 (hJ : K_J Z n) : c_kth Z n (-1) = -1 := k_kth_non hJ (Or.inl (by decide))
theorem k_val (hJ : K_J Z n) {j : Nat} (hj : j < n) (hf : Z 17 j = 1) : c_val Z n (Z 9 j) = Z 11 j := val_in hJ (y_nmt (hJ.2.2.1 j hj)) ⟨j, hj, rfl, hf, rfl⟩
theorem k_rank (hJ : K_J Z n) {j : Nat} (hj : j < n) : c_rank Z n (Z 9 j) = nI (d_n (k_M Z) 0 j) := by
  unfold c_rank
  rw [if_pos (y_nmt (hJ.2.2.1 j hj)), k_pl hJ hj]
  exact t_sm_dn (fun i hi => hJ.2.2.2.2.1 i (by omega))
theorem k_nb0 (hJ : K_J Z n) {j : Nat} (hj : j < n) : c_nb Z n (Z 9 j) 0 = (match t_kt (Z 17) (nI (d_n (k_M Z) 0 j) - 1) 0 n 0 with
  | none => -6
  | some j => Z 9 j) := by
  have hr : t_sm (Z 17) 0 j 0 = nI (d_n (k_M Z) 0 j) := t_sm_dn (fun i hi => hJ.2.2.2.2.1 i (by omega))
  unfold c_nb
  rw [if_pos ⟨y_nmt (hJ.2.2.1 j hj), Or.inl rfl⟩, if_pos rfl, k_pl hJ hj, hr]
  rfl
theorem k_nb1 (hJ : K_J Z n) {j : Nat} (hj : j < n) (hf : Z 17 j = 1) : c_nb Z n (Z 9 j) 1 = (match t_kt (Z 17) (nI (d_n (k_M Z) 0 j + 1)) 0 n 0 with
  | none => -6
  | some j => Z 9 j) := by
  have hr : t_sm (Z 17) 0 j 0 = nI (d_n (k_M Z) 0 j) := t_sm_dn (fun i hi => hJ.2.2.2.2.1 i (by omega))
  unfold c_nb
  rw [if_pos ⟨y_nmt (hJ.2.2.1 j hj), Or.inr rfl⟩, if_neg (by decide), k_pl hJ hj, hr, k_fn hJ hj hf, if_neg (by simp), nI_1]
  rfl
theorem k_dlt {x y : Nat} (h : x < y) (hf : k_M Z x = true) : d_n (k_M Z) 0 x < d_n (k_M Z) 0 y := d_n_pos h hf
/-- the first k keys' values are those of the full nodes ahead of any place with k full nodes ahead -/
theorem ks_eq (hJ : K_J Z n) : ∀ (k x : Nat), x ≤ n → d_n (k_M Z) 0 x = k → k_s Z n k = t_sm (k_v Z) 0 x 0
  | 0, x, hx, h => by
    rw [k_s, t_sm_nil x 0 (fun j _ b => ?_)]
    unfold k_v
    rw [if_neg (fun z => ?_)]
    have := k_dlt (Z := Z) (x := j) (y := x) (by omega) (decide_eq_true z)
    omega
  | k + 1, x, hx, h => by
    have hk : k < k_c Z n := by
      have := d_n_mono (M := k_M Z) hx
      unfold k_c
      omega
    obtain ⟨j, j1, j2, j3, j4⟩ := k_at hJ hk
    have hjm : k_M Z j = true := decide_eq_true j2
    have hj1 : d_n (k_M Z) 0 (j + 1) = k + 1 := by
      rw [d_n_snoc, Nat.zero_add, if_pos hjm, j3]
    have hjx : j < x := by
      rcases Nat.lt_or_ge j x with z | z
      · exact z
      · have := d_n_mono (M := k_M Z) z
        omega
    rw [k_s, j4, k_val hJ j1 j2, ks_eq hJ k j (by omega) j3]
    have a := t_sm_add (f := k_v Z) j (x - (j + 1) + 1) 0
    rw [show j + (x - (j + 1) + 1) = x by omega, Nat.zero_add, t_sm_one, t_sm_nil (f := k_v Z) (x - (j + 1)) (j + 1) (fun y b c => ?_), Int32.add_zero] at a
    · rw [a]
      congr 1
      unfold k_v
      rw [if_pos j2]
    · unfold k_v
      rw [if_neg (fun z => ?_)]
      have h1 := k_dlt (Z := Z) (x := y) (y := x) (by omega) (decide_eq_true z)
      have h2 := d_n_mono (M := k_M Z) (show j + 1 ≤ y by omega)
      omega
theorem k_pl0 (hJ : K_J Z n) : t_pl (Z 9) 0 0 n = 0 := t_pl_at (Nat.zero_le _) (fun y hy => absurd hy (Nat.not_lt_zero y)) (fun h z => by
  have := (hJ.2.2.1 0 h).1
  exact Int32.lt_irrefl (Int32.lt_of_lt_of_le z this))
theorem k_le_of (hJ : K_J Z n) {x j : Nat} (h : x ≤ j) (hj : j < n) : Z 9 x ≤ Z 9 j := by
  rcases Nat.lt_or_ge x j with z | z
  · exact Int32.le_of_lt (hJ.2.2.2.1 x j z hj)
  · obtain rfl : x = j := by omega
    exact Int32.le_refl _
theorem k_sum (hJ : K_J Z n) {j : Nat} (hj : j < n) : c_sum Z n 0 (Z 9 j) = t_sm (k_v Z) 0 (j + 1) 0 := by
  unfold c_sum
  have hk := hJ.2.2.1 j hj
  rw [if_pos ⟨y_nmt ⟨by decide, by decide⟩, y_nmt hk, hk.1⟩, k_pl0 hJ, Nat.sub_zero]
  refine su_eq (j + 1) n 0 0 (by omega) (fun x _ b => k_le_of hJ (by omega) hj) (fun h => ?_)
  rw [Nat.zero_add]
  exact Int32.not_le.mpr (hJ.2.2.2.1 j (j + 1) (by omega) h)
theorem k_sum1 (hJ : K_J Z n) {j : Nat} (hj : j < n) (hf : Z 17 j = 1) : c_sum Z n (Z 9 j) (Z 9 j) = Z 11 j := by
  unfold c_sum
  have hk := hJ.2.2.1 j hj
  rw [if_pos ⟨y_nmt hk, y_nmt hk, Int32.le_refl _⟩, k_pl hJ hj, su_eq 1 (n - j) j 0 (by omega) (fun x a b => k_le_of hJ (by omega) hj) (fun h => Int32.not_le.mpr (hJ.2.2.2.1 j (j + 1) (by omega) (by omega)))]
  show (0 : Int32) + k_v Z j = _
  rw [Int32.zero_add]
  unfold k_v
  rw [if_pos hf]
theorem k_sum_all (hJ : K_J Z n) : c_sum Z n 0 999 = k_s Z n (k_c Z n) := by
  unfold c_sum
  rw [if_pos ⟨y_nmt ⟨by decide, by decide⟩, y_nmt ⟨by decide, by decide⟩, by decide⟩, k_pl0 hJ, Nat.sub_zero, ks_eq hJ (k_c Z n) n (Nat.le_refl _) rfl]
  exact su_eq n n 0 0 (Nat.le_refl _) (fun x _ b => (hJ.2.2.1 x (by omega)).2) (fun h => absurd h (Nat.lt_irrefl _))
/-- all that the law asks of the k-th key -/
theorem key_J (hJ : K_J Z n) {k : Nat} (hk : k < k_c Z n) : ∃ key v, (c_kth Z n (nI k) = key ∧ (0 ≤ key ∧ key ≤ 999)) ∧ c_val Z n key = v ∧ c_rank Z n key = nI k ∧ (k = 0 → c_nb Z n key 0 = -6) ∧ (0 < k → ∃ key2, c_nb Z n key 0 = key2 ∧ c_kth Z n (nI (k - 1)) = key2 ∧ key2 < key) ∧ (¬ k + 1 < k_c Z n → c_nb Z n key 1 = -6) ∧ c_sum Z n 0 key = k_s Z n k + v ∧ c_sum Z n key key = v ∧ k_s Z n (k + 1) = k_s Z n k + v := by
  obtain ⟨j, j1, j2, j3, j4⟩ := k_at hJ hk
  have hn := hJ.2.1
  have hcn := k_c_le (Z := Z) (n := n)
  refine ⟨Z 9 j, Z 11 j, ⟨j4, hJ.2.2.1 j j1⟩, k_val hJ j1 j2, by rw [k_rank hJ j1, j3], fun h => ?_, fun h => ?_, fun h => ?_, ?_, k_sum1 hJ j1 j2, by rw [k_s, j4, k_val hJ j1 j2]⟩
  · rw [k_nb0 hJ j1, j3, h, k_kt_non hJ (Or.inl (by decide))]
  · obtain ⟨i, i1, i2, i3, i4⟩ := k_at hJ (k := k - 1) (by omega)
    refine ⟨Z 9 i, ?_, i4, hJ.2.2.2.1 i j ?_ j1⟩
    · rw [k_nb0 hJ j1, j3, show nI k - 1 = nI (k - 1) from by rw [show k = k - 1 + 1 by omega, nI_pred, Nat.add_sub_cancel]]
      have i4 := i4
      unfold c_kth at i4
      cases hq : t_kt (Z 17) (nI (k - 1)) 0 n 0 with
      | none =>
        rw [hq] at i4
        have := (hJ.2.2.1 i i1).1
        rw [← i4] at this
        exact absurd (show (0 : Int32) ≤ -1 from this) (by decide)
      | some x =>
        rw [hq] at i4
        exact i4
    · rcases Nat.lt_or_ge i j with z | z
      · exact z
      · have := d_n_mono (M := k_M Z) z
        omega
  · rw [k_nb1 hJ j1 j2, j3, k_kt_non hJ (Or.inr (by rw [nI_toInt (by omega)]; omega))]
  · rw [k_sum hJ j1, t_sm_snoc, Nat.zero_add, ks_eq hJ k j (by omega) j3]
    congr 1
    unfold k_v
    rw [if_pos j2]
end KEY
end
section
/-! What the law sees of a call that changes (by hand) -/
def K_Q (Z : Nat → Nat → Int32) (P : Nat → Nat) (n m q : Nat) : Prop :=
  K_J Z n ∧ (0 ≤ Z 7 0 ∧ 0 ≤ Z 7 1 ∧ Z 7 2 = nI q ∧ q ≤ 9) ∧ (m ≤ 6 ∧ Z 18 1 = nI m ∧ ∀ j, j < 6 → t_hs (P j)) ∧ Z 1 = s_3 55 10 0 ∧ Z 2 = s_3 95 90 9
def K_G (Z : Nat → Nat → Int32) (P : Nat → Nat) : Prop := ∃ n m q, K_Q Z P n m q
def k_m2 (m : Nat) : Nat := if m < 6 then m + 1 else 6
theorem kz_18 {Z : Nat → Nat → Int32} {P : Nat → Nat} {m : Nat} (hm : m ≤ 6) (hM : Z 18 1 = nI m) (hP : ∀ j, j < 6 → t_hs (P j)) : t_kZ Z P m 18 1 = nI (k_m2 m) := by
  unfold t_kZ k_m2
  by_cases h : m < 6
  · have hh := hP m h
    have h20 : 18 < P m := by unfold t_hs at hh; omega
    rw [if_pos h, if_pos h]
    unfold t_k1
    rw [s_upd_c, if_pos ⟨rfl, rfl⟩, t_bc_o (Or.inl h20), hM, nI_1]
  · have hh := hP 0 (by omega)
    have h20 : 18 < P 0 := by unfold t_hs at hh; omega
    rw [if_neg h, if_neg h]
    unfold t_k1
    rw [s_upd_c, if_pos ⟨rfl, rfl⟩, t_bc_o (Or.inl h20), s_upd_c, if_pos ⟨rfl, rfl⟩]
    rfl
theorem kp_hs {P : Nat → Nat} {m : Nat} (hP : ∀ j, j < 6 → t_hs (P j)) : ∀ j, j < 6 → t_hs (t_kP P m j) := by
  intro j hj
  unfold t_kP
  by_cases h : m < 6
  · rw [if_pos h]; exact hP j hj
  · rw [if_neg h]
    unfold t_rot
    by_cases h5 : j < 5
    · rw [if_pos h5]; exact hP _ (by omega)
    · rw [if_neg h5, if_pos (by omega)]; exact hP 0 (by omega)
section QCALL
variable {Z : Nat → Nat → Int32} {P : Nat → Nat} {L n m q : Nat}
theorem kz_lo (hQ : K_Q Z P n m q) {c : Nat} (hc : c < 18) : t_kZ Z P m c = Z c := t_kZ_o hQ.2.2.1.2.2 (Or.inl hc)
theorem kz_J (hQ : K_Q Z P n m q) : K_J (t_kZ Z P m) n := K_J_congr hQ.1 (by rw [kz_lo hQ (by decide)]) (kz_lo hQ (by decide)) (kz_lo hQ (by decide)) (kz_lo hQ (by decide)) (kz_lo hQ (by decide))
theorem kz_p (hQ : K_Q Z P n m q) : k_p (t_kZ Z P m) n = k_p Z n := by
  unfold k_p
  rw [kz_lo hQ (by decide), kz_lo hQ (by decide)]
theorem chg_Q (hQ : K_Q Z P n m q) {C : Nat → Nat → Int32} {n2 q2 : Nat} (hC : ∀ c, c < 3 ∨ 18 ≤ c → C c = t_kZ Z P m c) (hJ : K_J C n2) (h7 : 0 ≤ C 7 0 ∧ 0 ≤ C 7 1 ∧ C 7 2 = nI q2 ∧ q2 ≤ 9) : K_Q C (t_kP P m) n2 (k_m2 m) q2 := by
  refine ⟨hJ, h7, ⟨?_, ?_, kp_hs hQ.2.2.1.2.2⟩, ?_, ?_⟩
  · unfold k_m2
    split <;> omega
  · rw [hC 18 (by omega)]
    exact kz_18 hQ.2.2.1.1 hQ.2.2.1.2.1 hQ.2.2.1.2.2
  · rw [hC 1 (by omega), kz_lo hQ (by decide)]; exact hQ.2.2.2.1
  · rw [hC 2 (by omega), kz_lo hQ (by decide)]; exact hQ.2.2.2.2
theorem y_nmn {k : Nat} (h : k ≤ 999) : 0 ≤ nI k ∧ nI k ≤ 999 := ⟨nI_pos' (by omega), nI_leI (a := k) (b := 999) (by omega) (by omega) |>.mpr h⟩
theorem y_ge {a b : Int32} : ¬ y_mx a b < b := by
  unfold y_mx
  by_cases h : a < b
  · rw [if_pos h]; exact Int32.lt_irrefl
  · rw [if_neg h]; exact h
theorem rm_none (hJ : K_J Z n) {key : Int32} (h : t_rm Z n key = false) : n = 60 ∧ t_fn (Z 9) (Z 17) n key = none := by
  unfold t_rm at h
  rw [Bool.or_eq_false_iff, decide_eq_false_iff_not] at h
  have hn := hJ.2.1
  refine ⟨by omega, ?_⟩
  unfold t_fn
  cases hq : t_nd (Z 9) n key with
  | none => rfl
  | some j => rw [hq] at h; exact absurd h.2 (by simp)
theorem q_put (hQ : K_Q Z P n m q) {k vl : Nat} (hk : k ≤ 999) (hv : vl ≤ 999) :
    (n = 60 ∧ t_fn (Z 9) (Z 17) n (nI k) = none ∧ c_wc Z n (nI k) = -4 ∧ m_r 58 [.ref 4, .int (nI k), .int (nI vl)] (hp Z P L) (some (.int (-4))) (hp Z P L)) ∨
    ∃ Z2 P2 n2 m2 w cnt, K_Q Z2 P2 n2 m2 q ∧ m_r 58 [.ref 4, .int (nI k), .int (nI vl)] (hp Z P L) (some (.int (nI w))) (hp Z2 P2 L) ∧ w ≤ 60 ∧ c_wc Z n (nI k) = nI w ∧ Z2 5 7 = Z 5 7 + nI w ∧ k_p Z2 n2 = k_p Z n + nI (cnt * q) ∧ (1 ≤ cnt ∧ cnt ≤ 60) ∧ c_val Z2 n2 (nI k) = nI vl ∧ t_sm (Z2 17) 0 n2 0 = t_sm (Z 17) 0 n 0 + (if t_fn (Z 9) (Z 17) n (nI k) = none then 1 else 0) ∧ (w = 0 ∨ ¬ Z2 5 10 < nI w) := by
  obtain ⟨hJ, ⟨s1, s2, s3, s4⟩, ⟨h1, h2, h3⟩, h4, h5⟩ := id hQ
  have hkk := y_nmn hk
  have hvv := y_nmn hv
  have x := x_putin (L := L) (key := nI k) (value := nI vl) hJ.1 hJ.2.1 hJ.2.2.2.2.1 h3 h2 h1
  unfold c_put at x
  rw [if_pos ⟨y_nmt hkk, y_nmt hvv⟩] at x
  have hz := fun (c : Nat) (hc : c < 18) => kz_lo hQ hc
  cases hr : t_rm Z n (nI k) with
  | false =>
    left
    obtain ⟨e1, e2⟩ := rm_none hJ hr
    rw [if_neg (by rw [hr]; decide)] at x
    refine ⟨e1, e2, ?_, x⟩
    unfold c_wc
    rw [if_pos (y_nmt hkk), if_neg (by rw [hr]; decide)]
  | true =>
    right
    rw [if_pos hr] at x
    have hr2 : t_rm (t_kZ Z P m) n (nI k) = true := by
      unfold t_rm at hr ⊢
      rw [hz 9 (by decide)]
      exact hr
    obtain ⟨n2, w, cnt, e1, e2, e3, e4, e5, e6, e7, e8, e9, e10⟩ := en_J (kz_J hQ) (q := q) (key := nI k) (value := nI vl) (by rw [hz 7 (by decide)]; exact s3) (by rw [hz 7 (by decide)]; exact s1) hkk hvv hr2
    have hf : ∀ c, c < 3 ∨ 18 ≤ c → (t_en (t_kZ Z P m) n (nI k) (nI vl)).2 c = t_kZ Z P m c := fun c hc => t_en_x (cl_out (by omega)).1 (cl_out (by omega)).2
    have h7 : (t_en (t_kZ Z P m) n (nI k) (nI vl)).2 7 = Z 7 := by rw [t_en_x (by unfold t_cl; omega) (by decide), hz 7 (by decide)]
    have hcs : t_cs (t_kZ Z P m) n (nI k) = t_cs Z n (nI k) := by
      unfold t_cs t_H t_L
      rw [hz 9 (by decide), hz 15 (by decide), hz 7 (by decide)]
    dsimp only at x
    rw [e1] at x
    generalize (t_en (t_kZ Z P m) n (nI k) (nI vl)).2 = C at *
    refine ⟨C, t_kP P m, n2, k_m2 m, w, cnt, chg_Q hQ hf e4 (by rw [h7]; exact ⟨s1, s2, s3, s4⟩), x, e2, ?_, by rw [e5, hz 5 (by decide)], by rw [e6, kz_p hQ], e7, val_in e4 (y_nmt hkk) e8, ?_, ?_⟩
    · unfold c_wc
      rw [if_pos (y_nmt hkk), if_pos hr, ← hcs, e3]
    · rw [e9, hz 9 (by decide), hz 17 (by decide)]
    · rcases e10 with h | h
      · exact Or.inl h
      · right
        rw [h]
        exact y_ge
theorem q_rem (hQ : K_Q Z P n m q) {k : Nat} (hk : k ≤ 999) :
    (t_fn (Z 9) (Z 17) n (nI k) = none ∧ m_r 59 [.ref 4, .int (nI k)] (hp Z P L) (some (.int (-1))) (hp Z P L)) ∨
    (¬ t_fn (Z 9) (Z 17) n (nI k) = none ∧ ∃ Z2 P2 n2 m2 w cnt, K_Q Z2 P2 n2 m2 q ∧ m_r 59 [.ref 4, .int (nI k)] (hp Z P L) (some (.int (nI w))) (hp Z2 P2 L) ∧ w ≤ 60 ∧ Z2 5 7 = Z 5 7 + nI w ∧ k_p Z2 n2 = k_p Z n + nI (cnt * q) ∧ (1 ≤ cnt ∧ cnt ≤ 60) ∧ c_val Z2 n2 (nI k) = -6 ∧ t_sm (Z2 17) 0 n2 0 = t_sm (Z 17) 0 n 0 - 1 ∧ (w = 0 ∨ nI n2 = t_sm (Z2 17) 0 n2 0)) := by
  obtain ⟨hJ, ⟨s1, s2, s3, s4⟩, ⟨h1, h2, h3⟩, h4, h5⟩ := id hQ
  have hkk := y_nmn hk
  have x := x_rem (L := L) (key := nI k) hJ.1 hJ.2.1 hJ.2.2.2.2.1 h3 h2 h1
  unfold c_rem at x
  rw [if_pos (y_nmt hkk)] at x
  have hz := fun (c : Nat) (hc : c < 18) => kz_lo hQ hc
  by_cases hfn : t_fn (Z 9) (Z 17) n (nI k) = none
  · rw [if_pos hfn] at x
    exact Or.inl ⟨hfn, x⟩
  · right
    rw [if_neg hfn] at x
    obtain ⟨j, hj⟩ := Option.ne_none_iff_exists'.mp hfn
    obtain ⟨n2, w, cnt, e1, e2, e4, e5, e6, e7, e8, e9, e10⟩ := hl_J (kz_J hQ) (q := q) (key := nI k) (j := j) (by rw [hz 7 (by decide)]; exact s3) (by rw [hz 9 (by decide), hz 17 (by decide)]; exact hj)
    have hf : ∀ c, c < 3 ∨ 18 ≤ c → (t_hl (t_kZ Z P m) n (nI k)).2 c = t_kZ Z P m c := fun c hc => t_hl_x (cl_out (by omega)).1 (cl_out (by omega)).2
    have h7 : (t_hl (t_kZ Z P m) n (nI k)).2 7 = Z 7 := by rw [t_hl_x (by unfold t_cl; omega) (by decide), hz 7 (by decide)]
    dsimp only at x
    rw [e1] at x
    generalize (t_hl (t_kZ Z P m) n (nI k)).2 = C at *
    refine ⟨hfn, C, t_kP P m, n2, k_m2 m, w, cnt, chg_Q hQ hf e4 (by rw [h7]; exact ⟨s1, s2, s3, s4⟩), x, e2, by rw [e5, hz 5 (by decide)], by rw [e6, kz_p hQ], e7, val_out (y_nmt hkk) e8, ?_, e10⟩
    rw [hz 17 (by decide)] at e9
    rw [← e9, Int32.add_sub_cancel]
theorem q_reb (hQ : K_Q Z P n m q) {k : Nat} (hk : k ≤ 999) :
    (t_fn (Z 9) (Z 17) n (nI k) = none ∧ m_r 60 [.ref 4, .int (nI k)] (hp Z P L) (some (.int (-1))) (hp Z P L)) ∨
    (∃ Z2 P2 n2 m2 w, K_Q Z2 P2 n2 m2 q ∧ m_r 60 [.ref 4, .int (nI k)] (hp Z P L) (some (.int (nI w))) (hp Z2 P2 L) ∧ w ≤ 60 ∧ Z2 5 7 = Z 5 7 + nI w ∧ k_p Z2 n2 = k_p Z n ∧ t_sm (Z2 17) 0 n2 0 = t_sm (Z 17) 0 n 0) := by
  obtain ⟨hJ, ⟨s1, s2, s3, s4⟩, ⟨h1, h2, h3⟩, h4, h5⟩ := id hQ
  have hkk := y_nmn hk
  have x := x_reb (L := L) (key := nI k) hJ.1 hJ.2.1 hJ.2.2.2.2.1 h3 h2 h1
  unfold c_reb at x
  rw [if_pos (y_nmt hkk)] at x
  have hz := fun (c : Nat) (hc : c < 18) => kz_lo hQ hc
  cases hnd : t_nd (Z 9) n (nI k) with
  | none =>
    rw [if_pos hnd] at x
    refine Or.inl ⟨?_, x⟩
    unfold t_fn
    rw [hnd]
  | some j =>
    right
    rw [if_neg (by rw [hnd]; simp)] at x
    obtain ⟨hj, -⟩ := t_nd_lt hnd
    unfold t_lk at x
    rw [hz 9 (by decide), hnd] at x
    dsimp only at x
    obtain ⟨n2, w, k1, k2, ⟨k3, k4, k5⟩, k6, k7, k8, k9, k10, -⟩ := la_J (kz_J hQ) hj
    have hf : ∀ c, c < 3 ∨ 18 ≤ c → t_la (t_kZ Z P m) n j c = t_kZ Z P m c := fun c hc => t_la_x (cl_out (by omega)).1 (cl_out (by omega)).2
    have h7 : t_la (t_kZ Z P m) n j 7 = Z 7 := by rw [t_la_x (by unfold t_cl; omega) (by decide), hz 7 (by decide)]
    have hn := hJ.2.1
    rw [k2] at x
    generalize t_la (t_kZ Z P m) n j = C at *
    exact ⟨C, t_kP P m, n2, k_m2 m, w, chg_Q hQ hf k1 (by rw [h7]; exact ⟨s1, s2, s3, s4⟩), x, by omega, by rw [k6, hz 5 (by decide)], by rw [k8, kz_p hQ], by rw [k9, hz 17 (by decide)]⟩
theorem t_st_n {j : Nat} (hj : j < 3) : t_st (nI j) = some j := by
  unfold t_st
  rw [if_pos ⟨nI_pos' (by omega), nI_lt (b := 3) hj (by decide)⟩, nI_clamp (by omega)]
def k_lo (j : Nat) : Nat := if j = 0 then 55 else if j = 1 then 10 else 0
def k_hi (j : Nat) : Nat := if j = 0 then 95 else if j = 1 then 90 else 9
theorem q_set (hQ : K_Q Z P n m q) {j v : Nat} (hj : j < 3) (h1 : k_lo j ≤ v) (h2 : v ≤ k_hi j) :
    ∃ Z2 P2 m2 q2, K_Q Z2 P2 n m2 q2 ∧ m_r 57 [.ref 4, .int (nI j), .int (nI v)] (hp Z P L) (some (.int (Z 7 j))) (hp Z2 P2 L) ∧ ¬ Z 7 j < 0 ∧ k_p Z2 n = k_p Z n := by
  obtain ⟨hJ, ⟨s1, s2, s3, s4⟩, ⟨g1, g2, g3⟩, g4, g5⟩ := id hQ
  have x := x_set (L := L) (s := nI j) (v := nI v) hJ.1 hJ.2.1 hJ.2.2.2.2.1 g3 g2 g1
  have hz := fun (c : Nat) (hc : c < 18) => kz_lo hQ hc
  unfold c_set at x
  rw [t_st_n hj] at x
  dsimp only at x
  have hb : Z 1 j = nI (k_lo j) ∧ Z 2 j = nI (k_hi j) ∧ k_hi j ≤ 100 ∧ ¬ Z 7 j < 0 := by
    rw [g4, g5]
    unfold s_3 k_lo k_hi
    rcases (by omega : j = 0 ∨ j = 1 ∨ j = 2) with h | h | h
    · subst h; exact ⟨rfl, rfl, by decide, Int32.not_lt.mpr s1⟩
    · subst h; exact ⟨rfl, rfl, by decide, Int32.not_lt.mpr s2⟩
    · subst h; exact ⟨rfl, rfl, by decide, by rw [s3]; exact nI_pos (by omega)⟩
  obtain ⟨b1, b2, b3, b4⟩ := hb
  rw [if_pos ⟨by rw [b1]; exact nI_le h1 (by omega), by rw [b2]; exact nI_le h2 (by omega)⟩] at x
  dsimp only at x
  have ho : ∀ c, c ≠ 7 → s_upd (t_kZ Z P m) 7 j (nI v) c = t_kZ Z P m c := fun c hc => s_upd_o hc
  have h7 : ∀ i, s_upd (t_kZ Z P m) 7 j (nI v) 7 i = if i = j then nI v else Z 7 i := fun i => by
    rw [s_upd_c]
    by_cases h : i = j
    · rw [if_pos ⟨rfl, h⟩, if_pos h]
    · rw [if_neg (fun z => h z.2), if_neg h, hz 7 (by decide)]
  generalize s_upd (t_kZ Z P m) 7 j (nI v) = C at *
  refine ⟨C, t_kP P m, k_m2 m, if j = 2 then v else q, chg_Q hQ (fun c hc => ho c (by omega)) (K_J_congr (kz_J hQ) (by rw [ho 5 (by decide)]) (ho 9 (by decide)) (ho 11 (by decide)) (ho 15 (by decide)) (ho 17 (by decide))) ?_, x, b4, ?_⟩
  · rw [h7 0, h7 1, h7 2]
    have hv : v < 2 ^ 31 := by omega
    unfold k_hi at h2
    rcases (by omega : j = 0 ∨ j = 1 ∨ j = 2) with h | h | h
    · subst h; exact ⟨nI_pos' hv, s2, s3, s4⟩
    · subst h; exact ⟨s1, nI_pos' hv, s3, s4⟩
    · subst h; exact ⟨s1, s2, rfl, h2⟩
  · unfold k_p
    rw [ho 5 (by decide), ho 13 (by decide), hz 5 (by decide), hz 13 (by decide)]
end QCALL
end
section
/-! The law's own rules and its small methods; printed by wip/p25/gen/law0.py -/
def s_lit (q : Nat) : List (Nat × Nat) := [(1, 3), (1, 3), (1, 3), (1, q), (0, 6), (0, 5), (0, 3), (1, 3), (0, 3), (1, 60), (0, 3), (1, 60), (0, 3), (1, 60), (0, 3), (1, 60), (0, 3), (1, 60), (0, 0), (7, 6), (0, 5), (0, 3), (1, 3), (0, 3), (1, 60), (0, 3), (1, 60), (0, 3), (1, 60), (0, 3), (1, 60), (0, 3), (1, 60), (0, 5), (0, 3), (1, 3), (0, 3), (1, 60), (0, 3), (1, 60), (0, 3), (1, 60), (0, 3), (1, 60), (0, 3), (1, 60), (0, 5), (0, 3), (1, 3), (0, 3), (1, 60), (0, 3), (1, 60), (0, 3), (1, 60), (0, 3), (1, 60), (0, 3), (1, 60), (0, 5), (0, 3), (1, 3), (0, 3), (1, 60), (0, 3), (1, 60), (0, 3), (1, 60), (0, 3), (1, 60), (0, 3), (1, 60), (0, 5), (0, 3), (1, 3), (0, 3), (1, 60), (0, 3), (1, 60), (0, 3), (1, 60), (0, 3), (1, 60), (0, 3), (1, 60), (0, 5), (0, 3), (1, 3), (0, 3), (1, 60), (0, 3), (1, 60), (0, 3), (1, 60), (0, 3), (1, 60), (0, 3), (1, 60), (6, 2), (0, 2), (0, 3), (1, 80), (0, 1), (0, 4), (0, 5), (0, 3), (1, 3), (0, 3), (1, 60), (0, 3), (1, 60), (0, 3), (1, 60), (0, 3), (1, 60), (0, 3), (1, 60), (0, 4), (0, 5), (0, 3), (1, 3), (0, 3), (1, 60), (0, 3), (1, 60), (0, 3), (1, 60), (0, 3), (1, 60), (0, 3), (1, 60)]
set_option maxRecDepth 20000 in
theorem s_SHb (L : Nat) : s_SH L = s_lit (L % 512) ++ s_SX L := rfl
set_option maxRecDepth 20000 in
theorem s_litl (q : Nat) : (s_lit q).length = 131 := rfl
theorem s_SHl (L : Nat) : (s_SH L).length = 131 + L / 512 := by
  rw [s_SHb, List.length_append, s_litl]
  unfold s_SX
  rw [List.length_replicate]
theorem s_SHr {L e : Nat} (h : e < L / 512) : s_nth (s_SH L) (131 + e) = some (1, 62) := by
  rw [s_nth_eq, s_SHb, List.getElem?_append_right (by rw [s_litl]; omega), s_litl, Nat.add_sub_cancel_left]
  unfold s_SX
  rw [List.getElem?_replicate, if_pos h]
theorem s_SHn (L : Nat) : s_SH L ++ [(1, 62)] = s_SH (L + 512) := by
  rw [s_SHb L, s_SHb (L + 512), List.append_assoc, show (L + 512) % 512 = L % 512 by omega]
  congr 1
  unfold s_SX
  rw [show (L + 512) / 512 = L / 512 + 1 by omega, List.replicate_succ']
/-- a new row, all 0 -/
def r_new (Z : Nat → Nat → Int32) (r : Nat) : Nat → Nat → Int32 := fun i => if i = r then (fun _ => 0) else Z i
theorem r_new_o {Z : Nat → Nat → Int32} {r c : Nat} (h : c < 131) (hr : 131 ≤ r) : r_new Z r c = Z c := if_neg (by omega)
set_option maxRecDepth 20000 in
theorem s_RR_big {P : Nat → Nat} {i : Nat} (h : 131 ≤ i) : s_RR P i = fun _ => none := by
  funext j
  unfold s_RR
  have hb : Nat.beq i 19 = false := Bool.eq_false_iff.mpr (fun z => by have := Nat.eq_of_beq_eq_true z; omega)
  rw [hb]
  dsimp only
  rw [s_nth_eq, List.getElem?_eq_none (show s_RF.length ≤ i from h)]
theorem hp_new {Z : Nat → Nat → Int32} {P : Nat → Nat} {L : Nat} : s_new (hp Z P L) 1 62 = hp (r_new Z (131 + L / 512)) P (L + 512) := by
  unfold s_new
  dsimp only
  rw [s_SHl, s_SHn]
  have e2 : (fun i => if i = 131 + L / 512 then (fun _ => none) else s_RR P i) = s_RR P := by
    funext i
    by_cases h : i = 131 + L / 512
    · rw [if_pos h, h, s_RR_big (by omega)]
    · rw [if_neg h]
  rw [e2]
  rfl
section LW
variable {k pc : Nat} {r : sM} {cn : Option Nat} {ls rest : List Value} {h h2 : sHp} {v : Option Value}
theorem e_irem (hk : s_T k = some (r, cn)) {e : sE} {x y : Int32} (hat : s_at (s_cd r) pc = some e) (hi : e.2.1 = .irem) (hy : ¬ y = 0) (kk : e_r k (pc + e.2.2.1) ls (.int (x - x / y * y) :: rest) h v h2) : e_r k pc ls (.int y :: .int x :: rest) h v h2 := by
  refine e_step (c := (pc + e.2.2.1, ls, .int (x - x / y * y) :: rest, h)) hk hat (by rw [hi]; rfl) (by rw [hi]; rfl) ?_ kk
  rw [hi]
  dsimp only [s_x]
  rw [if_neg hy]
theorem e_newl {Z : Nat → Nat → Int32} {P : Nat → Nat} {L : Nat} (hk : s_T k = some (r, cn)) {e : sE} (hat : s_at (s_cd r) pc = some e) (hi : e.2.1 = .newarray .int) (kk : e_r k (pc + e.2.2.1) ls (.ref (131 + L / 512) :: rest) (hp (r_new Z (131 + L / 512)) P (L + 512)) v h2) : e_r k pc ls (.int 62 :: rest) (hp Z P L) v h2 := by
  refine e_step (c := (pc + e.2.2.1, ls, .ref (131 + L / 512) :: rest, hp (r_new Z (131 + L / 512)) P (L + 512))) hk hat (by rw [hi]; rfl) (by rw [hi]; rfl) ?_ kk
  rw [hi]
  dsimp only [s_x]
  rw [show (62 : Int32) = nI 62 from rfl, nI_clamp (by omega), hp_new, s_SHl, if_neg]
  rintro (h | h)
  · exact nI_pos (by omega) h
  · exact absurd ((y_lt (a := 65536) (b := 62) (by omega) (by omega)).mp h) (by omega)
end LW
/-! up -/
def l_u (v : Int32) (m : Nat) : Nat := (v &&& 2147483647).toNatClampNeg % m
theorem l_and (x : Int32) : ∃ a, a < 2 ^ 31 ∧ x &&& 2147483647 = nI a := by
  refine ⟨(x &&& 2147483647).toUInt32.toNat, ?_, ?_⟩
  · rw [Int32.toUInt32_and, UInt32.toNat_and]
    exact Nat.lt_of_le_of_lt Nat.and_le_right (by decide)
  · have h1 : (x &&& 2147483647).toUInt32 = (nI (x &&& 2147483647).toUInt32.toNat).toUInt32 := by
      show _ = (Int32.ofNat _).toUInt32
      rw [Int32.toUInt32_ofNat', UInt32.ofNat_toNat]
    exact congrArg UInt32.toInt32 h1
theorem l_u_lt {v : Int32} {m : Nat} (h : 0 < m) : l_u v m < m := Nat.mod_lt _ h
theorem l_u_eq {v : Int32} {m : Nat} (h0 : 0 < m) (hm : m < 2 ^ 31) : (v &&& 2147483647) - (v &&& 2147483647) / nI m * nI m = nI (l_u v m) := by
  obtain ⟨a, h1, h2⟩ := l_and v
  unfold l_u
  rw [h2, nI_clamp h1, pk_div h1 h0 hm, nI_mul, nI_sub (Nat.div_mul_le_self a m)]
  congr 1
  have := Nat.div_add_mod a m
  rw [Nat.mul_comm] at this
  omega
theorem x_up {h : sHp} {v : Int32} {m : Nat} (h0 : 0 < m) (hm : m < 2 ^ 31) : m_r 90 [.int v, .int (nI m)] h (some (.int (nI (l_u v m)))) h := by
  refine m_of (ls := [.int v, .int (nI m)]) hk_90 rfl rfl rfl ?_
  refine e_go hk_90 4 (c := (5, [.int v, .int (nI m)], [.int (nI m), .int (v &&& 2147483647)], h)) rfl ?_
  refine e_irem hk_90 (x := v &&& 2147483647) (y := nI m) rfl rfl (nI_ne0 h0 hm) ?_
  rw [l_u_eq h0 hm]
  exact e_ret hk_90 rfl rfl rfl rfl rfl
/-! cell -/
theorem x_cell {Z : Nat → Nat → Int32} {P : Nat → Nat} {L k : Nat} (hk : k < 100) : ∃ v : Int32, m_r 89 [.ref 3, .int (nI k)] (hp Z P L) (some (.int v)) (hp Z P L) := by
  by_cases h : k < L % 512
  · refine ⟨Z 3 k, m_of (ls := [.ref 3, .int (nI k)]) hk_89 rfl rfl rfl ?_⟩
    refine e_go hk_89 2 (c := (2, [.ref 3, .int (nI k)], [.ref 3, .int (nI k)], hp Z P L)) rfl ?_
    refine e_alen hk_89 (t := 0) (n := L % 512) rfl rfl rfl ?_
    show e_r 89 3 [.ref 3, .int (nI k)] [.int (nI (L % 512)), .int (nI k)] (hp Z P L) _ _
    refine e_go hk_89 1 (c := (if s_cnd .ge (nI k) (nI (L % 512)) = true then 12 else 6, [.ref 3, .int (nI k)], [], hp Z P L)) rfl ?_
    refine e_ge (a := 12) (b := 6) (x := nI k) (y := nI (L % 512)) (fun hc => absurd hc (nI_ge h (by omega))) (fun _ => ?_)
    refine e_go hk_89 2 (c := (8, [.ref 3, .int (nI k)], [.int (nI k), .ref 3], hp Z P L)) rfl ?_
    refine e_ald hk_89 (a := 3) (j := k) (n := L % 512) rfl rfl rfl h (by omega) ?_
    show e_r 89 9 [.ref 3, .int (nI k)] [.int (Z 3 k)] (hp Z P L) _ _
    refine e_go hk_89 1 (c := (20, [.ref 3, .int (nI k)], [.int (Z 3 k)], hp Z P L)) rfl ?_
    exact e_ret hk_89 rfl rfl rfl rfl rfl
  · refine ⟨1867459125 * (nI k + 787), m_of (ls := [.ref 3, .int (nI k)]) hk_89 rfl rfl rfl ?_⟩
    refine e_go hk_89 2 (c := (2, [.ref 3, .int (nI k)], [.ref 3, .int (nI k)], hp Z P L)) rfl ?_
    refine e_alen hk_89 (t := 0) (n := L % 512) rfl rfl rfl ?_
    show e_r 89 3 [.ref 3, .int (nI k)] [.int (nI (L % 512)), .int (nI k)] (hp Z P L) _ _
    refine e_go hk_89 1 (c := (if s_cnd .ge (nI k) (nI (L % 512)) = true then 12 else 6, [.ref 3, .int (nI k)], [], hp Z P L)) rfl ?_
    refine e_ge (a := 12) (b := 6) (x := nI k) (y := nI (L % 512)) (fun _ => ?_) (fun hc => absurd (nI_le (by omega) (by omega)) hc)
    refine e_go hk_89 5 (c := (20, [.ref 3, .int (nI k)], [.int (1867459125 * (nI k + 787))], hp Z P L)) rfl ?_
    exact e_ret hk_89 rfl rfl rfl rfl rfl
/-! counts and nodes, read off the tree -/
theorem y_paid {a b c s : Int32} : a + (b + c) - c + s = a + b + s := by
  rw [← Int32.add_assoc, Int32.add_sub_cancel]
section ASKS
variable {Z : Nat → Nat → Int32} {P : Nat → Nat} {L n : Nat}
theorem a_c0 (hJ : K_J Z n) : m_r 63 [.ref 4, .int 0] (hp Z P L) (some (.int (nI n))) (hp Z P L) := x_count0 hJ.1 hJ.2.1
theorem a_c1 (hJ : K_J Z n) : m_r 63 [.ref 4, .int 1] (hp Z P L) (some (.int (t_sm (Z 17) 0 n 0))) (hp Z P L) := x_count1 hJ.1 hJ.2.1
theorem a_c2 (hJ : K_J Z n) : m_r 63 [.ref 4, .int 2] (hp Z P L) (some (.int (t_ktp Z 0 n 0))) (hp Z P L) := x_count2 hJ.1 hJ.2.1
theorem a_c3 (hJ : K_J Z n) : m_r 63 [.ref 4, .int 3] (hp Z P L) (some (.int (if n = 0 then -6 else t_mx (Z 15) 0 n (Z 15 0)))) (hp Z P L) := x_count3 hJ.1 hJ.2.1
theorem a_c4 (hJ : K_J Z n) : m_r 63 [.ref 4, .int 4] (hp Z P L) (some (.int (Z 5 7))) (hp Z P L) := x_count4 hJ.1 hJ.2.1
theorem a_c5 (hJ : K_J Z n) : m_r 63 [.ref 4, .int 5] (hp Z P L) (some (.int (Z 5 8 + 1000000))) (hp Z P L) := x_count5 hJ.1 hJ.2.1
theorem a_c6 (hJ : K_J Z n) : m_r 63 [.ref 4, .int 6] (hp Z P L) (some (.int (t_sm (Z 13) 0 n 0))) (hp Z P L) := x_count6 hJ.1 hJ.2.1
theorem a_c8 (hJ : K_J Z n) : m_r 63 [.ref 4, .int 8] (hp Z P L) (some (.int (Z 5 10))) (hp Z P L) := x_count8 hJ.1 hJ.2.1
theorem a_c9 (hJ : K_J Z n) : m_r 63 [.ref 4, .int 9] (hp Z P L) (some (.int (t_lnc Z n 0 n 0))) (hp Z P L) := x_count9 hJ.1 hJ.2.1
theorem a_c10 (hJ : K_J Z n) : m_r 63 [.ref 4, .int 10] (hp Z P L) (some (.int (Z 7 0))) (hp Z P L) := x_count10 hJ.1 hJ.2.1
theorem a_c12 (hJ : K_J Z n) : m_r 63 [.ref 4, .int 12] (hp Z P L) (some (.int (Z 7 2))) (hp Z P L) := x_count12 hJ.1 hJ.2.1
theorem a_val (hJ : K_J Z n) {key : Int32} : m_r 61 [.ref 4, .int key] (hp Z P L) (some (.int (c_val Z n key))) (hp Z P L) := x_val hJ.1 hJ.2.1 hJ.2.2.2.2.1
theorem a_wc (hJ : K_J Z n) {key : Int32} : m_r 70 [.ref 4, .int key] (hp Z P L) (some (.int (c_wc Z n key))) (hp Z P L) := x_wc hJ.1 hJ.2.1 hJ.2.2.2.2.1
theorem a_rank (hJ : K_J Z n) {key : Int32} : m_r 66 [.ref 4, .int key] (hp Z P L) (some (.int (c_rank Z n key))) (hp Z P L) := x_rank hJ.1 hJ.2.1 hJ.2.2.2.2.1
theorem a_kth (hJ : K_J Z n) {k : Int32} : m_r 67 [.ref 4, .int k] (hp Z P L) (some (.int (c_kth Z n k))) (hp Z P L) := x_ckth hJ.1 hJ.2.1 hJ.2.2.2.2.1
theorem a_nb (hJ : K_J Z n) {key what : Int32} : m_r 68 [.ref 4, .int key, .int what] (hp Z P L) (some (.int (c_nb Z n key what))) (hp Z P L) := x_nb hJ.1 hJ.2.1 hJ.2.2.2.2.1
theorem a_sum (hJ : K_J Z n) {lo hi : Int32} : m_r 69 [.ref 4, .int lo, .int hi] (hp Z P L) (some (.int (c_sum Z n lo hi))) (hp Z P L) := x_sum hJ.1 hJ.2.1 hJ.2.2.2.2.1
theorem x_paid (hJ : K_J Z n) : m_r 91 [.ref 4] (hp Z P L) (some (.int (k_p Z n))) (hp Z P L) := by
  refine m_of (ls := [.ref 4]) hk_91 rfl rfl rfl ?_
  refine e_go hk_91 2 (c := (2, [.ref 4], [.int 4, .ref 4], hp Z P L)) rfl ?_
  refine e_call hk_91 (as := [.ref 4, .int 4]) (rest := []) rfl rfl hk_63 rfl (Nat.le_of_ble_eq_true rfl) rfl (a_c4 hJ) ?_
  show e_r 91 5 [.ref 4] [.int (Z 5 7)] (hp Z P L) _ _
  refine e_go hk_91 2 (c := (7, [.ref 4], [.int 5, .ref 4, .int (Z 5 7)], hp Z P L)) rfl ?_
  refine e_call hk_91 (as := [.ref 4, .int 5]) (rest := [.int (Z 5 7)]) rfl rfl hk_63 rfl (Nat.le_of_ble_eq_true rfl) rfl (a_c5 hJ) ?_
  show e_r 91 10 [.ref 4] [.int (Z 5 8 + 1000000), .int (Z 5 7)] (hp Z P L) _ _
  refine e_go hk_91 5 (c := (17, [.ref 4], [.int 6, .ref 4, .int (Z 5 7 + (Z 5 8 + 1000000) - 1000000)], hp Z P L)) rfl ?_
  refine e_call hk_91 (as := [.ref 4, .int 6]) (rest := [.int (Z 5 7 + (Z 5 8 + 1000000) - 1000000)]) rfl rfl hk_63 rfl (Nat.le_of_ble_eq_true rfl) rfl (a_c6 hJ) ?_
  show e_r 91 20 [.ref 4] [.int (t_sm (Z 13) 0 n 0), .int (Z 5 7 + (Z 5 8 + 1000000) - 1000000)] (hp Z P L) _ _
  refine e_go hk_91 1 (c := (21, [.ref 4], [.int (Z 5 7 + (Z 5 8 + 1000000) - 1000000 + t_sm (Z 13) 0 n 0)], hp Z P L)) rfl ?_
  rw [y_paid]
  exact e_ret hk_91 rfl rfl rfl rfl rfl
end ASKS
end
section
/-! The law's isStep; printed by wip/p25/gen/step.py -/
abbrev l_y (x : Int32) : Int32 := x >>> (4 &&& 31)
theorem y_sub {a b : Int32} : a + b - a = b := by rw [Int32.add_comm, Int32.add_sub_cancel]
theorem w_ne {k : Int32} (hk : k = -1 ∨ k = -4) : ∀ w, w ≤ 60 → ¬ nI w = k := by
  have h1 : ∀ w, w < 61 → ¬ nI w = -1 := by decide +kernel
  have h2 : ∀ w, w < 61 → ¬ nI w = -4 := by decide +kernel
  intro w hw
  rcases hk with rfl | rfl
  · exact h1 w (by omega)
  · exact h2 w (by omega)
theorem w_pay {c q : Nat} (hc : 1 ≤ c ∧ c ≤ 60) (hq : q ≤ 9) : (nI q = 0 → nI (c * q) = 0) ∧ (¬ nI q = 0 → nI (c * q) - nI (c * q) / nI q * nI q = 0 ∧ ¬ nI (c * q) < nI q ∧ ¬ 60 * nI q < nI (c * q)) := by
  have hm : c * q ≤ 60 * q := Nat.mul_le_mul_right q hc.2
  have hm2 : 1 * q ≤ c * q := Nat.mul_le_mul_right q hc.1
  refine ⟨fun h => ?_, fun h => ?_⟩
  · have h0 : q = 0 := (nI_eq (a := q) (b := 0) (by omega) (by omega)).mp h
    rw [h0, Nat.mul_zero]
    rfl
  · have h0 : 0 < q := by
      rcases Nat.eq_zero_or_pos q with z | z
      · rw [z] at h
        exact absurd rfl h
      · exact z
    refine ⟨?_, nI_nlt (by omega) (by omega), ?_⟩
    · rw [pk_div (by omega) h0 (by omega), Nat.mul_div_cancel _ h0, nI_mul, Int32.sub_self]
    · rw [show (60 : Int32) = nI 60 from rfl, nI_mul]
      exact nI_nlt hm (by omega)
/-- what the law knows of whether the key is there -/
def l_is (Z : Nat → Nat → Int32) (n : Nat) (key w : Int32) : Prop := (t_fn (Z 9) (Z 17) n key = none ∧ w = 0) ∨ (¬ t_fn (Z 9) (Z 17) n key = none ∧ w = 1)
theorem val_fn {Z : Nat → Nat → Int32} {n : Nat} {key : Int32} (hJ : K_J Z n) (hk : y_nm key = true) : c_val Z n key = -6 ↔ t_fn (Z 9) (Z 17) n key = none := by
  constructor
  · intro h
    cases hq : t_fn (Z 9) (Z 17) n key with
    | none => rfl
    | some j =>
      have h1 := fn_in hq
      rw [val_in hJ hk h1] at h
      exact absurd h (in_val hJ h1)
  · intro h
    exact val_out hk (fn_none hJ h)
set_option maxRecDepth 20000 in
theorem st_head {Z : Nat → Nat → Int32} {P : Nat → Nat} {L : Nat} {x : Int32} : ∃ ky : Nat, ky ≤ 999 ∧ ∀ v h2, e_r 92 35 [.ref 4, .int x, .int (l_y x), s_no, s_no, s_no, s_no, s_no, s_no, s_no, s_no, s_no, s_no] [.int (nI ky)] (hp Z P L) v h2 → m_r 92 [.ref 4, .int x] (hp Z P L) v h2 := by
  by_cases h0 : nI (l_u (l_y x) 3) = 0
  · refine ⟨l_u (l_y x >>> (2 &&& 31)) 1000, by have := l_u_lt (v := l_y x >>> (2 &&& 31)) (m := 1000) (by decide); omega, fun v h2 kk => ?_⟩
    refine m_of (ls := [.ref 4, .int x, s_no, s_no, s_no, s_no, s_no, s_no, s_no, s_no, s_no, s_no, s_no]) hk_92 rfl rfl rfl ?_
    refine e_go hk_92 4 (c := (4, [.ref 4, .int x, .int (x >>> (4 &&& 31)), s_no, s_no, s_no, s_no, s_no, s_no, s_no, s_no, s_no, s_no], [], hp Z P L)) rfl ?_
    refine e_go hk_92 2 (c := (6, [.ref 4, .int x, .int (l_y x), s_no, s_no, s_no, s_no, s_no, s_no, s_no, s_no, s_no, s_no], [.int 3, .int (l_y x)], hp Z P L)) rfl ?_
    refine e_call hk_92 (as := [.int (l_y x), .int 3]) (rest := []) rfl rfl hk_90 rfl (Nat.le_of_ble_eq_true rfl) rfl (show m_r 90 [.int (l_y x), .int 3] (hp Z P L) (some (.int (nI (l_u (l_y x) 3)))) (hp Z P L) from x_up (m := 3) (by decide) (by decide)) ?_
    show e_r 92 9 [.ref 4, .int x, .int (l_y x), s_no, s_no, s_no, s_no, s_no, s_no, s_no, s_no, s_no, s_no] [.int (nI (l_u (l_y x) 3))] (hp Z P L) _ _
    refine e_go hk_92 1 (c := (if s_cnd .ne (nI (l_u (l_y x) 3)) 0 = true then 24 else 12, [.ref 4, .int x, .int (l_y x), s_no, s_no, s_no, s_no, s_no, s_no, s_no, s_no, s_no, s_no], [], hp Z P L)) rfl ?_
    refine e_ne (a := 24) (b := 12) (x := nI (l_u (l_y x) 3)) (y := 0) (fun hc9 => absurd (h0) hc9) (fun hc9 => ?_)
    refine e_go hk_92 4 (c := (18, [.ref 4, .int x, .int (l_y x), s_no, s_no, s_no, s_no, s_no, s_no, s_no, s_no, s_no, s_no], [.int 1000, .int ((l_y x) >>> (2 &&& 31))], hp Z P L)) rfl ?_
    refine e_call hk_92 (as := [.int ((l_y x) >>> (2 &&& 31)), .int 1000]) (rest := []) rfl rfl hk_90 rfl (Nat.le_of_ble_eq_true rfl) rfl (show m_r 90 [.int ((l_y x) >>> (2 &&& 31)), .int 1000] (hp Z P L) (some (.int (nI (l_u ((l_y x) >>> (2 &&& 31)) 1000)))) (hp Z P L) from x_up (m := 1000) (by decide) (by decide)) ?_
    show e_r 92 21 [.ref 4, .int x, .int (l_y x), s_no, s_no, s_no, s_no, s_no, s_no, s_no, s_no, s_no, s_no] [.int (nI (l_u ((l_y x) >>> (2 &&& 31)) 1000))] (hp Z P L) _ _
    refine e_go hk_92 1 (c := (35, [.ref 4, .int x, .int (l_y x), s_no, s_no, s_no, s_no, s_no, s_no, s_no, s_no, s_no, s_no], [.int (nI (l_u ((l_y x) >>> (2 &&& 31)) 1000))], hp Z P L)) rfl ?_
    exact kk
  · refine ⟨11 * l_u (l_y x >>> (2 &&& 31)) 60, by have := l_u_lt (v := l_y x >>> (2 &&& 31)) (m := 60) (by decide); omega, fun v h2 kk => ?_⟩
    refine m_of (ls := [.ref 4, .int x, s_no, s_no, s_no, s_no, s_no, s_no, s_no, s_no, s_no, s_no, s_no]) hk_92 rfl rfl rfl ?_
    refine e_go hk_92 4 (c := (4, [.ref 4, .int x, .int (x >>> (4 &&& 31)), s_no, s_no, s_no, s_no, s_no, s_no, s_no, s_no, s_no, s_no], [], hp Z P L)) rfl ?_
    refine e_go hk_92 2 (c := (6, [.ref 4, .int x, .int (l_y x), s_no, s_no, s_no, s_no, s_no, s_no, s_no, s_no, s_no, s_no], [.int 3, .int (l_y x)], hp Z P L)) rfl ?_
    refine e_call hk_92 (as := [.int (l_y x), .int 3]) (rest := []) rfl rfl hk_90 rfl (Nat.le_of_ble_eq_true rfl) rfl (show m_r 90 [.int (l_y x), .int 3] (hp Z P L) (some (.int (nI (l_u (l_y x) 3)))) (hp Z P L) from x_up (m := 3) (by decide) (by decide)) ?_
    show e_r 92 9 [.ref 4, .int x, .int (l_y x), s_no, s_no, s_no, s_no, s_no, s_no, s_no, s_no, s_no, s_no] [.int (nI (l_u (l_y x) 3))] (hp Z P L) _ _
    refine e_go hk_92 1 (c := (if s_cnd .ne (nI (l_u (l_y x) 3)) 0 = true then 24 else 12, [.ref 4, .int x, .int (l_y x), s_no, s_no, s_no, s_no, s_no, s_no, s_no, s_no, s_no, s_no], [], hp Z P L)) rfl ?_
    refine e_ne (a := 24) (b := 12) (x := nI (l_u (l_y x) 3)) (y := 0) (fun hc9 => ?_) (fun hc9 => absurd hc9 (h0))
    refine e_go hk_92 5 (c := (31, [.ref 4, .int x, .int (l_y x), s_no, s_no, s_no, s_no, s_no, s_no, s_no, s_no, s_no, s_no], [.int 60, .int ((l_y x) >>> (2 &&& 31)), .int 11], hp Z P L)) rfl ?_
    refine e_call hk_92 (as := [.int ((l_y x) >>> (2 &&& 31)), .int 60]) (rest := [.int 11]) rfl rfl hk_90 rfl (Nat.le_of_ble_eq_true rfl) rfl (show m_r 90 [.int ((l_y x) >>> (2 &&& 31)), .int 60] (hp Z P L) (some (.int (nI (l_u ((l_y x) >>> (2 &&& 31)) 60)))) (hp Z P L) from x_up (m := 60) (by decide) (by decide)) ?_
    show e_r 92 34 [.ref 4, .int x, .int (l_y x), s_no, s_no, s_no, s_no, s_no, s_no, s_no, s_no, s_no, s_no] [.int (nI (l_u ((l_y x) >>> (2 &&& 31)) 60)), .int 11] (hp Z P L) _ _
    refine e_go hk_92 1 (c := (35, [.ref 4, .int x, .int (l_y x), s_no, s_no, s_no, s_no, s_no, s_no, s_no, s_no, s_no, s_no], [.int ((11 : Int32) * (nI (l_u ((l_y x) >>> (2 &&& 31)) 60)))], hp Z P L)) rfl ?_
    rw [show (11 : Int32) * nI (l_u (l_y x >>> (2 &&& 31)) 60) = nI (11 * l_u (l_y x >>> (2 &&& 31)) 60) from nI_mul 11 _]
    exact kk
set_option maxRecDepth 20000 in
theorem st_2 {Z : Nat → Nat → Int32} {P : Nat → Nat} {L n m q : Nat} (hQ : K_Q Z P n m q) {x y w : Int32} {ky : Nat} (hk : ky ≤ 999) (hw : l_is Z n (nI ky) w) {v : Option Value} {h2 : sHp} (kk : e_r 92 89 [.ref 4, .int x, .int y, .int (nI ky), .int (k_p Z n), .int (Z 5 7), .int (t_sm (Z 17) 0 n 0), .int (nI q), .int w, .int (nI (l_u x 14)), s_no, s_no, s_no] [] (hp Z P L) v h2) : e_r 92 35 [.ref 4, .int x, .int y, s_no, s_no, s_no, s_no, s_no, s_no, s_no, s_no, s_no, s_no] [.int (nI ky)] (hp Z P L) v h2 := by
  have hc12 : m_r 63 [.ref 4, .int 12] (hp Z P L) (some (.int (nI q))) (hp Z P L) := by
    rw [← hQ.2.1.2.2.1]
    exact a_c12 hQ.1
  have hv := val_fn (key := nI ky) hQ.1 (y_nmt (y_nmn hk))
  rcases hw with ⟨h1, h2⟩ | ⟨h1, h2⟩
  · subst h2
    refine e_go hk_92 2 (c := (37, [.ref 4, .int x, .int y, .int (nI ky), s_no, s_no, s_no, s_no, s_no, s_no, s_no, s_no, s_no], [.ref 4], hp Z P L)) rfl ?_
    refine e_call hk_92 (as := [.ref 4]) (rest := []) rfl rfl hk_91 rfl (Nat.le_of_ble_eq_true rfl) rfl (x_paid hQ.1) ?_
    show e_r 92 40 [.ref 4, .int x, .int y, .int (nI ky), s_no, s_no, s_no, s_no, s_no, s_no, s_no, s_no, s_no] [.int (k_p Z n)] (hp Z P L) _ _
    refine e_go hk_92 3 (c := (44, [.ref 4, .int x, .int y, .int (nI ky), .int (k_p Z n), s_no, s_no, s_no, s_no, s_no, s_no, s_no, s_no], [.int 4, .ref 4], hp Z P L)) rfl ?_
    refine e_call hk_92 (as := [.ref 4, .int 4]) (rest := []) rfl rfl hk_63 rfl (Nat.le_of_ble_eq_true rfl) rfl (a_c4 hQ.1) ?_
    show e_r 92 47 [.ref 4, .int x, .int y, .int (nI ky), .int (k_p Z n), s_no, s_no, s_no, s_no, s_no, s_no, s_no, s_no] [.int (Z 5 7)] (hp Z P L) _ _
    refine e_go hk_92 3 (c := (51, [.ref 4, .int x, .int y, .int (nI ky), .int (k_p Z n), .int (Z 5 7), s_no, s_no, s_no, s_no, s_no, s_no, s_no], [.int 1, .ref 4], hp Z P L)) rfl ?_
    refine e_call hk_92 (as := [.ref 4, .int 1]) (rest := []) rfl rfl hk_63 rfl (Nat.le_of_ble_eq_true rfl) rfl (a_c1 hQ.1) ?_
    show e_r 92 54 [.ref 4, .int x, .int y, .int (nI ky), .int (k_p Z n), .int (Z 5 7), s_no, s_no, s_no, s_no, s_no, s_no, s_no] [.int (t_sm (Z 17) 0 n 0)] (hp Z P L) _ _
    refine e_go hk_92 3 (c := (59, [.ref 4, .int x, .int y, .int (nI ky), .int (k_p Z n), .int (Z 5 7), .int (t_sm (Z 17) 0 n 0), s_no, s_no, s_no, s_no, s_no, s_no], [.int 12, .ref 4], hp Z P L)) rfl ?_
    refine e_call hk_92 (as := [.ref 4, .int 12]) (rest := []) rfl rfl hk_63 rfl (Nat.le_of_ble_eq_true rfl) rfl hc12 ?_
    show e_r 92 62 [.ref 4, .int x, .int y, .int (nI ky), .int (k_p Z n), .int (Z 5 7), .int (t_sm (Z 17) 0 n 0), s_no, s_no, s_no, s_no, s_no, s_no] [.int (nI q)] (hp Z P L) _ _
    refine e_go hk_92 3 (c := (66, [.ref 4, .int x, .int y, .int (nI ky), .int (k_p Z n), .int (Z 5 7), .int (t_sm (Z 17) 0 n 0), .int (nI q), s_no, s_no, s_no, s_no, s_no], [.int (nI ky), .ref 4], hp Z P L)) rfl ?_
    refine e_call hk_92 (as := [.ref 4, .int (nI ky)]) (rest := []) rfl rfl hk_61 rfl (Nat.le_of_ble_eq_true rfl) rfl (a_val hQ.1) ?_
    show e_r 92 69 [.ref 4, .int x, .int y, .int (nI ky), .int (k_p Z n), .int (Z 5 7), .int (t_sm (Z 17) 0 n 0), .int (nI q), s_no, s_no, s_no, s_no, s_no] [.int (c_val Z n (nI ky))] (hp Z P L) _ _
    refine e_go hk_92 2 (c := (if s_cnd .eq (c_val Z n (nI ky)) ((-6)) = true then 78 else 74, [.ref 4, .int x, .int y, .int (nI ky), .int (k_p Z n), .int (Z 5 7), .int (t_sm (Z 17) 0 n 0), .int (nI q), s_no, s_no, s_no, s_no, s_no], [], hp Z P L)) rfl ?_
    refine e_eq (a := 78) (b := 74) (x := c_val Z n (nI ky)) (y := (-6)) (fun hc71 => ?_) (fun hc71 => absurd (hv.mpr h1) hc71)
    refine e_go hk_92 4 (c := (84, [.ref 4, .int x, .int y, .int (nI ky), .int (k_p Z n), .int (Z 5 7), .int (t_sm (Z 17) 0 n 0), .int (nI q), .int 0, s_no, s_no, s_no, s_no], [.int 14, .int x], hp Z P L)) rfl ?_
    refine e_call hk_92 (as := [.int x, .int 14]) (rest := []) rfl rfl hk_90 rfl (Nat.le_of_ble_eq_true rfl) rfl (show m_r 90 [.int x, .int 14] (hp Z P L) (some (.int (nI (l_u x 14)))) (hp Z P L) from x_up (m := 14) (by decide) (by decide)) ?_
    show e_r 92 87 [.ref 4, .int x, .int y, .int (nI ky), .int (k_p Z n), .int (Z 5 7), .int (t_sm (Z 17) 0 n 0), .int (nI q), .int 0, s_no, s_no, s_no, s_no] [.int (nI (l_u x 14))] (hp Z P L) _ _
    refine e_go hk_92 1 (c := (89, [.ref 4, .int x, .int y, .int (nI ky), .int (k_p Z n), .int (Z 5 7), .int (t_sm (Z 17) 0 n 0), .int (nI q), .int 0, .int (nI (l_u x 14)), s_no, s_no, s_no], [], hp Z P L)) rfl ?_
    exact kk
  · subst h2
    refine e_go hk_92 2 (c := (37, [.ref 4, .int x, .int y, .int (nI ky), s_no, s_no, s_no, s_no, s_no, s_no, s_no, s_no, s_no], [.ref 4], hp Z P L)) rfl ?_
    refine e_call hk_92 (as := [.ref 4]) (rest := []) rfl rfl hk_91 rfl (Nat.le_of_ble_eq_true rfl) rfl (x_paid hQ.1) ?_
    show e_r 92 40 [.ref 4, .int x, .int y, .int (nI ky), s_no, s_no, s_no, s_no, s_no, s_no, s_no, s_no, s_no] [.int (k_p Z n)] (hp Z P L) _ _
    refine e_go hk_92 3 (c := (44, [.ref 4, .int x, .int y, .int (nI ky), .int (k_p Z n), s_no, s_no, s_no, s_no, s_no, s_no, s_no, s_no], [.int 4, .ref 4], hp Z P L)) rfl ?_
    refine e_call hk_92 (as := [.ref 4, .int 4]) (rest := []) rfl rfl hk_63 rfl (Nat.le_of_ble_eq_true rfl) rfl (a_c4 hQ.1) ?_
    show e_r 92 47 [.ref 4, .int x, .int y, .int (nI ky), .int (k_p Z n), s_no, s_no, s_no, s_no, s_no, s_no, s_no, s_no] [.int (Z 5 7)] (hp Z P L) _ _
    refine e_go hk_92 3 (c := (51, [.ref 4, .int x, .int y, .int (nI ky), .int (k_p Z n), .int (Z 5 7), s_no, s_no, s_no, s_no, s_no, s_no, s_no], [.int 1, .ref 4], hp Z P L)) rfl ?_
    refine e_call hk_92 (as := [.ref 4, .int 1]) (rest := []) rfl rfl hk_63 rfl (Nat.le_of_ble_eq_true rfl) rfl (a_c1 hQ.1) ?_
    show e_r 92 54 [.ref 4, .int x, .int y, .int (nI ky), .int (k_p Z n), .int (Z 5 7), s_no, s_no, s_no, s_no, s_no, s_no, s_no] [.int (t_sm (Z 17) 0 n 0)] (hp Z P L) _ _
    refine e_go hk_92 3 (c := (59, [.ref 4, .int x, .int y, .int (nI ky), .int (k_p Z n), .int (Z 5 7), .int (t_sm (Z 17) 0 n 0), s_no, s_no, s_no, s_no, s_no, s_no], [.int 12, .ref 4], hp Z P L)) rfl ?_
    refine e_call hk_92 (as := [.ref 4, .int 12]) (rest := []) rfl rfl hk_63 rfl (Nat.le_of_ble_eq_true rfl) rfl hc12 ?_
    show e_r 92 62 [.ref 4, .int x, .int y, .int (nI ky), .int (k_p Z n), .int (Z 5 7), .int (t_sm (Z 17) 0 n 0), s_no, s_no, s_no, s_no, s_no, s_no] [.int (nI q)] (hp Z P L) _ _
    refine e_go hk_92 3 (c := (66, [.ref 4, .int x, .int y, .int (nI ky), .int (k_p Z n), .int (Z 5 7), .int (t_sm (Z 17) 0 n 0), .int (nI q), s_no, s_no, s_no, s_no, s_no], [.int (nI ky), .ref 4], hp Z P L)) rfl ?_
    refine e_call hk_92 (as := [.ref 4, .int (nI ky)]) (rest := []) rfl rfl hk_61 rfl (Nat.le_of_ble_eq_true rfl) rfl (a_val hQ.1) ?_
    show e_r 92 69 [.ref 4, .int x, .int y, .int (nI ky), .int (k_p Z n), .int (Z 5 7), .int (t_sm (Z 17) 0 n 0), .int (nI q), s_no, s_no, s_no, s_no, s_no] [.int (c_val Z n (nI ky))] (hp Z P L) _ _
    refine e_go hk_92 2 (c := (if s_cnd .eq (c_val Z n (nI ky)) ((-6)) = true then 78 else 74, [.ref 4, .int x, .int y, .int (nI ky), .int (k_p Z n), .int (Z 5 7), .int (t_sm (Z 17) 0 n 0), .int (nI q), s_no, s_no, s_no, s_no, s_no], [], hp Z P L)) rfl ?_
    refine e_eq (a := 78) (b := 74) (x := c_val Z n (nI ky)) (y := (-6)) (fun hc71 => absurd hc71 (fun z => h1 (hv.mp z))) (fun hc71 => ?_)
    refine e_go hk_92 5 (c := (84, [.ref 4, .int x, .int y, .int (nI ky), .int (k_p Z n), .int (Z 5 7), .int (t_sm (Z 17) 0 n 0), .int (nI q), .int 1, s_no, s_no, s_no, s_no], [.int 14, .int x], hp Z P L)) rfl ?_
    refine e_call hk_92 (as := [.int x, .int 14]) (rest := []) rfl rfl hk_90 rfl (Nat.le_of_ble_eq_true rfl) rfl (show m_r 90 [.int x, .int 14] (hp Z P L) (some (.int (nI (l_u x 14)))) (hp Z P L) from x_up (m := 14) (by decide) (by decide)) ?_
    show e_r 92 87 [.ref 4, .int x, .int y, .int (nI ky), .int (k_p Z n), .int (Z 5 7), .int (t_sm (Z 17) 0 n 0), .int (nI q), .int 1, s_no, s_no, s_no, s_no] [.int (nI (l_u x 14))] (hp Z P L) _ _
    refine e_go hk_92 1 (c := (89, [.ref 4, .int x, .int y, .int (nI ky), .int (k_p Z n), .int (Z 5 7), .int (t_sm (Z 17) 0 n 0), .int (nI q), .int 1, .int (nI (l_u x 14)), s_no, s_no, s_no], [], hp Z P L)) rfl ?_
    exact kk
set_option maxRecDepth 20000 in
theorem st_put {Z : Nat → Nat → Int32} {P : Nat → Nat} {L n m q : Nat} (hQ : K_Q Z P n m q) {x y w : Int32} {ky of : Nat} (hk : ky ≤ 999) (hw : l_is Z n (nI ky) w) (h8 : ¬ 8 ≤ nI of) : ∃ (Z2 : Nat → Nat → Int32) (P2 : Nat → Nat), K_G Z2 P2 ∧ e_r 92 89 [.ref 4, .int x, .int y, .int (nI ky), .int (k_p Z n), .int (Z 5 7), .int (t_sm (Z 17) 0 n 0), .int (nI q), .int w, .int (nI of), s_no, s_no, s_no] [] (hp Z P L) (some (.int 1)) (hp Z2 P2 L) := by
  rcases q_put (L := L) hQ hk (vl := l_u (y >>> (13 &&& 31)) 1000) (by have := l_u_lt (v := y >>> (13 &&& 31)) (m := 1000) (by decide); omega) with ⟨g1, g2, g3, g4⟩ | ⟨Z2, P2, n2, m2, wt, c, hQ2, g1, g2, g3, g4, g5, g6, g7, g8, g9⟩
  · have hw0 : w = 0 := hw.elim (fun z => z.2) (fun z => absurd g2 z.1)
    subst hw0
    have g3 : m_r 70 [.ref 4, .int (nI ky)] (hp Z P L) (some (.int (-4))) (hp Z P L) := by rw [← g3]; exact a_wc hQ.1
    refine ⟨Z, P, ⟨n, m, q, hQ⟩, ?_⟩
    refine e_go hk_92 3 (c := (if s_cnd .ge (nI of) 8 = true then 283 else 96, [.ref 4, .int x, .int y, .int (nI ky), .int (k_p Z n), .int (Z 5 7), .int (t_sm (Z 17) 0 n 0), .int (nI q), .int 0, .int (nI of), s_no, s_no, s_no], [], hp Z P L)) rfl ?_
    refine e_ge (a := 283) (b := 96) (x := nI of) (y := 8) (fun hc93 => absurd hc93 (h8)) (fun hc93 => ?_)
    refine e_go hk_92 2 (c := (98, [.ref 4, .int x, .int y, .int (nI ky), .int (k_p Z n), .int (Z 5 7), .int (t_sm (Z 17) 0 n 0), .int (nI q), .int 0, .int (nI of), s_no, s_no, s_no], [.int (nI ky), .ref 4], hp Z P L)) rfl ?_
    refine e_call hk_92 (as := [.ref 4, .int (nI ky)]) (rest := []) rfl rfl hk_70 rfl (Nat.le_of_ble_eq_true rfl) rfl g3 ?_
    show e_r 92 101 [.ref 4, .int x, .int y, .int (nI ky), .int (k_p Z n), .int (Z 5 7), .int (t_sm (Z 17) 0 n 0), .int (nI q), .int 0, .int (nI of), s_no, s_no, s_no] [.int ((-4))] (hp Z P L) _ _
    refine e_go hk_92 7 (c := (112, [.ref 4, .int x, .int y, .int (nI ky), .int (k_p Z n), .int (Z 5 7), .int (t_sm (Z 17) 0 n 0), .int (nI q), .int 0, .int (nI of), .int ((-4)), s_no, s_no], [.int 1000, .int (y >>> (13 &&& 31)), .int (nI ky), .ref 4], hp Z P L)) rfl ?_
    refine e_call hk_92 (as := [.int (y >>> (13 &&& 31)), .int 1000]) (rest := [.int (nI ky), .ref 4]) rfl rfl hk_90 rfl (Nat.le_of_ble_eq_true rfl) rfl (show m_r 90 [.int (y >>> (13 &&& 31)), .int 1000] (hp Z P L) (some (.int (nI (l_u (y >>> (13 &&& 31)) 1000)))) (hp Z P L) from x_up (m := 1000) (by decide) (by decide)) ?_
    show e_r 92 115 [.ref 4, .int x, .int y, .int (nI ky), .int (k_p Z n), .int (Z 5 7), .int (t_sm (Z 17) 0 n 0), .int (nI q), .int 0, .int (nI of), .int ((-4)), s_no, s_no] [.int (nI (l_u (y >>> (13 &&& 31)) 1000)), .int (nI ky), .ref 4] (hp Z P L) _ _
    refine e_call hk_92 (as := [.ref 4, .int (nI ky), .int (nI (l_u (y >>> (13 &&& 31)) 1000))]) (rest := []) rfl rfl hk_58 rfl (Nat.le_of_ble_eq_true rfl) rfl g4 ?_
    show e_r 92 118 [.ref 4, .int x, .int y, .int (nI ky), .int (k_p Z n), .int (Z 5 7), .int (t_sm (Z 17) 0 n 0), .int (nI q), .int 0, .int (nI of), .int ((-4)), s_no, s_no] [.int ((-4))] (hp Z P L) _ _
    refine e_go hk_92 4 (c := (if s_cnd .ne ((-4)) ((-4)) = true then 155 else 127, [.ref 4, .int x, .int y, .int (nI ky), .int (k_p Z n), .int (Z 5 7), .int (t_sm (Z 17) 0 n 0), .int (nI q), .int 0, .int (nI of), .int ((-4)), .int ((-4)), s_no], [], hp Z P L)) rfl ?_
    refine e_ne (a := 155) (b := 127) (x := (-4)) (y := (-4)) (fun hc124 => absurd (rfl) hc124) (fun hc124 => ?_)
    refine e_go hk_92 3 (c := (if s_cnd .ne ((-4)) ((-4)) = true then 153 else 134, [.ref 4, .int x, .int y, .int (nI ky), .int (k_p Z n), .int (Z 5 7), .int (t_sm (Z 17) 0 n 0), .int (nI q), .int 0, .int (nI of), .int ((-4)), .int ((-4)), s_no], [], hp Z P L)) rfl ?_
    refine e_ne (a := 153) (b := 134) (x := (-4)) (y := (-4)) (fun hc131 => absurd (rfl) hc131) (fun hc131 => ?_)
    refine e_go hk_92 2 (c := (136, [.ref 4, .int x, .int y, .int (nI ky), .int (k_p Z n), .int (Z 5 7), .int (t_sm (Z 17) 0 n 0), .int (nI q), .int 0, .int (nI of), .int ((-4)), .int ((-4)), s_no], [.int 0, .ref 4], hp Z P L)) rfl ?_
    refine e_call hk_92 (as := [.ref 4, .int 0]) (rest := []) rfl rfl hk_63 rfl (Nat.le_of_ble_eq_true rfl) rfl (a_c0 hQ.1) ?_
    show e_r 92 139 [.ref 4, .int x, .int y, .int (nI ky), .int (k_p Z n), .int (Z 5 7), .int (t_sm (Z 17) 0 n 0), .int (nI q), .int 0, .int (nI of), .int ((-4)), .int ((-4)), s_no] [.int (nI n)] (hp Z P L) _ _
    refine e_go hk_92 2 (c := (if s_cnd .ne (nI n) 60 = true then 153 else 144, [.ref 4, .int x, .int y, .int (nI ky), .int (k_p Z n), .int (Z 5 7), .int (t_sm (Z 17) 0 n 0), .int (nI q), .int 0, .int (nI of), .int ((-4)), .int ((-4)), s_no], [], hp Z P L)) rfl ?_
    refine e_ne (a := 153) (b := 144) (x := nI n) (y := 60) (fun hc141 => absurd (by rw [g1]; rfl) hc141) (fun hc141 => ?_)
    refine e_go hk_92 2 (c := (if s_cnd .ne 0 0 = true then 153 else 149, [.ref 4, .int x, .int y, .int (nI ky), .int (k_p Z n), .int (Z 5 7), .int (t_sm (Z 17) 0 n 0), .int (nI q), .int 0, .int (nI of), .int ((-4)), .int ((-4)), s_no], [], hp Z P L)) rfl ?_
    refine e_ne (a := 153) (b := 149) (x := 0) (y := 0) (fun hc146 => absurd (rfl) hc146) (fun hc146 => ?_)
    refine e_go hk_92 2 (c := (154, [.ref 4, .int x, .int y, .int (nI ky), .int (k_p Z n), .int (Z 5 7), .int (t_sm (Z 17) 0 n 0), .int (nI q), .int 0, .int (nI of), .int ((-4)), .int ((-4)), s_no], [.int 1], hp Z P L)) rfl ?_
    exact e_ret hk_92 rfl rfl rfl rfl rfl
  · have g3 : m_r 70 [.ref 4, .int (nI ky)] (hp Z P L) (some (.int (nI wt))) (hp Z P L) := by rw [← g3]; exact a_wc hQ.1
    have hp2 : m_r 91 [.ref 4] (hp Z2 P2 L) (some (.int (k_p Z n + nI (c * q)))) (hp Z2 P2 L) := by rw [← g5]; exact x_paid hQ2.1
    have hc4 : m_r 63 [.ref 4, .int 4] (hp Z2 P2 L) (some (.int (Z 5 7 + nI wt))) (hp Z2 P2 L) := by rw [← g4]; exact a_c4 hQ2.1
    have hvl : m_r 61 [.ref 4, .int (nI ky)] (hp Z2 P2 L) (some (.int (nI (l_u (y >>> (13 &&& 31)) 1000)))) (hp Z2 P2 L) := by rw [← g7]; exact a_val hQ2.1
    obtain ⟨p1, p2⟩ := w_pay g6 hQ.2.1.2.2.2
    have hn4 := w_ne (Or.inr rfl) wt g2
    have h10 : ¬ nI wt = 0 → ¬ Z2 5 10 < nI wt := fun z => g9.resolve_left (fun y => z (by rw [y]; rfl))
    refine ⟨Z2, P2, ⟨n2, m2, q, hQ2⟩, ?_⟩
    rcases hw with ⟨w1, w2⟩ | ⟨w1, w2⟩
    · subst w2
      have hc1 : m_r 63 [.ref 4, .int 1] (hp Z2 P2 L) (some (.int (t_sm (Z 17) 0 n 0 + 1))) (hp Z2 P2 L) := by
        have z := a_c1 (P := P2) (L := L) hQ2.1
        rw [g8, if_pos w1] at z
        exact z
      refine e_go hk_92 3 (c := (if s_cnd .ge (nI of) 8 = true then 283 else 96, [.ref 4, .int x, .int y, .int (nI ky), .int (k_p Z n), .int (Z 5 7), .int (t_sm (Z 17) 0 n 0), .int (nI q), .int 0, .int (nI of), s_no, s_no, s_no], [], hp Z P L)) rfl ?_
      refine e_ge (a := 283) (b := 96) (x := nI of) (y := 8) (fun hc93 => absurd hc93 (h8)) (fun hc93 => ?_)
      refine e_go hk_92 2 (c := (98, [.ref 4, .int x, .int y, .int (nI ky), .int (k_p Z n), .int (Z 5 7), .int (t_sm (Z 17) 0 n 0), .int (nI q), .int 0, .int (nI of), s_no, s_no, s_no], [.int (nI ky), .ref 4], hp Z P L)) rfl ?_
      refine e_call hk_92 (as := [.ref 4, .int (nI ky)]) (rest := []) rfl rfl hk_70 rfl (Nat.le_of_ble_eq_true rfl) rfl g3 ?_
      show e_r 92 101 [.ref 4, .int x, .int y, .int (nI ky), .int (k_p Z n), .int (Z 5 7), .int (t_sm (Z 17) 0 n 0), .int (nI q), .int 0, .int (nI of), s_no, s_no, s_no] [.int (nI wt)] (hp Z P L) _ _
      refine e_go hk_92 7 (c := (112, [.ref 4, .int x, .int y, .int (nI ky), .int (k_p Z n), .int (Z 5 7), .int (t_sm (Z 17) 0 n 0), .int (nI q), .int 0, .int (nI of), .int (nI wt), s_no, s_no], [.int 1000, .int (y >>> (13 &&& 31)), .int (nI ky), .ref 4], hp Z P L)) rfl ?_
      refine e_call hk_92 (as := [.int (y >>> (13 &&& 31)), .int 1000]) (rest := [.int (nI ky), .ref 4]) rfl rfl hk_90 rfl (Nat.le_of_ble_eq_true rfl) rfl (show m_r 90 [.int (y >>> (13 &&& 31)), .int 1000] (hp Z P L) (some (.int (nI (l_u (y >>> (13 &&& 31)) 1000)))) (hp Z P L) from x_up (m := 1000) (by decide) (by decide)) ?_
      show e_r 92 115 [.ref 4, .int x, .int y, .int (nI ky), .int (k_p Z n), .int (Z 5 7), .int (t_sm (Z 17) 0 n 0), .int (nI q), .int 0, .int (nI of), .int (nI wt), s_no, s_no] [.int (nI (l_u (y >>> (13 &&& 31)) 1000)), .int (nI ky), .ref 4] (hp Z P L) _ _
      refine e_call hk_92 (as := [.ref 4, .int (nI ky), .int (nI (l_u (y >>> (13 &&& 31)) 1000))]) (rest := []) rfl rfl hk_58 rfl (Nat.le_of_ble_eq_true rfl) rfl g1 ?_
      show e_r 92 118 [.ref 4, .int x, .int y, .int (nI ky), .int (k_p Z n), .int (Z 5 7), .int (t_sm (Z 17) 0 n 0), .int (nI q), .int 0, .int (nI of), .int (nI wt), s_no, s_no] [.int (nI wt)] (hp Z2 P2 L) _ _
      refine e_go hk_92 4 (c := (if s_cnd .ne (nI wt) ((-4)) = true then 155 else 127, [.ref 4, .int x, .int y, .int (nI ky), .int (k_p Z n), .int (Z 5 7), .int (t_sm (Z 17) 0 n 0), .int (nI q), .int 0, .int (nI of), .int (nI wt), .int (nI wt), s_no], [], hp Z2 P2 L)) rfl ?_
      refine e_ne (a := 155) (b := 127) (x := nI wt) (y := (-4)) (fun hc124 => ?_) (fun hc124 => absurd hc124 (hn4))
      refine e_go hk_92 1 (c := (156, [.ref 4, .int x, .int y, .int (nI ky), .int (k_p Z n), .int (Z 5 7), .int (t_sm (Z 17) 0 n 0), .int (nI q), .int 0, .int (nI of), .int (nI wt), .int (nI wt), s_no], [.ref 4], hp Z2 P2 L)) rfl ?_
      refine e_call hk_92 (as := [.ref 4]) (rest := []) rfl rfl hk_91 rfl (Nat.le_of_ble_eq_true rfl) rfl hp2 ?_
      show e_r 92 159 [.ref 4, .int x, .int y, .int (nI ky), .int (k_p Z n), .int (Z 5 7), .int (t_sm (Z 17) 0 n 0), .int (nI q), .int 0, .int (nI of), .int (nI wt), .int (nI wt), s_no] [.int (k_p Z n + nI (c * q))] (hp Z2 P2 L) _ _
      refine e_go hk_92 2 (c := (162, [.ref 4, .int x, .int y, .int (nI ky), .int (k_p Z n), .int (Z 5 7), .int (t_sm (Z 17) 0 n 0), .int (nI q), .int 0, .int (nI of), .int (nI wt), .int (nI wt), s_no], [.int ((k_p Z n + nI (c * q)) - (k_p Z n))], hp Z2 P2 L)) rfl ?_
      rw [y_sub]
      refine e_go hk_92 4 (c := (if s_cnd .ne (nI wt) (nI wt) = true then 281 else 171, [.ref 4, .int x, .int y, .int (nI ky), .int (k_p Z n), .int (Z 5 7), .int (t_sm (Z 17) 0 n 0), .int (nI q), .int 0, .int (nI of), .int (nI wt), .int (nI wt), .int (nI (c * q))], [], hp Z2 P2 L)) rfl ?_
      refine e_ne (a := 281) (b := 171) (x := nI wt) (y := nI wt) (fun hc168 => absurd (rfl) hc168) (fun hc168 => ?_)
      refine e_go hk_92 2 (c := (173, [.ref 4, .int x, .int y, .int (nI ky), .int (k_p Z n), .int (Z 5 7), .int (t_sm (Z 17) 0 n 0), .int (nI q), .int 0, .int (nI of), .int (nI wt), .int (nI wt), .int (nI (c * q))], [.int 4, .ref 4], hp Z2 P2 L)) rfl ?_
      refine e_call hk_92 (as := [.ref 4, .int 4]) (rest := []) rfl rfl hk_63 rfl (Nat.le_of_ble_eq_true rfl) rfl hc4 ?_
      show e_r 92 176 [.ref 4, .int x, .int y, .int (nI ky), .int (k_p Z n), .int (Z 5 7), .int (t_sm (Z 17) 0 n 0), .int (nI q), .int 0, .int (nI of), .int (nI wt), .int (nI wt), .int (nI (c * q))] [.int (Z 5 7 + nI wt)] (hp Z2 P2 L) _ _
      refine e_go hk_92 4 (c := (if s_cnd .ne (Z 5 7 + nI wt) ((Z 5 7) + (nI wt)) = true then 281 else 184, [.ref 4, .int x, .int y, .int (nI ky), .int (k_p Z n), .int (Z 5 7), .int (t_sm (Z 17) 0 n 0), .int (nI q), .int 0, .int (nI of), .int (nI wt), .int (nI wt), .int (nI (c * q))], [], hp Z2 P2 L)) rfl ?_
      refine e_ne (a := 281) (b := 184) (x := Z 5 7 + nI wt) (y := (Z 5 7) + (nI wt)) (fun hc181 => absurd (rfl) hc181) (fun hc181 => ?_)
      refine e_go hk_92 2 (c := (186, [.ref 4, .int x, .int y, .int (nI ky), .int (k_p Z n), .int (Z 5 7), .int (t_sm (Z 17) 0 n 0), .int (nI q), .int 0, .int (nI of), .int (nI wt), .int (nI wt), .int (nI (c * q))], [.int (nI ky), .ref 4], hp Z2 P2 L)) rfl ?_
      refine e_call hk_92 (as := [.ref 4, .int (nI ky)]) (rest := []) rfl rfl hk_61 rfl (Nat.le_of_ble_eq_true rfl) rfl hvl ?_
      show e_r 92 189 [.ref 4, .int x, .int y, .int (nI ky), .int (k_p Z n), .int (Z 5 7), .int (t_sm (Z 17) 0 n 0), .int (nI q), .int 0, .int (nI of), .int (nI wt), .int (nI wt), .int (nI (c * q))] [.int (nI (l_u (y >>> (13 &&& 31)) 1000))] (hp Z2 P2 L) _ _
      refine e_go hk_92 4 (c := (196, [.ref 4, .int x, .int y, .int (nI ky), .int (k_p Z n), .int (Z 5 7), .int (t_sm (Z 17) 0 n 0), .int (nI q), .int 0, .int (nI of), .int (nI wt), .int (nI wt), .int (nI (c * q))], [.int 1000, .int (y >>> (13 &&& 31)), .int (nI (l_u (y >>> (13 &&& 31)) 1000))], hp Z2 P2 L)) rfl ?_
      refine e_call hk_92 (as := [.int (y >>> (13 &&& 31)), .int 1000]) (rest := [.int (nI (l_u (y >>> (13 &&& 31)) 1000))]) rfl rfl hk_90 rfl (Nat.le_of_ble_eq_true rfl) rfl (show m_r 90 [.int (y >>> (13 &&& 31)), .int 1000] (hp Z2 P2 L) (some (.int (nI (l_u (y >>> (13 &&& 31)) 1000)))) (hp Z2 P2 L) from x_up (m := 1000) (by decide) (by decide)) ?_
      show e_r 92 199 [.ref 4, .int x, .int y, .int (nI ky), .int (k_p Z n), .int (Z 5 7), .int (t_sm (Z 17) 0 n 0), .int (nI q), .int 0, .int (nI of), .int (nI wt), .int (nI wt), .int (nI (c * q))] [.int (nI (l_u (y >>> (13 &&& 31)) 1000)), .int (nI (l_u (y >>> (13 &&& 31)) 1000))] (hp Z2 P2 L) _ _
      refine e_go hk_92 1 (c := (if s_cnd .ne (nI (l_u (y >>> (13 &&& 31)) 1000)) (nI (l_u (y >>> (13 &&& 31)) 1000)) = true then 281 else 202, [.ref 4, .int x, .int y, .int (nI ky), .int (k_p Z n), .int (Z 5 7), .int (t_sm (Z 17) 0 n 0), .int (nI q), .int 0, .int (nI of), .int (nI wt), .int (nI wt), .int (nI (c * q))], [], hp Z2 P2 L)) rfl ?_
      refine e_ne (a := 281) (b := 202) (x := nI (l_u (y >>> (13 &&& 31)) 1000)) (y := nI (l_u (y >>> (13 &&& 31)) 1000)) (fun hc199 => absurd (rfl) hc199) (fun hc199 => ?_)
      refine e_go hk_92 2 (c := (204, [.ref 4, .int x, .int y, .int (nI ky), .int (k_p Z n), .int (Z 5 7), .int (t_sm (Z 17) 0 n 0), .int (nI q), .int 0, .int (nI of), .int (nI wt), .int (nI wt), .int (nI (c * q))], [.int 1, .ref 4], hp Z2 P2 L)) rfl ?_
      refine e_call hk_92 (as := [.ref 4, .int 1]) (rest := []) rfl rfl hk_63 rfl (Nat.le_of_ble_eq_true rfl) rfl hc1 ?_
      show e_r 92 207 [.ref 4, .int x, .int y, .int (nI ky), .int (k_p Z n), .int (Z 5 7), .int (t_sm (Z 17) 0 n 0), .int (nI q), .int 0, .int (nI of), .int (nI wt), .int (nI wt), .int (nI (c * q))] [.int (t_sm (Z 17) 0 n 0 + 1)] (hp Z2 P2 L) _ _
      refine e_go hk_92 3 (c := (if s_cnd .eq 0 0 = true then 218 else 214, [.ref 4, .int x, .int y, .int (nI ky), .int (k_p Z n), .int (Z 5 7), .int (t_sm (Z 17) 0 n 0), .int (nI q), .int 0, .int (nI of), .int (nI wt), .int (nI wt), .int (nI (c * q))], [.int (t_sm (Z 17) 0 n 0), .int (t_sm (Z 17) 0 n 0 + 1)], hp Z2 P2 L)) rfl ?_
      refine e_eq (a := 218) (b := 214) (x := 0) (y := 0) (fun hc211 => ?_) (fun hc211 => absurd (rfl) hc211)
      refine e_go hk_92 3 (c := (if s_cnd .ne (t_sm (Z 17) 0 n 0 + 1) ((t_sm (Z 17) 0 n 0) + 1) = true then 281 else 223, [.ref 4, .int x, .int y, .int (nI ky), .int (k_p Z n), .int (Z 5 7), .int (t_sm (Z 17) 0 n 0), .int (nI q), .int 0, .int (nI of), .int (nI wt), .int (nI wt), .int (nI (c * q))], [], hp Z2 P2 L)) rfl ?_
      refine e_ne (a := 281) (b := 223) (x := t_sm (Z 17) 0 n 0 + 1) (y := (t_sm (Z 17) 0 n 0) + 1) (fun hc220 => absurd (rfl) hc220) (fun hc220 => ?_)
      refine e_go hk_92 2 (c := (if s_cnd .ne (nI q) 0 = true then 236 else 228, [.ref 4, .int x, .int y, .int (nI ky), .int (k_p Z n), .int (Z 5 7), .int (t_sm (Z 17) 0 n 0), .int (nI q), .int 0, .int (nI of), .int (nI wt), .int (nI wt), .int (nI (c * q))], [], hp Z2 P2 L)) rfl ?_
      refine e_ne (a := 236) (b := 228) (x := nI q) (y := 0) (fun hc225 => ?_) (fun hc225 => ?_)
      · skip
        refine e_go hk_92 2 (c := (240, [.ref 4, .int x, .int y, .int (nI ky), .int (k_p Z n), .int (Z 5 7), .int (t_sm (Z 17) 0 n 0), .int (nI q), .int 0, .int (nI of), .int (nI wt), .int (nI wt), .int (nI (c * q))], [.int (nI q), .int (nI (c * q))], hp Z2 P2 L)) rfl ?_
        refine e_irem hk_92 (x := nI (c * q)) (y := nI q) rfl rfl hc225 ?_
        rw [(p2 hc225).1]
        show e_r 92 241 [.ref 4, .int x, .int y, .int (nI ky), .int (k_p Z n), .int (Z 5 7), .int (t_sm (Z 17) 0 n 0), .int (nI q), .int 0, .int (nI of), .int (nI wt), .int (nI wt), .int (nI (c * q))] [.int 0] (hp Z2 P2 L) _ _
        refine e_go hk_92 1 (c := (if s_cnd .ne 0 0 = true then 281 else 244, [.ref 4, .int x, .int y, .int (nI ky), .int (k_p Z n), .int (Z 5 7), .int (t_sm (Z 17) 0 n 0), .int (nI q), .int 0, .int (nI of), .int (nI wt), .int (nI wt), .int (nI (c * q))], [], hp Z2 P2 L)) rfl ?_
        refine e_ne (a := 281) (b := 244) (x := 0) (y := 0) (fun hc241 => absurd (rfl) hc241) (fun hc241 => ?_)
        refine e_go hk_92 3 (c := (if s_cnd .lt (nI (c * q)) (nI q) = true then 281 else 251, [.ref 4, .int x, .int y, .int (nI ky), .int (k_p Z n), .int (Z 5 7), .int (t_sm (Z 17) 0 n 0), .int (nI q), .int 0, .int (nI of), .int (nI wt), .int (nI wt), .int (nI (c * q))], [], hp Z2 P2 L)) rfl ?_
        refine e_lt (a := 281) (b := 251) (x := nI (c * q)) (y := nI q) (fun hc248 => absurd hc248 ((p2 hc225).2.1)) (fun hc248 => ?_)
        refine e_go hk_92 5 (c := (if s_cnd .gt (nI (c * q)) ((60 : Int32) * (nI q)) = true then 281 else 261, [.ref 4, .int x, .int y, .int (nI ky), .int (k_p Z n), .int (Z 5 7), .int (t_sm (Z 17) 0 n 0), .int (nI q), .int 0, .int (nI of), .int (nI wt), .int (nI wt), .int (nI (c * q))], [], hp Z2 P2 L)) rfl ?_
        refine e_gt (a := 281) (b := 261) (x := nI (c * q)) (y := (60 : Int32) * (nI q)) (fun hc258 => absurd hc258 ((p2 hc225).2.2)) (fun hc258 => ?_)
        refine e_go hk_92 2 (c := (if s_cnd .eq (nI wt) 0 = true then 277 else 266, [.ref 4, .int x, .int y, .int (nI ky), .int (k_p Z n), .int (Z 5 7), .int (t_sm (Z 17) 0 n 0), .int (nI q), .int 0, .int (nI of), .int (nI wt), .int (nI wt), .int (nI (c * q))], [], hp Z2 P2 L)) rfl ?_
        refine e_eq (a := 277) (b := 266) (x := nI wt) (y := 0) (fun hc263 => ?_) (fun hc263 => ?_)
        · skip
          refine e_go hk_92 2 (c := (282, [.ref 4, .int x, .int y, .int (nI ky), .int (k_p Z n), .int (Z 5 7), .int (t_sm (Z 17) 0 n 0), .int (nI q), .int 0, .int (nI of), .int (nI wt), .int (nI wt), .int (nI (c * q))], [.int 1], hp Z2 P2 L)) rfl ?_
          exact e_ret hk_92 rfl rfl rfl rfl rfl
        · skip
          refine e_go hk_92 2 (c := (269, [.ref 4, .int x, .int y, .int (nI ky), .int (k_p Z n), .int (Z 5 7), .int (t_sm (Z 17) 0 n 0), .int (nI q), .int 0, .int (nI of), .int (nI wt), .int (nI wt), .int (nI (c * q))], [.int 8, .ref 4], hp Z2 P2 L)) rfl ?_
          refine e_call hk_92 (as := [.ref 4, .int 8]) (rest := []) rfl rfl hk_63 rfl (Nat.le_of_ble_eq_true rfl) rfl (a_c8 hQ2.1) ?_
          show e_r 92 272 [.ref 4, .int x, .int y, .int (nI ky), .int (k_p Z n), .int (Z 5 7), .int (t_sm (Z 17) 0 n 0), .int (nI q), .int 0, .int (nI of), .int (nI wt), .int (nI wt), .int (nI (c * q))] [.int (Z2 5 10)] (hp Z2 P2 L) _ _
          refine e_go hk_92 2 (c := (if s_cnd .lt (Z2 5 10) (nI wt) = true then 281 else 277, [.ref 4, .int x, .int y, .int (nI ky), .int (k_p Z n), .int (Z 5 7), .int (t_sm (Z 17) 0 n 0), .int (nI q), .int 0, .int (nI of), .int (nI wt), .int (nI wt), .int (nI (c * q))], [], hp Z2 P2 L)) rfl ?_
          refine e_lt (a := 281) (b := 277) (x := Z2 5 10) (y := nI wt) (fun hc274 => absurd hc274 (h10 hc263)) (fun hc274 => ?_)
          refine e_go hk_92 2 (c := (282, [.ref 4, .int x, .int y, .int (nI ky), .int (k_p Z n), .int (Z 5 7), .int (t_sm (Z 17) 0 n 0), .int (nI q), .int 0, .int (nI of), .int (nI wt), .int (nI wt), .int (nI (c * q))], [.int 1], hp Z2 P2 L)) rfl ?_
          exact e_ret hk_92 rfl rfl rfl rfl rfl
      · skip
        refine e_go hk_92 2 (c := (if s_cnd .ne (nI (c * q)) 0 = true then 281 else 233, [.ref 4, .int x, .int y, .int (nI ky), .int (k_p Z n), .int (Z 5 7), .int (t_sm (Z 17) 0 n 0), .int (nI q), .int 0, .int (nI of), .int (nI wt), .int (nI wt), .int (nI (c * q))], [], hp Z2 P2 L)) rfl ?_
        refine e_ne (a := 281) (b := 233) (x := nI (c * q)) (y := 0) (fun hc230 => absurd (p1 hc225) hc230) (fun hc230 => ?_)
        refine e_go hk_92 3 (c := (if s_cnd .eq (nI wt) 0 = true then 277 else 266, [.ref 4, .int x, .int y, .int (nI ky), .int (k_p Z n), .int (Z 5 7), .int (t_sm (Z 17) 0 n 0), .int (nI q), .int 0, .int (nI of), .int (nI wt), .int (nI wt), .int (nI (c * q))], [], hp Z2 P2 L)) rfl ?_
        refine e_eq (a := 277) (b := 266) (x := nI wt) (y := 0) (fun hc263 => ?_) (fun hc263 => ?_)
        · skip
          refine e_go hk_92 2 (c := (282, [.ref 4, .int x, .int y, .int (nI ky), .int (k_p Z n), .int (Z 5 7), .int (t_sm (Z 17) 0 n 0), .int (nI q), .int 0, .int (nI of), .int (nI wt), .int (nI wt), .int (nI (c * q))], [.int 1], hp Z2 P2 L)) rfl ?_
          exact e_ret hk_92 rfl rfl rfl rfl rfl
        · skip
          refine e_go hk_92 2 (c := (269, [.ref 4, .int x, .int y, .int (nI ky), .int (k_p Z n), .int (Z 5 7), .int (t_sm (Z 17) 0 n 0), .int (nI q), .int 0, .int (nI of), .int (nI wt), .int (nI wt), .int (nI (c * q))], [.int 8, .ref 4], hp Z2 P2 L)) rfl ?_
          refine e_call hk_92 (as := [.ref 4, .int 8]) (rest := []) rfl rfl hk_63 rfl (Nat.le_of_ble_eq_true rfl) rfl (a_c8 hQ2.1) ?_
          show e_r 92 272 [.ref 4, .int x, .int y, .int (nI ky), .int (k_p Z n), .int (Z 5 7), .int (t_sm (Z 17) 0 n 0), .int (nI q), .int 0, .int (nI of), .int (nI wt), .int (nI wt), .int (nI (c * q))] [.int (Z2 5 10)] (hp Z2 P2 L) _ _
          refine e_go hk_92 2 (c := (if s_cnd .lt (Z2 5 10) (nI wt) = true then 281 else 277, [.ref 4, .int x, .int y, .int (nI ky), .int (k_p Z n), .int (Z 5 7), .int (t_sm (Z 17) 0 n 0), .int (nI q), .int 0, .int (nI of), .int (nI wt), .int (nI wt), .int (nI (c * q))], [], hp Z2 P2 L)) rfl ?_
          refine e_lt (a := 281) (b := 277) (x := Z2 5 10) (y := nI wt) (fun hc274 => absurd hc274 (h10 hc263)) (fun hc274 => ?_)
          refine e_go hk_92 2 (c := (282, [.ref 4, .int x, .int y, .int (nI ky), .int (k_p Z n), .int (Z 5 7), .int (t_sm (Z 17) 0 n 0), .int (nI q), .int 0, .int (nI of), .int (nI wt), .int (nI wt), .int (nI (c * q))], [.int 1], hp Z2 P2 L)) rfl ?_
          exact e_ret hk_92 rfl rfl rfl rfl rfl
    · subst w2
      have hc1 : m_r 63 [.ref 4, .int 1] (hp Z2 P2 L) (some (.int (t_sm (Z 17) 0 n 0 + 0))) (hp Z2 P2 L) := by
        have z := a_c1 (P := P2) (L := L) hQ2.1
        rw [g8, if_neg w1] at z
        exact z
      refine e_go hk_92 3 (c := (if s_cnd .ge (nI of) 8 = true then 283 else 96, [.ref 4, .int x, .int y, .int (nI ky), .int (k_p Z n), .int (Z 5 7), .int (t_sm (Z 17) 0 n 0), .int (nI q), .int 1, .int (nI of), s_no, s_no, s_no], [], hp Z P L)) rfl ?_
      refine e_ge (a := 283) (b := 96) (x := nI of) (y := 8) (fun hc93 => absurd hc93 (h8)) (fun hc93 => ?_)
      refine e_go hk_92 2 (c := (98, [.ref 4, .int x, .int y, .int (nI ky), .int (k_p Z n), .int (Z 5 7), .int (t_sm (Z 17) 0 n 0), .int (nI q), .int 1, .int (nI of), s_no, s_no, s_no], [.int (nI ky), .ref 4], hp Z P L)) rfl ?_
      refine e_call hk_92 (as := [.ref 4, .int (nI ky)]) (rest := []) rfl rfl hk_70 rfl (Nat.le_of_ble_eq_true rfl) rfl g3 ?_
      show e_r 92 101 [.ref 4, .int x, .int y, .int (nI ky), .int (k_p Z n), .int (Z 5 7), .int (t_sm (Z 17) 0 n 0), .int (nI q), .int 1, .int (nI of), s_no, s_no, s_no] [.int (nI wt)] (hp Z P L) _ _
      refine e_go hk_92 7 (c := (112, [.ref 4, .int x, .int y, .int (nI ky), .int (k_p Z n), .int (Z 5 7), .int (t_sm (Z 17) 0 n 0), .int (nI q), .int 1, .int (nI of), .int (nI wt), s_no, s_no], [.int 1000, .int (y >>> (13 &&& 31)), .int (nI ky), .ref 4], hp Z P L)) rfl ?_
      refine e_call hk_92 (as := [.int (y >>> (13 &&& 31)), .int 1000]) (rest := [.int (nI ky), .ref 4]) rfl rfl hk_90 rfl (Nat.le_of_ble_eq_true rfl) rfl (show m_r 90 [.int (y >>> (13 &&& 31)), .int 1000] (hp Z P L) (some (.int (nI (l_u (y >>> (13 &&& 31)) 1000)))) (hp Z P L) from x_up (m := 1000) (by decide) (by decide)) ?_
      show e_r 92 115 [.ref 4, .int x, .int y, .int (nI ky), .int (k_p Z n), .int (Z 5 7), .int (t_sm (Z 17) 0 n 0), .int (nI q), .int 1, .int (nI of), .int (nI wt), s_no, s_no] [.int (nI (l_u (y >>> (13 &&& 31)) 1000)), .int (nI ky), .ref 4] (hp Z P L) _ _
      refine e_call hk_92 (as := [.ref 4, .int (nI ky), .int (nI (l_u (y >>> (13 &&& 31)) 1000))]) (rest := []) rfl rfl hk_58 rfl (Nat.le_of_ble_eq_true rfl) rfl g1 ?_
      show e_r 92 118 [.ref 4, .int x, .int y, .int (nI ky), .int (k_p Z n), .int (Z 5 7), .int (t_sm (Z 17) 0 n 0), .int (nI q), .int 1, .int (nI of), .int (nI wt), s_no, s_no] [.int (nI wt)] (hp Z2 P2 L) _ _
      refine e_go hk_92 4 (c := (if s_cnd .ne (nI wt) ((-4)) = true then 155 else 127, [.ref 4, .int x, .int y, .int (nI ky), .int (k_p Z n), .int (Z 5 7), .int (t_sm (Z 17) 0 n 0), .int (nI q), .int 1, .int (nI of), .int (nI wt), .int (nI wt), s_no], [], hp Z2 P2 L)) rfl ?_
      refine e_ne (a := 155) (b := 127) (x := nI wt) (y := (-4)) (fun hc124 => ?_) (fun hc124 => absurd hc124 (hn4))
      refine e_go hk_92 1 (c := (156, [.ref 4, .int x, .int y, .int (nI ky), .int (k_p Z n), .int (Z 5 7), .int (t_sm (Z 17) 0 n 0), .int (nI q), .int 1, .int (nI of), .int (nI wt), .int (nI wt), s_no], [.ref 4], hp Z2 P2 L)) rfl ?_
      refine e_call hk_92 (as := [.ref 4]) (rest := []) rfl rfl hk_91 rfl (Nat.le_of_ble_eq_true rfl) rfl hp2 ?_
      show e_r 92 159 [.ref 4, .int x, .int y, .int (nI ky), .int (k_p Z n), .int (Z 5 7), .int (t_sm (Z 17) 0 n 0), .int (nI q), .int 1, .int (nI of), .int (nI wt), .int (nI wt), s_no] [.int (k_p Z n + nI (c * q))] (hp Z2 P2 L) _ _
      refine e_go hk_92 2 (c := (162, [.ref 4, .int x, .int y, .int (nI ky), .int (k_p Z n), .int (Z 5 7), .int (t_sm (Z 17) 0 n 0), .int (nI q), .int 1, .int (nI of), .int (nI wt), .int (nI wt), s_no], [.int ((k_p Z n + nI (c * q)) - (k_p Z n))], hp Z2 P2 L)) rfl ?_
      rw [y_sub]
      refine e_go hk_92 4 (c := (if s_cnd .ne (nI wt) (nI wt) = true then 281 else 171, [.ref 4, .int x, .int y, .int (nI ky), .int (k_p Z n), .int (Z 5 7), .int (t_sm (Z 17) 0 n 0), .int (nI q), .int 1, .int (nI of), .int (nI wt), .int (nI wt), .int (nI (c * q))], [], hp Z2 P2 L)) rfl ?_
      refine e_ne (a := 281) (b := 171) (x := nI wt) (y := nI wt) (fun hc168 => absurd (rfl) hc168) (fun hc168 => ?_)
      refine e_go hk_92 2 (c := (173, [.ref 4, .int x, .int y, .int (nI ky), .int (k_p Z n), .int (Z 5 7), .int (t_sm (Z 17) 0 n 0), .int (nI q), .int 1, .int (nI of), .int (nI wt), .int (nI wt), .int (nI (c * q))], [.int 4, .ref 4], hp Z2 P2 L)) rfl ?_
      refine e_call hk_92 (as := [.ref 4, .int 4]) (rest := []) rfl rfl hk_63 rfl (Nat.le_of_ble_eq_true rfl) rfl hc4 ?_
      show e_r 92 176 [.ref 4, .int x, .int y, .int (nI ky), .int (k_p Z n), .int (Z 5 7), .int (t_sm (Z 17) 0 n 0), .int (nI q), .int 1, .int (nI of), .int (nI wt), .int (nI wt), .int (nI (c * q))] [.int (Z 5 7 + nI wt)] (hp Z2 P2 L) _ _
      refine e_go hk_92 4 (c := (if s_cnd .ne (Z 5 7 + nI wt) ((Z 5 7) + (nI wt)) = true then 281 else 184, [.ref 4, .int x, .int y, .int (nI ky), .int (k_p Z n), .int (Z 5 7), .int (t_sm (Z 17) 0 n 0), .int (nI q), .int 1, .int (nI of), .int (nI wt), .int (nI wt), .int (nI (c * q))], [], hp Z2 P2 L)) rfl ?_
      refine e_ne (a := 281) (b := 184) (x := Z 5 7 + nI wt) (y := (Z 5 7) + (nI wt)) (fun hc181 => absurd (rfl) hc181) (fun hc181 => ?_)
      refine e_go hk_92 2 (c := (186, [.ref 4, .int x, .int y, .int (nI ky), .int (k_p Z n), .int (Z 5 7), .int (t_sm (Z 17) 0 n 0), .int (nI q), .int 1, .int (nI of), .int (nI wt), .int (nI wt), .int (nI (c * q))], [.int (nI ky), .ref 4], hp Z2 P2 L)) rfl ?_
      refine e_call hk_92 (as := [.ref 4, .int (nI ky)]) (rest := []) rfl rfl hk_61 rfl (Nat.le_of_ble_eq_true rfl) rfl hvl ?_
      show e_r 92 189 [.ref 4, .int x, .int y, .int (nI ky), .int (k_p Z n), .int (Z 5 7), .int (t_sm (Z 17) 0 n 0), .int (nI q), .int 1, .int (nI of), .int (nI wt), .int (nI wt), .int (nI (c * q))] [.int (nI (l_u (y >>> (13 &&& 31)) 1000))] (hp Z2 P2 L) _ _
      refine e_go hk_92 4 (c := (196, [.ref 4, .int x, .int y, .int (nI ky), .int (k_p Z n), .int (Z 5 7), .int (t_sm (Z 17) 0 n 0), .int (nI q), .int 1, .int (nI of), .int (nI wt), .int (nI wt), .int (nI (c * q))], [.int 1000, .int (y >>> (13 &&& 31)), .int (nI (l_u (y >>> (13 &&& 31)) 1000))], hp Z2 P2 L)) rfl ?_
      refine e_call hk_92 (as := [.int (y >>> (13 &&& 31)), .int 1000]) (rest := [.int (nI (l_u (y >>> (13 &&& 31)) 1000))]) rfl rfl hk_90 rfl (Nat.le_of_ble_eq_true rfl) rfl (show m_r 90 [.int (y >>> (13 &&& 31)), .int 1000] (hp Z2 P2 L) (some (.int (nI (l_u (y >>> (13 &&& 31)) 1000)))) (hp Z2 P2 L) from x_up (m := 1000) (by decide) (by decide)) ?_
      show e_r 92 199 [.ref 4, .int x, .int y, .int (nI ky), .int (k_p Z n), .int (Z 5 7), .int (t_sm (Z 17) 0 n 0), .int (nI q), .int 1, .int (nI of), .int (nI wt), .int (nI wt), .int (nI (c * q))] [.int (nI (l_u (y >>> (13 &&& 31)) 1000)), .int (nI (l_u (y >>> (13 &&& 31)) 1000))] (hp Z2 P2 L) _ _
      refine e_go hk_92 1 (c := (if s_cnd .ne (nI (l_u (y >>> (13 &&& 31)) 1000)) (nI (l_u (y >>> (13 &&& 31)) 1000)) = true then 281 else 202, [.ref 4, .int x, .int y, .int (nI ky), .int (k_p Z n), .int (Z 5 7), .int (t_sm (Z 17) 0 n 0), .int (nI q), .int 1, .int (nI of), .int (nI wt), .int (nI wt), .int (nI (c * q))], [], hp Z2 P2 L)) rfl ?_
      refine e_ne (a := 281) (b := 202) (x := nI (l_u (y >>> (13 &&& 31)) 1000)) (y := nI (l_u (y >>> (13 &&& 31)) 1000)) (fun hc199 => absurd (rfl) hc199) (fun hc199 => ?_)
      refine e_go hk_92 2 (c := (204, [.ref 4, .int x, .int y, .int (nI ky), .int (k_p Z n), .int (Z 5 7), .int (t_sm (Z 17) 0 n 0), .int (nI q), .int 1, .int (nI of), .int (nI wt), .int (nI wt), .int (nI (c * q))], [.int 1, .ref 4], hp Z2 P2 L)) rfl ?_
      refine e_call hk_92 (as := [.ref 4, .int 1]) (rest := []) rfl rfl hk_63 rfl (Nat.le_of_ble_eq_true rfl) rfl hc1 ?_
      show e_r 92 207 [.ref 4, .int x, .int y, .int (nI ky), .int (k_p Z n), .int (Z 5 7), .int (t_sm (Z 17) 0 n 0), .int (nI q), .int 1, .int (nI of), .int (nI wt), .int (nI wt), .int (nI (c * q))] [.int (t_sm (Z 17) 0 n 0 + 0)] (hp Z2 P2 L) _ _
      refine e_go hk_92 3 (c := (if s_cnd .eq 1 0 = true then 218 else 214, [.ref 4, .int x, .int y, .int (nI ky), .int (k_p Z n), .int (Z 5 7), .int (t_sm (Z 17) 0 n 0), .int (nI q), .int 1, .int (nI of), .int (nI wt), .int (nI wt), .int (nI (c * q))], [.int (t_sm (Z 17) 0 n 0), .int (t_sm (Z 17) 0 n 0 + 0)], hp Z2 P2 L)) rfl ?_
      refine e_eq (a := 218) (b := 214) (x := 1) (y := 0) (fun hc211 => absurd hc211 (by decide)) (fun hc211 => ?_)
      refine e_go hk_92 4 (c := (if s_cnd .ne (t_sm (Z 17) 0 n 0 + 0) ((t_sm (Z 17) 0 n 0) + 0) = true then 281 else 223, [.ref 4, .int x, .int y, .int (nI ky), .int (k_p Z n), .int (Z 5 7), .int (t_sm (Z 17) 0 n 0), .int (nI q), .int 1, .int (nI of), .int (nI wt), .int (nI wt), .int (nI (c * q))], [], hp Z2 P2 L)) rfl ?_
      refine e_ne (a := 281) (b := 223) (x := t_sm (Z 17) 0 n 0 + 0) (y := (t_sm (Z 17) 0 n 0) + 0) (fun hc220 => absurd (rfl) hc220) (fun hc220 => ?_)
      refine e_go hk_92 2 (c := (if s_cnd .ne (nI q) 0 = true then 236 else 228, [.ref 4, .int x, .int y, .int (nI ky), .int (k_p Z n), .int (Z 5 7), .int (t_sm (Z 17) 0 n 0), .int (nI q), .int 1, .int (nI of), .int (nI wt), .int (nI wt), .int (nI (c * q))], [], hp Z2 P2 L)) rfl ?_
      refine e_ne (a := 236) (b := 228) (x := nI q) (y := 0) (fun hc225 => ?_) (fun hc225 => ?_)
      · skip
        refine e_go hk_92 2 (c := (240, [.ref 4, .int x, .int y, .int (nI ky), .int (k_p Z n), .int (Z 5 7), .int (t_sm (Z 17) 0 n 0), .int (nI q), .int 1, .int (nI of), .int (nI wt), .int (nI wt), .int (nI (c * q))], [.int (nI q), .int (nI (c * q))], hp Z2 P2 L)) rfl ?_
        refine e_irem hk_92 (x := nI (c * q)) (y := nI q) rfl rfl hc225 ?_
        rw [(p2 hc225).1]
        show e_r 92 241 [.ref 4, .int x, .int y, .int (nI ky), .int (k_p Z n), .int (Z 5 7), .int (t_sm (Z 17) 0 n 0), .int (nI q), .int 1, .int (nI of), .int (nI wt), .int (nI wt), .int (nI (c * q))] [.int 0] (hp Z2 P2 L) _ _
        refine e_go hk_92 1 (c := (if s_cnd .ne 0 0 = true then 281 else 244, [.ref 4, .int x, .int y, .int (nI ky), .int (k_p Z n), .int (Z 5 7), .int (t_sm (Z 17) 0 n 0), .int (nI q), .int 1, .int (nI of), .int (nI wt), .int (nI wt), .int (nI (c * q))], [], hp Z2 P2 L)) rfl ?_
        refine e_ne (a := 281) (b := 244) (x := 0) (y := 0) (fun hc241 => absurd (rfl) hc241) (fun hc241 => ?_)
        refine e_go hk_92 3 (c := (if s_cnd .lt (nI (c * q)) (nI q) = true then 281 else 251, [.ref 4, .int x, .int y, .int (nI ky), .int (k_p Z n), .int (Z 5 7), .int (t_sm (Z 17) 0 n 0), .int (nI q), .int 1, .int (nI of), .int (nI wt), .int (nI wt), .int (nI (c * q))], [], hp Z2 P2 L)) rfl ?_
        refine e_lt (a := 281) (b := 251) (x := nI (c * q)) (y := nI q) (fun hc248 => absurd hc248 ((p2 hc225).2.1)) (fun hc248 => ?_)
        refine e_go hk_92 5 (c := (if s_cnd .gt (nI (c * q)) ((60 : Int32) * (nI q)) = true then 281 else 261, [.ref 4, .int x, .int y, .int (nI ky), .int (k_p Z n), .int (Z 5 7), .int (t_sm (Z 17) 0 n 0), .int (nI q), .int 1, .int (nI of), .int (nI wt), .int (nI wt), .int (nI (c * q))], [], hp Z2 P2 L)) rfl ?_
        refine e_gt (a := 281) (b := 261) (x := nI (c * q)) (y := (60 : Int32) * (nI q)) (fun hc258 => absurd hc258 ((p2 hc225).2.2)) (fun hc258 => ?_)
        refine e_go hk_92 2 (c := (if s_cnd .eq (nI wt) 0 = true then 277 else 266, [.ref 4, .int x, .int y, .int (nI ky), .int (k_p Z n), .int (Z 5 7), .int (t_sm (Z 17) 0 n 0), .int (nI q), .int 1, .int (nI of), .int (nI wt), .int (nI wt), .int (nI (c * q))], [], hp Z2 P2 L)) rfl ?_
        refine e_eq (a := 277) (b := 266) (x := nI wt) (y := 0) (fun hc263 => ?_) (fun hc263 => ?_)
        · skip
          refine e_go hk_92 2 (c := (282, [.ref 4, .int x, .int y, .int (nI ky), .int (k_p Z n), .int (Z 5 7), .int (t_sm (Z 17) 0 n 0), .int (nI q), .int 1, .int (nI of), .int (nI wt), .int (nI wt), .int (nI (c * q))], [.int 1], hp Z2 P2 L)) rfl ?_
          exact e_ret hk_92 rfl rfl rfl rfl rfl
        · skip
          refine e_go hk_92 2 (c := (269, [.ref 4, .int x, .int y, .int (nI ky), .int (k_p Z n), .int (Z 5 7), .int (t_sm (Z 17) 0 n 0), .int (nI q), .int 1, .int (nI of), .int (nI wt), .int (nI wt), .int (nI (c * q))], [.int 8, .ref 4], hp Z2 P2 L)) rfl ?_
          refine e_call hk_92 (as := [.ref 4, .int 8]) (rest := []) rfl rfl hk_63 rfl (Nat.le_of_ble_eq_true rfl) rfl (a_c8 hQ2.1) ?_
          show e_r 92 272 [.ref 4, .int x, .int y, .int (nI ky), .int (k_p Z n), .int (Z 5 7), .int (t_sm (Z 17) 0 n 0), .int (nI q), .int 1, .int (nI of), .int (nI wt), .int (nI wt), .int (nI (c * q))] [.int (Z2 5 10)] (hp Z2 P2 L) _ _
          refine e_go hk_92 2 (c := (if s_cnd .lt (Z2 5 10) (nI wt) = true then 281 else 277, [.ref 4, .int x, .int y, .int (nI ky), .int (k_p Z n), .int (Z 5 7), .int (t_sm (Z 17) 0 n 0), .int (nI q), .int 1, .int (nI of), .int (nI wt), .int (nI wt), .int (nI (c * q))], [], hp Z2 P2 L)) rfl ?_
          refine e_lt (a := 281) (b := 277) (x := Z2 5 10) (y := nI wt) (fun hc274 => absurd hc274 (h10 hc263)) (fun hc274 => ?_)
          refine e_go hk_92 2 (c := (282, [.ref 4, .int x, .int y, .int (nI ky), .int (k_p Z n), .int (Z 5 7), .int (t_sm (Z 17) 0 n 0), .int (nI q), .int 1, .int (nI of), .int (nI wt), .int (nI wt), .int (nI (c * q))], [.int 1], hp Z2 P2 L)) rfl ?_
          exact e_ret hk_92 rfl rfl rfl rfl rfl
      · skip
        refine e_go hk_92 2 (c := (if s_cnd .ne (nI (c * q)) 0 = true then 281 else 233, [.ref 4, .int x, .int y, .int (nI ky), .int (k_p Z n), .int (Z 5 7), .int (t_sm (Z 17) 0 n 0), .int (nI q), .int 1, .int (nI of), .int (nI wt), .int (nI wt), .int (nI (c * q))], [], hp Z2 P2 L)) rfl ?_
        refine e_ne (a := 281) (b := 233) (x := nI (c * q)) (y := 0) (fun hc230 => absurd (p1 hc225) hc230) (fun hc230 => ?_)
        refine e_go hk_92 3 (c := (if s_cnd .eq (nI wt) 0 = true then 277 else 266, [.ref 4, .int x, .int y, .int (nI ky), .int (k_p Z n), .int (Z 5 7), .int (t_sm (Z 17) 0 n 0), .int (nI q), .int 1, .int (nI of), .int (nI wt), .int (nI wt), .int (nI (c * q))], [], hp Z2 P2 L)) rfl ?_
        refine e_eq (a := 277) (b := 266) (x := nI wt) (y := 0) (fun hc263 => ?_) (fun hc263 => ?_)
        · skip
          refine e_go hk_92 2 (c := (282, [.ref 4, .int x, .int y, .int (nI ky), .int (k_p Z n), .int (Z 5 7), .int (t_sm (Z 17) 0 n 0), .int (nI q), .int 1, .int (nI of), .int (nI wt), .int (nI wt), .int (nI (c * q))], [.int 1], hp Z2 P2 L)) rfl ?_
          exact e_ret hk_92 rfl rfl rfl rfl rfl
        · skip
          refine e_go hk_92 2 (c := (269, [.ref 4, .int x, .int y, .int (nI ky), .int (k_p Z n), .int (Z 5 7), .int (t_sm (Z 17) 0 n 0), .int (nI q), .int 1, .int (nI of), .int (nI wt), .int (nI wt), .int (nI (c * q))], [.int 8, .ref 4], hp Z2 P2 L)) rfl ?_
          refine e_call hk_92 (as := [.ref 4, .int 8]) (rest := []) rfl rfl hk_63 rfl (Nat.le_of_ble_eq_true rfl) rfl (a_c8 hQ2.1) ?_
          show e_r 92 272 [.ref 4, .int x, .int y, .int (nI ky), .int (k_p Z n), .int (Z 5 7), .int (t_sm (Z 17) 0 n 0), .int (nI q), .int 1, .int (nI of), .int (nI wt), .int (nI wt), .int (nI (c * q))] [.int (Z2 5 10)] (hp Z2 P2 L) _ _
          refine e_go hk_92 2 (c := (if s_cnd .lt (Z2 5 10) (nI wt) = true then 281 else 277, [.ref 4, .int x, .int y, .int (nI ky), .int (k_p Z n), .int (Z 5 7), .int (t_sm (Z 17) 0 n 0), .int (nI q), .int 1, .int (nI of), .int (nI wt), .int (nI wt), .int (nI (c * q))], [], hp Z2 P2 L)) rfl ?_
          refine e_lt (a := 281) (b := 277) (x := Z2 5 10) (y := nI wt) (fun hc274 => absurd hc274 (h10 hc263)) (fun hc274 => ?_)
          refine e_go hk_92 2 (c := (282, [.ref 4, .int x, .int y, .int (nI ky), .int (k_p Z n), .int (Z 5 7), .int (t_sm (Z 17) 0 n 0), .int (nI q), .int 1, .int (nI of), .int (nI wt), .int (nI wt), .int (nI (c * q))], [.int 1], hp Z2 P2 L)) rfl ?_
          exact e_ret hk_92 rfl rfl rfl rfl rfl
set_option maxRecDepth 20000 in
theorem st_rem {Z : Nat → Nat → Int32} {P : Nat → Nat} {L n m q : Nat} (hQ : K_Q Z P n m q) {x y w : Int32} {ky of : Nat} (hk : ky ≤ 999) (hw : l_is Z n (nI ky) w) (h8 : 8 ≤ nI of) (h11 : ¬ 11 ≤ nI of) : ∃ (Z2 : Nat → Nat → Int32) (P2 : Nat → Nat), K_G Z2 P2 ∧ e_r 92 89 [.ref 4, .int x, .int y, .int (nI ky), .int (k_p Z n), .int (Z 5 7), .int (t_sm (Z 17) 0 n 0), .int (nI q), .int w, .int (nI of), s_no, s_no, s_no] [] (hp Z P L) (some (.int 1)) (hp Z2 P2 L) := by
  rcases q_rem (L := L) hQ hk with ⟨g1, g2⟩ | ⟨g0, Z2, P2, n2, m2, wt, c, hQ2, g1, g2, g4, g5, g6, g7, g8, g9⟩
  · have hw0 : w = 0 := hw.elim (fun z => z.2) (fun z => absurd g1 z.1)
    subst hw0
    refine ⟨Z, P, ⟨n, m, q, hQ⟩, ?_⟩
    refine e_go hk_92 3 (c := (if s_cnd .ge (nI of) 8 = true then 283 else 96, [.ref 4, .int x, .int y, .int (nI ky), .int (k_p Z n), .int (Z 5 7), .int (t_sm (Z 17) 0 n 0), .int (nI q), .int 0, .int (nI of), s_no, s_no, s_no], [], hp Z P L)) rfl ?_
    refine e_ge (a := 283) (b := 96) (x := nI of) (y := 8) (fun hc93 => ?_) (fun hc93 => absurd (h8) hc93)
    refine e_go hk_92 3 (c := (if s_cnd .ge (nI of) 11 = true then 415 else 290, [.ref 4, .int x, .int y, .int (nI ky), .int (k_p Z n), .int (Z 5 7), .int (t_sm (Z 17) 0 n 0), .int (nI q), .int 0, .int (nI of), s_no, s_no, s_no], [], hp Z P L)) rfl ?_
    refine e_ge (a := 415) (b := 290) (x := nI of) (y := 11) (fun hc287 => absurd hc287 (h11)) (fun hc287 => ?_)
    refine e_go hk_92 2 (c := (292, [.ref 4, .int x, .int y, .int (nI ky), .int (k_p Z n), .int (Z 5 7), .int (t_sm (Z 17) 0 n 0), .int (nI q), .int 0, .int (nI of), s_no, s_no, s_no], [.int (nI ky), .ref 4], hp Z P L)) rfl ?_
    refine e_call hk_92 (as := [.ref 4, .int (nI ky)]) (rest := []) rfl rfl hk_59 rfl (Nat.le_of_ble_eq_true rfl) rfl g2 ?_
    show e_r 92 295 [.ref 4, .int x, .int y, .int (nI ky), .int (k_p Z n), .int (Z 5 7), .int (t_sm (Z 17) 0 n 0), .int (nI q), .int 0, .int (nI of), s_no, s_no, s_no] [.int ((-1))] (hp Z P L) _ _
    refine e_go hk_92 4 (c := (if s_cnd .ne ((-1)) ((-1)) = true then 314 else 303, [.ref 4, .int x, .int y, .int (nI ky), .int (k_p Z n), .int (Z 5 7), .int (t_sm (Z 17) 0 n 0), .int (nI q), .int 0, .int (nI of), .int ((-1)), s_no, s_no], [], hp Z P L)) rfl ?_
    refine e_ne (a := 314) (b := 303) (x := (-1)) (y := (-1)) (fun hc300 => absurd (rfl) hc300) (fun hc300 => ?_)
    refine e_go hk_92 2 (c := (if s_cnd .ne 0 0 = true then 312 else 308, [.ref 4, .int x, .int y, .int (nI ky), .int (k_p Z n), .int (Z 5 7), .int (t_sm (Z 17) 0 n 0), .int (nI q), .int 0, .int (nI of), .int ((-1)), s_no, s_no], [], hp Z P L)) rfl ?_
    refine e_ne (a := 312) (b := 308) (x := 0) (y := 0) (fun hc305 => absurd (rfl) hc305) (fun hc305 => ?_)
    refine e_go hk_92 2 (c := (313, [.ref 4, .int x, .int y, .int (nI ky), .int (k_p Z n), .int (Z 5 7), .int (t_sm (Z 17) 0 n 0), .int (nI q), .int 0, .int (nI of), .int ((-1)), s_no, s_no], [.int 1], hp Z P L)) rfl ?_
    exact e_ret hk_92 rfl rfl rfl rfl rfl
  · have hw1 : w = 1 := hw.elim (fun z => absurd z.1 g0) (fun z => z.2)
    subst hw1
    have hp2 : m_r 91 [.ref 4] (hp Z2 P2 L) (some (.int (k_p Z n + nI (c * q)))) (hp Z2 P2 L) := by rw [← g5]; exact x_paid hQ2.1
    have hc4 : m_r 63 [.ref 4, .int 4] (hp Z2 P2 L) (some (.int (Z 5 7 + nI wt))) (hp Z2 P2 L) := by rw [← g4]; exact a_c4 hQ2.1
    have hvl : m_r 61 [.ref 4, .int (nI ky)] (hp Z2 P2 L) (some (.int (-6))) (hp Z2 P2 L) := by rw [← g7]; exact a_val hQ2.1
    have hc1 : m_r 63 [.ref 4, .int 1] (hp Z2 P2 L) (some (.int (t_sm (Z 17) 0 n 0 - 1))) (hp Z2 P2 L) := by rw [← g8]; exact a_c1 hQ2.1
    obtain ⟨p1, p2⟩ := w_pay g6 hQ.2.1.2.2.2
    have hn4 := w_ne (Or.inl rfl) wt g2
    have h10 : ¬ nI wt = 0 → nI n2 = t_sm (Z2 17) 0 n2 0 := fun z => g9.resolve_left (fun y => z (by rw [y]; rfl))
    refine ⟨Z2, P2, ⟨n2, m2, q, hQ2⟩, ?_⟩
    refine e_go hk_92 3 (c := (if s_cnd .ge (nI of) 8 = true then 283 else 96, [.ref 4, .int x, .int y, .int (nI ky), .int (k_p Z n), .int (Z 5 7), .int (t_sm (Z 17) 0 n 0), .int (nI q), .int 1, .int (nI of), s_no, s_no, s_no], [], hp Z P L)) rfl ?_
    refine e_ge (a := 283) (b := 96) (x := nI of) (y := 8) (fun hc93 => ?_) (fun hc93 => absurd (h8) hc93)
    refine e_go hk_92 3 (c := (if s_cnd .ge (nI of) 11 = true then 415 else 290, [.ref 4, .int x, .int y, .int (nI ky), .int (k_p Z n), .int (Z 5 7), .int (t_sm (Z 17) 0 n 0), .int (nI q), .int 1, .int (nI of), s_no, s_no, s_no], [], hp Z P L)) rfl ?_
    refine e_ge (a := 415) (b := 290) (x := nI of) (y := 11) (fun hc287 => absurd hc287 (h11)) (fun hc287 => ?_)
    refine e_go hk_92 2 (c := (292, [.ref 4, .int x, .int y, .int (nI ky), .int (k_p Z n), .int (Z 5 7), .int (t_sm (Z 17) 0 n 0), .int (nI q), .int 1, .int (nI of), s_no, s_no, s_no], [.int (nI ky), .ref 4], hp Z P L)) rfl ?_
    refine e_call hk_92 (as := [.ref 4, .int (nI ky)]) (rest := []) rfl rfl hk_59 rfl (Nat.le_of_ble_eq_true rfl) rfl g1 ?_
    show e_r 92 295 [.ref 4, .int x, .int y, .int (nI ky), .int (k_p Z n), .int (Z 5 7), .int (t_sm (Z 17) 0 n 0), .int (nI q), .int 1, .int (nI of), s_no, s_no, s_no] [.int (nI wt)] (hp Z2 P2 L) _ _
    refine e_go hk_92 4 (c := (if s_cnd .ne (nI wt) ((-1)) = true then 314 else 303, [.ref 4, .int x, .int y, .int (nI ky), .int (k_p Z n), .int (Z 5 7), .int (t_sm (Z 17) 0 n 0), .int (nI q), .int 1, .int (nI of), .int (nI wt), s_no, s_no], [], hp Z2 P2 L)) rfl ?_
    refine e_ne (a := 314) (b := 303) (x := nI wt) (y := (-1)) (fun hc300 => ?_) (fun hc300 => absurd hc300 (hn4))
    refine e_go hk_92 1 (c := (315, [.ref 4, .int x, .int y, .int (nI ky), .int (k_p Z n), .int (Z 5 7), .int (t_sm (Z 17) 0 n 0), .int (nI q), .int 1, .int (nI of), .int (nI wt), s_no, s_no], [.ref 4], hp Z2 P2 L)) rfl ?_
    refine e_call hk_92 (as := [.ref 4]) (rest := []) rfl rfl hk_91 rfl (Nat.le_of_ble_eq_true rfl) rfl hp2 ?_
    show e_r 92 318 [.ref 4, .int x, .int y, .int (nI ky), .int (k_p Z n), .int (Z 5 7), .int (t_sm (Z 17) 0 n 0), .int (nI q), .int 1, .int (nI of), .int (nI wt), s_no, s_no] [.int (k_p Z n + nI (c * q))] (hp Z2 P2 L) _ _
    refine e_go hk_92 2 (c := (321, [.ref 4, .int x, .int y, .int (nI ky), .int (k_p Z n), .int (Z 5 7), .int (t_sm (Z 17) 0 n 0), .int (nI q), .int 1, .int (nI of), .int (nI wt), s_no, s_no], [.int ((k_p Z n + nI (c * q)) - (k_p Z n))], hp Z2 P2 L)) rfl ?_
    rw [y_sub]
    refine e_go hk_92 3 (c := (if s_cnd .eq 1 0 = true then 413 else 328, [.ref 4, .int x, .int y, .int (nI ky), .int (k_p Z n), .int (Z 5 7), .int (t_sm (Z 17) 0 n 0), .int (nI q), .int 1, .int (nI of), .int (nI wt), .int (nI (c * q)), s_no], [], hp Z2 P2 L)) rfl ?_
    refine e_eq (a := 413) (b := 328) (x := 1) (y := 0) (fun hc325 => absurd hc325 (by decide)) (fun hc325 => ?_)
    refine e_go hk_92 2 (c := (330, [.ref 4, .int x, .int y, .int (nI ky), .int (k_p Z n), .int (Z 5 7), .int (t_sm (Z 17) 0 n 0), .int (nI q), .int 1, .int (nI of), .int (nI wt), .int (nI (c * q)), s_no], [.int (nI ky), .ref 4], hp Z2 P2 L)) rfl ?_
    refine e_call hk_92 (as := [.ref 4, .int (nI ky)]) (rest := []) rfl rfl hk_61 rfl (Nat.le_of_ble_eq_true rfl) rfl hvl ?_
    show e_r 92 333 [.ref 4, .int x, .int y, .int (nI ky), .int (k_p Z n), .int (Z 5 7), .int (t_sm (Z 17) 0 n 0), .int (nI q), .int 1, .int (nI of), .int (nI wt), .int (nI (c * q)), s_no] [.int ((-6))] (hp Z2 P2 L) _ _
    refine e_go hk_92 2 (c := (if s_cnd .ne ((-6)) ((-6)) = true then 413 else 338, [.ref 4, .int x, .int y, .int (nI ky), .int (k_p Z n), .int (Z 5 7), .int (t_sm (Z 17) 0 n 0), .int (nI q), .int 1, .int (nI of), .int (nI wt), .int (nI (c * q)), s_no], [], hp Z2 P2 L)) rfl ?_
    refine e_ne (a := 413) (b := 338) (x := (-6)) (y := (-6)) (fun hc335 => absurd (rfl) hc335) (fun hc335 => ?_)
    refine e_go hk_92 2 (c := (340, [.ref 4, .int x, .int y, .int (nI ky), .int (k_p Z n), .int (Z 5 7), .int (t_sm (Z 17) 0 n 0), .int (nI q), .int 1, .int (nI of), .int (nI wt), .int (nI (c * q)), s_no], [.int 1, .ref 4], hp Z2 P2 L)) rfl ?_
    refine e_call hk_92 (as := [.ref 4, .int 1]) (rest := []) rfl rfl hk_63 rfl (Nat.le_of_ble_eq_true rfl) rfl hc1 ?_
    show e_r 92 343 [.ref 4, .int x, .int y, .int (nI ky), .int (k_p Z n), .int (Z 5 7), .int (t_sm (Z 17) 0 n 0), .int (nI q), .int 1, .int (nI of), .int (nI wt), .int (nI (c * q)), s_no] [.int (t_sm (Z 17) 0 n 0 - 1)] (hp Z2 P2 L) _ _
    refine e_go hk_92 4 (c := (if s_cnd .ne (t_sm (Z 17) 0 n 0 - 1) ((t_sm (Z 17) 0 n 0) - 1) = true then 413 else 350, [.ref 4, .int x, .int y, .int (nI ky), .int (k_p Z n), .int (Z 5 7), .int (t_sm (Z 17) 0 n 0), .int (nI q), .int 1, .int (nI of), .int (nI wt), .int (nI (c * q)), s_no], [], hp Z2 P2 L)) rfl ?_
    refine e_ne (a := 413) (b := 350) (x := t_sm (Z 17) 0 n 0 - 1) (y := (t_sm (Z 17) 0 n 0) - 1) (fun hc347 => absurd (rfl) hc347) (fun hc347 => ?_)
    refine e_go hk_92 2 (c := (352, [.ref 4, .int x, .int y, .int (nI ky), .int (k_p Z n), .int (Z 5 7), .int (t_sm (Z 17) 0 n 0), .int (nI q), .int 1, .int (nI of), .int (nI wt), .int (nI (c * q)), s_no], [.int 4, .ref 4], hp Z2 P2 L)) rfl ?_
    refine e_call hk_92 (as := [.ref 4, .int 4]) (rest := []) rfl rfl hk_63 rfl (Nat.le_of_ble_eq_true rfl) rfl hc4 ?_
    show e_r 92 355 [.ref 4, .int x, .int y, .int (nI ky), .int (k_p Z n), .int (Z 5 7), .int (t_sm (Z 17) 0 n 0), .int (nI q), .int 1, .int (nI of), .int (nI wt), .int (nI (c * q)), s_no] [.int (Z 5 7 + nI wt)] (hp Z2 P2 L) _ _
    refine e_go hk_92 4 (c := (if s_cnd .ne (Z 5 7 + nI wt) ((Z 5 7) + (nI wt)) = true then 413 else 363, [.ref 4, .int x, .int y, .int (nI ky), .int (k_p Z n), .int (Z 5 7), .int (t_sm (Z 17) 0 n 0), .int (nI q), .int 1, .int (nI of), .int (nI wt), .int (nI (c * q)), s_no], [], hp Z2 P2 L)) rfl ?_
    refine e_ne (a := 413) (b := 363) (x := Z 5 7 + nI wt) (y := (Z 5 7) + (nI wt)) (fun hc360 => absurd (rfl) hc360) (fun hc360 => ?_)
    refine e_go hk_92 2 (c := (if s_cnd .ne (nI q) 0 = true then 376 else 368, [.ref 4, .int x, .int y, .int (nI ky), .int (k_p Z n), .int (Z 5 7), .int (t_sm (Z 17) 0 n 0), .int (nI q), .int 1, .int (nI of), .int (nI wt), .int (nI (c * q)), s_no], [], hp Z2 P2 L)) rfl ?_
    refine e_ne (a := 376) (b := 368) (x := nI q) (y := 0) (fun hc365 => ?_) (fun hc365 => ?_)
    · skip
      refine e_go hk_92 2 (c := (380, [.ref 4, .int x, .int y, .int (nI ky), .int (k_p Z n), .int (Z 5 7), .int (t_sm (Z 17) 0 n 0), .int (nI q), .int 1, .int (nI of), .int (nI wt), .int (nI (c * q)), s_no], [.int (nI q), .int (nI (c * q))], hp Z2 P2 L)) rfl ?_
      refine e_irem hk_92 (x := nI (c * q)) (y := nI q) rfl rfl hc365 ?_
      rw [(p2 hc365).1]
      show e_r 92 381 [.ref 4, .int x, .int y, .int (nI ky), .int (k_p Z n), .int (Z 5 7), .int (t_sm (Z 17) 0 n 0), .int (nI q), .int 1, .int (nI of), .int (nI wt), .int (nI (c * q)), s_no] [.int 0] (hp Z2 P2 L) _ _
      refine e_go hk_92 1 (c := (if s_cnd .ne 0 0 = true then 413 else 384, [.ref 4, .int x, .int y, .int (nI ky), .int (k_p Z n), .int (Z 5 7), .int (t_sm (Z 17) 0 n 0), .int (nI q), .int 1, .int (nI of), .int (nI wt), .int (nI (c * q)), s_no], [], hp Z2 P2 L)) rfl ?_
      refine e_ne (a := 413) (b := 384) (x := 0) (y := 0) (fun hc381 => absurd (rfl) hc381) (fun hc381 => ?_)
      refine e_go hk_92 3 (c := (if s_cnd .lt (nI (c * q)) (nI q) = true then 413 else 391, [.ref 4, .int x, .int y, .int (nI ky), .int (k_p Z n), .int (Z 5 7), .int (t_sm (Z 17) 0 n 0), .int (nI q), .int 1, .int (nI of), .int (nI wt), .int (nI (c * q)), s_no], [], hp Z2 P2 L)) rfl ?_
      refine e_lt (a := 413) (b := 391) (x := nI (c * q)) (y := nI q) (fun hc388 => absurd hc388 ((p2 hc365).2.1)) (fun hc388 => ?_)
      refine e_go hk_92 2 (c := (if s_cnd .eq (nI wt) 0 = true then 409 else 396, [.ref 4, .int x, .int y, .int (nI ky), .int (k_p Z n), .int (Z 5 7), .int (t_sm (Z 17) 0 n 0), .int (nI q), .int 1, .int (nI of), .int (nI wt), .int (nI (c * q)), s_no], [], hp Z2 P2 L)) rfl ?_
      refine e_eq (a := 409) (b := 396) (x := nI wt) (y := 0) (fun hc393 => ?_) (fun hc393 => ?_)
      · skip
        refine e_go hk_92 2 (c := (414, [.ref 4, .int x, .int y, .int (nI ky), .int (k_p Z n), .int (Z 5 7), .int (t_sm (Z 17) 0 n 0), .int (nI q), .int 1, .int (nI of), .int (nI wt), .int (nI (c * q)), s_no], [.int 1], hp Z2 P2 L)) rfl ?_
        exact e_ret hk_92 rfl rfl rfl rfl rfl
      · skip
        refine e_go hk_92 2 (c := (398, [.ref 4, .int x, .int y, .int (nI ky), .int (k_p Z n), .int (Z 5 7), .int (t_sm (Z 17) 0 n 0), .int (nI q), .int 1, .int (nI of), .int (nI wt), .int (nI (c * q)), s_no], [.int 0, .ref 4], hp Z2 P2 L)) rfl ?_
        refine e_call hk_92 (as := [.ref 4, .int 0]) (rest := []) rfl rfl hk_63 rfl (Nat.le_of_ble_eq_true rfl) rfl (a_c0 hQ2.1) ?_
        show e_r 92 401 [.ref 4, .int x, .int y, .int (nI ky), .int (k_p Z n), .int (Z 5 7), .int (t_sm (Z 17) 0 n 0), .int (nI q), .int 1, .int (nI of), .int (nI wt), .int (nI (c * q)), s_no] [.int (nI n2)] (hp Z2 P2 L) _ _
        refine e_go hk_92 2 (c := (403, [.ref 4, .int x, .int y, .int (nI ky), .int (k_p Z n), .int (Z 5 7), .int (t_sm (Z 17) 0 n 0), .int (nI q), .int 1, .int (nI of), .int (nI wt), .int (nI (c * q)), s_no], [.int 1, .ref 4, .int (nI n2)], hp Z2 P2 L)) rfl ?_
        refine e_call hk_92 (as := [.ref 4, .int 1]) (rest := [.int (nI n2)]) rfl rfl hk_63 rfl (Nat.le_of_ble_eq_true rfl) rfl (a_c1 hQ2.1) ?_
        show e_r 92 406 [.ref 4, .int x, .int y, .int (nI ky), .int (k_p Z n), .int (Z 5 7), .int (t_sm (Z 17) 0 n 0), .int (nI q), .int 1, .int (nI of), .int (nI wt), .int (nI (c * q)), s_no] [.int (t_sm (Z2 17) 0 n2 0), .int (nI n2)] (hp Z2 P2 L) _ _
        refine e_go hk_92 1 (c := (if s_cnd .ne (nI n2) (t_sm (Z2 17) 0 n2 0) = true then 413 else 409, [.ref 4, .int x, .int y, .int (nI ky), .int (k_p Z n), .int (Z 5 7), .int (t_sm (Z 17) 0 n 0), .int (nI q), .int 1, .int (nI of), .int (nI wt), .int (nI (c * q)), s_no], [], hp Z2 P2 L)) rfl ?_
        refine e_ne (a := 413) (b := 409) (x := nI n2) (y := t_sm (Z2 17) 0 n2 0) (fun hc406 => absurd (h10 hc393) hc406) (fun hc406 => ?_)
        refine e_go hk_92 2 (c := (414, [.ref 4, .int x, .int y, .int (nI ky), .int (k_p Z n), .int (Z 5 7), .int (t_sm (Z 17) 0 n 0), .int (nI q), .int 1, .int (nI of), .int (nI wt), .int (nI (c * q)), s_no], [.int 1], hp Z2 P2 L)) rfl ?_
        exact e_ret hk_92 rfl rfl rfl rfl rfl
    · skip
      refine e_go hk_92 2 (c := (if s_cnd .ne (nI (c * q)) 0 = true then 413 else 373, [.ref 4, .int x, .int y, .int (nI ky), .int (k_p Z n), .int (Z 5 7), .int (t_sm (Z 17) 0 n 0), .int (nI q), .int 1, .int (nI of), .int (nI wt), .int (nI (c * q)), s_no], [], hp Z2 P2 L)) rfl ?_
      refine e_ne (a := 413) (b := 373) (x := nI (c * q)) (y := 0) (fun hc370 => absurd (p1 hc365) hc370) (fun hc370 => ?_)
      refine e_go hk_92 3 (c := (if s_cnd .eq (nI wt) 0 = true then 409 else 396, [.ref 4, .int x, .int y, .int (nI ky), .int (k_p Z n), .int (Z 5 7), .int (t_sm (Z 17) 0 n 0), .int (nI q), .int 1, .int (nI of), .int (nI wt), .int (nI (c * q)), s_no], [], hp Z2 P2 L)) rfl ?_
      refine e_eq (a := 409) (b := 396) (x := nI wt) (y := 0) (fun hc393 => ?_) (fun hc393 => ?_)
      · skip
        refine e_go hk_92 2 (c := (414, [.ref 4, .int x, .int y, .int (nI ky), .int (k_p Z n), .int (Z 5 7), .int (t_sm (Z 17) 0 n 0), .int (nI q), .int 1, .int (nI of), .int (nI wt), .int (nI (c * q)), s_no], [.int 1], hp Z2 P2 L)) rfl ?_
        exact e_ret hk_92 rfl rfl rfl rfl rfl
      · skip
        refine e_go hk_92 2 (c := (398, [.ref 4, .int x, .int y, .int (nI ky), .int (k_p Z n), .int (Z 5 7), .int (t_sm (Z 17) 0 n 0), .int (nI q), .int 1, .int (nI of), .int (nI wt), .int (nI (c * q)), s_no], [.int 0, .ref 4], hp Z2 P2 L)) rfl ?_
        refine e_call hk_92 (as := [.ref 4, .int 0]) (rest := []) rfl rfl hk_63 rfl (Nat.le_of_ble_eq_true rfl) rfl (a_c0 hQ2.1) ?_
        show e_r 92 401 [.ref 4, .int x, .int y, .int (nI ky), .int (k_p Z n), .int (Z 5 7), .int (t_sm (Z 17) 0 n 0), .int (nI q), .int 1, .int (nI of), .int (nI wt), .int (nI (c * q)), s_no] [.int (nI n2)] (hp Z2 P2 L) _ _
        refine e_go hk_92 2 (c := (403, [.ref 4, .int x, .int y, .int (nI ky), .int (k_p Z n), .int (Z 5 7), .int (t_sm (Z 17) 0 n 0), .int (nI q), .int 1, .int (nI of), .int (nI wt), .int (nI (c * q)), s_no], [.int 1, .ref 4, .int (nI n2)], hp Z2 P2 L)) rfl ?_
        refine e_call hk_92 (as := [.ref 4, .int 1]) (rest := [.int (nI n2)]) rfl rfl hk_63 rfl (Nat.le_of_ble_eq_true rfl) rfl (a_c1 hQ2.1) ?_
        show e_r 92 406 [.ref 4, .int x, .int y, .int (nI ky), .int (k_p Z n), .int (Z 5 7), .int (t_sm (Z 17) 0 n 0), .int (nI q), .int 1, .int (nI of), .int (nI wt), .int (nI (c * q)), s_no] [.int (t_sm (Z2 17) 0 n2 0), .int (nI n2)] (hp Z2 P2 L) _ _
        refine e_go hk_92 1 (c := (if s_cnd .ne (nI n2) (t_sm (Z2 17) 0 n2 0) = true then 413 else 409, [.ref 4, .int x, .int y, .int (nI ky), .int (k_p Z n), .int (Z 5 7), .int (t_sm (Z 17) 0 n 0), .int (nI q), .int 1, .int (nI of), .int (nI wt), .int (nI (c * q)), s_no], [], hp Z2 P2 L)) rfl ?_
        refine e_ne (a := 413) (b := 409) (x := nI n2) (y := t_sm (Z2 17) 0 n2 0) (fun hc406 => absurd (h10 hc393) hc406) (fun hc406 => ?_)
        refine e_go hk_92 2 (c := (414, [.ref 4, .int x, .int y, .int (nI ky), .int (k_p Z n), .int (Z 5 7), .int (t_sm (Z 17) 0 n 0), .int (nI q), .int 1, .int (nI of), .int (nI wt), .int (nI (c * q)), s_no], [.int 1], hp Z2 P2 L)) rfl ?_
        exact e_ret hk_92 rfl rfl rfl rfl rfl
set_option maxRecDepth 20000 in
theorem st_reb {Z : Nat → Nat → Int32} {P : Nat → Nat} {L n m q : Nat} (hQ : K_Q Z P n m q) {x y w : Int32} {ky of : Nat} (hk : ky ≤ 999) (hw : l_is Z n (nI ky) w) (h8 : 8 ≤ nI of) (h11 : 11 ≤ nI of) (h12 : ¬ 12 ≤ nI of) : ∃ (Z2 : Nat → Nat → Int32) (P2 : Nat → Nat), K_G Z2 P2 ∧ e_r 92 89 [.ref 4, .int x, .int y, .int (nI ky), .int (k_p Z n), .int (Z 5 7), .int (t_sm (Z 17) 0 n 0), .int (nI q), .int w, .int (nI of), s_no, s_no, s_no] [] (hp Z P L) (some (.int 1)) (hp Z2 P2 L) := by
  rcases q_reb (L := L) hQ hk with ⟨g1, g2⟩ | ⟨Z2, P2, n2, m2, wt, hQ2, g1, g2, g4, g5, g8⟩
  · have hw0 : w = 0 := hw.elim (fun z => z.2) (fun z => absurd g1 z.1)
    subst hw0
    refine ⟨Z, P, ⟨n, m, q, hQ⟩, ?_⟩
    refine e_go hk_92 3 (c := (if s_cnd .ge (nI of) 8 = true then 283 else 96, [.ref 4, .int x, .int y, .int (nI ky), .int (k_p Z n), .int (Z 5 7), .int (t_sm (Z 17) 0 n 0), .int (nI q), .int 0, .int (nI of), s_no, s_no, s_no], [], hp Z P L)) rfl ?_
    refine e_ge (a := 283) (b := 96) (x := nI of) (y := 8) (fun hc93 => ?_) (fun hc93 => absurd (h8) hc93)
    refine e_go hk_92 3 (c := (if s_cnd .ge (nI of) 11 = true then 415 else 290, [.ref 4, .int x, .int y, .int (nI ky), .int (k_p Z n), .int (Z 5 7), .int (t_sm (Z 17) 0 n 0), .int (nI q), .int 0, .int (nI of), s_no, s_no, s_no], [], hp Z P L)) rfl ?_
    refine e_ge (a := 415) (b := 290) (x := nI of) (y := 11) (fun hc287 => ?_) (fun hc287 => absurd (h11) hc287)
    refine e_go hk_92 3 (c := (if s_cnd .ge (nI of) 12 = true then 486 else 422, [.ref 4, .int x, .int y, .int (nI ky), .int (k_p Z n), .int (Z 5 7), .int (t_sm (Z 17) 0 n 0), .int (nI q), .int 0, .int (nI of), s_no, s_no, s_no], [], hp Z P L)) rfl ?_
    refine e_ge (a := 486) (b := 422) (x := nI of) (y := 12) (fun hc419 => absurd hc419 (h12)) (fun hc419 => ?_)
    refine e_go hk_92 2 (c := (424, [.ref 4, .int x, .int y, .int (nI ky), .int (k_p Z n), .int (Z 5 7), .int (t_sm (Z 17) 0 n 0), .int (nI q), .int 0, .int (nI of), s_no, s_no, s_no], [.int (nI ky), .ref 4], hp Z P L)) rfl ?_
    refine e_call hk_92 (as := [.ref 4, .int (nI ky)]) (rest := []) rfl rfl hk_60 rfl (Nat.le_of_ble_eq_true rfl) rfl g2 ?_
    show e_r 92 427 [.ref 4, .int x, .int y, .int (nI ky), .int (k_p Z n), .int (Z 5 7), .int (t_sm (Z 17) 0 n 0), .int (nI q), .int 0, .int (nI of), s_no, s_no, s_no] [.int ((-1))] (hp Z P L) _ _
    refine e_go hk_92 4 (c := (if s_cnd .ne ((-1)) ((-1)) = true then 448 else 435, [.ref 4, .int x, .int y, .int (nI ky), .int (k_p Z n), .int (Z 5 7), .int (t_sm (Z 17) 0 n 0), .int (nI q), .int 0, .int (nI of), .int ((-1)), s_no, s_no], [], hp Z P L)) rfl ?_
    refine e_ne (a := 448) (b := 435) (x := (-1)) (y := (-1)) (fun hc432 => absurd (rfl) hc432) (fun hc432 => ?_)
    refine e_go hk_92 2 (c := (if s_cnd .ne 0 0 = true then 444 else 440, [.ref 4, .int x, .int y, .int (nI ky), .int (k_p Z n), .int (Z 5 7), .int (t_sm (Z 17) 0 n 0), .int (nI q), .int 0, .int (nI of), .int ((-1)), s_no, s_no], [], hp Z P L)) rfl ?_
    refine e_ne (a := 444) (b := 440) (x := 0) (y := 0) (fun hc437 => absurd (rfl) hc437) (fun hc437 => ?_)
    refine e_go hk_92 2 (c := (485, [.ref 4, .int x, .int y, .int (nI ky), .int (k_p Z n), .int (Z 5 7), .int (t_sm (Z 17) 0 n 0), .int (nI q), .int 0, .int (nI of), .int ((-1)), s_no, s_no], [.int 1], hp Z P L)) rfl ?_
    exact e_ret hk_92 rfl rfl rfl rfl rfl
  · have hp2 : m_r 91 [.ref 4] (hp Z2 P2 L) (some (.int (k_p Z n))) (hp Z2 P2 L) := by rw [← g5]; exact x_paid hQ2.1
    have hc4 : m_r 63 [.ref 4, .int 4] (hp Z2 P2 L) (some (.int (Z 5 7 + nI wt))) (hp Z2 P2 L) := by rw [← g4]; exact a_c4 hQ2.1
    have hc1 : m_r 63 [.ref 4, .int 1] (hp Z2 P2 L) (some (.int (t_sm (Z 17) 0 n 0))) (hp Z2 P2 L) := by rw [← g8]; exact a_c1 hQ2.1
    have hn4 := w_ne (Or.inl rfl) wt g2
    refine ⟨Z2, P2, ⟨n2, m2, q, hQ2⟩, ?_⟩
    refine e_go hk_92 3 (c := (if s_cnd .ge (nI of) 8 = true then 283 else 96, [.ref 4, .int x, .int y, .int (nI ky), .int (k_p Z n), .int (Z 5 7), .int (t_sm (Z 17) 0 n 0), .int (nI q), .int w, .int (nI of), s_no, s_no, s_no], [], hp Z P L)) rfl ?_
    refine e_ge (a := 283) (b := 96) (x := nI of) (y := 8) (fun hc93 => ?_) (fun hc93 => absurd (h8) hc93)
    refine e_go hk_92 3 (c := (if s_cnd .ge (nI of) 11 = true then 415 else 290, [.ref 4, .int x, .int y, .int (nI ky), .int (k_p Z n), .int (Z 5 7), .int (t_sm (Z 17) 0 n 0), .int (nI q), .int w, .int (nI of), s_no, s_no, s_no], [], hp Z P L)) rfl ?_
    refine e_ge (a := 415) (b := 290) (x := nI of) (y := 11) (fun hc287 => ?_) (fun hc287 => absurd (h11) hc287)
    refine e_go hk_92 3 (c := (if s_cnd .ge (nI of) 12 = true then 486 else 422, [.ref 4, .int x, .int y, .int (nI ky), .int (k_p Z n), .int (Z 5 7), .int (t_sm (Z 17) 0 n 0), .int (nI q), .int w, .int (nI of), s_no, s_no, s_no], [], hp Z P L)) rfl ?_
    refine e_ge (a := 486) (b := 422) (x := nI of) (y := 12) (fun hc419 => absurd hc419 (h12)) (fun hc419 => ?_)
    refine e_go hk_92 2 (c := (424, [.ref 4, .int x, .int y, .int (nI ky), .int (k_p Z n), .int (Z 5 7), .int (t_sm (Z 17) 0 n 0), .int (nI q), .int w, .int (nI of), s_no, s_no, s_no], [.int (nI ky), .ref 4], hp Z P L)) rfl ?_
    refine e_call hk_92 (as := [.ref 4, .int (nI ky)]) (rest := []) rfl rfl hk_60 rfl (Nat.le_of_ble_eq_true rfl) rfl g1 ?_
    show e_r 92 427 [.ref 4, .int x, .int y, .int (nI ky), .int (k_p Z n), .int (Z 5 7), .int (t_sm (Z 17) 0 n 0), .int (nI q), .int w, .int (nI of), s_no, s_no, s_no] [.int (nI wt)] (hp Z2 P2 L) _ _
    refine e_go hk_92 4 (c := (if s_cnd .ne (nI wt) ((-1)) = true then 448 else 435, [.ref 4, .int x, .int y, .int (nI ky), .int (k_p Z n), .int (Z 5 7), .int (t_sm (Z 17) 0 n 0), .int (nI q), .int w, .int (nI of), .int (nI wt), s_no, s_no], [], hp Z2 P2 L)) rfl ?_
    refine e_ne (a := 448) (b := 435) (x := nI wt) (y := (-1)) (fun hc432 => ?_) (fun hc432 => absurd hc432 (hn4))
    refine e_go hk_92 1 (c := (449, [.ref 4, .int x, .int y, .int (nI ky), .int (k_p Z n), .int (Z 5 7), .int (t_sm (Z 17) 0 n 0), .int (nI q), .int w, .int (nI of), .int (nI wt), s_no, s_no], [.ref 4], hp Z2 P2 L)) rfl ?_
    refine e_call hk_92 (as := [.ref 4]) (rest := []) rfl rfl hk_91 rfl (Nat.le_of_ble_eq_true rfl) rfl hp2 ?_
    show e_r 92 452 [.ref 4, .int x, .int y, .int (nI ky), .int (k_p Z n), .int (Z 5 7), .int (t_sm (Z 17) 0 n 0), .int (nI q), .int w, .int (nI of), .int (nI wt), s_no, s_no] [.int (k_p Z n)] (hp Z2 P2 L) _ _
    refine e_go hk_92 2 (c := (if s_cnd .ne (k_p Z n) (k_p Z n) = true then 484 else 457, [.ref 4, .int x, .int y, .int (nI ky), .int (k_p Z n), .int (Z 5 7), .int (t_sm (Z 17) 0 n 0), .int (nI q), .int w, .int (nI of), .int (nI wt), s_no, s_no], [], hp Z2 P2 L)) rfl ?_
    refine e_ne (a := 484) (b := 457) (x := k_p Z n) (y := k_p Z n) (fun hc454 => absurd (rfl) hc454) (fun hc454 => ?_)
    refine e_go hk_92 2 (c := (459, [.ref 4, .int x, .int y, .int (nI ky), .int (k_p Z n), .int (Z 5 7), .int (t_sm (Z 17) 0 n 0), .int (nI q), .int w, .int (nI of), .int (nI wt), s_no, s_no], [.int 4, .ref 4], hp Z2 P2 L)) rfl ?_
    refine e_call hk_92 (as := [.ref 4, .int 4]) (rest := []) rfl rfl hk_63 rfl (Nat.le_of_ble_eq_true rfl) rfl hc4 ?_
    show e_r 92 462 [.ref 4, .int x, .int y, .int (nI ky), .int (k_p Z n), .int (Z 5 7), .int (t_sm (Z 17) 0 n 0), .int (nI q), .int w, .int (nI of), .int (nI wt), s_no, s_no] [.int (Z 5 7 + nI wt)] (hp Z2 P2 L) _ _
    refine e_go hk_92 4 (c := (if s_cnd .ne (Z 5 7 + nI wt) ((Z 5 7) + (nI wt)) = true then 484 else 470, [.ref 4, .int x, .int y, .int (nI ky), .int (k_p Z n), .int (Z 5 7), .int (t_sm (Z 17) 0 n 0), .int (nI q), .int w, .int (nI of), .int (nI wt), s_no, s_no], [], hp Z2 P2 L)) rfl ?_
    refine e_ne (a := 484) (b := 470) (x := Z 5 7 + nI wt) (y := (Z 5 7) + (nI wt)) (fun hc467 => absurd (rfl) hc467) (fun hc467 => ?_)
    refine e_go hk_92 2 (c := (472, [.ref 4, .int x, .int y, .int (nI ky), .int (k_p Z n), .int (Z 5 7), .int (t_sm (Z 17) 0 n 0), .int (nI q), .int w, .int (nI of), .int (nI wt), s_no, s_no], [.int 1, .ref 4], hp Z2 P2 L)) rfl ?_
    refine e_call hk_92 (as := [.ref 4, .int 1]) (rest := []) rfl rfl hk_63 rfl (Nat.le_of_ble_eq_true rfl) rfl hc1 ?_
    show e_r 92 475 [.ref 4, .int x, .int y, .int (nI ky), .int (k_p Z n), .int (Z 5 7), .int (t_sm (Z 17) 0 n 0), .int (nI q), .int w, .int (nI of), .int (nI wt), s_no, s_no] [.int (t_sm (Z 17) 0 n 0)] (hp Z2 P2 L) _ _
    refine e_go hk_92 2 (c := (if s_cnd .ne (t_sm (Z 17) 0 n 0) (t_sm (Z 17) 0 n 0) = true then 484 else 480, [.ref 4, .int x, .int y, .int (nI ky), .int (k_p Z n), .int (Z 5 7), .int (t_sm (Z 17) 0 n 0), .int (nI q), .int w, .int (nI of), .int (nI wt), s_no, s_no], [], hp Z2 P2 L)) rfl ?_
    refine e_ne (a := 484) (b := 480) (x := t_sm (Z 17) 0 n 0) (y := t_sm (Z 17) 0 n 0) (fun hc477 => absurd (rfl) hc477) (fun hc477 => ?_)
    refine e_go hk_92 2 (c := (485, [.ref 4, .int x, .int y, .int (nI ky), .int (k_p Z n), .int (Z 5 7), .int (t_sm (Z 17) 0 n 0), .int (nI q), .int w, .int (nI of), .int (nI wt), s_no, s_no], [.int 1], hp Z2 P2 L)) rfl ?_
    exact e_ret hk_92 rfl rfl rfl rfl rfl
set_option maxRecDepth 20000 in
theorem st_set {Z : Nat → Nat → Int32} {P : Nat → Nat} {L n m q : Nat} (hQ : K_Q Z P n m q) {x y w : Int32} {ky of : Nat} (hk : ky ≤ 999) (hw : l_is Z n (nI ky) w) (h8 : 8 ≤ nI of) (h11 : 11 ≤ nI of) (h12 : 12 ≤ nI of) : ∃ (Z2 : Nat → Nat → Int32) (P2 : Nat → Nat), K_G Z2 P2 ∧ e_r 92 89 [.ref 4, .int x, .int y, .int (nI ky), .int (k_p Z n), .int (Z 5 7), .int (t_sm (Z 17) 0 n 0), .int (nI q), .int w, .int (nI of), s_no, s_no, s_no] [] (hp Z P L) (some (.int 1)) (hp Z2 P2 L) := by
  have hr := l_u_lt (v := y) (m := 3) (by decide)
  have hu : m_r 90 [.int y, .int 3] (hp Z P L) (some (.int (nI (l_u y 3)))) (hp Z P L) := x_up (m := 3) (by decide) (by decide)
  rcases (by omega : l_u y 3 = 0 ∨ l_u y 3 = 1 ∨ l_u y 3 = 2) with hr | hr | hr
  · rw [hr] at hu
    have hb := l_u_lt (v := y >>> (2 &&& 31)) (m := 41) (by decide)
    obtain ⟨Z2, P2, m2, q2, hQ2, g1, g2, g3⟩ := q_set (L := L) hQ (j := 0) (v := 55 + l_u (y >>> (2 &&& 31)) 41) (by decide) (by show 55 ≤ _; omega) (by show _ ≤ 95; omega)
    have hp2 : m_r 91 [.ref 4] (hp Z2 P2 L) (some (.int (k_p Z n))) (hp Z2 P2 L) := by rw [← g3]; exact x_paid hQ2.1
    refine ⟨Z2, P2, ⟨n, m2, q2, hQ2⟩, ?_⟩
    refine e_go hk_92 3 (c := (if s_cnd .ge (nI of) 8 = true then 283 else 96, [.ref 4, .int x, .int y, .int (nI ky), .int (k_p Z n), .int (Z 5 7), .int (t_sm (Z 17) 0 n 0), .int (nI q), .int w, .int (nI of), s_no, s_no, s_no], [], hp Z P L)) rfl ?_
    refine e_ge (a := 283) (b := 96) (x := nI of) (y := 8) (fun hc93 => ?_) (fun hc93 => absurd (h8) hc93)
    refine e_go hk_92 3 (c := (if s_cnd .ge (nI of) 11 = true then 415 else 290, [.ref 4, .int x, .int y, .int (nI ky), .int (k_p Z n), .int (Z 5 7), .int (t_sm (Z 17) 0 n 0), .int (nI q), .int w, .int (nI of), s_no, s_no, s_no], [], hp Z P L)) rfl ?_
    refine e_ge (a := 415) (b := 290) (x := nI of) (y := 11) (fun hc287 => ?_) (fun hc287 => absurd (h11) hc287)
    refine e_go hk_92 3 (c := (if s_cnd .ge (nI of) 12 = true then 486 else 422, [.ref 4, .int x, .int y, .int (nI ky), .int (k_p Z n), .int (Z 5 7), .int (t_sm (Z 17) 0 n 0), .int (nI q), .int w, .int (nI of), s_no, s_no, s_no], [], hp Z P L)) rfl ?_
    refine e_ge (a := 486) (b := 422) (x := nI of) (y := 12) (fun hc419 => ?_) (fun hc419 => absurd (h12) hc419)
    refine e_go hk_92 2 (c := (488, [.ref 4, .int x, .int y, .int (nI ky), .int (k_p Z n), .int (Z 5 7), .int (t_sm (Z 17) 0 n 0), .int (nI q), .int w, .int (nI of), s_no, s_no, s_no], [.int 3, .int y], hp Z P L)) rfl ?_
    refine e_call hk_92 (as := [.int y, .int 3]) (rest := []) rfl rfl hk_90 rfl (Nat.le_of_ble_eq_true rfl) rfl hu ?_
    show e_r 92 491 [.ref 4, .int x, .int y, .int (nI ky), .int (k_p Z n), .int (Z 5 7), .int (t_sm (Z 17) 0 n 0), .int (nI q), .int w, .int (nI of), s_no, s_no, s_no] [.int (nI 0)] (hp Z P L) _ _
    refine e_go hk_92 3 (c := (if s_cnd .ne (nI 0) 0 = true then 512 else 498, [.ref 4, .int x, .int y, .int (nI ky), .int (k_p Z n), .int (Z 5 7), .int (t_sm (Z 17) 0 n 0), .int (nI q), .int w, .int (nI of), .int (nI 0), s_no, s_no], [], hp Z P L)) rfl ?_
    refine e_ne (a := 512) (b := 498) (x := nI 0) (y := 0) (fun hc495 => absurd (rfl) hc495) (fun hc495 => ?_)
    refine e_go hk_92 5 (c := (505, [.ref 4, .int x, .int y, .int (nI ky), .int (k_p Z n), .int (Z 5 7), .int (t_sm (Z 17) 0 n 0), .int (nI q), .int w, .int (nI of), .int (nI 0), s_no, s_no], [.int 41, .int (y >>> (2 &&& 31)), .int 55], hp Z P L)) rfl ?_
    refine e_call hk_92 (as := [.int (y >>> (2 &&& 31)), .int 41]) (rest := [.int 55]) rfl rfl hk_90 rfl (Nat.le_of_ble_eq_true rfl) rfl (show m_r 90 [.int (y >>> (2 &&& 31)), .int 41] (hp Z P L) (some (.int (nI (l_u (y >>> (2 &&& 31)) 41)))) (hp Z P L) from x_up (m := 41) (by decide) (by decide)) ?_
    show e_r 92 508 [.ref 4, .int x, .int y, .int (nI ky), .int (k_p Z n), .int (Z 5 7), .int (t_sm (Z 17) 0 n 0), .int (nI q), .int w, .int (nI of), .int (nI 0), s_no, s_no] [.int (nI (l_u (y >>> (2 &&& 31)) 41)), .int 55] (hp Z P L) _ _
    refine e_go hk_92 2 (c := (540, [.ref 4, .int x, .int y, .int (nI ky), .int (k_p Z n), .int (Z 5 7), .int (t_sm (Z 17) 0 n 0), .int (nI q), .int w, .int (nI of), .int (nI 0), s_no, s_no], [.int ((55 : Int32) + (nI (l_u (y >>> (2 &&& 31)) 41)))], hp Z P L)) rfl ?_
    rw [show (55 : Int32) + nI (l_u (y >>> (2 &&& 31)) 41) = nI (55 + l_u (y >>> (2 &&& 31)) 41) from nI_add 55 _]
    refine e_go hk_92 4 (c := (547, [.ref 4, .int x, .int y, .int (nI ky), .int (k_p Z n), .int (Z 5 7), .int (t_sm (Z 17) 0 n 0), .int (nI q), .int w, .int (nI of), .int (nI 0), .int (nI (55 + l_u (y >>> (2 &&& 31)) 41)), s_no], [.int (nI (55 + l_u (y >>> (2 &&& 31)) 41)), .int (nI 0), .ref 4], hp Z P L)) rfl ?_
    refine e_call hk_92 (as := [.ref 4, .int (nI 0), .int (nI (55 + l_u (y >>> (2 &&& 31)) 41))]) (rest := []) rfl rfl hk_57 rfl (Nat.le_of_ble_eq_true rfl) rfl g1 ?_
    show e_r 92 550 [.ref 4, .int x, .int y, .int (nI ky), .int (k_p Z n), .int (Z 5 7), .int (t_sm (Z 17) 0 n 0), .int (nI q), .int w, .int (nI of), .int (nI 0), .int (nI (55 + l_u (y >>> (2 &&& 31)) 41)), s_no] [.int (Z 7 0)] (hp Z2 P2 L) _ _
    refine e_go hk_92 1 (c := (if s_cnd .lt (Z 7 0) 0 = true then 566 else 553, [.ref 4, .int x, .int y, .int (nI ky), .int (k_p Z n), .int (Z 5 7), .int (t_sm (Z 17) 0 n 0), .int (nI q), .int w, .int (nI of), .int (nI 0), .int (nI (55 + l_u (y >>> (2 &&& 31)) 41)), s_no], [], hp Z2 P2 L)) rfl ?_
    refine e_lt (a := 566) (b := 553) (x := Z 7 0) (y := 0) (fun hc550 => absurd hc550 (g2)) (fun hc550 => ?_)
    refine e_go hk_92 1 (c := (554, [.ref 4, .int x, .int y, .int (nI ky), .int (k_p Z n), .int (Z 5 7), .int (t_sm (Z 17) 0 n 0), .int (nI q), .int w, .int (nI of), .int (nI 0), .int (nI (55 + l_u (y >>> (2 &&& 31)) 41)), s_no], [.ref 4], hp Z2 P2 L)) rfl ?_
    refine e_call hk_92 (as := [.ref 4]) (rest := []) rfl rfl hk_91 rfl (Nat.le_of_ble_eq_true rfl) rfl hp2 ?_
    show e_r 92 557 [.ref 4, .int x, .int y, .int (nI ky), .int (k_p Z n), .int (Z 5 7), .int (t_sm (Z 17) 0 n 0), .int (nI q), .int w, .int (nI of), .int (nI 0), .int (nI (55 + l_u (y >>> (2 &&& 31)) 41)), s_no] [.int (k_p Z n)] (hp Z2 P2 L) _ _
    refine e_go hk_92 2 (c := (if s_cnd .ne (k_p Z n) (k_p Z n) = true then 566 else 562, [.ref 4, .int x, .int y, .int (nI ky), .int (k_p Z n), .int (Z 5 7), .int (t_sm (Z 17) 0 n 0), .int (nI q), .int w, .int (nI of), .int (nI 0), .int (nI (55 + l_u (y >>> (2 &&& 31)) 41)), s_no], [], hp Z2 P2 L)) rfl ?_
    refine e_ne (a := 566) (b := 562) (x := k_p Z n) (y := k_p Z n) (fun hc559 => absurd (rfl) hc559) (fun hc559 => ?_)
    refine e_go hk_92 2 (c := (567, [.ref 4, .int x, .int y, .int (nI ky), .int (k_p Z n), .int (Z 5 7), .int (t_sm (Z 17) 0 n 0), .int (nI q), .int w, .int (nI of), .int (nI 0), .int (nI (55 + l_u (y >>> (2 &&& 31)) 41)), s_no], [.int 1], hp Z2 P2 L)) rfl ?_
    exact e_ret hk_92 rfl rfl rfl rfl rfl
  · rw [hr] at hu
    have hb := l_u_lt (v := y >>> (2 &&& 31)) (m := 81) (by decide)
    obtain ⟨Z2, P2, m2, q2, hQ2, g1, g2, g3⟩ := q_set (L := L) hQ (j := 1) (v := 10 + l_u (y >>> (2 &&& 31)) 81) (by decide) (by show 10 ≤ _; omega) (by show _ ≤ 90; omega)
    have hp2 : m_r 91 [.ref 4] (hp Z2 P2 L) (some (.int (k_p Z n))) (hp Z2 P2 L) := by rw [← g3]; exact x_paid hQ2.1
    refine ⟨Z2, P2, ⟨n, m2, q2, hQ2⟩, ?_⟩
    refine e_go hk_92 3 (c := (if s_cnd .ge (nI of) 8 = true then 283 else 96, [.ref 4, .int x, .int y, .int (nI ky), .int (k_p Z n), .int (Z 5 7), .int (t_sm (Z 17) 0 n 0), .int (nI q), .int w, .int (nI of), s_no, s_no, s_no], [], hp Z P L)) rfl ?_
    refine e_ge (a := 283) (b := 96) (x := nI of) (y := 8) (fun hc93 => ?_) (fun hc93 => absurd (h8) hc93)
    refine e_go hk_92 3 (c := (if s_cnd .ge (nI of) 11 = true then 415 else 290, [.ref 4, .int x, .int y, .int (nI ky), .int (k_p Z n), .int (Z 5 7), .int (t_sm (Z 17) 0 n 0), .int (nI q), .int w, .int (nI of), s_no, s_no, s_no], [], hp Z P L)) rfl ?_
    refine e_ge (a := 415) (b := 290) (x := nI of) (y := 11) (fun hc287 => ?_) (fun hc287 => absurd (h11) hc287)
    refine e_go hk_92 3 (c := (if s_cnd .ge (nI of) 12 = true then 486 else 422, [.ref 4, .int x, .int y, .int (nI ky), .int (k_p Z n), .int (Z 5 7), .int (t_sm (Z 17) 0 n 0), .int (nI q), .int w, .int (nI of), s_no, s_no, s_no], [], hp Z P L)) rfl ?_
    refine e_ge (a := 486) (b := 422) (x := nI of) (y := 12) (fun hc419 => ?_) (fun hc419 => absurd (h12) hc419)
    refine e_go hk_92 2 (c := (488, [.ref 4, .int x, .int y, .int (nI ky), .int (k_p Z n), .int (Z 5 7), .int (t_sm (Z 17) 0 n 0), .int (nI q), .int w, .int (nI of), s_no, s_no, s_no], [.int 3, .int y], hp Z P L)) rfl ?_
    refine e_call hk_92 (as := [.int y, .int 3]) (rest := []) rfl rfl hk_90 rfl (Nat.le_of_ble_eq_true rfl) rfl hu ?_
    show e_r 92 491 [.ref 4, .int x, .int y, .int (nI ky), .int (k_p Z n), .int (Z 5 7), .int (t_sm (Z 17) 0 n 0), .int (nI q), .int w, .int (nI of), s_no, s_no, s_no] [.int (nI 1)] (hp Z P L) _ _
    refine e_go hk_92 3 (c := (if s_cnd .ne (nI 1) 0 = true then 512 else 498, [.ref 4, .int x, .int y, .int (nI ky), .int (k_p Z n), .int (Z 5 7), .int (t_sm (Z 17) 0 n 0), .int (nI q), .int w, .int (nI of), .int (nI 1), s_no, s_no], [], hp Z P L)) rfl ?_
    refine e_ne (a := 512) (b := 498) (x := nI 1) (y := 0) (fun hc495 => ?_) (fun hc495 => absurd hc495 (by decide))
    refine e_go hk_92 3 (c := (if s_cnd .ne (nI 1) 1 = true then 532 else 518, [.ref 4, .int x, .int y, .int (nI ky), .int (k_p Z n), .int (Z 5 7), .int (t_sm (Z 17) 0 n 0), .int (nI q), .int w, .int (nI of), .int (nI 1), s_no, s_no], [], hp Z P L)) rfl ?_
    refine e_ne (a := 532) (b := 518) (x := nI 1) (y := 1) (fun hc515 => absurd (rfl) hc515) (fun hc515 => ?_)
    refine e_go hk_92 5 (c := (525, [.ref 4, .int x, .int y, .int (nI ky), .int (k_p Z n), .int (Z 5 7), .int (t_sm (Z 17) 0 n 0), .int (nI q), .int w, .int (nI of), .int (nI 1), s_no, s_no], [.int 81, .int (y >>> (2 &&& 31)), .int 10], hp Z P L)) rfl ?_
    refine e_call hk_92 (as := [.int (y >>> (2 &&& 31)), .int 81]) (rest := [.int 10]) rfl rfl hk_90 rfl (Nat.le_of_ble_eq_true rfl) rfl (show m_r 90 [.int (y >>> (2 &&& 31)), .int 81] (hp Z P L) (some (.int (nI (l_u (y >>> (2 &&& 31)) 81)))) (hp Z P L) from x_up (m := 81) (by decide) (by decide)) ?_
    show e_r 92 528 [.ref 4, .int x, .int y, .int (nI ky), .int (k_p Z n), .int (Z 5 7), .int (t_sm (Z 17) 0 n 0), .int (nI q), .int w, .int (nI of), .int (nI 1), s_no, s_no] [.int (nI (l_u (y >>> (2 &&& 31)) 81)), .int 10] (hp Z P L) _ _
    refine e_go hk_92 2 (c := (540, [.ref 4, .int x, .int y, .int (nI ky), .int (k_p Z n), .int (Z 5 7), .int (t_sm (Z 17) 0 n 0), .int (nI q), .int w, .int (nI of), .int (nI 1), s_no, s_no], [.int ((10 : Int32) + (nI (l_u (y >>> (2 &&& 31)) 81)))], hp Z P L)) rfl ?_
    rw [show (10 : Int32) + nI (l_u (y >>> (2 &&& 31)) 81) = nI (10 + l_u (y >>> (2 &&& 31)) 81) from nI_add 10 _]
    refine e_go hk_92 4 (c := (547, [.ref 4, .int x, .int y, .int (nI ky), .int (k_p Z n), .int (Z 5 7), .int (t_sm (Z 17) 0 n 0), .int (nI q), .int w, .int (nI of), .int (nI 1), .int (nI (10 + l_u (y >>> (2 &&& 31)) 81)), s_no], [.int (nI (10 + l_u (y >>> (2 &&& 31)) 81)), .int (nI 1), .ref 4], hp Z P L)) rfl ?_
    refine e_call hk_92 (as := [.ref 4, .int (nI 1), .int (nI (10 + l_u (y >>> (2 &&& 31)) 81))]) (rest := []) rfl rfl hk_57 rfl (Nat.le_of_ble_eq_true rfl) rfl g1 ?_
    show e_r 92 550 [.ref 4, .int x, .int y, .int (nI ky), .int (k_p Z n), .int (Z 5 7), .int (t_sm (Z 17) 0 n 0), .int (nI q), .int w, .int (nI of), .int (nI 1), .int (nI (10 + l_u (y >>> (2 &&& 31)) 81)), s_no] [.int (Z 7 1)] (hp Z2 P2 L) _ _
    refine e_go hk_92 1 (c := (if s_cnd .lt (Z 7 1) 0 = true then 566 else 553, [.ref 4, .int x, .int y, .int (nI ky), .int (k_p Z n), .int (Z 5 7), .int (t_sm (Z 17) 0 n 0), .int (nI q), .int w, .int (nI of), .int (nI 1), .int (nI (10 + l_u (y >>> (2 &&& 31)) 81)), s_no], [], hp Z2 P2 L)) rfl ?_
    refine e_lt (a := 566) (b := 553) (x := Z 7 1) (y := 0) (fun hc550 => absurd hc550 (g2)) (fun hc550 => ?_)
    refine e_go hk_92 1 (c := (554, [.ref 4, .int x, .int y, .int (nI ky), .int (k_p Z n), .int (Z 5 7), .int (t_sm (Z 17) 0 n 0), .int (nI q), .int w, .int (nI of), .int (nI 1), .int (nI (10 + l_u (y >>> (2 &&& 31)) 81)), s_no], [.ref 4], hp Z2 P2 L)) rfl ?_
    refine e_call hk_92 (as := [.ref 4]) (rest := []) rfl rfl hk_91 rfl (Nat.le_of_ble_eq_true rfl) rfl hp2 ?_
    show e_r 92 557 [.ref 4, .int x, .int y, .int (nI ky), .int (k_p Z n), .int (Z 5 7), .int (t_sm (Z 17) 0 n 0), .int (nI q), .int w, .int (nI of), .int (nI 1), .int (nI (10 + l_u (y >>> (2 &&& 31)) 81)), s_no] [.int (k_p Z n)] (hp Z2 P2 L) _ _
    refine e_go hk_92 2 (c := (if s_cnd .ne (k_p Z n) (k_p Z n) = true then 566 else 562, [.ref 4, .int x, .int y, .int (nI ky), .int (k_p Z n), .int (Z 5 7), .int (t_sm (Z 17) 0 n 0), .int (nI q), .int w, .int (nI of), .int (nI 1), .int (nI (10 + l_u (y >>> (2 &&& 31)) 81)), s_no], [], hp Z2 P2 L)) rfl ?_
    refine e_ne (a := 566) (b := 562) (x := k_p Z n) (y := k_p Z n) (fun hc559 => absurd (rfl) hc559) (fun hc559 => ?_)
    refine e_go hk_92 2 (c := (567, [.ref 4, .int x, .int y, .int (nI ky), .int (k_p Z n), .int (Z 5 7), .int (t_sm (Z 17) 0 n 0), .int (nI q), .int w, .int (nI of), .int (nI 1), .int (nI (10 + l_u (y >>> (2 &&& 31)) 81)), s_no], [.int 1], hp Z2 P2 L)) rfl ?_
    exact e_ret hk_92 rfl rfl rfl rfl rfl
  · rw [hr] at hu
    have hb := l_u_lt (v := y >>> (2 &&& 31)) (m := 10) (by decide)
    obtain ⟨Z2, P2, m2, q2, hQ2, g1, g2, g3⟩ := q_set (L := L) hQ (j := 2) (v := l_u (y >>> (2 &&& 31)) 10) (by decide) (by show 0 ≤ _; omega) (by show _ ≤ 9; omega)
    have hp2 : m_r 91 [.ref 4] (hp Z2 P2 L) (some (.int (k_p Z n))) (hp Z2 P2 L) := by rw [← g3]; exact x_paid hQ2.1
    refine ⟨Z2, P2, ⟨n, m2, q2, hQ2⟩, ?_⟩
    refine e_go hk_92 3 (c := (if s_cnd .ge (nI of) 8 = true then 283 else 96, [.ref 4, .int x, .int y, .int (nI ky), .int (k_p Z n), .int (Z 5 7), .int (t_sm (Z 17) 0 n 0), .int (nI q), .int w, .int (nI of), s_no, s_no, s_no], [], hp Z P L)) rfl ?_
    refine e_ge (a := 283) (b := 96) (x := nI of) (y := 8) (fun hc93 => ?_) (fun hc93 => absurd (h8) hc93)
    refine e_go hk_92 3 (c := (if s_cnd .ge (nI of) 11 = true then 415 else 290, [.ref 4, .int x, .int y, .int (nI ky), .int (k_p Z n), .int (Z 5 7), .int (t_sm (Z 17) 0 n 0), .int (nI q), .int w, .int (nI of), s_no, s_no, s_no], [], hp Z P L)) rfl ?_
    refine e_ge (a := 415) (b := 290) (x := nI of) (y := 11) (fun hc287 => ?_) (fun hc287 => absurd (h11) hc287)
    refine e_go hk_92 3 (c := (if s_cnd .ge (nI of) 12 = true then 486 else 422, [.ref 4, .int x, .int y, .int (nI ky), .int (k_p Z n), .int (Z 5 7), .int (t_sm (Z 17) 0 n 0), .int (nI q), .int w, .int (nI of), s_no, s_no, s_no], [], hp Z P L)) rfl ?_
    refine e_ge (a := 486) (b := 422) (x := nI of) (y := 12) (fun hc419 => ?_) (fun hc419 => absurd (h12) hc419)
    refine e_go hk_92 2 (c := (488, [.ref 4, .int x, .int y, .int (nI ky), .int (k_p Z n), .int (Z 5 7), .int (t_sm (Z 17) 0 n 0), .int (nI q), .int w, .int (nI of), s_no, s_no, s_no], [.int 3, .int y], hp Z P L)) rfl ?_
    refine e_call hk_92 (as := [.int y, .int 3]) (rest := []) rfl rfl hk_90 rfl (Nat.le_of_ble_eq_true rfl) rfl hu ?_
    show e_r 92 491 [.ref 4, .int x, .int y, .int (nI ky), .int (k_p Z n), .int (Z 5 7), .int (t_sm (Z 17) 0 n 0), .int (nI q), .int w, .int (nI of), s_no, s_no, s_no] [.int (nI 2)] (hp Z P L) _ _
    refine e_go hk_92 3 (c := (if s_cnd .ne (nI 2) 0 = true then 512 else 498, [.ref 4, .int x, .int y, .int (nI ky), .int (k_p Z n), .int (Z 5 7), .int (t_sm (Z 17) 0 n 0), .int (nI q), .int w, .int (nI of), .int (nI 2), s_no, s_no], [], hp Z P L)) rfl ?_
    refine e_ne (a := 512) (b := 498) (x := nI 2) (y := 0) (fun hc495 => ?_) (fun hc495 => absurd hc495 (by decide))
    refine e_go hk_92 3 (c := (if s_cnd .ne (nI 2) 1 = true then 532 else 518, [.ref 4, .int x, .int y, .int (nI ky), .int (k_p Z n), .int (Z 5 7), .int (t_sm (Z 17) 0 n 0), .int (nI q), .int w, .int (nI of), .int (nI 2), s_no, s_no], [], hp Z P L)) rfl ?_
    refine e_ne (a := 532) (b := 518) (x := nI 2) (y := 1) (fun hc515 => ?_) (fun hc515 => absurd hc515 (by decide))
    refine e_go hk_92 4 (c := (537, [.ref 4, .int x, .int y, .int (nI ky), .int (k_p Z n), .int (Z 5 7), .int (t_sm (Z 17) 0 n 0), .int (nI q), .int w, .int (nI of), .int (nI 2), s_no, s_no], [.int 10, .int (y >>> (2 &&& 31))], hp Z P L)) rfl ?_
    refine e_call hk_92 (as := [.int (y >>> (2 &&& 31)), .int 10]) (rest := []) rfl rfl hk_90 rfl (Nat.le_of_ble_eq_true rfl) rfl (show m_r 90 [.int (y >>> (2 &&& 31)), .int 10] (hp Z P L) (some (.int (nI (l_u (y >>> (2 &&& 31)) 10)))) (hp Z P L) from x_up (m := 10) (by decide) (by decide)) ?_
    show e_r 92 540 [.ref 4, .int x, .int y, .int (nI ky), .int (k_p Z n), .int (Z 5 7), .int (t_sm (Z 17) 0 n 0), .int (nI q), .int w, .int (nI of), .int (nI 2), s_no, s_no] [.int (nI (l_u (y >>> (2 &&& 31)) 10))] (hp Z P L) _ _
    refine e_go hk_92 4 (c := (547, [.ref 4, .int x, .int y, .int (nI ky), .int (k_p Z n), .int (Z 5 7), .int (t_sm (Z 17) 0 n 0), .int (nI q), .int w, .int (nI of), .int (nI 2), .int (nI (l_u (y >>> (2 &&& 31)) 10)), s_no], [.int (nI (l_u (y >>> (2 &&& 31)) 10)), .int (nI 2), .ref 4], hp Z P L)) rfl ?_
    refine e_call hk_92 (as := [.ref 4, .int (nI 2), .int (nI (l_u (y >>> (2 &&& 31)) 10))]) (rest := []) rfl rfl hk_57 rfl (Nat.le_of_ble_eq_true rfl) rfl g1 ?_
    show e_r 92 550 [.ref 4, .int x, .int y, .int (nI ky), .int (k_p Z n), .int (Z 5 7), .int (t_sm (Z 17) 0 n 0), .int (nI q), .int w, .int (nI of), .int (nI 2), .int (nI (l_u (y >>> (2 &&& 31)) 10)), s_no] [.int (Z 7 2)] (hp Z2 P2 L) _ _
    refine e_go hk_92 1 (c := (if s_cnd .lt (Z 7 2) 0 = true then 566 else 553, [.ref 4, .int x, .int y, .int (nI ky), .int (k_p Z n), .int (Z 5 7), .int (t_sm (Z 17) 0 n 0), .int (nI q), .int w, .int (nI of), .int (nI 2), .int (nI (l_u (y >>> (2 &&& 31)) 10)), s_no], [], hp Z2 P2 L)) rfl ?_
    refine e_lt (a := 566) (b := 553) (x := Z 7 2) (y := 0) (fun hc550 => absurd hc550 (g2)) (fun hc550 => ?_)
    refine e_go hk_92 1 (c := (554, [.ref 4, .int x, .int y, .int (nI ky), .int (k_p Z n), .int (Z 5 7), .int (t_sm (Z 17) 0 n 0), .int (nI q), .int w, .int (nI of), .int (nI 2), .int (nI (l_u (y >>> (2 &&& 31)) 10)), s_no], [.ref 4], hp Z2 P2 L)) rfl ?_
    refine e_call hk_92 (as := [.ref 4]) (rest := []) rfl rfl hk_91 rfl (Nat.le_of_ble_eq_true rfl) rfl hp2 ?_
    show e_r 92 557 [.ref 4, .int x, .int y, .int (nI ky), .int (k_p Z n), .int (Z 5 7), .int (t_sm (Z 17) 0 n 0), .int (nI q), .int w, .int (nI of), .int (nI 2), .int (nI (l_u (y >>> (2 &&& 31)) 10)), s_no] [.int (k_p Z n)] (hp Z2 P2 L) _ _
    refine e_go hk_92 2 (c := (if s_cnd .ne (k_p Z n) (k_p Z n) = true then 566 else 562, [.ref 4, .int x, .int y, .int (nI ky), .int (k_p Z n), .int (Z 5 7), .int (t_sm (Z 17) 0 n 0), .int (nI q), .int w, .int (nI of), .int (nI 2), .int (nI (l_u (y >>> (2 &&& 31)) 10)), s_no], [], hp Z2 P2 L)) rfl ?_
    refine e_ne (a := 566) (b := 562) (x := k_p Z n) (y := k_p Z n) (fun hc559 => absurd (rfl) hc559) (fun hc559 => ?_)
    refine e_go hk_92 2 (c := (567, [.ref 4, .int x, .int y, .int (nI ky), .int (k_p Z n), .int (Z 5 7), .int (t_sm (Z 17) 0 n 0), .int (nI q), .int w, .int (nI of), .int (nI 2), .int (nI (l_u (y >>> (2 &&& 31)) 10)), s_no], [.int 1], hp Z2 P2 L)) rfl ?_
    exact e_ret hk_92 rfl rfl rfl rfl rfl
/-! one step of the law: it holds, and the tree is one again -/
set_option maxRecDepth 20000 in
theorem st_all {Z : Nat → Nat → Int32} {P : Nat → Nat} {L : Nat} {x : Int32} (hG : K_G Z P) : ∃ (Z2 : Nat → Nat → Int32) (P2 : Nat → Nat), K_G Z2 P2 ∧ m_r 92 [.ref 4, .int x] (hp Z P L) (some (.int 1)) (hp Z2 P2 L) := by
  obtain ⟨n, m, q, hQ⟩ := hG
  obtain ⟨ky, hk, H⟩ := st_head (Z := Z) (P := P) (L := L) (x := x)
  obtain ⟨w, hw⟩ : ∃ w, l_is Z n (nI ky) w := by
    by_cases h : t_fn (Z 9) (Z 17) n (nI ky) = none
    · exact ⟨0, Or.inl ⟨h, rfl⟩⟩
    · exact ⟨1, Or.inr ⟨h, rfl⟩⟩
  obtain ⟨Z2, P2, h1, h2⟩ : ∃ (Z2 : Nat → Nat → Int32) (P2 : Nat → Nat), K_G Z2 P2 ∧ e_r 92 89 [.ref 4, .int x, .int (l_y x), .int (nI ky), .int (k_p Z n), .int (Z 5 7), .int (t_sm (Z 17) 0 n 0), .int (nI q), .int w, .int (nI (l_u x 14)), s_no, s_no, s_no] [] (hp Z P L) (some (.int 1)) (hp Z2 P2 L) := by
    by_cases h8 : 8 ≤ nI (l_u x 14)
    · by_cases h11 : 11 ≤ nI (l_u x 14)
      · by_cases h12 : 12 ≤ nI (l_u x 14)
        · exact st_set hQ hk hw h8 h11 h12
        · exact st_reb hQ hk hw h8 h11 h12
      · exact st_rem hQ hk hw h8 h11
    · exact st_put hQ hk hw h8
  exact ⟨Z2, P2, h1, H _ _ (st_2 hQ hk hw h2)⟩
end
section
/-! The parts that wait, and what they leave to be counted (by hand) -/
abbrev w_T : Type := Nat × Nat × Nat
def w_ok (Z : Nat → Nat → Int32) (n : Nat) (W : Nat → Int32) : List w_T → Prop
  | [] => True
  | s :: S => s.2.1 < s.2.2 ∧ CT (Z 15) n s.1 s.2.1 s.2.2 ∧ W S.length = Z 9 (t_tp (Z 15) (nI s.1) s.2.1 (s.2.2 - 1 - s.2.1)) ∧ w_ok Z n W S
def w_sz : List w_T → Nat
  | [] => 0
  | s :: S => (s.2.2 - s.2.1) + w_sz S
def w_su (f : Nat → Int32) : List w_T → Int32
  | [] => 0
  | s :: S => t_sm f s.2.1 (s.2.2 - s.2.1) 0 + w_su f S
def w_mx (D : Nat → Int32) : List w_T → Int32 → Int32
  | [], a => a
  | s :: S, a => w_mx D S (t_mx D s.2.1 (s.2.2 - s.2.1) a)
def w_pu (d l u : Nat) (S : List w_T) : List w_T := if l < u then (d, l, u) :: S else S
theorem w_ok_congr {Z : Nat → Nat → Int32} {n : Nat} {W W2 : Nat → Int32} : ∀ (S : List w_T), (∀ i, i < S.length → W2 i = W i) → w_ok Z n W S → w_ok Z n W2 S
  | [], h, g => g
  | s :: S, h, g => by
    obtain ⟨g1, g2, g3, g4⟩ := g
    exact ⟨g1, g2, by rw [h S.length (by simp)]; exact g3, w_ok_congr S (fun i hi => h i (by simp only [List.length_cons]; omega)) g4⟩
theorem w_len {Z : Nat → Nat → Int32} {n : Nat} {W : Nat → Int32} : ∀ (S : List w_T), w_ok Z n W S → S.length ≤ w_sz S
  | [], h => Nat.le_refl _
  | s :: S, h => by
    have h1 := w_len S h.2.2.2
    have h2 := h.1
    simp only [List.length_cons, w_sz]
    omega
theorem w_pu_sz {d l u : Nat} {S : List w_T} (h : l ≤ u) : w_sz (w_pu d l u S) = (u - l) + w_sz S := by
  unfold w_pu
  by_cases hc : l < u
  · rw [if_pos hc]; rfl
  · rw [if_neg hc]; omega
theorem w_pu_sum {f : Nat → Int32} {d l u : Nat} {S : List w_T} (h : l ≤ u) : w_su f (w_pu d l u S) = t_sm f l (u - l) 0 + w_su f S := by
  unfold w_pu
  by_cases hc : l < u
  · rw [if_pos hc]; rfl
  · rw [if_neg hc, show u - l = 0 by omega]
    show _ = (0 : Int32) + _
    rw [Int32.zero_add]
theorem w_pu_mx {D : Nat → Int32} {d l u : Nat} {S : List w_T} {a : Int32} (h : l ≤ u) : w_mx D (w_pu d l u S) a = w_mx D S (t_mx D l (u - l) a) := by
  unfold w_pu
  by_cases hc : l < u
  · rw [if_pos hc]; rfl
  · rw [if_neg hc, show u - l = 0 by omega]; rfl
/-- a greatest number, as an integer -/
def i_mx (D : Nat → Int32) : Nat → Nat → Int
  | _, 0 => -2147483648
  | i, k + 1 => max (D i).toInt (i_mx D (i + 1) k)
theorem y_mx_i {a b : Int32} : (y_mx a b).toInt = max a.toInt b.toInt := by
  unfold y_mx
  by_cases h : a < b
  · rw [if_pos h]
    rw [Int32.lt_iff_toInt_lt] at h
    omega
  · rw [if_neg h]
    rw [Int32.lt_iff_toInt_lt] at h
    omega
theorem t_mx_i {D : Nat → Int32} : ∀ (k i : Nat) (a : Int32), (t_mx D i k a).toInt = max a.toInt (i_mx D i k)
  | 0, i, a => by
    have h : -2147483648 ≤ a.toInt := a.le_toInt
    show a.toInt = max a.toInt (-2147483648)
    omega
  | k + 1, i, a => by
    show (t_mx D (i + 1) k (y_mx a (D i))).toInt = max a.toInt (max (D i).toInt (i_mx D (i + 1) k))
    rw [t_mx_i k (i + 1), y_mx_i]
    omega
theorem i_mx_add {D : Nat → Int32} : ∀ (a b i : Nat), max (-2147483648) (i_mx D i (a + b)) = max (max (-2147483648) (i_mx D i a)) (i_mx D (i + a) b)
  | 0, b, i => by
    rw [Nat.zero_add, Nat.add_zero, i_mx]
    omega
  | a + 1, b, i => by
    have h := i_mx_add (D := D) a b (i + 1)
    rw [show a + 1 + b = a + b + 1 by omega, i_mx, i_mx, show i + (a + 1) = i + 1 + a by omega]
    omega
theorem t_mx_split {D : Nat → Int32} {l t u : Nat} {a : Int32} (h1 : l ≤ t) (h2 : t < u) : t_mx D l (u - l) a = t_mx D l (t - l) (t_mx D (t + 1) (u - (t + 1)) (y_mx a (D t))) := by
  refine Int32.toInt_inj.mp ?_
  rw [t_mx_i, t_mx_i, t_mx_i, y_mx_i]
  have h := i_mx_add (D := D) (t - l) (u - (t + 1) + 1) l
  rw [show t - l + (u - (t + 1) + 1) = u - l by omega, show l + (t - l) = t by omega, i_mx] at h
  have ha : -2147483648 ≤ a.toInt := a.le_toInt
  omega
/-- what is left to be counted, at a stack S with these numbers counted so far -/
def w_I (Z : Nat → Nat → Int32) (n : Nat) (S : List w_T) (a3 a4 a5 a6 a7 a8 : Int32) : Prop :=
  a3 + nI (w_sz S) = nI n ∧ a4 + w_su (Z 17) S = t_sm (Z 17) 0 n 0 ∧ a5 + w_su (fun j => t_wt Z n j) S = t_sm (fun j => t_wt Z n j) 0 n 0 ∧ a6 + w_su (Z 15) S = t_sm (Z 15) 0 n 0 ∧ w_mx (Z 15) S a7 = (if n = 0 then -6 else t_mx (Z 15) 0 n (Z 15 0)) ∧ a8 + w_su (fun j => y_b (t_ln Z n j)) S = t_lnc Z n 0 n 0
theorem w_I_step {Z : Nat → Nat → Int32} {n d l t u : Nat} {S : List w_T} {a3 a4 a5 a6 a7 a8 : Int32} (h : w_I Z n ((d, l, u) :: S) a3 a4 a5 a6 a7 a8) (h1 : l ≤ t) (h2 : t < u) (h3 : Z 15 t = nI d) : w_I Z n (w_pu (d + 1) (t + 1) u (w_pu (d + 1) l t S)) (a3 + 1) (a4 + Z 17 t) (a5 + t_wt Z n t) (a6 + nI d) (y_mx a7 (nI d)) (a8 + y_b (t_ln Z n t)) := by
  obtain ⟨g1, g2, g3, g4, g5, g6⟩ := h
  have key : ∀ (f : Nat → Int32) (a : Int32), a + f t + w_su f (w_pu (d + 1) (t + 1) u (w_pu (d + 1) l t S)) = a + w_su f ((d, l, u) :: S) := fun f a => by
    show _ = a + (t_sm f l (u - l) 0 + w_su f S)
    rw [w_pu_sum (by omega), w_pu_sum h1, sp_split h1 h2]
    ac_rfl
  refine ⟨?_, by rw [key]; exact g2, by rw [key (fun j => t_wt Z n j)]; exact g3, by rw [← h3, key]; exact g4, ?_, by rw [key (fun j => y_b (t_ln Z n j))]; exact g6⟩
  · rw [w_pu_sz (by omega), w_pu_sz h1]
    rw [← g1]
    show _ = a3 + nI (u - l + w_sz S)
    rw [Int32.add_assoc]
    congr 1
    rw [show (1 : Int32) = nI 1 from rfl, nI_add]
    congr 1
    omega
  · rw [w_pu_mx (by omega), w_pu_mx h1, ← g5]
    show _ = w_mx (Z 15) S (t_mx (Z 15) l (u - l) a7)
    rw [t_mx_split h1 h2, h3]
theorem lnc_sm {Z : Nat → Nat → Int32} {n : Nat} : ∀ (k i : Nat) (a : Int32), t_lnc Z n i k a = t_sm (fun j => y_b (t_ln Z n j)) i k a
  | 0, i, a => rfl
  | k + 1, i, a => by rw [t_lnc, t_sm, lnc_sm k (i + 1)]
theorem w_I_0 {Z : Nat → Nat → Int32} {n : Nat} (hJ : K_J Z n) (h0 : 0 < n) : w_I Z n [(0, 0, n)] 0 0 0 0 (-6) 0 := by
  have e : ∀ f : Nat → Int32, (0 : Int32) + w_su f [(0, 0, n)] = t_sm f 0 n 0 := fun f => by
    show (0 : Int32) + (t_sm f 0 (n - 0) 0 + 0) = _
    rw [Int32.zero_add, Int32.add_zero, Nat.sub_zero]
  refine ⟨?_, e _, e _, e _, ?_, by rw [e, lnc_sm]⟩
  · show (0 : Int32) + nI (n - 0 + 0) = nI n
    rw [Int32.zero_add, Nat.add_zero, Nat.sub_zero]
  · show t_mx (Z 15) 0 (n - 0) (-6) = _
    rw [if_neg (by omega), Nat.sub_zero]
    refine t_mx_first h0 ?_
    have := k_e_eq hJ h0
    rw [this.1]
    exact Int32.lt_of_lt_of_le (by decide) (nI_pos' (by omega))
theorem w_I_nil {Z : Nat → Nat → Int32} {n : Nat} (h0 : n = 0) : w_I Z n [] 0 0 0 0 (-6) 0 := by
  subst h0
  exact ⟨rfl, rfl, rfl, rfl, rfl, rfl⟩
/-- counted to the end -/
theorem w_I_end {Z : Nat → Nat → Int32} {n : Nat} {a3 a4 a5 a6 a7 a8 : Int32} (hJ : K_J Z n) (h : w_I Z n [] a3 a4 a5 a6 a7 a8) : a3 = nI n ∧ a4 = t_sm (Z 17) 0 n 0 ∧ a5 = a6 + a3 ∧ a7 = (if n = 0 then -6 else t_mx (Z 15) 0 n (Z 15 0)) ∧ a8 = t_lnc Z n 0 n 0 := by
  obtain ⟨g1, g2, g3, g4, g5, g6⟩ := h
  have g1 : a3 + 0 = nI n := g1
  have g2 : a4 + 0 = _ := g2
  have g3 : a5 + 0 = _ := g3
  have g4 : a6 + 0 = _ := g4
  have g6 : a8 + 0 = _ := g6
  rw [Int32.add_zero] at g1 g2 g3 g4 g6
  refine ⟨g1, g2, ?_, g5, g6⟩
  have h2 := w_sum hJ n 0 0 n (by omega) (CT_root hJ.2.2.2.2.2.2 hJ.2.1)
  rw [Nat.sub_zero, Nat.zero_mul] at h2
  have h2 : t_sm (fun j => t_wt Z n j) 0 n 0 + 0 = _ := h2
  rw [Int32.add_zero] at h2
  rw [g3, g4, g1]
  exact h2
/-! what a node answers in a heap whose tree is Z's -/
def K_V (Zh Z : Nat → Nat → Int32) (n : Nat) : Prop := K_J Z n ∧ ∀ c, c < 131 → Zh c = Z c
section VIEW
variable {Zh Z : Nat → Nat → Int32} {P : Nat → Nat} {L n : Nat}
theorem v_J (hV : K_V Zh Z n) : K_J Zh n := K_J_congr hV.1 (by rw [hV.2 5 (by decide)]) (hV.2 9 (by decide)) (hV.2 11 (by decide)) (hV.2 15 (by decide)) (hV.2 17 (by decide))
theorem v_abt (hV : K_V Zh Z n) {j k : Nat} (hk : k ≤ 8) : c_abt Zh n j k = c_abt Z n j k := by
  have h7 := hV.2 7 (by decide)
  have h9 := hV.2 9 (by decide)
  have h13 := hV.2 13 (by decide)
  have h15 := hV.2 15 (by decide)
  have h17 := hV.2 17 (by decide)
  match k, hk with
  | 0, _ => simp only [c_abt, t_ktp, t_L, h9, h15]
  | 1, _ => simp only [c_abt, t_ktp, t_H, h9, h15]
  | 2, _ => simp only [c_abt, t_wt, t_L, t_H, h15]
  | 3, _ => simp only [c_abt, h15]
  | 4, _ => simp only [c_abt, h13]
  | 5, _ => simp only [c_abt, h17]
  | 6, _ => simp only [c_abt, t_L, t_H, h15, h17]
  | 7, _ => simp only [c_abt, t_ln, t_L, t_H, h7, h15]
  | 8, _ => simp only [c_abt, t_L, t_H, h15]
  | k + 9, hk => omega
theorem v_node (hV : K_V Zh Z n) {t k : Nat} (ht : t < n) (hk : k ≤ 8) : m_r 62 [.ref 4, .int (Z 9 t), .int (nI k)] (hp Zh P L) (some (.int (c_abt Z n t k))) (hp Zh P L) := by
  have hJ := v_J hV
  have h9 := hV.2 9 (by decide)
  have e : c_node Zh n (Z 9 t) k = c_abt Z n t k := by
    unfold c_node
    rw [if_pos (y_nmt (hV.1.2.2.1 t ht)), h9, nd_at hV.1.2.2.2.1 ht]
    exact v_abt hV hk
  rw [← e]
  match k, hk with
  | 0, _ => exact x_cnode0 hJ.1 hJ.2.1
  | 1, _ => exact x_cnode1 hJ.1 hJ.2.1
  | 2, _ => exact x_cnode2 hJ.1 hJ.2.1
  | 3, _ => exact x_cnode3 hJ.1 hJ.2.1
  | 4, _ => exact x_cnode4 hJ.1 hJ.2.1
  | 5, _ => exact x_cnode5 hJ.1 hJ.2.1
  | 6, _ => exact x_cnode6 hJ.1 hJ.2.1
  | 7, _ => exact x_cnode7 hJ.1 hJ.2.1
  | 8, _ => exact x_cnode8 hJ.1 hJ.2.1
  | k + 9, hk => omega
theorem v_val (hV : K_V Zh Z n) {t : Nat} (ht : t < n) : m_r 61 [.ref 4, .int (Z 9 t)] (hp Zh P L) (some (.int (if Z 17 t = 1 then Z 11 t else -6))) (hp Zh P L) := by
  have hJ := v_J hV
  have e : c_val Zh n (Z 9 t) = if Z 17 t = 1 then Z 11 t else -6 := by
    unfold c_val t_fn
    rw [if_pos (y_nmt (hV.1.2.2.1 t ht)), hV.2 9 (by decide), hV.2 17 (by decide), hV.2 11 (by decide), nd_at hV.1.2.2.2.1 ht]
    dsimp only
    by_cases h : Z 17 t = 1
    · rw [if_pos h, if_pos h]
    · rw [if_neg h, if_neg h]
  rw [← e]
  exact a_val hJ
theorem v_c0 (hV : K_V Zh Z n) : m_r 63 [.ref 4, .int 0] (hp Zh P L) (some (.int (nI n))) (hp Zh P L) := a_c0 (v_J hV)
theorem v_c1 (hV : K_V Zh Z n) : m_r 63 [.ref 4, .int 1] (hp Zh P L) (some (.int (t_sm (Z 17) 0 n 0))) (hp Zh P L) := by
  rw [← hV.2 17 (by decide)]
  exact a_c1 (v_J hV)
theorem v_c2 (hV : K_V Zh Z n) : m_r 63 [.ref 4, .int 2] (hp Zh P L) (some (.int (t_ktp Z 0 n 0))) (hp Zh P L) := by
  have e : t_ktp Z 0 n 0 = t_ktp Zh 0 n 0 := by
    unfold t_ktp
    rw [hV.2 9 (by decide), hV.2 15 (by decide)]
  rw [e]
  exact a_c2 (v_J hV)
theorem v_c3 (hV : K_V Zh Z n) : m_r 63 [.ref 4, .int 3] (hp Zh P L) (some (.int (if n = 0 then -6 else t_mx (Z 15) 0 n (Z 15 0)))) (hp Zh P L) := by
  rw [← hV.2 15 (by decide)]
  exact a_c3 (v_J hV)
theorem v_c9 (hV : K_V Zh Z n) : m_r 63 [.ref 4, .int 9] (hp Zh P L) (some (.int (t_lnc Z n 0 n 0))) (hp Zh P L) := by
  have e : t_lnc Z n 0 n 0 = t_lnc Zh n 0 n 0 := by
    rw [lnc_sm, lnc_sm]
    refine t_sm_congr n 0 0 (fun j _ _ => ?_)
    have h : t_ln Zh n j = t_ln Z n j := by
      unfold t_ln t_L t_H
      rw [hV.2 7 (by decide), hV.2 15 (by decide)]
    rw [h]
  rw [e]
  exact a_c9 (v_J hV)
theorem v_c10 (hV : K_V Zh Z n) : m_r 63 [.ref 4, .int 10] (hp Zh P L) (some (.int (Z 7 0))) (hp Zh P L) := by
  rw [← hV.2 7 (by decide)]
  exact a_c10 (v_J hV)
theorem v_put (hV : K_V Zh Z n) {r i : Nat} {x : Int32} (hr : 131 ≤ r) : K_V (s_upd Zh r i x) Z n := ⟨hV.1, fun c hc => by rw [s_upd_o (by omega)]; exact hV.2 c hc⟩
end VIEW
end
