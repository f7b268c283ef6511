-- ===== PART A: goes FIRST, ahead of the names: the tables' words, and 'selects' of the private methods out of them =====
/-- a private method of a class that the tables say can be made, by its rows of tables_1 -/
def lw_okq (q : MethodName × Nat) : Prop := (q.1.cls ≠ "java/lang/invoke/MethodHandle" ∧ q.1.cls ≠ "java/lang/invoke/VarHandle") ∧ Cond.instantiable q.1.cls q.2 ∈ tables_1 ∧ Cond.privateMethod q.1 ∈ tables_1 ∧ Cond.instanceMethod q.1 ∈ tables_1
theorem lw_p0 : lw_okq (⟨"LeaningTrees$History", "turn", "()V"⟩, 2) := ⟨⟨by decide +kernel, by decide +kernel⟩, List.mem_of_getElem? (i := 87) (by decide +kernel), List.mem_of_getElem? (i := 190) (by decide +kernel), List.mem_of_getElem? (i := 191) (by decide +kernel)⟩
theorem lw_p1 : lw_okq (⟨"LeaningTrees$History", "stateAt", "(I)LLeaningTrees$Tree;"⟩, 2) := ⟨⟨by decide +kernel, by decide +kernel⟩, List.mem_of_getElem? (i := 87) (by decide +kernel), List.mem_of_getElem? (i := 194) (by decide +kernel), List.mem_of_getElem? (i := 195) (by decide +kernel)⟩
theorem lw_p2 : lw_okq (⟨"LeaningTrees$Tree", "layAnew", "(I)I"⟩, 11) := ⟨⟨by decide +kernel, by decide +kernel⟩, List.mem_of_getElem? (i := 19) (by decide +kernel), List.mem_of_getElem? (i := 217) (by decide +kernel), List.mem_of_getElem? (i := 218) (by decide +kernel)⟩
theorem lw_p3 : lw_okq (⟨"LeaningTrees$Tree", "spend", "(II)V"⟩, 11) := ⟨⟨by decide +kernel, by decide +kernel⟩, List.mem_of_getElem? (i := 19) (by decide +kernel), List.mem_of_getElem? (i := 234) (by decide +kernel), List.mem_of_getElem? (i := 235) (by decide +kernel)⟩
theorem lw_p4 : lw_okq (⟨"LeaningTrees$Tree", "dropHollow", "(II)V"⟩, 11) := ⟨⟨by decide +kernel, by decide +kernel⟩, List.mem_of_getElem? (i := 19) (by decide +kernel), List.mem_of_getElem? (i := 241) (by decide +kernel), List.mem_of_getElem? (i := 242) (by decide +kernel)⟩
theorem lw_p5 : lw_okq (⟨"LeaningTrees$Tree", "moveNode", "(II)V"⟩, 11) := ⟨⟨by decide +kernel, by decide +kernel⟩, List.mem_of_getElem? (i := 19) (by decide +kernel), List.mem_of_getElem? (i := 249) (by decide +kernel), List.mem_of_getElem? (i := 250) (by decide +kernel)⟩
theorem lw_p6 : lw_okq (⟨"LeaningTrees", "shapeOfTree", "(I)I"⟩, 5) := ⟨⟨by decide +kernel, by decide +kernel⟩, List.mem_of_getElem? (i := 11) (by decide +kernel), List.mem_of_getElem? (i := 260) (by decide +kernel), List.mem_of_getElem? (i := 261) (by decide +kernel)⟩
theorem lw_p7 : lw_okq (⟨"LeaningTrees", "keyOfTop", "(III)I"⟩, 5) := ⟨⟨by decide +kernel, by decide +kernel⟩, List.mem_of_getElem? (i := 11) (by decide +kernel), List.mem_of_getElem? (i := 268) (by decide +kernel), List.mem_of_getElem? (i := 269) (by decide +kernel)⟩
theorem lw_p8 : lw_okq (⟨"LeaningTrees", "booksOfTree", "(I)I"⟩, 5) := ⟨⟨by decide +kernel, by decide +kernel⟩, List.mem_of_getElem? (i := 11) (by decide +kernel), List.mem_of_getElem? (i := 282) (by decide +kernel), List.mem_of_getElem? (i := 283) (by decide +kernel)⟩
theorem lw_p9 : lw_okq (⟨"LeaningTrees$Tree", "payOnWayTo", "(I)V"⟩, 11) := ⟨⟨by decide +kernel, by decide +kernel⟩, List.mem_of_getElem? (i := 19) (by decide +kernel), List.mem_of_getElem? (i := 357) (by decide +kernel), List.mem_of_getElem? (i := 358) (by decide +kernel)⟩
theorem lw_p10 : lw_okq (⟨"LeaningTrees$Tree", "makeNode", "(III)V"⟩, 11) := ⟨⟨by decide +kernel, by decide +kernel⟩, List.mem_of_getElem? (i := 19) (by decide +kernel), List.mem_of_getElem? (i := 361) (by decide +kernel), List.mem_of_getElem? (i := 362) (by decide +kernel)⟩
theorem lw_p11 : lw_okq (⟨"LeaningTrees", "aboutNode", "(II)I"⟩, 5) := ⟨⟨by decide +kernel, by decide +kernel⟩, List.mem_of_getElem? (i := 11) (by decide +kernel), List.mem_of_getElem? (i := 394) (by decide +kernel), List.mem_of_getElem? (i := 395) (by decide +kernel)⟩
def lw_privs_1 : List (MethodName × Nat) := [(⟨"LeaningTrees$History", "turn", "()V"⟩, 2), (⟨"LeaningTrees$History", "stateAt", "(I)LLeaningTrees$Tree;"⟩, 2), (⟨"LeaningTrees$Tree", "layAnew", "(I)I"⟩, 11), (⟨"LeaningTrees$Tree", "spend", "(II)V"⟩, 11), (⟨"LeaningTrees$Tree", "dropHollow", "(II)V"⟩, 11), (⟨"LeaningTrees$Tree", "moveNode", "(II)V"⟩, 11), (⟨"LeaningTrees", "shapeOfTree", "(I)I"⟩, 5), (⟨"LeaningTrees", "keyOfTop", "(III)I"⟩, 5), (⟨"LeaningTrees", "booksOfTree", "(I)I"⟩, 5), (⟨"LeaningTrees$Tree", "payOnWayTo", "(I)V"⟩, 11), (⟨"LeaningTrees$Tree", "makeNode", "(III)V"⟩, 11), (⟨"LeaningTrees", "aboutNode", "(II)I"⟩, 5)]
theorem lw_r1 : ∀ q ∈ lw_privs_1, lw_okq q := List.forall_mem_cons.mpr ⟨lw_p0, List.forall_mem_cons.mpr ⟨lw_p1, List.forall_mem_cons.mpr ⟨lw_p2, List.forall_mem_cons.mpr ⟨lw_p3, List.forall_mem_cons.mpr ⟨lw_p4, List.forall_mem_cons.mpr ⟨lw_p5, List.forall_mem_cons.mpr ⟨lw_p6, List.forall_mem_cons.mpr ⟨lw_p7, List.forall_mem_cons.mpr ⟨lw_p8, List.forall_mem_cons.mpr ⟨lw_p9, List.forall_mem_cons.mpr ⟨lw_p10, List.forall_mem_cons.mpr ⟨lw_p11, fun _ h => absurd h List.not_mem_nil⟩⟩⟩⟩⟩⟩⟩⟩⟩⟩⟩⟩
def lw_privs : List (MethodName × Nat) := lw_privs_1
def lw_tbl : List Cond := k2_sels lw_privs ++ tables_1
theorem lw_privs_ok : ∀ q ∈ lw_privs, lw_okq q := lw_r1
def RX0 : String := "LeaningTrees$History"
def TX0 : u_T := fun k => match k with
  | 0 => ("LeaningTrees$History", "states", "[LLeaningTrees$Tree;", true)
  | _ => ("LeaningTrees$History", "length", "I", false)
def tyX0 : Nat → FieldType := fun k => match k with
  | 0 => .array (.object "LeaningTrees$Tree")
  | _ => .int
theorem nmX0 : ∀ a, a < 2 → ∀ b, b < 2 → a ≠ b → (TX0 a).2.1 ≠ (TX0 b).2.1 := by decide +kernel
theorem tyX0_ok : ∀ k, k < 2 → parseFieldDescriptor (TX0 k).2.2.1 = some (tyX0 k) := by decide +kernel
abbrev cX0_init : ByteArray := prog_2_method_1_code
def yX0_init : MethodName := ⟨RX0, "<init>", "()V"⟩
abbrev cX0_keep : ByteArray := prog_2_method_2_code
def yX0_keep : MethodName := ⟨RX0, "keep", "(LLeaningTrees$Tree;)V"⟩
abbrev cX0_takeBackInto : ByteArray := prog_2_method_3_code
def yX0_takeBackInto : MethodName := ⟨RX0, "takeBackInto", "(LLeaningTrees$Tree;)Z"⟩
abbrev cX0_turn : ByteArray := prog_2_method_4_code
def yX0_turn : MethodName := ⟨RX0, "turn", "()V"⟩
abbrev cX0_stateAt : ByteArray := prog_2_method_5_code
def yX0_stateAt : MethodName := ⟨RX0, "stateAt", "(I)LLeaningTrees$Tree;"⟩
def RX1 : String := "LeaningTrees$OrderReader"
def TX1 : u_T := fun k => match k with
  | 0 => ("LeaningTrees$OrderReader", "sign", "I", false)
  | 1 => ("LeaningTrees$OrderReader", "stage", "I", false)
  | 2 => ("LeaningTrees$OrderReader", "key", "I", false)
  | 3 => ("LeaningTrees$OrderReader", "number", "I", false)
  | _ => ("LeaningTrees$OrderReader", "hasValue", "Z", false)
def tyX1 : Nat → FieldType := fun k => match k with
  | 0 => .int
  | 1 => .int
  | 2 => .int
  | 3 => .int
  | _ => .boolean
theorem nmX1 : ∀ a, a < 5 → ∀ b, b < 5 → a ≠ b → (TX1 a).2.1 ≠ (TX1 b).2.1 := by decide +kernel
theorem tyX1_ok : ∀ k, k < 5 → parseFieldDescriptor (TX1 k).2.2.1 = some (tyX1 k) := by decide +kernel
abbrev cX1_init : ByteArray := prog_3_method_1_code
def yX1_init : MethodName := ⟨RX1, "<init>", "()V"⟩
def RX2 : String := "LeaningTrees$Pad"
def TX2 : u_T := fun k => match k with
  | 0 => ("LeaningTrees$Pad", "codes", "LLeaningTrees$Row;", true)
  | _ => ("LeaningTrees$Pad", "length", "I", false)
def tyX2 : Nat → FieldType := fun k => match k with
  | 0 => .object "LeaningTrees$Row"
  | _ => .int
theorem nmX2 : ∀ a, a < 2 → ∀ b, b < 2 → a ≠ b → (TX2 a).2.1 ≠ (TX2 b).2.1 := by decide +kernel
theorem tyX2_ok : ∀ k, k < 2 → parseFieldDescriptor (TX2 k).2.2.1 = some (tyX2 k) := by decide +kernel
abbrev cX2_init : ByteArray := prog_4_method_1_code
def yX2_init : MethodName := ⟨RX2, "<init>", "()V"⟩
def RX3 : String := "LeaningTrees$Row"
def TX3 : u_T := fun k => match k with
  | _ => ("LeaningTrees$Row", "cells", "[I", true)
def tyX3 : Nat → FieldType := fun k => match k with
  | _ => .array .int
theorem nmX3 : ∀ a, a < 1 → ∀ b, b < 1 → a ≠ b → (TX3 a).2.1 ≠ (TX3 b).2.1 := by decide +kernel
theorem tyX3_ok : ∀ k, k < 1 → parseFieldDescriptor (TX3 k).2.2.1 = some (tyX3 k) := by decide +kernel
abbrev cX3_init : ByteArray := prog_5_method_1_code
def yX3_init : MethodName := ⟨RX3, "<init>", "(I)V"⟩
abbrev cX3_at : ByteArray := prog_5_method_2_code
def yX3_at : MethodName := ⟨RX3, "at", "(I)I"⟩
abbrev cX3_write : ByteArray := prog_5_method_3_code
def yX3_write : MethodName := ⟨RX3, "write", "(II)V"⟩
abbrev cX3_become : ByteArray := prog_5_method_4_code
def yX3_become : MethodName := ⟨RX3, "become", "(LLeaningTrees$Row;)V"⟩
abbrev cX3_total : ByteArray := prog_5_method_5_code
def yX3_total : MethodName := ⟨RX3, "total", "(II)I"⟩
abbrev cX3_greatest : ByteArray := prog_5_method_6_code
def yX3_greatest : MethodName := ⟨RX3, "greatest", "(II)I"⟩
def RX4 : String := "LeaningTrees$Slot"
def TX4 : u_T := fun k => match k with
  | 0 => ("LeaningTrees$Slot", "tree", "LLeaningTrees$Tree;", true)
  | _ => ("LeaningTrees$Slot", "isSaved", "Z", false)
def tyX4 : Nat → FieldType := fun k => match k with
  | 0 => .object "LeaningTrees$Tree"
  | _ => .boolean
theorem nmX4 : ∀ a, a < 2 → ∀ b, b < 2 → a ≠ b → (TX4 a).2.1 ≠ (TX4 b).2.1 := by decide +kernel
theorem tyX4_ok : ∀ k, k < 2 → parseFieldDescriptor (TX4 k).2.2.1 = some (tyX4 k) := by decide +kernel
abbrev cX4_init : ByteArray := prog_6_method_1_code
def yX4_init : MethodName := ⟨RX4, "<init>", "()V"⟩
def RX5 : String := "LeaningTrees$Tree"
def TX5 : u_T := fun k => match k with
  | 0 => ("LeaningTrees$Tree", "settings", "LLeaningTrees$Row;", true)
  | 1 => ("LeaningTrees$Tree", "keys", "LLeaningTrees$Row;", true)
  | 2 => ("LeaningTrees$Tree", "values", "LLeaningTrees$Row;", true)
  | 3 => ("LeaningTrees$Tree", "paid", "LLeaningTrees$Row;", true)
  | 4 => ("LeaningTrees$Tree", "depths", "LLeaningTrees$Row;", true)
  | 5 => ("LeaningTrees$Tree", "full", "LLeaningTrees$Row;", true)
  | 6 => ("LeaningTrees$Tree", "nodes", "I", false)
  | 7 => ("LeaningTrees$Tree", "work", "I", false)
  | 8 => ("LeaningTrees$Tree", "funds", "I", false)
  | 9 => ("LeaningTrees$Tree", "rebuildings", "I", false)
  | _ => ("LeaningTrees$Tree", "heaviest", "I", false)
def tyX5 : Nat → FieldType := fun k => match k with
  | 0 => .object "LeaningTrees$Row"
  | 1 => .object "LeaningTrees$Row"
  | 2 => .object "LeaningTrees$Row"
  | 3 => .object "LeaningTrees$Row"
  | 4 => .object "LeaningTrees$Row"
  | 5 => .object "LeaningTrees$Row"
  | 6 => .int
  | 7 => .int
  | 8 => .int
  | 9 => .int
  | _ => .int
theorem nmX5 : ∀ a, a < 11 → ∀ b, b < 11 → a ≠ b → (TX5 a).2.1 ≠ (TX5 b).2.1 := by decide +kernel
theorem tyX5_ok : ∀ k, k < 11 → parseFieldDescriptor (TX5 k).2.2.1 = some (tyX5 k) := by decide +kernel
abbrev cX5_init : ByteArray := prog_7_method_1_code
def yX5_init : MethodName := ⟨RX5, "<init>", "()V"⟩
abbrev cX5_become : ByteArray := prog_7_method_2_code
def yX5_become : MethodName := ⟨RX5, "become", "(LLeaningTrees$Tree;)V"⟩
abbrev cX5_placeOf : ByteArray := prog_7_method_3_code
def yX5_placeOf : MethodName := ⟨RX5, "placeOf", "(I)I"⟩
abbrev cX5_nodeOf : ByteArray := prog_7_method_4_code
def yX5_nodeOf : MethodName := ⟨RX5, "nodeOf", "(I)I"⟩
abbrev cX5_fullNodeOf : ByteArray := prog_7_method_5_code
def yX5_fullNodeOf : MethodName := ⟨RX5, "fullNodeOf", "(I)I"⟩
abbrev cX5_isFull : ByteArray := prog_7_method_6_code
def yX5_isFull : MethodName := ⟨RX5, "isFull", "(I)Z"⟩
abbrev cX5_allKeys : ByteArray := prog_7_method_7_code
def yX5_allKeys : MethodName := ⟨RX5, "allKeys", "()I"⟩
abbrev cX5_keysAhead : ByteArray := prog_7_method_8_code
def yX5_keysAhead : MethodName := ⟨RX5, "keysAhead", "(I)I"⟩
abbrev cX5_placeOfKth : ByteArray := prog_7_method_9_code
def yX5_placeOfKth : MethodName := ⟨RX5, "placeOfKth", "(I)I"⟩
abbrev cX5_lowestOf : ByteArray := prog_7_method_10_code
def yX5_lowestOf : MethodName := ⟨RX5, "lowestOf", "(I)I"⟩
abbrev cX5_highestOf : ByteArray := prog_7_method_11_code
def yX5_highestOf : MethodName := ⟨RX5, "highestOf", "(I)I"⟩
abbrev cX5_topBetween : ByteArray := prog_7_method_12_code
def yX5_topBetween : MethodName := ⟨RX5, "topBetween", "(III)I"⟩
abbrev cX5_isTooHeavy : ByteArray := prog_7_method_13_code
def yX5_isTooHeavy : MethodName := ⟨RX5, "isTooHeavy", "(II)Z"⟩
abbrev cX5_leans : ByteArray := prog_7_method_14_code
def yX5_leans : MethodName := ⟨RX5, "leans", "(I)Z"⟩
abbrev cX5_leaningNodes : ByteArray := prog_7_method_15_code
def yX5_leaningNodes : MethodName := ⟨RX5, "leaningNodes", "()I"⟩
abbrev cX5_wouldLeanWithNewAt : ByteArray := prog_7_method_16_code
def yX5_wouldLeanWithNewAt : MethodName := ⟨RX5, "wouldLeanWithNewAt", "(I)I"⟩
abbrev cX5_costOf : ByteArray := prog_7_method_17_code
def yX5_costOf : MethodName := ⟨RX5, "costOf", "(I)I"⟩
abbrev cX5_hasRoomFor : ByteArray := prog_7_method_18_code
def yX5_hasRoomFor : MethodName := ⟨RX5, "hasRoomFor", "(I)Z"⟩
abbrev cX5_enter : ByteArray := prog_7_method_19_code
def yX5_enter : MethodName := ⟨RX5, "enter", "(II)I"⟩
abbrev cX5_hollowOut : ByteArray := prog_7_method_20_code
def yX5_hollowOut : MethodName := ⟨RX5, "hollowOut", "(I)I"⟩
abbrev cX5_layAnewFromKey : ByteArray := prog_7_method_21_code
def yX5_layAnewFromKey : MethodName := ⟨RX5, "layAnewFromKey", "(I)I"⟩
abbrev cX5_payOnWayTo : ByteArray := prog_7_method_22_code
def yX5_payOnWayTo : MethodName := ⟨RX5, "payOnWayTo", "(I)V"⟩
abbrev cX5_makeNode : ByteArray := prog_7_method_23_code
def yX5_makeNode : MethodName := ⟨RX5, "makeNode", "(III)V"⟩
abbrev cX5_moveNode : ByteArray := prog_7_method_24_code
def yX5_moveNode : MethodName := ⟨RX5, "moveNode", "(II)V"⟩
abbrev cX5_layAnew : ByteArray := prog_7_method_25_code
def yX5_layAnew : MethodName := ⟨RX5, "layAnew", "(I)I"⟩
abbrev cX5_spend : ByteArray := prog_7_method_26_code
def yX5_spend : MethodName := ⟨RX5, "spend", "(II)V"⟩
abbrev cX5_dropHollow : ByteArray := prog_7_method_27_code
def yX5_dropHollow : MethodName := ⟨RX5, "dropHollow", "(II)V"⟩
abbrev cX5_depthLaidEvenly : ByteArray := prog_7_method_28_code
def yX5_depthLaidEvenly : MethodName := ⟨RX5, "depthLaidEvenly", "(II)I"⟩
def RX6 : String := "LeaningTrees"
def TX6 : u_T := fun k => match k with
  | 0 => ("LeaningTrees", "now", "LLeaningTrees$Tree;", true)
  | 1 => ("LeaningTrees", "history", "LLeaningTrees$History;", true)
  | 2 => ("LeaningTrees", "slots", "[LLeaningTrees$Slot;", true)
  | 3 => ("LeaningTrees", "pad", "LLeaningTrees$Pad;", true)
  | _ => ("LeaningTrees", "reader", "LLeaningTrees$OrderReader;", true)
def tyX6 : Nat → FieldType := fun k => match k with
  | 0 => .object "LeaningTrees$Tree"
  | 1 => .object "LeaningTrees$History"
  | 2 => .array (.object "LeaningTrees$Slot")
  | 3 => .object "LeaningTrees$Pad"
  | _ => .object "LeaningTrees$OrderReader"
theorem nmX6 : ∀ a, a < 5 → ∀ b, b < 5 → a ≠ b → (TX6 a).2.1 ≠ (TX6 b).2.1 := by decide +kernel
theorem tyX6_ok : ∀ k, k < 5 → parseFieldDescriptor (TX6 k).2.2.1 = some (tyX6 k) := by decide +kernel
abbrev cX6_init : ByteArray := prog_1_method_1_code
def yX6_init : MethodName := ⟨RX6, "<init>", "()V"⟩
abbrev cX6_set : ByteArray := prog_1_method_2_code
def yX6_set : MethodName := ⟨RX6, "set", "(II)I"⟩
abbrev cX6_putIn : ByteArray := prog_1_method_3_code
def yX6_putIn : MethodName := ⟨RX6, "putIn", "(II)I"⟩
abbrev cX6_remove : ByteArray := prog_1_method_4_code
def yX6_remove : MethodName := ⟨RX6, "remove", "(I)I"⟩
abbrev cX6_rebuild : ByteArray := prog_1_method_5_code
def yX6_rebuild : MethodName := ⟨RX6, "rebuild", "(I)I"⟩
abbrev cX6_value : ByteArray := prog_1_method_6_code
def yX6_value : MethodName := ⟨RX6, "value", "(I)I"⟩
abbrev cX6_node : ByteArray := prog_1_method_7_code
def yX6_node : MethodName := ⟨RX6, "node", "(II)I"⟩
abbrev cX6_count : ByteArray := prog_1_method_8_code
def yX6_count : MethodName := ⟨RX6, "count", "(I)I"⟩
abbrev cX6_rank : ByteArray := prog_1_method_11_code
def yX6_rank : MethodName := ⟨RX6, "rank", "(I)I"⟩
abbrev cX6_kth : ByteArray := prog_1_method_12_code
def yX6_kth : MethodName := ⟨RX6, "kth", "(I)I"⟩
abbrev cX6_neighbour : ByteArray := prog_1_method_13_code
def yX6_neighbour : MethodName := ⟨RX6, "neighbour", "(II)I"⟩
abbrev cX6_sum : ByteArray := prog_1_method_14_code
def yX6_sum : MethodName := ⟨RX6, "sum", "(II)I"⟩
abbrev cX6_wouldCost : ByteArray := prog_1_method_15_code
def yX6_wouldCost : MethodName := ⟨RX6, "wouldCost", "(I)I"⟩
abbrev cX6_undo : ByteArray := prog_1_method_21_code
def yX6_undo : MethodName := ⟨RX6, "undo", "()I"⟩
abbrev cX6_isNumber : ByteArray := prog_1_method_24_code
def yX6_isNumber : MethodName := ⟨RX6, "isNumber", "(I)Z"⟩
abbrev cX6_isSetting : ByteArray := prog_1_method_25_code
def yX6_isSetting : MethodName := ⟨RX6, "isSetting", "(II)Z"⟩
abbrev cX6_aboutNode : ByteArray := prog_1_method_27_code
def yX6_aboutNode : MethodName := ⟨RX6, "aboutNode", "(II)I"⟩
abbrev cX6_shapeOfTree : ByteArray := prog_1_method_28_code
def yX6_shapeOfTree : MethodName := ⟨RX6, "shapeOfTree", "(I)I"⟩
abbrev cX6_booksOfTree : ByteArray := prog_1_method_29_code
def yX6_booksOfTree : MethodName := ⟨RX6, "booksOfTree", "(I)I"⟩
abbrev cX6_keyOfTop : ByteArray := prog_1_method_30_code
def yX6_keyOfTop : MethodName := ⟨RX6, "keyOfTop", "(III)I"⟩
def RX7 : String := "LeaningTreesModel"
def TX7 : u_T := fun k => match k with
  | _ => ("", "", "", false)
def tyX7 : Nat → FieldType := fun k => match k with
  | _ => .int
theorem nmX7 : ∀ a, a < 0 → ∀ b, b < 0 → a ≠ b → (TX7 a).2.1 ≠ (TX7 b).2.1 := by decide +kernel
theorem tyX7_ok : ∀ k, k < 0 → parseFieldDescriptor (TX7 k).2.2.1 = some (tyX7 k) := by decide +kernel
def RL : String := "LeaningTreesLaw"
abbrev cL_cell : ByteArray := method_2_code
def yL_cell : MethodName := ⟨RL, "cell", "([II)I"⟩
abbrev cL_up : ByteArray := method_3_code
def yL_up : MethodName := ⟨RL, "up", "(II)I"⟩
abbrev cL_paid : ByteArray := method_4_code
def yL_paid : MethodName := ⟨RL, "paid", "(LLeaningTrees;)I"⟩
abbrev cL_isStep : ByteArray := method_5_code
def yL_isStep : MethodName := ⟨RL, "isStep", "(LLeaningTrees;I)Z"⟩
abbrev cL_isTree : ByteArray := method_6_code
def yL_isTree : MethodName := ⟨RL, "isTree", "(LLeaningTrees;)Z"⟩
abbrev cL_areKeys : ByteArray := method_7_code
def yL_areKeys : MethodName := ⟨RL, "areKeys", "(LLeaningTrees;)Z"⟩
abbrev cL_law : ByteArray := code
def yL_law : MethodName := ⟨RL, "law", "([I)Z"⟩
abbrev s_host : String := "LeaningTrees"
def s_vw : List vw_C := [(RX0, TX0, 2), (RX1, TX1, 5), (RX2, TX2, 2), (RX3, TX3, 1), (RX4, TX4, 2), (RX5, TX5, 11), (RX6, TX6, 5)]
def s_tyf : Nat → Nat → FieldType := fun c => match c with
  | 0 => tyX0
  | 1 => tyX1
  | 2 => tyX2
  | 3 => tyX3
  | 4 => tyX4
  | 5 => tyX5
  | _ => tyX6
def s_snf : Nat → String × String × String := fun j => match j with
  | 0 => ("LeaningTrees", "FIRST_SETTINGS", "[I")
  | 1 => ("LeaningTrees", "LEAST_SETTINGS", "[I")
  | _ => ("LeaningTrees", "GREATEST_SETTINGS", "[I")
def s_nwl : List Jvm.Cond := [.methodLinkNest "LeaningTrees" 31 yX2_init "LeaningTrees", .methodLinkNest "LeaningTrees" 38 yX1_init "LeaningTrees", .methodLinkNest "LeaningTrees" 43 yX4_init "LeaningTrees", .fieldLinkNest "LeaningTrees$Tree" 11 "LeaningTrees" "FIRST_SETTINGS" "[I" "LeaningTrees", .arrayOver (.object RX4), .arrayOver (.object RX5)]
abbrev s_rkl : List Nat := [4, 5]
