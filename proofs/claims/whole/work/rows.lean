section
-- ===== PART A: goes FIRST, ahead of the names: the tables' words, and 'selects' of the private methods out of them =====
/-- a private method of a class that the tables say can be made, by its rows of tables_1 -/
def lw_okq (q : MethodName × Nat) : Prop := (q.1.cls ≠ "java/lang/invoke/MethodHandle" ∧ q.1.cls ≠ "java/lang/invoke/VarHandle") ∧ Cond.instantiable q.1.cls q.2 ∈ tables_1 ∧ Cond.privateMethod q.1 ∈ tables_1 ∧ Cond.instanceMethod q.1 ∈ tables_1
theorem lw_p0 : lw_okq (⟨"LeaningTrees$History", "turn", "()V"⟩, 2) := ⟨⟨by decide +kernel, by decide +kernel⟩, List.mem_of_getElem? (i := 90) (by decide +kernel), List.mem_of_getElem? (i := 195) (by decide +kernel), List.mem_of_getElem? (i := 196) (by decide +kernel)⟩
theorem lw_p1 : lw_okq (⟨"LeaningTrees$History", "stateAt", "(I)LLeaningTrees$Tree;"⟩, 2) := ⟨⟨by decide +kernel, by decide +kernel⟩, List.mem_of_getElem? (i := 90) (by decide +kernel), List.mem_of_getElem? (i := 199) (by decide +kernel), List.mem_of_getElem? (i := 200) (by decide +kernel)⟩
theorem lw_p2 : lw_okq (⟨"LeaningTrees$Tree", "payOnWayTo", "(I)V"⟩, 11) := ⟨⟨by decide +kernel, by decide +kernel⟩, List.mem_of_getElem? (i := 22) (by decide +kernel), List.mem_of_getElem? (i := 247) (by decide +kernel), List.mem_of_getElem? (i := 248) (by decide +kernel)⟩
theorem lw_p3 : lw_okq (⟨"LeaningTrees$Tree", "makeNode", "(III)V"⟩, 11) := ⟨⟨by decide +kernel, by decide +kernel⟩, List.mem_of_getElem? (i := 22) (by decide +kernel), List.mem_of_getElem? (i := 266) (by decide +kernel), List.mem_of_getElem? (i := 267) (by decide +kernel)⟩
theorem lw_p4 : lw_okq (⟨"LeaningTrees$Tree", "moveNode", "(II)V"⟩, 11) := ⟨⟨by decide +kernel, by decide +kernel⟩, List.mem_of_getElem? (i := 22) (by decide +kernel), List.mem_of_getElem? (i := 270) (by decide +kernel), List.mem_of_getElem? (i := 271) (by decide +kernel)⟩
theorem lw_p5 : lw_okq (⟨"LeaningTrees$Tree", "layAnew", "(I)I"⟩, 11) := ⟨⟨by decide +kernel, by decide +kernel⟩, List.mem_of_getElem? (i := 22) (by decide +kernel), List.mem_of_getElem? (i := 274) (by decide +kernel), List.mem_of_getElem? (i := 275) (by decide +kernel)⟩
theorem lw_p6 : lw_okq (⟨"LeaningTrees$Tree", "spend", "(II)V"⟩, 11) := ⟨⟨by decide +kernel, by decide +kernel⟩, List.mem_of_getElem? (i := 22) (by decide +kernel), List.mem_of_getElem? (i := 291) (by decide +kernel), List.mem_of_getElem? (i := 292) (by decide +kernel)⟩
theorem lw_p7 : lw_okq (⟨"LeaningTrees$Tree", "dropHollow", "(II)V"⟩, 11) := ⟨⟨by decide +kernel, by decide +kernel⟩, List.mem_of_getElem? (i := 22) (by decide +kernel), List.mem_of_getElem? (i := 295) (by decide +kernel), List.mem_of_getElem? (i := 296) (by decide +kernel)⟩
theorem lw_p8 : lw_okq (⟨"LeaningTrees", "aboutNode", "(II)I"⟩, 5) := ⟨⟨by decide +kernel, by decide +kernel⟩, List.mem_of_getElem? (i := 14) (by decide +kernel), List.mem_of_getElem? (i := 340) (by decide +kernel), List.mem_of_getElem? (i := 341) (by decide +kernel)⟩
theorem lw_p9 : lw_okq (⟨"LeaningTrees", "keyOfTop", "(III)I"⟩, 5) := ⟨⟨by decide +kernel, by decide +kernel⟩, List.mem_of_getElem? (i := 14) (by decide +kernel), List.mem_of_getElem? (i := 346) (by decide +kernel), List.mem_of_getElem? (i := 347) (by decide +kernel)⟩
theorem lw_p10 : lw_okq (⟨"LeaningTrees", "shapeOfTree", "(I)I"⟩, 5) := ⟨⟨by decide +kernel, by decide +kernel⟩, List.mem_of_getElem? (i := 14) (by decide +kernel), List.mem_of_getElem? (i := 366) (by decide +kernel), List.mem_of_getElem? (i := 367) (by decide +kernel)⟩
theorem lw_p11 : lw_okq (⟨"LeaningTrees", "booksOfTree", "(I)I"⟩, 5) := ⟨⟨by decide +kernel, by decide +kernel⟩, List.mem_of_getElem? (i := 14) (by decide +kernel), List.mem_of_getElem? (i := 371) (by decide +kernel), List.mem_of_getElem? (i := 372) (by decide +kernel)⟩
theorem lw_p12 : lw_okq (⟨"LeaningTrees$OrderReader", "takesSign", "(I)Z"⟩, 5) := ⟨⟨by decide +kernel, by decide +kernel⟩, List.mem_of_getElem? (i := 126) (by decide +kernel), List.mem_of_getElem? (i := 468) (by decide +kernel), List.mem_of_getElem? (i := 469) (by decide +kernel)⟩
theorem lw_p13 : lw_okq (⟨"LeaningTrees$OrderReader", "takesFirstDigit", "(I)Z"⟩, 5) := ⟨⟨by decide +kernel, by decide +kernel⟩, List.mem_of_getElem? (i := 126) (by decide +kernel), List.mem_of_getElem? (i := 472) (by decide +kernel), List.mem_of_getElem? (i := 473) (by decide +kernel)⟩
theorem lw_p14 : lw_okq (⟨"LeaningTrees$OrderReader", "takesDigit", "(I)Z"⟩, 5) := ⟨⟨by decide +kernel, by decide +kernel⟩, List.mem_of_getElem? (i := 126) (by decide +kernel), List.mem_of_getElem? (i := 479) (by decide +kernel), List.mem_of_getElem? (i := 480) (by decide +kernel)⟩
theorem lw_p15 : lw_okq (⟨"LeaningTrees$OrderReader", "takesEqualsSign", "(I)Z"⟩, 5) := ⟨⟨by decide +kernel, by decide +kernel⟩, List.mem_of_getElem? (i := 126) (by decide +kernel), List.mem_of_getElem? (i := 483) (by decide +kernel), List.mem_of_getElem? (i := 484) (by decide +kernel)⟩
def lw_privs_1 : List (MethodName × Nat) := [(⟨"LeaningTrees$History", "turn", "()V"⟩, 2), (⟨"LeaningTrees$History", "stateAt", "(I)LLeaningTrees$Tree;"⟩, 2), (⟨"LeaningTrees$Tree", "payOnWayTo", "(I)V"⟩, 11), (⟨"LeaningTrees$Tree", "makeNode", "(III)V"⟩, 11), (⟨"LeaningTrees$Tree", "moveNode", "(II)V"⟩, 11), (⟨"LeaningTrees$Tree", "layAnew", "(I)I"⟩, 11), (⟨"LeaningTrees$Tree", "spend", "(II)V"⟩, 11), (⟨"LeaningTrees$Tree", "dropHollow", "(II)V"⟩, 11), (⟨"LeaningTrees", "aboutNode", "(II)I"⟩, 5), (⟨"LeaningTrees", "keyOfTop", "(III)I"⟩, 5), (⟨"LeaningTrees", "shapeOfTree", "(I)I"⟩, 5), (⟨"LeaningTrees", "booksOfTree", "(I)I"⟩, 5), (⟨"LeaningTrees$OrderReader", "takesSign", "(I)Z"⟩, 5), (⟨"LeaningTrees$OrderReader", "takesFirstDigit", "(I)Z"⟩, 5), (⟨"LeaningTrees$OrderReader", "takesDigit", "(I)Z"⟩, 5), (⟨"LeaningTrees$OrderReader", "takesEqualsSign", "(I)Z"⟩, 5)]
theorem lw_r1 : ∀ q ∈ lw_privs_1, lw_okq q := List.forall_mem_cons.mpr ⟨lw_p0, List.forall_mem_cons.mpr ⟨lw_p1, List.forall_mem_cons.mpr ⟨lw_p2, List.forall_mem_cons.mpr ⟨lw_p3, List.forall_mem_cons.mpr ⟨lw_p4, List.forall_mem_cons.mpr ⟨lw_p5, List.forall_mem_cons.mpr ⟨lw_p6, List.forall_mem_cons.mpr ⟨lw_p7, List.forall_mem_cons.mpr ⟨lw_p8, List.forall_mem_cons.mpr ⟨lw_p9, List.forall_mem_cons.mpr ⟨lw_p10, List.forall_mem_cons.mpr ⟨lw_p11, List.forall_mem_cons.mpr ⟨lw_p12, List.forall_mem_cons.mpr ⟨lw_p13, List.forall_mem_cons.mpr ⟨lw_p14, List.forall_mem_cons.mpr ⟨lw_p15, fun _ h => absurd h List.not_mem_nil⟩⟩⟩⟩⟩⟩⟩⟩⟩⟩⟩⟩⟩⟩⟩⟩
theorem lw_p16 : lw_okq (⟨"LeaningTrees$OrderReader", "takesEndOfOrder", "(I)Z"⟩, 5) := ⟨⟨by decide +kernel, by decide +kernel⟩, List.mem_of_getElem? (i := 126) (by decide +kernel), List.mem_of_getElem? (i := 487) (by decide +kernel), List.mem_of_getElem? (i := 488) (by decide +kernel)⟩
theorem lw_p17 : lw_okq (⟨"LeaningTrees", "answerToOrder", "()I"⟩, 5) := ⟨⟨by decide +kernel, by decide +kernel⟩, List.mem_of_getElem? (i := 14) (by decide +kernel), List.mem_of_getElem? (i := 500) (by decide +kernel), List.mem_of_getElem? (i := 501) (by decide +kernel)⟩
theorem lw_p18 : lw_okq (⟨"LeaningTrees", "slotAt", "(I)LLeaningTrees$Slot;"⟩, 5) := ⟨⟨by decide +kernel, by decide +kernel⟩, List.mem_of_getElem? (i := 14) (by decide +kernel), List.mem_of_getElem? (i := 524) (by decide +kernel), List.mem_of_getElem? (i := 525) (by decide +kernel)⟩
theorem lw_p19 : lw_okq (⟨"LeaningTreesModel", "keep", "()V"⟩, 16) := ⟨⟨by decide +kernel, by decide +kernel⟩, List.mem_of_getElem? (i := 533) (by decide +kernel), List.mem_of_getElem? (i := 592) (by decide +kernel), List.mem_of_getElem? (i := 593) (by decide +kernel)⟩
theorem lw_p20 : lw_okq (⟨"LeaningTreesModel", "doSet", "(II)I"⟩, 16) := ⟨⟨by decide +kernel, by decide +kernel⟩, List.mem_of_getElem? (i := 533) (by decide +kernel), List.mem_of_getElem? (i := 596) (by decide +kernel), List.mem_of_getElem? (i := 597) (by decide +kernel)⟩
theorem lw_p21 : lw_okq (⟨"LeaningTreesModel", "changed", "(I)I"⟩, 16) := ⟨⟨by decide +kernel, by decide +kernel⟩, List.mem_of_getElem? (i := 533) (by decide +kernel), List.mem_of_getElem? (i := 608) (by decide +kernel), List.mem_of_getElem? (i := 609) (by decide +kernel)⟩
theorem lw_p22 : lw_okq (⟨"LeaningTreesModel", "doPutIn", "(II)I"⟩, 16) := ⟨⟨by decide +kernel, by decide +kernel⟩, List.mem_of_getElem? (i := 533) (by decide +kernel), List.mem_of_getElem? (i := 616) (by decide +kernel), List.mem_of_getElem? (i := 617) (by decide +kernel)⟩
theorem lw_p23 : lw_okq (⟨"LeaningTreesModel", "find", "(I)I"⟩, 16) := ⟨⟨by decide +kernel, by decide +kernel⟩, List.mem_of_getElem? (i := 533) (by decide +kernel), List.mem_of_getElem? (i := 624) (by decide +kernel), List.mem_of_getElem? (i := 625) (by decide +kernel)⟩
theorem lw_p24 : lw_okq (⟨"LeaningTreesModel", "pays", "(I)V"⟩, 16) := ⟨⟨by decide +kernel, by decide +kernel⟩, List.mem_of_getElem? (i := 533) (by decide +kernel), List.mem_of_getElem? (i := 628) (by decide +kernel), List.mem_of_getElem? (i := 629) (by decide +kernel)⟩
theorem lw_p25 : lw_okq (⟨"LeaningTreesModel", "isUnder", "(II)Z"⟩, 16) := ⟨⟨by decide +kernel, by decide +kernel⟩, List.mem_of_getElem? (i := 533) (by decide +kernel), List.mem_of_getElem? (i := 632) (by decide +kernel), List.mem_of_getElem? (i := 633) (by decide +kernel)⟩
theorem lw_p26 : lw_okq (⟨"LeaningTreesModel", "first", "(I)I"⟩, 16) := ⟨⟨by decide +kernel, by decide +kernel⟩, List.mem_of_getElem? (i := 533) (by decide +kernel), List.mem_of_getElem? (i := 636) (by decide +kernel), List.mem_of_getElem? (i := 637) (by decide +kernel)⟩
theorem lw_p27 : lw_okq (⟨"LeaningTreesModel", "depth", "(I)I"⟩, 16) := ⟨⟨by decide +kernel, by decide +kernel⟩, List.mem_of_getElem? (i := 533) (by decide +kernel), List.mem_of_getElem? (i := 640) (by decide +kernel), List.mem_of_getElem? (i := 641) (by decide +kernel)⟩
theorem lw_p28 : lw_okq (⟨"LeaningTreesModel", "last", "(I)I"⟩, 16) := ⟨⟨by decide +kernel, by decide +kernel⟩, List.mem_of_getElem? (i := 533) (by decide +kernel), List.mem_of_getElem? (i := 644) (by decide +kernel), List.mem_of_getElem? (i := 645) (by decide +kernel)⟩
theorem lw_p29 : lw_okq (⟨"LeaningTreesModel", "comes", "(II)V"⟩, 16) := ⟨⟨by decide +kernel, by decide +kernel⟩, List.mem_of_getElem? (i := 533) (by decide +kernel), List.mem_of_getElem? (i := 648) (by decide +kernel), List.mem_of_getElem? (i := 649) (by decide +kernel)⟩
theorem lw_p30 : lw_okq (⟨"LeaningTreesModel", "newDepth", "(I)I"⟩, 16) := ⟨⟨by decide +kernel, by decide +kernel⟩, List.mem_of_getElem? (i := 533) (by decide +kernel), List.mem_of_getElem? (i := 652) (by decide +kernel), List.mem_of_getElem? (i := 653) (by decide +kernel)⟩
theorem lw_p31 : lw_okq (⟨"LeaningTreesModel", "leaningAbove", "(I)I"⟩, 16) := ⟨⟨by decide +kernel, by decide +kernel⟩, List.mem_of_getElem? (i := 533) (by decide +kernel), List.mem_of_getElem? (i := 656) (by decide +kernel), List.mem_of_getElem? (i := 657) (by decide +kernel)⟩
def lw_privs_2 : List (MethodName × Nat) := [(⟨"LeaningTrees$OrderReader", "takesEndOfOrder", "(I)Z"⟩, 5), (⟨"LeaningTrees", "answerToOrder", "()I"⟩, 5), (⟨"LeaningTrees", "slotAt", "(I)LLeaningTrees$Slot;"⟩, 5), (⟨"LeaningTreesModel", "keep", "()V"⟩, 16), (⟨"LeaningTreesModel", "doSet", "(II)I"⟩, 16), (⟨"LeaningTreesModel", "changed", "(I)I"⟩, 16), (⟨"LeaningTreesModel", "doPutIn", "(II)I"⟩, 16), (⟨"LeaningTreesModel", "find", "(I)I"⟩, 16), (⟨"LeaningTreesModel", "pays", "(I)V"⟩, 16), (⟨"LeaningTreesModel", "isUnder", "(II)Z"⟩, 16), (⟨"LeaningTreesModel", "first", "(I)I"⟩, 16), (⟨"LeaningTreesModel", "depth", "(I)I"⟩, 16), (⟨"LeaningTreesModel", "last", "(I)I"⟩, 16), (⟨"LeaningTreesModel", "comes", "(II)V"⟩, 16), (⟨"LeaningTreesModel", "newDepth", "(I)I"⟩, 16), (⟨"LeaningTreesModel", "leaningAbove", "(I)I"⟩, 16)]
theorem lw_r2 : ∀ q ∈ lw_privs_2, lw_okq q := List.forall_mem_cons.mpr ⟨lw_p16, List.forall_mem_cons.mpr ⟨lw_p17, List.forall_mem_cons.mpr ⟨lw_p18, List.forall_mem_cons.mpr ⟨lw_p19, List.forall_mem_cons.mpr ⟨lw_p20, List.forall_mem_cons.mpr ⟨lw_p21, List.forall_mem_cons.mpr ⟨lw_p22, List.forall_mem_cons.mpr ⟨lw_p23, List.forall_mem_cons.mpr ⟨lw_p24, List.forall_mem_cons.mpr ⟨lw_p25, List.forall_mem_cons.mpr ⟨lw_p26, List.forall_mem_cons.mpr ⟨lw_p27, List.forall_mem_cons.mpr ⟨lw_p28, List.forall_mem_cons.mpr ⟨lw_p29, List.forall_mem_cons.mpr ⟨lw_p30, List.forall_mem_cons.mpr ⟨lw_p31, fun _ h => absurd h List.not_mem_nil⟩⟩⟩⟩⟩⟩⟩⟩⟩⟩⟩⟩⟩⟩⟩⟩
theorem lw_p32 : lw_okq (⟨"LeaningTreesModel", "leans", "(I)Z"⟩, 16) := ⟨⟨by decide +kernel, by decide +kernel⟩, List.mem_of_getElem? (i := 533) (by decide +kernel), List.mem_of_getElem? (i := 660) (by decide +kernel), List.mem_of_getElem? (i := 661) (by decide +kernel)⟩
theorem lw_p33 : lw_okq (⟨"LeaningTreesModel", "heavier", "(I)I"⟩, 16) := ⟨⟨by decide +kernel, by decide +kernel⟩, List.mem_of_getElem? (i := 533) (by decide +kernel), List.mem_of_getElem? (i := 664) (by decide +kernel), List.mem_of_getElem? (i := 665) (by decide +kernel)⟩
theorem lw_p34 : lw_okq (⟨"LeaningTreesModel", "childWeight", "(II)I"⟩, 16) := ⟨⟨by decide +kernel, by decide +kernel⟩, List.mem_of_getElem? (i := 533) (by decide +kernel), List.mem_of_getElem? (i := 668) (by decide +kernel), List.mem_of_getElem? (i := 669) (by decide +kernel)⟩
theorem lw_p35 : lw_okq (⟨"LeaningTreesModel", "weight", "(I)I"⟩, 16) := ⟨⟨by decide +kernel, by decide +kernel⟩, List.mem_of_getElem? (i := 533) (by decide +kernel), List.mem_of_getElem? (i := 672) (by decide +kernel), List.mem_of_getElem? (i := 673) (by decide +kernel)⟩
theorem lw_p36 : lw_okq (⟨"LeaningTreesModel", "rebuilds", "(I)I"⟩, 16) := ⟨⟨by decide +kernel, by decide +kernel⟩, List.mem_of_getElem? (i := 533) (by decide +kernel), List.mem_of_getElem? (i := 676) (by decide +kernel), List.mem_of_getElem? (i := 677) (by decide +kernel)⟩
theorem lw_p37 : lw_okq (⟨"LeaningTreesModel", "sumOf", "(III)I"⟩, 16) := ⟨⟨by decide +kernel, by decide +kernel⟩, List.mem_of_getElem? (i := 533) (by decide +kernel), List.mem_of_getElem? (i := 680) (by decide +kernel), List.mem_of_getElem? (i := 681) (by decide +kernel)⟩
theorem lw_p38 : lw_okq (⟨"LeaningTreesModel", "takesOut", "(I)V"⟩, 16) := ⟨⟨by decide +kernel, by decide +kernel⟩, List.mem_of_getElem? (i := 533) (by decide +kernel), List.mem_of_getElem? (i := 684) (by decide +kernel), List.mem_of_getElem? (i := 685) (by decide +kernel)⟩
theorem lw_p39 : lw_okq (⟨"LeaningTreesModel", "lays", "(III)V"⟩, 16) := ⟨⟨by decide +kernel, by decide +kernel⟩, List.mem_of_getElem? (i := 533) (by decide +kernel), List.mem_of_getElem? (i := 688) (by decide +kernel), List.mem_of_getElem? (i := 689) (by decide +kernel)⟩
theorem lw_p40 : lw_okq (⟨"LeaningTreesModel", "doRemove", "(I)I"⟩, 16) := ⟨⟨by decide +kernel, by decide +kernel⟩, List.mem_of_getElem? (i := 533) (by decide +kernel), List.mem_of_getElem? (i := 696) (by decide +kernel), List.mem_of_getElem? (i := 697) (by decide +kernel)⟩
theorem lw_p41 : lw_okq (⟨"LeaningTreesModel", "fulls", "()I"⟩, 16) := ⟨⟨by decide +kernel, by decide +kernel⟩, List.mem_of_getElem? (i := 533) (by decide +kernel), List.mem_of_getElem? (i := 700) (by decide +kernel), List.mem_of_getElem? (i := 701) (by decide +kernel)⟩
theorem lw_p42 : lw_okq (⟨"LeaningTreesModel", "root", "()I"⟩, 16) := ⟨⟨by decide +kernel, by decide +kernel⟩, List.mem_of_getElem? (i := 533) (by decide +kernel), List.mem_of_getElem? (i := 704) (by decide +kernel), List.mem_of_getElem? (i := 705) (by decide +kernel)⟩
theorem lw_p43 : lw_okq (⟨"LeaningTreesModel", "doRebuild", "(I)I"⟩, 16) := ⟨⟨by decide +kernel, by decide +kernel⟩, List.mem_of_getElem? (i := 533) (by decide +kernel), List.mem_of_getElem? (i := 712) (by decide +kernel), List.mem_of_getElem? (i := 713) (by decide +kernel)⟩
theorem lw_p44 : lw_okq (⟨"LeaningTreesModel", "nodeValue", "(II)I"⟩, 16) := ⟨⟨by decide +kernel, by decide +kernel⟩, List.mem_of_getElem? (i := 533) (by decide +kernel), List.mem_of_getElem? (i := 725) (by decide +kernel), List.mem_of_getElem? (i := 726) (by decide +kernel)⟩
theorem lw_p45 : lw_okq (⟨"LeaningTreesModel", "child", "(II)I"⟩, 16) := ⟨⟨by decide +kernel, by decide +kernel⟩, List.mem_of_getElem? (i := 533) (by decide +kernel), List.mem_of_getElem? (i := 729) (by decide +kernel), List.mem_of_getElem? (i := 730) (by decide +kernel)⟩
theorem lw_p46 : lw_okq (⟨"LeaningTreesModel", "keyOf", "(I)I"⟩, 16) := ⟨⟨by decide +kernel, by decide +kernel⟩, List.mem_of_getElem? (i := 533) (by decide +kernel), List.mem_of_getElem? (i := 733) (by decide +kernel), List.mem_of_getElem? (i := 734) (by decide +kernel)⟩
theorem lw_p47 : lw_okq (⟨"LeaningTreesModel", "deepest", "(II)I"⟩, 16) := ⟨⟨by decide +kernel, by decide +kernel⟩, List.mem_of_getElem? (i := 533) (by decide +kernel), List.mem_of_getElem? (i := 737) (by decide +kernel), List.mem_of_getElem? (i := 738) (by decide +kernel)⟩
def lw_privs_3 : List (MethodName × Nat) := [(⟨"LeaningTreesModel", "leans", "(I)Z"⟩, 16), (⟨"LeaningTreesModel", "heavier", "(I)I"⟩, 16), (⟨"LeaningTreesModel", "childWeight", "(II)I"⟩, 16), (⟨"LeaningTreesModel", "weight", "(I)I"⟩, 16), (⟨"LeaningTreesModel", "rebuilds", "(I)I"⟩, 16), (⟨"LeaningTreesModel", "sumOf", "(III)I"⟩, 16), (⟨"LeaningTreesModel", "takesOut", "(I)V"⟩, 16), (⟨"LeaningTreesModel", "lays", "(III)V"⟩, 16), (⟨"LeaningTreesModel", "doRemove", "(I)I"⟩, 16), (⟨"LeaningTreesModel", "fulls", "()I"⟩, 16), (⟨"LeaningTreesModel", "root", "()I"⟩, 16), (⟨"LeaningTreesModel", "doRebuild", "(I)I"⟩, 16), (⟨"LeaningTreesModel", "nodeValue", "(II)I"⟩, 16), (⟨"LeaningTreesModel", "child", "(II)I"⟩, 16), (⟨"LeaningTreesModel", "keyOf", "(I)I"⟩, 16), (⟨"LeaningTreesModel", "deepest", "(II)I"⟩, 16)]
theorem lw_r3 : ∀ q ∈ lw_privs_3, lw_okq q := List.forall_mem_cons.mpr ⟨lw_p32, List.forall_mem_cons.mpr ⟨lw_p33, List.forall_mem_cons.mpr ⟨lw_p34, List.forall_mem_cons.mpr ⟨lw_p35, List.forall_mem_cons.mpr ⟨lw_p36, List.forall_mem_cons.mpr ⟨lw_p37, List.forall_mem_cons.mpr ⟨lw_p38, List.forall_mem_cons.mpr ⟨lw_p39, List.forall_mem_cons.mpr ⟨lw_p40, List.forall_mem_cons.mpr ⟨lw_p41, List.forall_mem_cons.mpr ⟨lw_p42, List.forall_mem_cons.mpr ⟨lw_p43, List.forall_mem_cons.mpr ⟨lw_p44, List.forall_mem_cons.mpr ⟨lw_p45, List.forall_mem_cons.mpr ⟨lw_p46, List.forall_mem_cons.mpr ⟨lw_p47, fun _ h => absurd h List.not_mem_nil⟩⟩⟩⟩⟩⟩⟩⟩⟩⟩⟩⟩⟩⟩⟩⟩
theorem lw_p48 : lw_okq (⟨"LeaningTreesModel", "leaningNodes", "()I"⟩, 16) := ⟨⟨by decide +kernel, by decide +kernel⟩, List.mem_of_getElem? (i := 533) (by decide +kernel), List.mem_of_getElem? (i := 747) (by decide +kernel), List.mem_of_getElem? (i := 748) (by decide +kernel)⟩
theorem lw_p49 : lw_okq (⟨"LeaningTreesModel", "below", "(I)I"⟩, 16) := ⟨⟨by decide +kernel, by decide +kernel⟩, List.mem_of_getElem? (i := 533) (by decide +kernel), List.mem_of_getElem? (i := 784) (by decide +kernel), List.mem_of_getElem? (i := 785) (by decide +kernel)⟩
theorem lw_p50 : lw_okq (⟨"LeaningTreesModel", "keyAt", "(I)I"⟩, 16) := ⟨⟨by decide +kernel, by decide +kernel⟩, List.mem_of_getElem? (i := 533) (by decide +kernel), List.mem_of_getElem? (i := 792) (by decide +kernel), List.mem_of_getElem? (i := 793) (by decide +kernel)⟩
theorem lw_p51 : lw_okq (⟨"LeaningTreesModel", "giveBack", "()V"⟩, 16) := ⟨⟨by decide +kernel, by decide +kernel⟩, List.mem_of_getElem? (i := 533) (by decide +kernel), List.mem_of_getElem? (i := 808) (by decide +kernel), List.mem_of_getElem? (i := 809) (by decide +kernel)⟩
theorem lw_p52 : lw_okq (⟨"LeaningTreesModel", "readsOrder", "()Z"⟩, 16) := ⟨⟨by decide +kernel, by decide +kernel⟩, List.mem_of_getElem? (i := 533) (by decide +kernel), List.mem_of_getElem? (i := 832) (by decide +kernel), List.mem_of_getElem? (i := 833) (by decide +kernel)⟩
theorem lw_p53 : lw_okq (⟨"LeaningTreesModel", "readsNumber", "()Z"⟩, 16) := ⟨⟨by decide +kernel, by decide +kernel⟩, List.mem_of_getElem? (i := 533) (by decide +kernel), List.mem_of_getElem? (i := 836) (by decide +kernel), List.mem_of_getElem? (i := 837) (by decide +kernel)⟩
theorem lw_p54 : lw_okq (⟨"LeaningTreesModel", "isHere", "(II)Z"⟩, 16) := ⟨⟨by decide +kernel, by decide +kernel⟩, List.mem_of_getElem? (i := 533) (by decide +kernel), List.mem_of_getElem? (i := 840) (by decide +kernel), List.mem_of_getElem? (i := 841) (by decide +kernel)⟩
theorem lw_p55 : lw_okq (⟨"LeaningTreesModel", "takes", "(I)Z"⟩, 16) := ⟨⟨by decide +kernel, by decide +kernel⟩, List.mem_of_getElem? (i := 533) (by decide +kernel), List.mem_of_getElem? (i := 844) (by decide +kernel), List.mem_of_getElem? (i := 845) (by decide +kernel)⟩
theorem lw_p56 : lw_okq (⟨"LeaningTreesModel", "doOrder", "()I"⟩, 16) := ⟨⟨by decide +kernel, by decide +kernel⟩, List.mem_of_getElem? (i := 533) (by decide +kernel), List.mem_of_getElem? (i := 853) (by decide +kernel), List.mem_of_getElem? (i := 854) (by decide +kernel)⟩
def lw_privs_4 : List (MethodName × Nat) := [(⟨"LeaningTreesModel", "leaningNodes", "()I"⟩, 16), (⟨"LeaningTreesModel", "below", "(I)I"⟩, 16), (⟨"LeaningTreesModel", "keyAt", "(I)I"⟩, 16), (⟨"LeaningTreesModel", "giveBack", "()V"⟩, 16), (⟨"LeaningTreesModel", "readsOrder", "()Z"⟩, 16), (⟨"LeaningTreesModel", "readsNumber", "()Z"⟩, 16), (⟨"LeaningTreesModel", "isHere", "(II)Z"⟩, 16), (⟨"LeaningTreesModel", "takes", "(I)Z"⟩, 16), (⟨"LeaningTreesModel", "doOrder", "()I"⟩, 16)]
theorem lw_r4 : ∀ q ∈ lw_privs_4, lw_okq q := List.forall_mem_cons.mpr ⟨lw_p48, List.forall_mem_cons.mpr ⟨lw_p49, List.forall_mem_cons.mpr ⟨lw_p50, List.forall_mem_cons.mpr ⟨lw_p51, List.forall_mem_cons.mpr ⟨lw_p52, List.forall_mem_cons.mpr ⟨lw_p53, List.forall_mem_cons.mpr ⟨lw_p54, List.forall_mem_cons.mpr ⟨lw_p55, List.forall_mem_cons.mpr ⟨lw_p56, fun _ h => absurd h List.not_mem_nil⟩⟩⟩⟩⟩⟩⟩⟩⟩
def lw_privs : List (MethodName × Nat) := lw_privs_1 ++ (lw_privs_2 ++ (lw_privs_3 ++ (lw_privs_4)))
def lw_tbl : List Cond := k2_sels lw_privs ++ tables_1
theorem lw_privs_ok : ∀ q ∈ lw_privs, lw_okq q := by
  show ∀ q ∈ lw_privs_1 ++ (lw_privs_2 ++ (lw_privs_3 ++ (lw_privs_4))), lw_okq q
  exact List.forall_mem_append.mpr ⟨lw_r1, List.forall_mem_append.mpr ⟨lw_r2, List.forall_mem_append.mpr ⟨lw_r3, lw_r4⟩⟩⟩
/-- the streams that the claim lets the run draw from -/
abbrev lw_cs : List Choice := [Jvm.Choice.named "NaN.bits"]
theorem lw_bits : nanBits ∈ lw_cs := by first | decide | exact List.mem_cons_self | simp [lw_cs, nanBits]
def RX0 : String := "LeaningTrees$History"
def TX0 : u_T := fun k => match k with
  | 0 => ("LeaningTrees$History", "states", "[LLeaningTrees$Tree;", true)
  | _ => ("LeaningTrees$History", "length", "I", false)
def tyX0 : Nat → FieldType := fun k => match k with
  | 0 => .array (.object "LeaningTrees$Tree")
  | _ => .int
theorem nmX0 : ∀ a, a < 2 → ∀ b, b < 2 → a ≠ b → (TX0 a).2.1 ≠ (TX0 b).2.1 := by decide +kernel
theorem tyX0_ok : ∀ k, k < 2 → parseFieldDescriptor (TX0 k).2.2.1 = some (tyX0 k) := by decide +kernel
abbrev cX0_init : ByteArray := prog_2_method_1_code
def yX0_init : MethodName := ⟨RX0, "<init>", "()V"⟩
abbrev cX0_keep : ByteArray := prog_2_method_2_code
def yX0_keep : MethodName := ⟨RX0, "keep", "(LLeaningTrees$Tree;)V"⟩
abbrev cX0_takeBackInto : ByteArray := prog_2_method_3_code
def yX0_takeBackInto : MethodName := ⟨RX0, "takeBackInto", "(LLeaningTrees$Tree;)Z"⟩
abbrev cX0_turn : ByteArray := prog_2_method_4_code
def yX0_turn : MethodName := ⟨RX0, "turn", "()V"⟩
abbrev cX0_stateAt : ByteArray := prog_2_method_5_code
def yX0_stateAt : MethodName := ⟨RX0, "stateAt", "(I)LLeaningTrees$Tree;"⟩
def RX1 : String := "LeaningTrees$OrderReader"
def TX1 : u_T := fun k => match k with
  | 0 => ("LeaningTrees$OrderReader", "sign", "I", false)
  | 1 => ("LeaningTrees$OrderReader", "stage", "I", false)
  | 2 => ("LeaningTrees$OrderReader", "key", "I", false)
  | 3 => ("LeaningTrees$OrderReader", "number", "I", false)
  | _ => ("LeaningTrees$OrderReader", "hasValue", "Z", false)
def tyX1 : Nat → FieldType := fun k => match k with
  | 0 => .int
  | 1 => .int
  | 2 => .int
  | 3 => .int
  | _ => .boolean
theorem nmX1 : ∀ a, a < 5 → ∀ b, b < 5 → a ≠ b → (TX1 a).2.1 ≠ (TX1 b).2.1 := by decide +kernel
theorem tyX1_ok : ∀ k, k < 5 → parseFieldDescriptor (TX1 k).2.2.1 = some (tyX1 k) := by decide +kernel
abbrev cX1_init : ByteArray := prog_3_method_1_code
def yX1_init : MethodName := ⟨RX1, "<init>", "()V"⟩
abbrev cX1_begin : ByteArray := prog_3_method_2_code
def yX1_begin : MethodName := ⟨RX1, "begin", "()V"⟩
abbrev cX1_takes : ByteArray := prog_3_method_3_code
def yX1_takes : MethodName := ⟨RX1, "takes", "(I)Z"⟩
abbrev cX1_hasWholeOrder : ByteArray := prog_3_method_4_code
def yX1_hasWholeOrder : MethodName := ⟨RX1, "hasWholeOrder", "()Z"⟩
abbrev cX1_keyOfOrder : ByteArray := prog_3_method_5_code
def yX1_keyOfOrder : MethodName := ⟨RX1, "keyOfOrder", "()I"⟩
abbrev cX1_valueOfOrder : ByteArray := prog_3_method_6_code
def yX1_valueOfOrder : MethodName := ⟨RX1, "valueOfOrder", "()I"⟩
abbrev cX1_takesSign : ByteArray := prog_3_method_7_code
def yX1_takesSign : MethodName := ⟨RX1, "takesSign", "(I)Z"⟩
abbrev cX1_takesFirstDigit : ByteArray := prog_3_method_8_code
def yX1_takesFirstDigit : MethodName := ⟨RX1, "takesFirstDigit", "(I)Z"⟩
abbrev cX1_takesDigit : ByteArray := prog_3_method_9_code
def yX1_takesDigit : MethodName := ⟨RX1, "takesDigit", "(I)Z"⟩
abbrev cX1_takesEqualsSign : ByteArray := prog_3_method_10_code
def yX1_takesEqualsSign : MethodName := ⟨RX1, "takesEqualsSign", "(I)Z"⟩
abbrev cX1_takesEndOfOrder : ByteArray := prog_3_method_11_code
def yX1_takesEndOfOrder : MethodName := ⟨RX1, "takesEndOfOrder", "(I)Z"⟩
abbrev cX1_isDigit : ByteArray := prog_3_method_12_code
def yX1_isDigit : MethodName := ⟨RX1, "isDigit", "(I)Z"⟩
def RX2 : String := "LeaningTrees$Pad"
def TX2 : u_T := fun k => match k with
  | 0 => ("LeaningTrees$Pad", "codes", "LLeaningTrees$Row;", true)
  | _ => ("LeaningTrees$Pad", "length", "I", false)
def tyX2 : Nat → FieldType := fun k => match k with
  | 0 => .object "LeaningTrees$Row"
  | _ => .int
theorem nmX2 : ∀ a, a < 2 → ∀ b, b < 2 → a ≠ b → (TX2 a).2.1 ≠ (TX2 b).2.1 := by decide +kernel
theorem tyX2_ok : ∀ k, k < 2 → parseFieldDescriptor (TX2 k).2.2.1 = some (tyX2 k) := by decide +kernel
abbrev cX2_init : ByteArray := prog_4_method_1_code
def yX2_init : MethodName := ⟨RX2, "<init>", "()V"⟩
abbrev cX2_charactersIn : ByteArray := prog_4_method_2_code
def yX2_charactersIn : MethodName := ⟨RX2, "charactersIn", "(J)I"⟩
abbrev cX2_append : ByteArray := prog_4_method_3_code
def yX2_append : MethodName := ⟨RX2, "append", "(JI)V"⟩
abbrev cX2_codeFromEnd : ByteArray := prog_4_method_4_code
def yX2_codeFromEnd : MethodName := ⟨RX2, "codeFromEnd", "(JI)I"⟩
def RX3 : String := "LeaningTrees$Row"
def TX3 : u_T := fun k => match k with
  | _ => ("LeaningTrees$Row", "cells", "[I", true)
def tyX3 : Nat → FieldType := fun k => match k with
  | _ => .array .int
theorem nmX3 : ∀ a, a < 1 → ∀ b, b < 1 → a ≠ b → (TX3 a).2.1 ≠ (TX3 b).2.1 := by decide +kernel
theorem tyX3_ok : ∀ k, k < 1 → parseFieldDescriptor (TX3 k).2.2.1 = some (tyX3 k) := by decide +kernel
abbrev cX3_init : ByteArray := prog_5_method_1_code
def yX3_init : MethodName := ⟨RX3, "<init>", "(I)V"⟩
abbrev cX3_at : ByteArray := prog_5_method_2_code
def yX3_at : MethodName := ⟨RX3, "at", "(I)I"⟩
abbrev cX3_write : ByteArray := prog_5_method_3_code
def yX3_write : MethodName := ⟨RX3, "write", "(II)V"⟩
abbrev cX3_become : ByteArray := prog_5_method_4_code
def yX3_become : MethodName := ⟨RX3, "become", "(LLeaningTrees$Row;)V"⟩
abbrev cX3_total : ByteArray := prog_5_method_5_code
def yX3_total : MethodName := ⟨RX3, "total", "(II)I"⟩
abbrev cX3_greatest : ByteArray := prog_5_method_6_code
def yX3_greatest : MethodName := ⟨RX3, "greatest", "(II)I"⟩
def RX4 : String := "LeaningTrees$Slot"
def TX4 : u_T := fun k => match k with
  | 0 => ("LeaningTrees$Slot", "tree", "LLeaningTrees$Tree;", true)
  | _ => ("LeaningTrees$Slot", "isSaved", "Z", false)
def tyX4 : Nat → FieldType := fun k => match k with
  | 0 => .object "LeaningTrees$Tree"
  | _ => .boolean
theorem nmX4 : ∀ a, a < 2 → ∀ b, b < 2 → a ≠ b → (TX4 a).2.1 ≠ (TX4 b).2.1 := by decide +kernel
theorem tyX4_ok : ∀ k, k < 2 → parseFieldDescriptor (TX4 k).2.2.1 = some (tyX4 k) := by decide +kernel
abbrev cX4_init : ByteArray := prog_6_method_1_code
def yX4_init : MethodName := ⟨RX4, "<init>", "()V"⟩
def RX5 : String := "LeaningTrees$Tree"
def TX5 : u_T := fun k => match k with
  | 0 => ("LeaningTrees$Tree", "settings", "LLeaningTrees$Row;", true)
  | 1 => ("LeaningTrees$Tree", "keys", "LLeaningTrees$Row;", true)
  | 2 => ("LeaningTrees$Tree", "values", "LLeaningTrees$Row;", true)
  | 3 => ("LeaningTrees$Tree", "paid", "LLeaningTrees$Row;", true)
  | 4 => ("LeaningTrees$Tree", "depths", "LLeaningTrees$Row;", true)
  | 5 => ("LeaningTrees$Tree", "full", "LLeaningTrees$Row;", true)
  | 6 => ("LeaningTrees$Tree", "nodes", "I", false)
  | 7 => ("LeaningTrees$Tree", "work", "I", false)
  | 8 => ("LeaningTrees$Tree", "funds", "I", false)
  | 9 => ("LeaningTrees$Tree", "rebuildings", "I", false)
  | _ => ("LeaningTrees$Tree", "heaviest", "I", false)
def tyX5 : Nat → FieldType := fun k => match k with
  | 0 => .object "LeaningTrees$Row"
  | 1 => .object "LeaningTrees$Row"
  | 2 => .object "LeaningTrees$Row"
  | 3 => .object "LeaningTrees$Row"
  | 4 => .object "LeaningTrees$Row"
  | 5 => .object "LeaningTrees$Row"
  | 6 => .int
  | 7 => .int
  | 8 => .int
  | 9 => .int
  | _ => .int
theorem nmX5 : ∀ a, a < 11 → ∀ b, b < 11 → a ≠ b → (TX5 a).2.1 ≠ (TX5 b).2.1 := by decide +kernel
theorem tyX5_ok : ∀ k, k < 11 → parseFieldDescriptor (TX5 k).2.2.1 = some (tyX5 k) := by decide +kernel
abbrev cX5_init : ByteArray := prog_7_method_1_code
def yX5_init : MethodName := ⟨RX5, "<init>", "()V"⟩
abbrev cX5_become : ByteArray := prog_7_method_2_code
def yX5_become : MethodName := ⟨RX5, "become", "(LLeaningTrees$Tree;)V"⟩
abbrev cX5_placeOf : ByteArray := prog_7_method_3_code
def yX5_placeOf : MethodName := ⟨RX5, "placeOf", "(I)I"⟩
abbrev cX5_nodeOf : ByteArray := prog_7_method_4_code
def yX5_nodeOf : MethodName := ⟨RX5, "nodeOf", "(I)I"⟩
abbrev cX5_fullNodeOf : ByteArray := prog_7_method_5_code
def yX5_fullNodeOf : MethodName := ⟨RX5, "fullNodeOf", "(I)I"⟩
abbrev cX5_isFull : ByteArray := prog_7_method_6_code
def yX5_isFull : MethodName := ⟨RX5, "isFull", "(I)Z"⟩
abbrev cX5_allKeys : ByteArray := prog_7_method_7_code
def yX5_allKeys : MethodName := ⟨RX5, "allKeys", "()I"⟩
abbrev cX5_keysAhead : ByteArray := prog_7_method_8_code
def yX5_keysAhead : MethodName := ⟨RX5, "keysAhead", "(I)I"⟩
abbrev cX5_placeOfKth : ByteArray := prog_7_method_9_code
def yX5_placeOfKth : MethodName := ⟨RX5, "placeOfKth", "(I)I"⟩
abbrev cX5_lowestOf : ByteArray := prog_7_method_10_code
def yX5_lowestOf : MethodName := ⟨RX5, "lowestOf", "(I)I"⟩
abbrev cX5_highestOf : ByteArray := prog_7_method_11_code
def yX5_highestOf : MethodName := ⟨RX5, "highestOf", "(I)I"⟩
abbrev cX5_topBetween : ByteArray := prog_7_method_12_code
def yX5_topBetween : MethodName := ⟨RX5, "topBetween", "(III)I"⟩
abbrev cX5_isTooHeavy : ByteArray := prog_7_method_13_code
def yX5_isTooHeavy : MethodName := ⟨RX5, "isTooHeavy", "(II)Z"⟩
abbrev cX5_leans : ByteArray := prog_7_method_14_code
def yX5_leans : MethodName := ⟨RX5, "leans", "(I)Z"⟩
abbrev cX5_leaningNodes : ByteArray := prog_7_method_15_code
def yX5_leaningNodes : MethodName := ⟨RX5, "leaningNodes", "()I"⟩
abbrev cX5_wouldLeanWithNewAt : ByteArray := prog_7_method_16_code
def yX5_wouldLeanWithNewAt : MethodName := ⟨RX5, "wouldLeanWithNewAt", "(I)I"⟩
abbrev cX5_costOf : ByteArray := prog_7_method_17_code
def yX5_costOf : MethodName := ⟨RX5, "costOf", "(I)I"⟩
abbrev cX5_hasRoomFor : ByteArray := prog_7_method_18_code
def yX5_hasRoomFor : MethodName := ⟨RX5, "hasRoomFor", "(I)Z"⟩
abbrev cX5_enter : ByteArray := prog_7_method_19_code
def yX5_enter : MethodName := ⟨RX5, "enter", "(II)I"⟩
abbrev cX5_hollowOut : ByteArray := prog_7_method_20_code
def yX5_hollowOut : MethodName := ⟨RX5, "hollowOut", "(I)I"⟩
abbrev cX5_layAnewFromKey : ByteArray := prog_7_method_21_code
def yX5_layAnewFromKey : MethodName := ⟨RX5, "layAnewFromKey", "(I)I"⟩
abbrev cX5_payOnWayTo : ByteArray := prog_7_method_22_code
def yX5_payOnWayTo : MethodName := ⟨RX5, "payOnWayTo", "(I)V"⟩
abbrev cX5_makeNode : ByteArray := prog_7_method_23_code
def yX5_makeNode : MethodName := ⟨RX5, "makeNode", "(III)V"⟩
abbrev cX5_moveNode : ByteArray := prog_7_method_24_code
def yX5_moveNode : MethodName := ⟨RX5, "moveNode", "(II)V"⟩
abbrev cX5_layAnew : ByteArray := prog_7_method_25_code
def yX5_layAnew : MethodName := ⟨RX5, "layAnew", "(I)I"⟩
abbrev cX5_spend : ByteArray := prog_7_method_26_code
def yX5_spend : MethodName := ⟨RX5, "spend", "(II)V"⟩
abbrev cX5_dropHollow : ByteArray := prog_7_method_27_code
def yX5_dropHollow : MethodName := ⟨RX5, "dropHollow", "(II)V"⟩
abbrev cX5_depthLaidEvenly : ByteArray := prog_7_method_28_code
def yX5_depthLaidEvenly : MethodName := ⟨RX5, "depthLaidEvenly", "(II)I"⟩
def RX6 : String := "LeaningTrees"
def TX6 : u_T := fun k => match k with
  | 0 => ("LeaningTrees", "now", "LLeaningTrees$Tree;", true)
  | 1 => ("LeaningTrees", "history", "LLeaningTrees$History;", true)
  | 2 => ("LeaningTrees", "slots", "[LLeaningTrees$Slot;", true)
  | 3 => ("LeaningTrees", "pad", "LLeaningTrees$Pad;", true)
  | _ => ("LeaningTrees", "reader", "LLeaningTrees$OrderReader;", true)
def tyX6 : Nat → FieldType := fun k => match k with
  | 0 => .object "LeaningTrees$Tree"
  | 1 => .object "LeaningTrees$History"
  | 2 => .array (.object "LeaningTrees$Slot")
  | 3 => .object "LeaningTrees$Pad"
  | _ => .object "LeaningTrees$OrderReader"
theorem nmX6 : ∀ a, a < 5 → ∀ b, b < 5 → a ≠ b → (TX6 a).2.1 ≠ (TX6 b).2.1 := by decide +kernel
theorem tyX6_ok : ∀ k, k < 5 → parseFieldDescriptor (TX6 k).2.2.1 = some (tyX6 k) := by decide +kernel
abbrev cX6_init : ByteArray := prog_1_method_1_code
def yX6_init : MethodName := ⟨RX6, "<init>", "()V"⟩
abbrev cX6_set : ByteArray := prog_1_method_2_code
def yX6_set : MethodName := ⟨RX6, "set", "(II)I"⟩
abbrev cX6_putIn : ByteArray := prog_1_method_3_code
def yX6_putIn : MethodName := ⟨RX6, "putIn", "(II)I"⟩
abbrev cX6_remove : ByteArray := prog_1_method_4_code
def yX6_remove : MethodName := ⟨RX6, "remove", "(I)I"⟩
abbrev cX6_rebuild : ByteArray := prog_1_method_5_code
def yX6_rebuild : MethodName := ⟨RX6, "rebuild", "(I)I"⟩
abbrev cX6_value : ByteArray := prog_1_method_6_code
def yX6_value : MethodName := ⟨RX6, "value", "(I)I"⟩
abbrev cX6_node : ByteArray := prog_1_method_7_code
def yX6_node : MethodName := ⟨RX6, "node", "(II)I"⟩
abbrev cX6_count : ByteArray := prog_1_method_8_code
def yX6_count : MethodName := ⟨RX6, "count", "(I)I"⟩
abbrev cX6_meanDepth : ByteArray := prog_1_method_9_code
def yX6_meanDepth : MethodName := ⟨RX6, "meanDepth", "(I)J"⟩
abbrev cX6_leaning : ByteArray := prog_1_method_10_code
def yX6_leaning : MethodName := ⟨RX6, "leaning", "(I)I"⟩
abbrev cX6_rank : ByteArray := prog_1_method_11_code
def yX6_rank : MethodName := ⟨RX6, "rank", "(I)I"⟩
abbrev cX6_kth : ByteArray := prog_1_method_12_code
def yX6_kth : MethodName := ⟨RX6, "kth", "(I)I"⟩
abbrev cX6_neighbour : ByteArray := prog_1_method_13_code
def yX6_neighbour : MethodName := ⟨RX6, "neighbour", "(II)I"⟩
abbrev cX6_sum : ByteArray := prog_1_method_14_code
def yX6_sum : MethodName := ⟨RX6, "sum", "(II)I"⟩
abbrev cX6_wouldCost : ByteArray := prog_1_method_15_code
def yX6_wouldCost : MethodName := ⟨RX6, "wouldCost", "(I)I"⟩
abbrev cX6_worst : ByteArray := prog_1_method_16_code
def yX6_worst : MethodName := ⟨RX6, "worst", "(I)I"⟩
abbrev cX6_put : ByteArray := prog_1_method_17_code
def yX6_put : MethodName := ⟨RX6, "put", "(J)I"⟩
abbrev cX6_wipe : ByteArray := prog_1_method_18_code
def yX6_wipe : MethodName := ⟨RX6, "wipe", "()I"⟩
abbrev cX6_fault : ByteArray := prog_1_method_19_code
def yX6_fault : MethodName := ⟨RX6, "fault", "()I"⟩
abbrev cX6_carryOut : ByteArray := prog_1_method_20_code
def yX6_carryOut : MethodName := ⟨RX6, "carryOut", "()I"⟩
abbrev cX6_undo : ByteArray := prog_1_method_21_code
def yX6_undo : MethodName := ⟨RX6, "undo", "()I"⟩
abbrev cX6_save : ByteArray := prog_1_method_22_code
def yX6_save : MethodName := ⟨RX6, "save", "(I)I"⟩
abbrev cX6_restore : ByteArray := prog_1_method_23_code
def yX6_restore : MethodName := ⟨RX6, "restore", "(I)I"⟩
abbrev cX6_isNumber : ByteArray := prog_1_method_24_code
def yX6_isNumber : MethodName := ⟨RX6, "isNumber", "(I)Z"⟩
abbrev cX6_isSetting : ByteArray := prog_1_method_25_code
def yX6_isSetting : MethodName := ⟨RX6, "isSetting", "(II)Z"⟩
abbrev cX6_slotAt : ByteArray := prog_1_method_26_code
def yX6_slotAt : MethodName := ⟨RX6, "slotAt", "(I)LLeaningTrees$Slot;"⟩
abbrev cX6_aboutNode : ByteArray := prog_1_method_27_code
def yX6_aboutNode : MethodName := ⟨RX6, "aboutNode", "(II)I"⟩
abbrev cX6_shapeOfTree : ByteArray := prog_1_method_28_code
def yX6_shapeOfTree : MethodName := ⟨RX6, "shapeOfTree", "(I)I"⟩
abbrev cX6_booksOfTree : ByteArray := prog_1_method_29_code
def yX6_booksOfTree : MethodName := ⟨RX6, "booksOfTree", "(I)I"⟩
abbrev cX6_keyOfTop : ByteArray := prog_1_method_30_code
def yX6_keyOfTop : MethodName := ⟨RX6, "keyOfTop", "(III)I"⟩
abbrev cX6_answerToOrder : ByteArray := prog_1_method_31_code
def yX6_answerToOrder : MethodName := ⟨RX6, "answerToOrder", "()I"⟩
abbrev cX6_bitsOfDouble : ByteArray := prog_1_method_32_code
def yX6_bitsOfDouble : MethodName := ⟨RX6, "bitsOfDouble", "(D)J"⟩
abbrev cX6_bitsOfFloat : ByteArray := prog_1_method_33_code
def yX6_bitsOfFloat : MethodName := ⟨RX6, "bitsOfFloat", "(F)I"⟩
def RX7 : String := "LeaningTreesModel"
def TX7 : u_T := fun k => match k with
  | 0 => ("LeaningTreesModel", "all", "[I", true)
  | 1 => ("LeaningTreesModel", "kept", "[I", true)
  | 2 => ("LeaningTreesModel", "history", "[I", true)
  | 3 => ("LeaningTreesModel", "historyLong", "I", false)
  | 4 => ("LeaningTreesModel", "slots", "[I", true)
  | 5 => ("LeaningTreesModel", "isSaved", "[I", true)
  | 6 => ("LeaningTreesModel", "begins", "[I", true)
  | 7 => ("LeaningTreesModel", "ends", "[I", true)
  | 8 => ("LeaningTreesModel", "levels", "[I", true)
  | 9 => ("LeaningTreesModel", "pad", "[I", true)
  | 10 => ("LeaningTreesModel", "padLong", "I", false)
  | 11 => ("LeaningTreesModel", "spot", "I", false)
  | 12 => ("LeaningTreesModel", "order", "I", false)
  | 13 => ("LeaningTreesModel", "readKey", "I", false)
  | 14 => ("LeaningTreesModel", "readValue", "I", false)
  | _ => ("LeaningTreesModel", "number", "I", false)
def tyX7 : Nat → FieldType := fun k => match k with
  | 0 => .array .int
  | 1 => .array .int
  | 2 => .array .int
  | 3 => .int
  | 4 => .array .int
  | 5 => .array .int
  | 6 => .array .int
  | 7 => .array .int
  | 8 => .array .int
  | 9 => .array .int
  | 10 => .int
  | 11 => .int
  | 12 => .int
  | 13 => .int
  | 14 => .int
  | _ => .int
theorem nmX7 : ∀ a, a < 16 → ∀ b, b < 16 → a ≠ b → (TX7 a).2.1 ≠ (TX7 b).2.1 := by decide +kernel
theorem tyX7_ok : ∀ k, k < 16 → parseFieldDescriptor (TX7 k).2.2.1 = some (tyX7 k) := by decide +kernel
abbrev cX7_init : ByteArray := prog_9_method_1_code
def yX7_init : MethodName := ⟨RX7, "<init>", "()V"⟩
abbrev cX7_in : ByteArray := prog_9_method_3_code
def yX7_in : MethodName := ⟨RX7, "in", "(JJJ)Z"⟩
abbrev cX7_keep : ByteArray := prog_9_method_4_code
def yX7_keep : MethodName := ⟨RX7, "keep", "()V"⟩
abbrev cX7_giveBack : ByteArray := prog_9_method_5_code
def yX7_giveBack : MethodName := ⟨RX7, "giveBack", "()V"⟩
abbrev cX7_changed : ByteArray := prog_9_method_6_code
def yX7_changed : MethodName := ⟨RX7, "changed", "(I)I"⟩
abbrev cX7_isKey : ByteArray := prog_9_method_7_code
def yX7_isKey : MethodName := ⟨RX7, "isKey", "(I)Z"⟩
abbrev cX7_depth : ByteArray := prog_9_method_8_code
def yX7_depth : MethodName := ⟨RX7, "depth", "(I)I"⟩
abbrev cX7_find : ByteArray := prog_9_method_9_code
def yX7_find : MethodName := ⟨RX7, "find", "(I)I"⟩
abbrev cX7_first : ByteArray := prog_9_method_10_code
def yX7_first : MethodName := ⟨RX7, "first", "(I)I"⟩
abbrev cX7_last : ByteArray := prog_9_method_11_code
def yX7_last : MethodName := ⟨RX7, "last", "(I)I"⟩
abbrev cX7_weight : ByteArray := prog_9_method_12_code
def yX7_weight : MethodName := ⟨RX7, "weight", "(I)I"⟩
abbrev cX7_isUnder : ByteArray := prog_9_method_13_code
def yX7_isUnder : MethodName := ⟨RX7, "isUnder", "(II)Z"⟩
abbrev cX7_child : ByteArray := prog_9_method_14_code
def yX7_child : MethodName := ⟨RX7, "child", "(II)I"⟩
abbrev cX7_childWeight : ByteArray := prog_9_method_15_code
def yX7_childWeight : MethodName := ⟨RX7, "childWeight", "(II)I"⟩
abbrev cX7_heavier : ByteArray := prog_9_method_16_code
def yX7_heavier : MethodName := ⟨RX7, "heavier", "(I)I"⟩
abbrev cX7_leans : ByteArray := prog_9_method_17_code
def yX7_leans : MethodName := ⟨RX7, "leans", "(I)Z"⟩
abbrev cX7_sumOf : ByteArray := prog_9_method_18_code
def yX7_sumOf : MethodName := ⟨RX7, "sumOf", "(III)I"⟩
abbrev cX7_lays : ByteArray := prog_9_method_19_code
def yX7_lays : MethodName := ⟨RX7, "lays", "(III)V"⟩
abbrev cX7_takesOut : ByteArray := prog_9_method_20_code
def yX7_takesOut : MethodName := ⟨RX7, "takesOut", "(I)V"⟩
abbrev cX7_rebuilds : ByteArray := prog_9_method_21_code
def yX7_rebuilds : MethodName := ⟨RX7, "rebuilds", "(I)I"⟩
abbrev cX7_pays : ByteArray := prog_9_method_22_code
def yX7_pays : MethodName := ⟨RX7, "pays", "(I)V"⟩
abbrev cX7_newDepth : ByteArray := prog_9_method_23_code
def yX7_newDepth : MethodName := ⟨RX7, "newDepth", "(I)I"⟩
abbrev cX7_comes : ByteArray := prog_9_method_24_code
def yX7_comes : MethodName := ⟨RX7, "comes", "(II)V"⟩
abbrev cX7_leaningAbove : ByteArray := prog_9_method_25_code
def yX7_leaningAbove : MethodName := ⟨RX7, "leaningAbove", "(I)I"⟩
abbrev cX7_doPutIn : ByteArray := prog_9_method_26_code
def yX7_doPutIn : MethodName := ⟨RX7, "doPutIn", "(II)I"⟩
abbrev cX7_root : ByteArray := prog_9_method_27_code
def yX7_root : MethodName := ⟨RX7, "root", "()I"⟩
abbrev cX7_fulls : ByteArray := prog_9_method_28_code
def yX7_fulls : MethodName := ⟨RX7, "fulls", "()I"⟩
abbrev cX7_doRemove : ByteArray := prog_9_method_29_code
def yX7_doRemove : MethodName := ⟨RX7, "doRemove", "(I)I"⟩
abbrev cX7_doRebuild : ByteArray := prog_9_method_30_code
def yX7_doRebuild : MethodName := ⟨RX7, "doRebuild", "(I)I"⟩
abbrev cX7_doSet : ByteArray := prog_9_method_31_code
def yX7_doSet : MethodName := ⟨RX7, "doSet", "(II)I"⟩
abbrev cX7_set : ByteArray := prog_9_method_32_code
def yX7_set : MethodName := ⟨RX7, "set", "(II)I"⟩
abbrev cX7_putIn : ByteArray := prog_9_method_33_code
def yX7_putIn : MethodName := ⟨RX7, "putIn", "(II)I"⟩
abbrev cX7_remove : ByteArray := prog_9_method_34_code
def yX7_remove : MethodName := ⟨RX7, "remove", "(I)I"⟩
abbrev cX7_rebuild : ByteArray := prog_9_method_35_code
def yX7_rebuild : MethodName := ⟨RX7, "rebuild", "(I)I"⟩
abbrev cX7_value : ByteArray := prog_9_method_36_code
def yX7_value : MethodName := ⟨RX7, "value", "(I)I"⟩
abbrev cX7_keyOf : ByteArray := prog_9_method_37_code
def yX7_keyOf : MethodName := ⟨RX7, "keyOf", "(I)I"⟩
abbrev cX7_deepest : ByteArray := prog_9_method_38_code
def yX7_deepest : MethodName := ⟨RX7, "deepest", "(II)I"⟩
abbrev cX7_nodeValue : ByteArray := prog_9_method_39_code
def yX7_nodeValue : MethodName := ⟨RX7, "nodeValue", "(II)I"⟩
abbrev cX7_node : ByteArray := prog_9_method_40_code
def yX7_node : MethodName := ⟨RX7, "node", "(II)I"⟩
abbrev cX7_leaningNodes : ByteArray := prog_9_method_41_code
def yX7_leaningNodes : MethodName := ⟨RX7, "leaningNodes", "()I"⟩
abbrev cX7_count : ByteArray := prog_9_method_42_code
def yX7_count : MethodName := ⟨RX7, "count", "(I)I"⟩
abbrev cX7_meanDepth : ByteArray := prog_9_method_43_code
def yX7_meanDepth : MethodName := ⟨RX7, "meanDepth", "(I)J"⟩
abbrev cX7_leaning : ByteArray := prog_9_method_44_code
def yX7_leaning : MethodName := ⟨RX7, "leaning", "(I)I"⟩
abbrev cX7_below : ByteArray := prog_9_method_45_code
def yX7_below : MethodName := ⟨RX7, "below", "(I)I"⟩
abbrev cX7_rank : ByteArray := prog_9_method_46_code
def yX7_rank : MethodName := ⟨RX7, "rank", "(I)I"⟩
abbrev cX7_keyAt : ByteArray := prog_9_method_47_code
def yX7_keyAt : MethodName := ⟨RX7, "keyAt", "(I)I"⟩
abbrev cX7_kth : ByteArray := prog_9_method_48_code
def yX7_kth : MethodName := ⟨RX7, "kth", "(I)I"⟩
abbrev cX7_neighbour : ByteArray := prog_9_method_49_code
def yX7_neighbour : MethodName := ⟨RX7, "neighbour", "(II)I"⟩
abbrev cX7_sum : ByteArray := prog_9_method_50_code
def yX7_sum : MethodName := ⟨RX7, "sum", "(II)I"⟩
abbrev cX7_wouldCost : ByteArray := prog_9_method_51_code
def yX7_wouldCost : MethodName := ⟨RX7, "wouldCost", "(I)I"⟩
abbrev cX7_worst : ByteArray := prog_9_method_52_code
def yX7_worst : MethodName := ⟨RX7, "worst", "(I)I"⟩
abbrev cX7_put : ByteArray := prog_9_method_53_code
def yX7_put : MethodName := ⟨RX7, "put", "(J)I"⟩
abbrev cX7_wipe : ByteArray := prog_9_method_54_code
def yX7_wipe : MethodName := ⟨RX7, "wipe", "()I"⟩
abbrev cX7_isHere : ByteArray := prog_9_method_55_code
def yX7_isHere : MethodName := ⟨RX7, "isHere", "(II)Z"⟩
abbrev cX7_takes : ByteArray := prog_9_method_56_code
def yX7_takes : MethodName := ⟨RX7, "takes", "(I)Z"⟩
abbrev cX7_readsNumber : ByteArray := prog_9_method_57_code
def yX7_readsNumber : MethodName := ⟨RX7, "readsNumber", "()Z"⟩
abbrev cX7_readsOrder : ByteArray := prog_9_method_58_code
def yX7_readsOrder : MethodName := ⟨RX7, "readsOrder", "()Z"⟩
abbrev cX7_fault : ByteArray := prog_9_method_59_code
def yX7_fault : MethodName := ⟨RX7, "fault", "()I"⟩
abbrev cX7_doOrder : ByteArray := prog_9_method_60_code
def yX7_doOrder : MethodName := ⟨RX7, "doOrder", "()I"⟩
abbrev cX7_carryOut : ByteArray := prog_9_method_61_code
def yX7_carryOut : MethodName := ⟨RX7, "carryOut", "()I"⟩
abbrev cX7_undo : ByteArray := prog_9_method_62_code
def yX7_undo : MethodName := ⟨RX7, "undo", "()I"⟩
abbrev cX7_save : ByteArray := prog_9_method_63_code
def yX7_save : MethodName := ⟨RX7, "save", "(I)I"⟩
abbrev cX7_restore : ByteArray := prog_9_method_64_code
def yX7_restore : MethodName := ⟨RX7, "restore", "(I)I"⟩
abbrev s_host : String := "LeaningTrees"
def s_j0 : MethodName := ⟨"java/lang/Double", "doubleToLongBits", "(D)J"⟩
def s_j1 : MethodName := ⟨"java/lang/Double", "isNaN", "(D)Z"⟩
def s_j2 : MethodName := ⟨"java/lang/Float", "floatToIntBits", "(F)I"⟩
def s_j3 : MethodName := ⟨"java/lang/Float", "isNaN", "(F)Z"⟩
def s_vw : List vw_C := [(RX0, TX0, 2), (RX1, TX1, 5), (RX2, TX2, 2), (RX3, TX3, 1), (RX4, TX4, 2), (RX5, TX5, 11), (RX6, TX6, 5), (RX7, TX7, 16)]
def s_tyf : Nat → Nat → FieldType := fun c => match c with
  | 0 => tyX0
  | 1 => tyX1
  | 2 => tyX2
  | 3 => tyX3
  | 4 => tyX4
  | 5 => tyX5
  | 6 => tyX6
  | _ => tyX7
def s_snf : Nat → String × String × String := fun j => match j with
  | 0 => ("LeaningTrees", "FIRST_SETTINGS", "[I")
  | 1 => ("LeaningTrees", "LEAST_SETTINGS", "[I")
  | _ => ("LeaningTrees", "GREATEST_SETTINGS", "[I")
def s_nwl : List Jvm.Cond := [.methodLinkNest "LeaningTrees" 31 yX2_init "LeaningTrees", .methodLinkNest "LeaningTrees" 38 yX1_init "LeaningTrees", .methodLinkNest "LeaningTrees" 43 yX4_init "LeaningTrees", .fieldLinkNest "LeaningTrees$Tree" 11 "LeaningTrees" "FIRST_SETTINGS" "[I" "LeaningTrees", .arrayOver (.object RX4), .arrayOver (.object RX5)]
abbrev s_rkl : List Nat := [4, 5]
end
section
/-! THE SMALL MACHINE: a method's walk as a function of pure data. A reference is a number i: 0 .. 3 are arrays that nobody writes (three statics, the script), from 4 on the cells that the run makes, in their order.
    A heap: the ints (cell, place), the references (cell, place), the shapes: (0, c): an object of class c; (1, n): an int array of n; (t + 2, n): an array of n references. -/
abbrev sHp : Type := (Nat → Nat → Int32) × (Nat → Nat → Option Nat) × List (Nat × Nat)
/-- a row of a method's code: pc, the instruction with its links resolved, its length, its pool index, the places of its words -/
abbrev sE : Type := Nat × Instr × Nat × Nat × List Nat
/-- a method: name, bytes, locals, what it returns, how many values it takes (the receiver too), frames and words of locals below it, its rows -/
abbrev sM : Type := MethodName × ByteArray × Nat × Option FieldType × Nat × Nat × Nat × List sE
abbrev s_y (r : sM) : MethodName := r.1
abbrev s_b (r : sM) : ByteArray := r.2.1
abbrev s_mL (r : sM) : Nat := r.2.2.1
abbrev s_rt (r : sM) : Option FieldType := r.2.2.2.1
abbrev s_na (r : sM) : Nat := r.2.2.2.2.1
abbrev s_fr (r : sM) : Nat := r.2.2.2.2.2.1
abbrev s_lo (r : sM) : Nat := r.2.2.2.2.2.2.1
abbrev s_cd (r : sM) : List sE := r.2.2.2.2.2.2.2
def s_nth {α : Type} : List α → Nat → Option α
  | [], _ => none
  | a :: _, 0 => some a
  | _ :: l, n + 1 => s_nth l n
theorem s_nth_eq {α : Type} : ∀ (l : List α) (n : Nat), s_nth l n = l[n]?
  | [], n => by simp [s_nth]
  | a :: l, 0 => by simp [s_nth]
  | a :: l, n + 1 => by rw [s_nth, s_nth_eq l n, List.getElem?_cons_succ]
def s_at : List sE → Nat → Option sE
  | [], _ => none
  | e :: l, pc => if e.1 = pc then some e else s_at l pc
theorem s_at_mem : ∀ {l : List sE} {pc : Nat} {e : sE}, s_at l pc = some e → e ∈ l ∧ e.1 = pc
  | [], pc, e, h => by cases h
  | a :: l, pc, e, h => by
    unfold s_at at h
    split at h
    next hq => cases h; exact ⟨List.mem_cons_self, hq⟩
    next hq => exact ⟨List.mem_cons_of_mem _ (s_at_mem h).1, (s_at_mem h).2⟩
/-- no value: a local that isn't set, or the second half of a long -/
abbrev s_no : Value := .retAddr 0
def s_two : Value → Bool
  | .long _ => true
  | .double _ => true
  | _ => false
theorem s_two_cat (v : Value) : (s_two v = true ↔ v.category = 2) := by cases v <;> simp [s_two, Value.category]
/-- what stands ahead of a place that is written: a long there loses its second half -/
def s_cut : List Value → Nat → List Value
  | [], _ => []
  | l, 0 => l
  | v :: l, 1 => (if s_two v then s_no else v) :: l
  | v :: l, n + 2 => v :: s_cut l (n + 1)
def s_put1 (l : List Value) (i : Nat) (v : Value) : List Value := (s_cut l i).set i v
def s_put2 (l : List Value) (i : Nat) (v : Value) : List Value := ((s_cut l i).set i v).set (i + 1) s_no
/-- the locals at a method's entry -/
def s_ent : List Value → Nat → List Value
  | [], n => List.replicate n s_no
  | v :: vs, n => if s_two v then v :: s_no :: s_ent vs (n - 2) else v :: s_ent vs (n - 1)
def s_upd (Z : Nat → Nat → Int32) (a k : Nat) (x : Int32) : Nat → Nat → Int32 := fun i => if i = a then upd (Z i) k x else Z i
def s_updR (R : Nat → Nat → Option Nat) (a k : Nat) (x : Option Nat) : Nat → Nat → Option Nat := fun i => if i = a then va_up (R i) k x else R i
def s_new (h : sHp) (t n : Nat) : sHp := (fun i => if i = h.2.2.length then (fun _ => 0) else h.1 i, fun i => if i = h.2.2.length then (fun _ => none) else h.2.1 i, h.2.2 ++ [(t, n)])
def s_cnd (c : Jvm.ClassFile.Cond) (x y : Int32) : Bool := match c with
  | .eq => decide (x = y)
  | .ne => decide (x ≠ y)
  | .lt => decide (x < y)
  | .ge => decide (y ≤ x)
  | .gt => decide (y < x)
  | .le => decide (x ≤ y)
abbrev sC : Type := Nat × List Value × List Value × sHp
def s_out (i : Int32) (n : Nat) : Prop := i < 0 ∨ n ≤ i.toNatClampNeg
def s_outb (i : Int32) (n : Nat) : Bool := decide (i < 0) || Nat.ble n i.toNatClampNeg
def s_cat : List Value → Nat
  | [] => 0
  | v :: l => (if s_two v then 2 else 1) + s_cat l
/-- one instruction that calls nothing and returns nothing -/
def s_x (i : Instr) (pc n : Nat) (ls st : List Value) (h : sHp) : Option sC :=
  match i with
  | .iconst v => some (pc + n, ls, .int (Int32.ofInt v) :: st, h)
  | .bipush v => some (pc + n, ls, .int (Int8.ofInt v).toInt32 :: st, h)
  | .sipush v => some (pc + n, ls, .int (Int16.ofInt v).toInt32 :: st, h)
  | .ldc v => some (pc + n, ls, .int (Int32.ofNat v) :: st, h)
  | .ldc_w v => some (pc + n, ls, .int (Int32.ofNat v) :: st, h)
  | .ldc2_w v => some (pc + n, ls, .long (Int64.ofNat v) :: st, h)
  | .ret v => some (pc + n, ls, .float (UInt32.ofNat v) :: st, h)
  | .multianewarray v _ => some (pc + n, ls, .float (UInt32.ofNat v) :: st, h)
  | .putstatic v => some (pc + n, ls, .double (UInt64.ofNat v) :: st, h)
  | .lconst k => some (pc + n, ls, .long (Int64.ofNat k.val) :: st, h)
  | .fconst k => some (pc + n, ls, .float (if k.val = 0 then FP.fconst0 else if k.val = 1 then FP.fconst1 else FP.fconst2) :: st, h)
  | .dconst k => some (pc + n, ls, .double (if k.val = 0 then FP.dconst0 else FP.dconst1) :: st, h)
  | .aconst_null => some (pc + n, ls, .null :: st, h)
  | .iload_n k => (match s_nth ls k.val with | some (.int x) => some (pc + n, ls, .int x :: st, h) | _ => none)
  | .iload k => (match s_nth ls k with | some (.int x) => some (pc + n, ls, .int x :: st, h) | _ => none)
  | .lload_n k => (match s_nth ls k.val with | some (.long x) => some (pc + n, ls, .long x :: st, h) | _ => none)
  | .lload k => (match s_nth ls k with | some (.long x) => some (pc + n, ls, .long x :: st, h) | _ => none)
  | .fload_n k => (match s_nth ls k.val with | some (.float x) => some (pc + n, ls, .float x :: st, h) | _ => none)
  | .dload_n k => (match s_nth ls k.val with | some (.double x) => some (pc + n, ls, .double x :: st, h) | _ => none)
  | .aload_n k => (match s_nth ls k.val with | some (.ref x) => some (pc + n, ls, .ref x :: st, h) | some .null => some (pc + n, ls, .null :: st, h) | _ => none)
  | .aload k => (match s_nth ls k with | some (.ref x) => some (pc + n, ls, .ref x :: st, h) | some .null => some (pc + n, ls, .null :: st, h) | _ => none)
  | .istore_n k => (match st with
    | .int x :: r => if k.val < ls.length then some (pc + n, s_put1 ls k.val (.int x), r, h) else none
    | _ => none)
  | .istore k => (match st with
    | .int x :: r => if k < ls.length then some (pc + n, s_put1 ls k (.int x), r, h) else none
    | _ => none)
  | .fstore_n k => (match st with
    | .float x :: r => if k.val < ls.length then some (pc + n, s_put1 ls k.val (.float x), r, h) else none
    | _ => none)
  | .lstore_n k => (match st with
    | .long x :: r => if k.val + 1 < ls.length then some (pc + n, s_put2 ls k.val (.long x), r, h) else none
    | _ => none)
  | .lstore k => (match st with
    | .long x :: r => if k + 1 < ls.length then some (pc + n, s_put2 ls k (.long x), r, h) else none
    | _ => none)
  | .dstore_n k => (match st with
    | .double x :: r => if k.val + 1 < ls.length then some (pc + n, s_put2 ls k.val (.double x), r, h) else none
    | _ => none)
  | .astore_n k => (match st with
    | .ref x :: r => if k.val < ls.length then some (pc + n, s_put1 ls k.val (.ref x), r, h) else none
    | .null :: r => if k.val < ls.length then some (pc + n, s_put1 ls k.val .null, r, h) else none
    | _ => none)
  | .astore k => (match st with
    | .ref x :: r => if k < ls.length then some (pc + n, s_put1 ls k (.ref x), r, h) else none
    | .null :: r => if k < ls.length then some (pc + n, s_put1 ls k .null, r, h) else none
    | _ => none)
  | .iinc k v => (match s_nth ls k with | some (.int x) => some (pc + n, s_put1 ls k (.int (x + Int32.ofInt v)), st, h) | _ => none)
  | .dup => (match st with
    | v :: r => if s_two v then none else some (pc + n, ls, v :: v :: r, h)
    | _ => none)
  | .pop => (match st with
    | v :: r => if s_two v then none else some (pc + n, ls, r, h)
    | _ => none)
  | .dup2 => (match st with
    | v :: r => if s_two v then some (pc + n, ls, v :: v :: r, h) else (match r with | w :: r2 => if s_two w then none else some (pc + n, ls, v :: w :: v :: w :: r2, h) | [] => none)
    | _ => none)
  | .iadd => (match st with
    | .int y :: .int x :: r => some (pc + n, ls, .int (x + y) :: r, h)
    | _ => none)
  | .isub => (match st with
    | .int y :: .int x :: r => some (pc + n, ls, .int (x - y) :: r, h)
    | _ => none)
  | .imul => (match st with
    | .int y :: .int x :: r => some (pc + n, ls, .int (x * y) :: r, h)
    | _ => none)
  | .iand => (match st with
    | .int y :: .int x :: r => some (pc + n, ls, .int (x &&& y) :: r, h)
    | _ => none)
  | .ior => (match st with
    | .int y :: .int x :: r => some (pc + n, ls, .int (x ||| y) :: r, h)
    | _ => none)
  | .ishl => (match st with
    | .int y :: .int x :: r => some (pc + n, ls, .int (x <<< (y &&& 31)) :: r, h)
    | _ => none)
  | .idiv => (match st with
    | .int y :: .int x :: r => if y = 0 then none else some (pc + n, ls, .int (x / y) :: r, h)
    | _ => none)
  | .ladd => (match st with
    | .long y :: .long x :: r => some (pc + n, ls, .long (x + y) :: r, h)
    | _ => none)
  | .lsub => (match st with
    | .long y :: .long x :: r => some (pc + n, ls, .long (x - y) :: r, h)
    | _ => none)
  | .land => (match st with
    | .long y :: .long x :: r => some (pc + n, ls, .long (x &&& y) :: r, h)
    | _ => none)
  | .lor => (match st with
    | .long y :: .long x :: r => some (pc + n, ls, .long (x ||| y) :: r, h)
    | _ => none)
  | .lshl => (match st with
    | .int y :: .long x :: r => some (pc + n, ls, .long (x <<< (y.toInt64 &&& 63)) :: r, h)
    | _ => none)
  | .lushr => (match st with
    | .int y :: .long x :: r => some (pc + n, ls, .long (x.toUInt64 >>> (y.toInt64.toUInt64 &&& Int64.toUInt64 63)).toInt64 :: r, h)
    | _ => none)
  | .i2l => (match st with
    | .int x :: r => some (pc + n, ls, .long x.toInt64 :: r, h)
    | _ => none)
  | .l2i => (match st with
    | .long x :: r => some (pc + n, ls, .int x.toInt32 :: r, h)
    | _ => none)
  | .i2f => (match st with
    | .int x :: r => some (pc + n, ls, .float (FP.i2f x) :: r, h)
    | _ => none)
  | .i2d => (match st with
    | .int x :: r => some (pc + n, ls, .double (FP.i2d x) :: r, h)
    | _ => none)
  | .l2d => (match st with
    | .long x :: r => some (pc + n, ls, .double (FP.l2d x) :: r, h)
    | _ => none)
  | .d2l => (match st with
    | .double x :: r => some (pc + n, ls, .long (FP.d2l x) :: r, h)
    | _ => none)
  | .f2i => (match st with
    | .float x :: r => some (pc + n, ls, .int (FP.f2i x) :: r, h)
    | _ => none)
  | .lcmp => (match st with
    | .long y :: .long x :: r => some (pc + n, ls, .int (lg_cmp x y) :: r, h)
    | _ => none)
  | .fcmp op => (match st with
    | .float y :: .float x :: r => some (pc + n, ls, .int (Op.cmpValue (FP.fcmp x y) op) :: r, h)
    | _ => none)
  | .dcmp op => (match st with
    | .double y :: .double x :: r => some (pc + n, ls, .int (Op.cmpValue (FP.dcmp x y) op) :: r, h)
    | _ => none)
  | .fsub => (match st with
    | .float y :: .float x :: r => if FP.fsub x y &&& 0x7fffffff ≤ 0x7f800000 then some (pc + n, ls, .float (FP.fsub x y) :: r, h) else none
    | _ => none)
  | .fmul => (match st with
    | .float y :: .float x :: r => if FP.fmul x y &&& 0x7fffffff ≤ 0x7f800000 then some (pc + n, ls, .float (FP.fmul x y) :: r, h) else none
    | _ => none)
  | .fdiv => (match st with
    | .float y :: .float x :: r => if FP.fdiv x y &&& 0x7fffffff ≤ 0x7f800000 then some (pc + n, ls, .float (FP.fdiv x y) :: r, h) else none
    | _ => none)
  | .dsub => (match st with
    | .double y :: .double x :: r => if FP.dsub x y &&& 0x7fffffffffffffff ≤ 0x7ff0000000000000 then some (pc + n, ls, .double (FP.dsub x y) :: r, h) else none
    | _ => none)
  | .dmul => (match st with
    | .double y :: .double x :: r => if FP.dmul x y &&& 0x7fffffffffffffff ≤ 0x7ff0000000000000 then some (pc + n, ls, .double (FP.dmul x y) :: r, h) else none
    | _ => none)
  | .ddiv => (match st with
    | .double y :: .double x :: r => if FP.ddiv x y &&& 0x7fffffffffffffff ≤ 0x7ff0000000000000 then some (pc + n, ls, .double (FP.ddiv x y) :: r, h) else none
    | _ => none)
  | .drem => (match st with
    | .double y :: .double x :: r => if FP.drem x y &&& 0x7fffffffffffffff ≤ 0x7ff0000000000000 then some (pc + n, ls, .double (FP.drem x y) :: r, h) else none
    | _ => none)
  | .ifCond c t => (match st with
    | .int x :: r => some (if s_cnd c x 0 = true then t.toNat else pc + n, ls, r, h)
    | _ => none)
  | .if_icmp c t => (match st with
    | .int y :: .int x :: r => some (if s_cnd c x y = true then t.toNat else pc + n, ls, r, h)
    | _ => none)
  | .ifnull t => (match st with
    | .null :: r => some (t.toNat, ls, r, h)
    | .ref _ :: r => some (pc + n, ls, r, h)
    | _ => none)
  | .ifnonnull t => (match st with
    | .null :: r => some (pc + n, ls, r, h)
    | .ref _ :: r => some (t.toNat, ls, r, h)
    | _ => none)
  | .goto t => some (t.toNat, ls, st, h)
  | .tableswitch d lo hi o => (match st with
    | .int x :: r => if x.toInt < lo ∨ hi < x.toInt then some (d.toNat, ls, r, h) else (match s_nth o.toList (x.toInt - lo).toNat with | some t => some (t.toNat, ls, r, h) | none => none)
    | _ => none)
  | .lookupswitch d ps => (match st with
    | .int x :: r => some ((Op.lookupswitch.offset ps.toList d x.toInt).toNat, ls, r, h)
    | _ => none)
  | .getfield e => (match st with
    | .ref a :: r => (match s_nth h.2.2 a with
    | some (0, c) => if c = e / 1024 then (if e % 8 = 2 then (match h.2.1 a (e % 1024 / 8) with | some b => some (pc + n, ls, .ref b :: r, h) | none => some (pc + n, ls, .null :: r, h)) else some (pc + n, ls, .int (h.1 a (e % 1024 / 8)) :: r, h)) else none
    | _ => none)
    | _ => none)
  | .putfield e => (match st with
    | .int x :: .ref a :: r => (match s_nth h.2.2 a with
    | some (0, c) => if c = e / 1024 then (if e % 8 = 0 then some (pc + n, ls, r, (s_upd h.1 a (e % 1024 / 8) x, h.2)) else if e % 8 = 1 then (if x = 0 ∨ x = 1 then some (pc + n, ls, r, (s_upd h.1 a (e % 1024 / 8) x, h.2)) else none) else none) else none
    | _ => none)
    | .ref b :: .ref a :: r => (match s_nth h.2.2 a with
    | some (0, c) => if c = e / 1024 then (if e % 8 = 2 then some (pc + n, ls, r, (h.1, s_updR h.2.1 a (e % 1024 / 8) (some b), h.2.2)) else none) else none
    | _ => none)
    | _ => none)
  | .getstatic j => some (pc + n, ls, .ref j :: st, h)
  | .instanceof j => some (pc + n, ls, .ref j :: st, h)
  | .arraylength => (match st with
    | .ref a :: r => (match s_nth h.2.2 a with
    | some (t + 1, m) => some (pc + n, ls, .int (Int32.ofNat m) :: r, h)
    | _ => none)
    | _ => none)
  | .iaload => (match st with
    | .int i :: .ref a :: r => (match s_nth h.2.2 a with
    | some (1, m) => if s_outb i m = true then none else some (pc + n, ls, .int (h.1 a i.toNatClampNeg) :: r, h)
    | _ => none)
    | _ => none)
  | .iastore => (match st with
    | .int x :: .int i :: .ref a :: r => (match s_nth h.2.2 a with
    | some (1, m) => if s_outb i m = true ∨ a < 4 then none else some (pc + n, ls, r, (s_upd h.1 a i.toNatClampNeg x, h.2))
    | _ => none)
    | _ => none)
  | .aaload => (match st with
    | .int i :: .ref a :: r => (match s_nth h.2.2 a with
    | some (t + 2, m) => if s_outb i m = true ∨ a < 4 then none else (match h.2.1 a i.toNatClampNeg with | some b => some (pc + n, ls, .ref b :: r, h) | none => some (pc + n, ls, .null :: r, h))
    | _ => none)
    | _ => none)
  | .aastore => (match st with
    | .ref b :: .int i :: .ref a :: r => (match s_nth h.2.2 a, s_nth h.2.2 b with
    | some (t + 2, m), some (0, c) => if s_outb i m = true ∨ a < 4 ∨ b < 4 ∨ c ≠ t then none else some (pc + n, ls, r, (h.1, s_updR h.2.1 a i.toNatClampNeg (some b), h.2.2))
    | _, _ => none)
    | _ => none)
  | .new c => some (pc + n, ls, .ref h.2.2.length :: st, s_new h 0 c)
  | .newarray .int => (match st with
    | .int k :: r => if k < 0 ∨ 65536 < k then none else some (pc + n, ls, .ref h.2.2.length :: r, s_new h 1 k.toNatClampNeg)
    | _ => none)
  | .anewarray t => (match st with
    | .int k :: r => if k < 0 ∨ 65536 < k then none else some (pc + n, ls, .ref h.2.2.length :: r, s_new h (t + 2) k.toNatClampNeg)
    | _ => none)
  | .monitorenter => (match st with
    | .ref _ :: r => if 8 < s_cat r then none else some (pc + n, ls, r, h)
    | _ => none)
  | .monitorexit => (match st with
    | .int k :: .int dp :: .ref b :: .int sp :: .ref a :: r => (match s_nth h.2.2 a, s_nth h.2.2 b with
    | some (1, na), some (1, nb) => if 8 < s_cat r ∨ sp < 0 ∨ dp < 0 ∨ k < 0 ∨ na < sp.toNatClampNeg + k.toNatClampNeg ∨ nb < dp.toNatClampNeg + k.toNatClampNeg ∨ a < 4 ∨ b < 4 then none
      else some (pc + n, ls, r, (fun i => if i = b then va_cpy (h.1 a) (h.1 b) sp.toNatClampNeg dp.toNatClampNeg k.toNatClampNeg else h.1 i, h.2))
    | _, _ => none)
    | _ => none)
  | .jsr _ => (match st with
    | .int y :: .int x :: r => if 8 < s_cat r then none else some (pc + n, ls, .int (if x < y then y else x) :: r, h)
    | _ => none)
  | .jsr_w _ => (match st with
    | .int y :: .int x :: r => if 8 < s_cat r then none else some (pc + n, ls, .int (if y < x then y else x) :: r, h)
    | _ => none)
  | .nop => (match st with
    | .double x :: r => if 8 < s_cat r then none else some (pc + n, ls, .long x.toInt64 :: r, h)
    | _ => none)
  | .swap => (match st with
    | .float x :: r => if 8 < s_cat r then none else some (pc + n, ls, .int x.toInt32 :: r, h)
    | _ => none)
  | _ => none
/-- a call's kind: 0 virtual, 1 static, 2 special, 3 special of a nest mate; and the method's number -/
def s_ci : Instr → Option (Nat × Nat)
  | .invokevirtual k => some (0, k)
  | .invokestatic k => some (1, k)
  | .invokespecial k => some (2, k)
  | .invokeinterface k _ => some (3, k)
  | _ => none
/-- what a method hands back -/
def s_rx (i : Instr) (rt : Option FieldType) (st : List Value) : Option (Option Value) :=
  match i, rt, st with
  | .return_, none, [] => some none
  | .ireturn, some .int, [.int v] => some (some (.int v))
  | .ireturn, some .boolean, [.int v] => if v = 0 ∨ v = 1 then some (some (.int v)) else none
  | .lreturn, some .long, [.long v] => some (some (.long v))
  | .areturn, some (.object _), [.ref a] => some (some (.ref a))
  | .areturn, some (.object _), [.null] => some (some .null)
  | _, _, _ => none
/-- may the receiver of a call be this value: an object of the method's own kind -/
def s_rc (kind : Nat) (cn : Option Nat) (h : sHp) (as : List Value) : Bool := match kind with
  | 1 => true
  | 0 => (match as with
    | .ref a :: _ => (match s_nth h.2.2 a, cn with
      | some (0, c), some c2 => Nat.beq c c2
      | _, _ => false)
    | _ => false)
  | _ => (match as with
    | .ref _ :: _ => true
    | _ => false)
def s_run (MT : Nat → Option (sM × Option Nat)) : Nat → Nat → Nat → List Value → List Value → sHp → Option (Option Value × sHp)
  | 0, _, _, _, _, _ => none
  | f + 1, k, pc, ls, st, h => match MT k with
    | none => none
    | some r => match s_at (s_cd r.1) pc with
      | none => none
      | some e => match s_ci e.2.1 with
        | some q => (match MT q.2 with
          | none => none
          | some r2 => if st.length < s_na r2.1 ∨ s_mL r2.1 < s_cat (st.take (s_na r2.1)).reverse ∨ 8 < s_cat (st.drop (s_na r2.1)) ∨ s_rc q.1 r2.2 h (st.take (s_na r2.1)).reverse = false then none
            else (match s_run MT f q.2 0 (s_ent (st.take (s_na r2.1)).reverse (s_mL r2.1)) [] h with
              | none => none
              | some o => s_run MT f k (pc + 3) ls (o.1.toList ++ st.drop (s_na r2.1)) o.2))
        | none => match s_rx e.2.1 (s_rt r.1) st with
          | some v => some (v, h)
          | none => (match s_x e.2.1 pc e.2.2.1 ls st h with
            | none => none
            | some c => s_run MT f k c.1 c.2.1 c.2.2.1 c.2.2.2)
end
section
/-! THE SMALL MACHINE'S HEAP IN THE REAL ONE. S: what is known of the classes; G: what a start adds (class numbers, addresses, the arrays that nobody writes). -/
abbrev s_SG : Type := List vw_C × (Nat → Nat → FieldType) × List Nat × (Nat → String × String × String) × Nat × List Jvm.Cond
abbrev s_cl (S : s_SG) : List vw_C := S.1
abbrev s_ty (S : s_SG) : Nat → Nat → FieldType := S.2.1
/-- the classes of which arrays are made -/
abbrev s_rk (S : s_SG) : List Nat := S.2.2.1
abbrev s_sn (S : s_SG) : Nat → String × String × String := S.2.2.2.1
abbrev s_ns (S : s_SG) : Nat := S.2.2.2.2.1
/-- words that a callee must be told one by one (nest mates, arrays of objects) -/
abbrev s_nw (S : s_SG) : List Jvm.Cond := S.2.2.2.2.2
abbrev s_DG : Type := va_G × (Nat → ClassId) × (Nat → Nat) × Nat × (Nat → Nat) × (Nat → Nat → Int32)
abbrev s_D (G : s_DG) : va_G := G.1
abbrev s_cA (G : s_DG) : Nat → ClassId := G.2.1
abbrev s_ad (G : s_DG) : Nat → Nat := G.2.2.1
abbrev s_B (G : s_DG) : Nat := G.2.2.2.1
abbrev s_Lc (G : s_DG) : Nat → Nat := G.2.2.2.2.1
abbrev s_xs (G : s_DG) : Nat → Nat → Int32 := G.2.2.2.2.2
def s_vc (G : s_DG) : Value → Value
  | .ref i => .ref (s_ad G i)
  | v => v
theorem s_vc_two (G : s_DG) (v : Value) : s_two (s_vc G v) = s_two v := by cases v <;> rfl
theorem s_vc_cat (G : s_DG) (v : Value) : (s_vc G v).category = if s_two v then 2 else 1 := by cases v <;> rfl
theorem s_cat_sum (G : s_DG) : ∀ l : List Value, ((l.map (s_vc G)).map fun v => v.category).sum = s_cat l
  | [] => rfl
  | v :: l => by
    rw [List.map_cons, List.map_cons, List.sum_cons, s_cat_sum G l, s_vc_cat]
    rfl
def s_kd : FieldType → Nat
  | .int => 0
  | .boolean => 1
  | _ => 2
def s_cn (S : s_SG) (c : Nat) : String := match (s_cl S)[c]? with
  | some q => q.1
  | none => ""
def s_F (S : s_SG) (c : Nat) : u_T := match (s_cl S)[c]? with
  | some q => q.2.1
  | none => fun _ => ("", "", "", false)
def s_N (S : s_SG) (c : Nat) : Nat := match (s_cl S)[c]? with
  | some q => q.2.2
  | none => 0
def s_fv (S : s_SG) (G : s_DG) (h : sHp) (i c k : Nat) : Value := if s_kd (s_ty S c k) = 2 then va_rf ((h.2.1 i k).map (s_ad G)) else .int (h.1 i k)
def s_cell (S : s_SG) (G : s_DG) (h : sHp) (i : Nat) : va_E := match h.2.2[i]? with
  | some (0, c) => .inr (c, (List.range (s_N S c)).map (s_fv S G h i c))
  | some (1, n) => .inl (s_cA G 1, n, .inl (h.1 i))
  | some (t + 2, n) => .inl (s_cA G (t + 2), n, .inr (.inr (.inr (.inr (fun k => (h.2.1 i k).map (s_ad G))))))
  | none => .inr (0, [])
def s_ws (S : s_SG) (G : s_DG) (h : sHp) : va_W := (List.range (h.2.2.length - 4)).map fun j => (s_ad G (j + 4), s_cell S G h (j + 4))
def s_tys (S : s_SG) (G : s_DG) : List (ClassId × FieldType) := (s_cA G 1, .int) :: (s_rk S).map fun t => (s_cA G (t + 2), .object (s_cn S t))
def s_A (G : s_DG) : Nat → Prop := fun q => s_B G ≤ q
def s_sz (S : s_SG) : List (Nat × Nat) → Nat
  | [] => 0
  | (0, c) :: l => s_N S c + s_sz S l
  | (_ + 1, n) :: l => n + s_sz S l
theorem s_sz_app (S : s_SG) (q : Nat × Nat) : ∀ l : List (Nat × Nat), s_sz S (l ++ [q]) = s_sz S l + s_sz S [q]
  | [] => by simp [s_sz]
  | (0, c) :: l => by
    rw [List.cons_append, s_sz, s_sz, s_sz_app S q l, Nat.add_assoc]
  | (t + 1, c) :: l => by
    rw [List.cons_append, s_sz, s_sz, s_sz_app S q l, Nat.add_assoc]
/-- the heap h stands in H -/
def s_Wd (S : s_SG) (G : s_DG) (h : sHp) (H : Heap) : Prop := 4 ≤ h.2.2.length ∧ va_P (s_D G) (s_cl S) (s_ws S G h) H ∧ (∀ i : Nat, i < 4 → h.2.2[i]? = some (1, s_Lc G i) ∧ h.1 i = s_xs G i) ∧ ∀ (i t n : Nat), h.2.2[i]? = some (t + 2, n) → t ∈ s_rk S
/-- what a start knows of the tables and of what nobody writes -/
def s_In (S : s_SG) (G : s_DG) (U : State) : Prop := va_K (s_D G) (s_cl S) (s_tys S G) U ∧ (∀ i : Nat, i < 4 → va_T .int (s_ad G i) (s_Lc G i) (fun j => .int (s_xs G i j)) (s_A G) U U.heap ∧ s_ad G i < s_B G) ∧ (∀ j : Nat, j < s_ns S → j < 4 ∧ va_Z (s_sn S j).1 (s_sn S j).2.1 (s_sn S j).2.2 (.ref (s_ad G j)) (s_A G) U U.heap) ∧ (∀ j : Nat, s_ad G (j + 4) = s_B G + j) ∧ ∀ w ∈ s_nw S, va_Nw w U
theorem s_ad_ge {S : s_SG} {G : s_DG} {U : State} (h : s_In S G U) {a : Nat} (ha : 4 ≤ a) : s_ad G a = s_B G + (a - 4) := by
  have := h.2.2.2.1 (a - 4)
  rwa [show a - 4 + 4 = a by omega] at this
theorem s_ws_len (S : s_SG) (G : s_DG) (h : sHp) : (s_ws S G h).length = h.2.2.length - 4 := by simp [s_ws]
theorem s_ws_get (S : s_SG) (G : s_DG) (h : sHp) (j : Nat) : (s_ws S G h)[j]? = if j < h.2.2.length - 4 then some (s_ad G (j + 4), s_cell S G h (j + 4)) else none := by
  unfold s_ws
  rw [List.getElem?_map]
  by_cases q : j < h.2.2.length - 4
  · rw [if_pos q, List.getElem?_range q]; rfl
  · rw [if_neg q, List.getElem?_eq_none (by rw [List.length_range]; omega)]; rfl
theorem s_ws_at (S : s_SG) (G : s_DG) (h : sHp) {a : Nat} (ha : 4 ≤ a) (hl : a < h.2.2.length) : (s_ws S G h)[a - 4]? = some (s_ad G a, s_cell S G h a) := by
  rw [s_ws_get, if_pos (by omega), show a - 4 + 4 = a by omega]
theorem s_ws_D {S : s_SG} {G : s_DG} {U : State} (hI : s_In S G U) (h : sHp) : va_D (s_A G) (s_ws S G h) := by
  have key : ∀ (k : Nat) (q : Nat × va_E), (s_ws S G h)[k]? = some q → q.1 = s_B G + k := by
    intro k q hk
    rw [s_ws_get] at hk
    split at hk
    · cases hk; exact hI.2.2.2.1 k
    · cases hk
  refine ⟨fun i j p q hi hj e => ?_, fun k q hk => ?_⟩
  · have h1 := key i p hi
    have h2 := key j q hj
    omega
  · show s_B G ≤ q.1
    rw [key k q hk]; omega
theorem s_ws_set (S : s_SG) (G : s_DG) {h h2 : sHp} {a : Nat} (ha : 4 ≤ a) (hl : a < h.2.2.length) (hs : h2.2.2 = h.2.2) (ho : ∀ i : Nat, i ≠ a → h2.1 i = h.1 i ∧ h2.2.1 i = h.2.1 i) {e : va_E} (he : e = s_cell S G h2 a) : (s_ws S G h).set (a - 4) (s_ad G a, e) = s_ws S G h2 := by
  apply List.ext_getElem?
  intro j
  rw [s_ws_get S G h2, hs]
  by_cases hj : j = a - 4
  · subst hj
    rw [List.getElem?_set_self (by rw [s_ws_len]; omega), if_pos (by omega), show a - 4 + 4 = a by omega, he]
  · rw [List.getElem?_set_ne (Ne.symm hj), s_ws_get]
    by_cases q : j < h.2.2.length - 4
    · rw [if_pos q, if_pos q]
      obtain ⟨o1, o2⟩ := ho (j + 4) (by omega)
      have : s_cell S G h2 (j + 4) = s_cell S G h (j + 4) := by
        have hf : ∀ c, s_fv S G h2 (j + 4) c = s_fv S G h (j + 4) c := fun c => by funext k; simp only [s_fv, o1, o2]
        simp only [s_cell, hs, o1, o2, hf]
      rw [this]
    · rw [if_neg q, if_neg q]
theorem s_Wd_len {S : s_SG} {G : s_DG} {h : sHp} {H : Heap} (hW : s_Wd S G h H) {a t n : Nat} (hs : s_nth h.2.2 a = some (t, n)) : h.2.2[a]? = some (t, n) ∧ a < h.2.2.length ∧ (t ≠ 1 → 4 ≤ a) := by
  rw [s_nth_eq] at hs
  refine ⟨hs, (List.getElem?_eq_some_iff.mp hs).1, fun ht => ?_⟩
  rcases Nat.lt_or_ge a 4 with q | q
  · have := (hW.2.2.1 a q).1
    rw [this] at hs
    cases hs
    exact absurd rfl ht
  · exact q
theorem s_Wd_put {S : s_SG} {G : s_DG} {h h2 : sHp} {H H1 : Heap} (hW : s_Wd S G h H) {a : Nat} (ha : 4 ≤ a) (hl : a < h.2.2.length) (hs : h2.2.2 = h.2.2) (ho : ∀ i : Nat, i ≠ a → h2.1 i = h.1 i ∧ h2.2.1 i = h.2.1 i) {e : va_E} (he : e = s_cell S G h2 a) (hP : va_P (s_D G) (s_cl S) ((s_ws S G h).set (a - 4) (s_ad G a, e)) H1) : s_Wd S G h2 H1 := by
  rw [s_ws_set S G ha hl hs ho he] at hP
  refine ⟨by rw [hs]; exact hW.1, hP, fun i hi => ?_, fun i t n hi => hW.2.2.2 i t n (by rw [← hs]; exact hi)⟩
  rw [hs, (ho i (by omega)).1]
  exact hW.2.2.1 i hi
theorem s_tys_0 (S : s_SG) (G : s_DG) : (s_tys S G)[0]? = some (s_cA G 1, .int) := rfl
theorem s_tys_r {S : s_SG} (G : s_DG) {t : Nat} (ht : t ∈ s_rk S) : ∃ j : Nat, (s_tys S G)[j]? = some (s_cA G (t + 2), .object (s_cn S t)) := by
  have h : ((s_cA G (t + 2), .object (s_cn S t)) : ClassId × FieldType) ∈ s_tys S G := List.mem_cons_of_mem _ (List.mem_map.mpr ⟨t, ht, rfl⟩)
  exact List.getElem?_of_mem h
/-! the locals -/
def s_as1 (G : s_DG) (i : Nat) : Value → Option (Nat × Value)
  | .retAddr _ => none
  | v => some (i, s_vc G v)
theorem s_as1_eq (G : s_DG) (i : Nat) (v : Value) (q : Nat × Value) : s_as1 G i v = some q ↔ ((∀ a, v ≠ .retAddr a) ∧ q = (i, s_vc G v)) := by
  cases v <;> simp [s_as1, eq_comm]
def s_asc (G : s_DG) (L : List Value) : List (Nat × Value) := (List.range L.length).filterMap fun i => (L[i]?).bind (s_as1 G i)
theorem s_asc_mem {G : s_DG} {L : List Value} {q : Nat × Value} : q ∈ s_asc G L ↔ ∃ v : Value, L[q.1]? = some v ∧ (∀ a, v ≠ .retAddr a) ∧ q.2 = s_vc G v := by
  unfold s_asc
  rw [List.mem_filterMap]
  constructor
  · rintro ⟨i, hi, h⟩
    obtain ⟨v, hv, h2⟩ := Option.bind_eq_some_iff.mp h
    obtain ⟨hn, rfl⟩ := (s_as1_eq G i v q).mp h2
    exact ⟨v, hv, hn, rfl⟩
  · rintro ⟨v, hv, hn, e⟩
    refine ⟨q.1, List.mem_range.mpr (List.getElem?_eq_some_iff.mp hv).1, ?_⟩
    rw [hv]
    exact (s_as1_eq G q.1 v q).mpr ⟨hn, by rw [← e]⟩
def s_LR (G : s_DG) (ls : Array Slot) (L : List Value) : Prop := lv_has ls L.length (s_asc G L)
theorem s_LR_at {G : s_DG} {ls : Array Slot} {L : List Value} (h : s_LR G ls L) {i : Nat} {v : Value} (hv : s_nth L i = some v) (hn : ∀ a, v ≠ .retAddr a) : ls[i]? = some (.val (s_vc G v)) := by
  rw [s_nth_eq] at hv
  exact h.2.2 (i, s_vc G v) (s_asc_mem.mpr ⟨v, hv, hn, rfl⟩)
theorem s_cut_len : ∀ (L : List Value) (i : Nat), (s_cut L i).length = L.length
  | [], _ => by simp [s_cut]
  | _ :: _, 0 => by simp [s_cut]
  | v :: l, 1 => by simp [s_cut]
  | v :: l, n + 2 => by simp [s_cut, s_cut_len l (n + 1)]
theorem s_cut_get : ∀ (L : List Value) (i j : Nat), (s_cut L i)[j]? = if j + 1 = i then (L[j]?).map (fun w => if s_two w then s_no else w) else L[j]?
  | [], i, j => by simp [s_cut]
  | v :: l, 0, j => by
    rw [if_neg (by omega)]
    simp [s_cut]
  | v :: l, 1, 0 => by simp [s_cut]
  | v :: l, 1, j + 1 => by
    rw [if_neg (by omega)]
    simp [s_cut]
  | v :: l, n + 2, 0 => by
    rw [if_neg (by omega)]
    simp [s_cut]
  | v :: l, n + 2, j + 1 => by
    rw [s_cut, List.getElem?_cons_succ, s_cut_get l (n + 1) j, List.getElem?_cons_succ]
    by_cases q : j + 1 = n + 1
    · rw [if_pos q, if_pos (by omega)]
    · rw [if_neg q, if_neg (by omega)]
theorem s_LR_put1 {G : s_DG} {ls : Array Slot} {L : List Value} {i : Nat} {v : Value} (h : lv_has ls L.length ((i, s_vc G v) :: (s_asc G L).filter (fun q => !(q.1 == i) && !(q.1 + 1 == i && q.2.category == 2)))) : s_LR G ls (s_put1 L i v) := by
  have hlen : (s_put1 L i v).length = L.length := by simp [s_put1, s_cut_len]
  unfold s_LR
  rw [hlen]
  refine ⟨h.1, h.2.1, fun q hq => ?_⟩
  obtain ⟨w, hw, hn, e⟩ := s_asc_mem.mp hq
  obtain ⟨j, qv⟩ := q
  dsimp only at hw e
  subst e
  by_cases hj : j = i
  · subst hj
    have hw2 : w = v := by
      have hl : j < (s_cut L j).length := by
        have := (List.getElem?_eq_some_iff.mp hw).1
        rw [hlen] at this
        rw [s_cut_len]; exact this
      rw [s_put1, List.getElem?_set_self hl] at hw
      exact (Option.some.inj hw).symm
    subst hw2
    exact h.2.2 _ List.mem_cons_self
  · rw [s_put1, List.getElem?_set_ne (Ne.symm hj), s_cut_get] at hw
    refine h.2.2 _ (List.mem_cons_of_mem _ (List.mem_filter.mpr ⟨s_asc_mem.mpr ?_, ?_⟩))
    · by_cases q : j + 1 = i
      · rw [if_pos q] at hw
        obtain ⟨w0, h0, h1⟩ := Option.map_eq_some_iff.mp hw
        by_cases h2 : s_two w0 = true
        · rw [if_pos h2] at h1
          exact absurd h1.symm (hn 0)
        · rw [if_neg h2] at h1
          exact ⟨w, by rw [← h1]; exact h0, hn, rfl⟩
      · rw [if_neg q] at hw
        exact ⟨w, hw, hn, rfl⟩
    · have h1 : (j == i) = false := by simpa using hj
      by_cases q : j + 1 = i
      · rw [if_pos q] at hw
        obtain ⟨w0, h0, h1⟩ := Option.map_eq_some_iff.mp hw
        by_cases h2 : s_two w0 = true
        · rw [if_pos h2] at h1
          exact absurd h1.symm (hn 0)
        · rw [if_neg h2] at h1
          subst h1
          have hc : (s_vc G w0).category = 1 := by rw [s_vc_cat, if_neg h2]
          simp [hj, hc]
      · have h2 : (j + 1 == i) = false := by simpa using q
        simp [hj, q]
theorem s_LR_put2 {G : s_DG} {ls : Array Slot} {L : List Value} {i : Nat} {v : Value} (h : lv_has ls L.length ((i, s_vc G v) :: (s_asc G L).filter (fun q => !(q.1 == i) && (!(q.1 == i + 1) && !(q.1 + 1 == i && q.2.category == 2))))) : s_LR G ls (s_put2 L i v) := by
  have hlen : (s_put2 L i v).length = L.length := by simp [s_put2, s_cut_len]
  unfold s_LR
  rw [hlen]
  refine ⟨h.1, h.2.1, fun q hq => ?_⟩
  obtain ⟨w, hw, hn, e⟩ := s_asc_mem.mp hq
  obtain ⟨j, qv⟩ := q
  dsimp only at hw e
  subst e
  by_cases hj2 : j = i + 1
  · subst hj2
    have hl : i + 1 < ((s_cut L i).set i v).length := by
      have := (List.getElem?_eq_some_iff.mp hw).1
      rw [hlen] at this
      rw [List.length_set, s_cut_len]; exact this
    rw [s_put2, List.getElem?_set_self hl] at hw
    exact absurd (Option.some.inj hw).symm (hn 0)
  rw [s_put2, List.getElem?_set_ne (Ne.symm hj2)] at hw
  by_cases hj : j = i
  · subst hj
    have hw2 : w = v := by
      have hl : j < (s_cut L j).length := by
        have := (List.getElem?_eq_some_iff.mp hw).1
        rw [List.length_set] at this; exact this
      rw [List.getElem?_set_self hl] at hw
      exact (Option.some.inj hw).symm
    subst hw2
    exact h.2.2 _ List.mem_cons_self
  · rw [List.getElem?_set_ne (Ne.symm hj), s_cut_get] at hw
    refine h.2.2 _ (List.mem_cons_of_mem _ (List.mem_filter.mpr ⟨s_asc_mem.mpr ?_, ?_⟩))
    · by_cases q : j + 1 = i
      · rw [if_pos q] at hw
        obtain ⟨w0, h0, h1⟩ := Option.map_eq_some_iff.mp hw
        by_cases h2 : s_two w0 = true
        · rw [if_pos h2] at h1
          exact absurd h1.symm (hn 0)
        · rw [if_neg h2] at h1
          exact ⟨w, by rw [← h1]; exact h0, hn, rfl⟩
      · rw [if_neg q] at hw
        exact ⟨w, hw, hn, rfl⟩
    · by_cases q : j + 1 = i
      · rw [if_pos q] at hw
        obtain ⟨w0, h0, h1⟩ := Option.map_eq_some_iff.mp hw
        by_cases h2 : s_two w0 = true
        · rw [if_pos h2] at h1
          exact absurd h1.symm (hn 0)
        · rw [if_neg h2] at h1
          subst h1
          have hc : (s_vc G w0).category = 1 := by rw [s_vc_cat, if_neg h2]
          simp [hj, hj2, hc]
      · simp [hj, hj2, q]
/-- the locals at the entry -/
theorem s_ent_args (G : s_DG) : ∀ (vs : List Value) (n i : Nat) (q : Nat × Value), (∃ w : Value, (s_ent vs n)[q.1]? = some w ∧ (∀ a, w ≠ .retAddr a) ∧ q.2 = s_vc G w) → (q.1 + i, q.2) ∈ lv_args i (vs.map (s_vc G))
  | [], n, i, q, h => by
    obtain ⟨w, hw, hn, -⟩ := h
    unfold s_ent at hw
    rw [List.getElem?_replicate] at hw
    split at hw
    · cases hw; exact absurd rfl (hn 0)
    · cases hw
  | v :: vs, n, i, q, h => by
    obtain ⟨w, hw, hn, e⟩ := h
    obtain ⟨j, qv⟩ := q
    dsimp only at hw e ⊢
    subst e
    rw [List.map_cons, lv_args, s_vc_cat]
    unfold s_ent at hw
    by_cases ht : s_two v = true
    · rw [if_pos ht] at hw
      rw [if_pos ht, if_pos rfl]
      match j, hw with
      | 0, hw =>
        cases hw
        rw [Nat.zero_add]
        exact List.mem_cons_self
      | 1, hw =>
        cases hw
        exact absurd rfl (hn 0)
      | j + 2, hw =>
        have := s_ent_args G vs (n - 2) (i + 2) (j, s_vc G w) ⟨w, hw, hn, rfl⟩
        rw [show j + 2 + i = j + (i + 2) by omega]
        exact List.mem_cons_of_mem _ this
    · rw [if_neg ht] at hw
      rw [if_neg ht, if_neg (by decide)]
      match j, hw with
      | 0, hw =>
        cases hw
        rw [Nat.zero_add]
        exact List.mem_cons_self
      | j + 1, hw =>
        have := s_ent_args G vs (n - 1) (i + 1) (j, s_vc G w) ⟨w, hw, hn, rfl⟩
        rw [show j + 1 + i = j + (i + 1) by omega]
        exact List.mem_cons_of_mem _ this
theorem s_ent_len (G : s_DG) : ∀ (vs : List Value) (n : Nat), (lg_sl (vs.map (s_vc G))).length ≤ n → (s_ent vs n).length = n
  | [], n, _ => by simp [s_ent]
  | v :: vs, n, h => by
    rw [List.map_cons] at h
    unfold lg_sl at h
    rw [List.flatMap_cons, s_vc_cat, List.length_append] at h
    unfold s_ent
    by_cases ht : s_two v = true
    · rw [if_pos ht, if_pos rfl] at h
      rw [if_pos ht, List.length_cons, List.length_cons, s_ent_len G vs (n - 2) (by unfold lg_sl; simp at h ⊢; omega)]
      simp at h; omega
    · rw [if_neg ht, if_neg (by decide)] at h
      rw [if_neg ht, List.length_cons, s_ent_len G vs (n - 1) (by unfold lg_sl; simp at h ⊢; omega)]
      simp at h; omega
theorem s_LR_ent {G : s_DG} {vs : List Value} {n : Nat} {ls : Array Slot} (hl : (lg_sl (vs.map (s_vc G))).length ≤ n) (h : lv_has ls n (lv_args 0 (vs.map (s_vc G)))) : s_LR G ls (s_ent vs n) := by
  unfold s_LR
  rw [s_ent_len G vs n hl]
  refine ⟨h.1, h.2.1, fun q hq => ?_⟩
  have := s_ent_args G vs n 0 q (s_asc_mem.mp hq)
  exact h.2.2 _ this
end
section
/-! ONE INSTRUCTION: what the small machine does, the real one does -/
def s_Cx (S : s_SG) (G : s_DG) (TW : List Jvm.Cond) (p : Program) (s : State) (m : MethodId) (args : Array Value) (meth : Method) (c : Code) (r : sM) : Prop :=
  p.tables.exec = Jvm.exec ∧ c.code = s_b r ∧ c.maxLocals = s_mL r ∧ s.vm.findClass (s_y r).cls = some m.cls ∧ (∀ w ∈ TW, w.before args s = true) ∧ s_In S G s ∧ ((s_y r).name = "<init>" → meth.name = "<init>")
/-- what is fixed of the classes -/
def s_SOK (S : s_SG) (TW : List Jvm.Cond) : Prop := ∀ (c : Nat) (q : vw_C), (s_cl S)[c]? = some q → (∀ w ∈ u_ws q.1 q.2.1 q.2.2, w ∈ TW) ∧ (∀ k : Nat, k < q.2.2 → parseFieldDescriptor (q.2.1 k).2.2.1 = some (s_ty S c k)) ∧ (∀ a : Nat, a < q.2.2 → ∀ b : Nat, b < q.2.2 → a ≠ b → (q.2.1 a).2.1 ≠ (q.2.1 b).2.1)
section STP
variable {p : Program} {l : Launch} {e : Env} {R : Room} {s : State} {m : MethodId} {args : Array Value} {below : List Frame} {meth : Method} {c : Code} {Q : State → Prop}
variable {S : s_SG} {G : s_DG} {TW : List Jvm.Cond} {r : sM} {N0 M0 pc n idx : Nat} {L st : List Value} {h : sHp} {q : sC}
def s_W (S : s_SG) (G : s_DG) (p : Program) (l : Launch) (e : Env) (R : Room) (s : State) (m : MethodId) (args : Array Value) (below : List Frame) (meth : Method) (c : Code) (Q : State → Prop) (N0 M0 : Nat) (pc : Nat) (L st : List Value) (h : sHp) : Prop :=
  L.length = c.maxLocals → ∀ (H : Heap) (locs : List Loc) (ls : Array Slot), s_Wd S G h H → va_S (s_A G) s.heap H locs → s_LR G ls L → W p l e R s m args below meth c H locs (h.2.2.length - N0) (s_sz S h.2.2 - M0) Q (F0 m pc ls (st.map (s_vc G)))
theorem s_put1_len (L : List Value) (i : Nat) (v : Value) : (s_put1 L i v).length = L.length := by simp [s_put1, s_cut_len]
theorem s_put2_len (L : List Value) (i : Nat) (v : Value) : (s_put2 L i v).length = L.length := by simp [s_put2, s_cut_len]
theorem s_vp_in {i : Int32} {k : Nat} (hq : ¬ s_outb i k = true) : vp_in i k := by
  intro h
  apply hq
  unfold s_outb
  rcases h with h | h
  · simp [h]
  · simp [Nat.ble_eq, h]
theorem s_d_iconst {v : Int} (C : s_Cx S G TW p s m args meth c r) (hdg : decode (s_b r) pc = .ok (.iconst v, n)) (hn : n = 1) (hs : s_x (.iconst v) pc n L st h = some q) (k : s_W S G p l e R s m args below meth c Q N0 M0 q.1 q.2.1 q.2.2.1 q.2.2.2) : s_W S G p l e R s m args below meth c Q N0 M0 pc L st h := by
  obtain ⟨hx, hb, hml, hown, hts, hI, hini⟩ := C
  subst hn
  cases hs
  intro hlen H locs ls hW hS hL
  exact lv_iconst hx hb hdg rfl (k hlen H locs ls hW hS hL)
theorem s_d_bipush {v : Int} (C : s_Cx S G TW p s m args meth c r) (hdg : decode (s_b r) pc = .ok (.bipush v, n)) (hn : n = 2) (hs : s_x (.bipush v) pc n L st h = some q) (k : s_W S G p l e R s m args below meth c Q N0 M0 q.1 q.2.1 q.2.2.1 q.2.2.2) : s_W S G p l e R s m args below meth c Q N0 M0 pc L st h := by
  obtain ⟨hx, hb, hml, hown, hts, hI, hini⟩ := C
  subst hn
  cases hs
  intro hlen H locs ls hW hS hL
  exact lv_bipush hx hb hdg rfl (k hlen H locs ls hW hS hL)
theorem s_d_sipush {v : Int} (C : s_Cx S G TW p s m args meth c r) (hdg : decode (s_b r) pc = .ok (.sipush v, n)) (hn : n = 3) (hs : s_x (.sipush v) pc n L st h = some q) (k : s_W S G p l e R s m args below meth c Q N0 M0 q.1 q.2.1 q.2.2.1 q.2.2.2) : s_W S G p l e R s m args below meth c Q N0 M0 pc L st h := by
  obtain ⟨hx, hb, hml, hown, hts, hI, hini⟩ := C
  subst hn
  cases hs
  intro hlen H locs ls hW hS hL
  exact lv_sipush hx hb hdg rfl (k hlen H locs ls hW hS hL)
theorem s_d_lconst {v : Fin 2} (C : s_Cx S G TW p s m args meth c r) (hdg : decode (s_b r) pc = .ok (.lconst v, n)) (hn : n = 1) (hs : s_x (.lconst v) pc n L st h = some q) (k : s_W S G p l e R s m args below meth c Q N0 M0 q.1 q.2.1 q.2.2.1 q.2.2.2) : s_W S G p l e R s m args below meth c Q N0 M0 pc L st h := by
  obtain ⟨hx, hb, hml, hown, hts, hI, hini⟩ := C
  subst hn
  cases hs
  intro hlen H locs ls hW hS hL
  exact lv_lconst hx hb hdg rfl (k hlen H locs ls hW hS hL)
theorem s_d_null (C : s_Cx S G TW p s m args meth c r) (hdg : decode (s_b r) pc = .ok (.aconst_null, n)) (hn : n = 1) (hs : s_x (.aconst_null) pc n L st h = some q) (k : s_W S G p l e R s m args below meth c Q N0 M0 q.1 q.2.1 q.2.2.1 q.2.2.2) : s_W S G p l e R s m args below meth c Q N0 M0 pc L st h := by
  obtain ⟨hx, hb, hml, hown, hts, hI, hini⟩ := C
  subst hn
  cases hs
  intro hlen H locs ls hW hS hL
  exact lv_null hx hb hdg (k hlen H locs ls hW hS hL)
theorem s_d_ldc {v : Nat} (C : s_Cx S G TW p s m args meth c r) (hw : (Jvm.Cond.constant (s_y r).cls idx (Int32.ofNat v)).before args s = true) (hdg : decode (s_b r) pc = .ok (.ldc idx, n)) (hn : n = 2) (hs : s_x (.ldc v) pc n L st h = some q) (k : s_W S G p l e R s m args below meth c Q N0 M0 q.1 q.2.1 q.2.2.1 q.2.2.2) : s_W S G p l e R s m args below meth c Q N0 M0 pc L st h := by
  obtain ⟨hx, hb, hml, hown, hts, hI, hini⟩ := C
  subst hn
  cases hs
  intro hlen H locs ls hW hS hL
  exact lv_ldc hx hb hown hw hdg (k hlen H locs ls hW hS hL)
theorem s_d_ldcw {v : Nat} (C : s_Cx S G TW p s m args meth c r) (hw : (Jvm.Cond.constant (s_y r).cls idx (Int32.ofNat v)).before args s = true) (hdg : decode (s_b r) pc = .ok (.ldc_w idx, n)) (hn : n = 3) (hs : s_x (.ldc_w v) pc n L st h = some q) (k : s_W S G p l e R s m args below meth c Q N0 M0 q.1 q.2.1 q.2.2.1 q.2.2.2) : s_W S G p l e R s m args below meth c Q N0 M0 pc L st h := by
  obtain ⟨hx, hb, hml, hown, hts, hI, hini⟩ := C
  subst hn
  cases hs
  intro hlen H locs ls hW hS hL
  exact lv_ldcw hx hb hown hw hdg (k hlen H locs ls hW hS hL)
theorem s_d_ldc2 {v : Nat} (C : s_Cx S G TW p s m args meth c r) (hw : (Jvm.Cond.constantLong (s_y r).cls idx (Int64.ofNat v)).before args s = true) (hdg : decode (s_b r) pc = .ok (.ldc2_w idx, n)) (hn : n = 3) (hs : s_x (.ldc2_w v) pc n L st h = some q) (k : s_W S G p l e R s m args below meth c Q N0 M0 q.1 q.2.1 q.2.2.1 q.2.2.2) : s_W S G p l e R s m args below meth c Q N0 M0 pc L st h := by
  obtain ⟨hx, hb, hml, hown, hts, hI, hini⟩ := C
  subst hn
  cases hs
  intro hlen H locs ls hW hS hL
  exact lv_ldc2 hx hb hown hw hdg (k hlen H locs ls hW hS hL)
theorem s_d_ldcf {v : Nat} (C : s_Cx S G TW p s m args meth c r) (hw : (Jvm.Cond.constantFloat (s_y r).cls idx (UInt32.ofNat v)).before args s = true) (hdg : decode (s_b r) pc = .ok (.ldc idx, n)) (hn : n = 2) (hs : s_x (.ret v) pc n L st h = some q) (k : s_W S G p l e R s m args below meth c Q N0 M0 q.1 q.2.1 q.2.2.1 q.2.2.2) : s_W S G p l e R s m args below meth c Q N0 M0 pc L st h := by
  obtain ⟨hx, hb, hml, hown, hts, hI, hini⟩ := C
  subst hn
  cases hs
  intro hlen H locs ls hW hS hL
  exact lv_ldcf hx hb hown hw hdg (k hlen H locs ls hW hS hL)
theorem s_d_ldc2d {v : Nat} (C : s_Cx S G TW p s m args meth c r) (hw : (Jvm.Cond.constantDouble (s_y r).cls idx (UInt64.ofNat v)).before args s = true) (hdg : decode (s_b r) pc = .ok (.ldc2_w idx, n)) (hn : n = 3) (hs : s_x (.putstatic v) pc n L st h = some q) (k : s_W S G p l e R s m args below meth c Q N0 M0 q.1 q.2.1 q.2.2.1 q.2.2.2) : s_W S G p l e R s m args below meth c Q N0 M0 pc L st h := by
  obtain ⟨hx, hb, hml, hown, hts, hI, hini⟩ := C
  subst hn
  cases hs
  intro hlen H locs ls hW hS hL
  exact lv_ldc2d hx hb hown hw hdg (k hlen H locs ls hW hS hL)
theorem s_d_fconst {v : Fin 3} (C : s_Cx S G TW p s m args meth c r) (hdg : decode (s_b r) pc = .ok (.fconst v, n)) (hn : n = 1) (hs : s_x (.fconst v) pc n L st h = some q) (k : s_W S G p l e R s m args below meth c Q N0 M0 q.1 q.2.1 q.2.2.1 q.2.2.2) : s_W S G p l e R s m args below meth c Q N0 M0 pc L st h := by
  obtain ⟨hx, hb, hml, hown, hts, hI, hini⟩ := C
  subst hn
  cases hs
  intro hlen H locs ls hW hS hL
  match v, hdg, k with
  | 0, hdg, k => exact lv_fconst0 hx hb hdg (k hlen H locs ls hW hS hL)
  | 1, hdg, k => exact lv_fconst1 hx hb hdg (k hlen H locs ls hW hS hL)
  | 2, hdg, k => exact lv_fconst2 hx hb hdg (k hlen H locs ls hW hS hL)
theorem s_d_dconst {v : Fin 2} (C : s_Cx S G TW p s m args meth c r) (hdg : decode (s_b r) pc = .ok (.dconst v, n)) (hn : n = 1) (hs : s_x (.dconst v) pc n L st h = some q) (k : s_W S G p l e R s m args below meth c Q N0 M0 q.1 q.2.1 q.2.2.1 q.2.2.2) : s_W S G p l e R s m args below meth c Q N0 M0 pc L st h := by
  obtain ⟨hx, hb, hml, hown, hts, hI, hini⟩ := C
  subst hn
  cases hs
  intro hlen H locs ls hW hS hL
  match v, hdg, k with
  | 0, hdg, k => exact lv_dconst0 hx hb hdg (k hlen H locs ls hW hS hL)
  | 1, hdg, k => exact lv_dconst1 hx hb hdg (k hlen H locs ls hW hS hL)
theorem s_d_iload_n {v : Fin 4} (C : s_Cx S G TW p s m args meth c r) (hdg : decode (s_b r) pc = .ok (.iload_n v, n)) (hn : n = 1) (hs : s_x (.iload_n v) pc n L st h = some q) (k : s_W S G p l e R s m args below meth c Q N0 M0 q.1 q.2.1 q.2.2.1 q.2.2.2) : s_W S G p l e R s m args below meth c Q N0 M0 pc L st h := by
  obtain ⟨hx, hb, hml, hown, hts, hI, hini⟩ := C
  subst hn
  dsimp only [s_x] at hs
  split at hs
  next x heq =>
    cases hs
    intro hlen H locs ls hW hS hL
    exact lv_iload_n hx hb hdg rfl (s_LR_at hL heq (fun a z => by cases z)) (k hlen H locs ls hW hS hL)
  · cases hs
theorem s_d_iload {v : Nat} (C : s_Cx S G TW p s m args meth c r) (hdg : decode (s_b r) pc = .ok (.iload v, n)) (hn : n = 2) (hs : s_x (.iload v) pc n L st h = some q) (k : s_W S G p l e R s m args below meth c Q N0 M0 q.1 q.2.1 q.2.2.1 q.2.2.2) : s_W S G p l e R s m args below meth c Q N0 M0 pc L st h := by
  obtain ⟨hx, hb, hml, hown, hts, hI, hini⟩ := C
  subst hn
  dsimp only [s_x] at hs
  split at hs
  next x heq =>
    cases hs
    intro hlen H locs ls hW hS hL
    exact lv_iload hx hb hdg (s_LR_at hL heq (fun a z => by cases z)) (k hlen H locs ls hW hS hL)
  · cases hs
theorem s_d_lload_n {v : Fin 4} (C : s_Cx S G TW p s m args meth c r) (hdg : decode (s_b r) pc = .ok (.lload_n v, n)) (hn : n = 1) (hs : s_x (.lload_n v) pc n L st h = some q) (k : s_W S G p l e R s m args below meth c Q N0 M0 q.1 q.2.1 q.2.2.1 q.2.2.2) : s_W S G p l e R s m args below meth c Q N0 M0 pc L st h := by
  obtain ⟨hx, hb, hml, hown, hts, hI, hini⟩ := C
  subst hn
  dsimp only [s_x] at hs
  split at hs
  next x heq =>
    cases hs
    intro hlen H locs ls hW hS hL
    exact lv_lload_n hx hb hdg rfl (s_LR_at hL heq (fun a z => by cases z)) (k hlen H locs ls hW hS hL)
  · cases hs
theorem s_d_lload {v : Nat} (C : s_Cx S G TW p s m args meth c r) (hdg : decode (s_b r) pc = .ok (.lload v, n)) (hn : n = 2) (hs : s_x (.lload v) pc n L st h = some q) (k : s_W S G p l e R s m args below meth c Q N0 M0 q.1 q.2.1 q.2.2.1 q.2.2.2) : s_W S G p l e R s m args below meth c Q N0 M0 pc L st h := by
  obtain ⟨hx, hb, hml, hown, hts, hI, hini⟩ := C
  subst hn
  dsimp only [s_x] at hs
  split at hs
  next x heq =>
    cases hs
    intro hlen H locs ls hW hS hL
    exact lv_lload hx hb hdg (s_LR_at hL heq (fun a z => by cases z)) (k hlen H locs ls hW hS hL)
  · cases hs
theorem s_d_fload_n {v : Fin 4} (C : s_Cx S G TW p s m args meth c r) (hdg : decode (s_b r) pc = .ok (.fload_n v, n)) (hn : n = 1) (hs : s_x (.fload_n v) pc n L st h = some q) (k : s_W S G p l e R s m args below meth c Q N0 M0 q.1 q.2.1 q.2.2.1 q.2.2.2) : s_W S G p l e R s m args below meth c Q N0 M0 pc L st h := by
  obtain ⟨hx, hb, hml, hown, hts, hI, hini⟩ := C
  subst hn
  dsimp only [s_x] at hs
  split at hs
  next x heq =>
    cases hs
    intro hlen H locs ls hW hS hL
    exact lv_fload_n hx hb hdg rfl (s_LR_at hL heq (fun a z => by cases z)) (k hlen H locs ls hW hS hL)
  · cases hs
theorem s_d_dload_n {v : Fin 4} (C : s_Cx S G TW p s m args meth c r) (hdg : decode (s_b r) pc = .ok (.dload_n v, n)) (hn : n = 1) (hs : s_x (.dload_n v) pc n L st h = some q) (k : s_W S G p l e R s m args below meth c Q N0 M0 q.1 q.2.1 q.2.2.1 q.2.2.2) : s_W S G p l e R s m args below meth c Q N0 M0 pc L st h := by
  obtain ⟨hx, hb, hml, hown, hts, hI, hini⟩ := C
  subst hn
  dsimp only [s_x] at hs
  split at hs
  next x heq =>
    cases hs
    intro hlen H locs ls hW hS hL
    exact lv_dload_n hx hb hdg rfl (s_LR_at hL heq (fun a z => by cases z)) (k hlen H locs ls hW hS hL)
  · cases hs
theorem s_d_aload_n {v : Fin 4} (C : s_Cx S G TW p s m args meth c r) (hdg : decode (s_b r) pc = .ok (.aload_n v, n)) (hn : n = 1) (hs : s_x (.aload_n v) pc n L st h = some q) (k : s_W S G p l e R s m args below meth c Q N0 M0 q.1 q.2.1 q.2.2.1 q.2.2.2) : s_W S G p l e R s m args below meth c Q N0 M0 pc L st h := by
  obtain ⟨hx, hb, hml, hown, hts, hI, hini⟩ := C
  subst hn
  dsimp only [s_x] at hs
  split at hs
  next x heq =>
    cases hs
    intro hlen H locs ls hW hS hL
    exact lv_aload_n hx hb hdg rfl (s_LR_at hL heq (fun a z => by cases z)) (k hlen H locs ls hW hS hL)
  next heq =>
    cases hs
    intro hlen H locs ls hW hS hL
    exact lv_aload_nN hx hb hdg rfl (s_LR_at hL heq (fun a z => by cases z)) (k hlen H locs ls hW hS hL)
  · cases hs
theorem s_d_aload {v : Nat} (C : s_Cx S G TW p s m args meth c r) (hdg : decode (s_b r) pc = .ok (.aload v, n)) (hn : n = 2) (hs : s_x (.aload v) pc n L st h = some q) (k : s_W S G p l e R s m args below meth c Q N0 M0 q.1 q.2.1 q.2.2.1 q.2.2.2) : s_W S G p l e R s m args below meth c Q N0 M0 pc L st h := by
  obtain ⟨hx, hb, hml, hown, hts, hI, hini⟩ := C
  subst hn
  dsimp only [s_x] at hs
  split at hs
  next x heq =>
    cases hs
    intro hlen H locs ls hW hS hL
    exact lv_aload hx hb hdg (s_LR_at hL heq (fun a z => by cases z)) (k hlen H locs ls hW hS hL)
  next heq =>
    cases hs
    intro hlen H locs ls hW hS hL
    exact lv_aloadN hx hb hdg (s_LR_at hL heq (fun a z => by cases z)) (k hlen H locs ls hW hS hL)
  · cases hs
theorem s_d_istore_n {v : Fin 4} (C : s_Cx S G TW p s m args meth c r) (hdg : decode (s_b r) pc = .ok (.istore_n v, n)) (hn : n = 1) (hs : s_x (.istore_n v) pc n L st h = some q) (k : s_W S G p l e R s m args below meth c Q N0 M0 q.1 q.2.1 q.2.2.1 q.2.2.2) : s_W S G p l e R s m args below meth c Q N0 M0 pc L st h := by
  obtain ⟨hx, hb, hml, hown, hts, hI, hini⟩ := C
  subst hn
  dsimp only [s_x] at hs
  split at hs
  · split at hs
    next hlt =>
      cases hs
      intro hlen H locs ls hW hS hL
      exact lv_istore_n hx hb hdg rfl hL hlt rfl (fun ls2 hl2 => k ((s_put1_len _ _ _).trans hlen) H locs ls2 hW hS (s_LR_put1 hl2))
    · cases hs
  · cases hs
theorem s_d_istore {v : Nat} (C : s_Cx S G TW p s m args meth c r) (hdg : decode (s_b r) pc = .ok (.istore v, n)) (hn : n = 2) (hs : s_x (.istore v) pc n L st h = some q) (k : s_W S G p l e R s m args below meth c Q N0 M0 q.1 q.2.1 q.2.2.1 q.2.2.2) : s_W S G p l e R s m args below meth c Q N0 M0 pc L st h := by
  obtain ⟨hx, hb, hml, hown, hts, hI, hini⟩ := C
  subst hn
  dsimp only [s_x] at hs
  split at hs
  · split at hs
    next hlt =>
      cases hs
      intro hlen H locs ls hW hS hL
      exact lv_istore hx hb hdg hL hlt rfl (fun ls2 hl2 => k ((s_put1_len _ _ _).trans hlen) H locs ls2 hW hS (s_LR_put1 hl2))
    · cases hs
  · cases hs
theorem s_d_fstore_n {v : Fin 4} (C : s_Cx S G TW p s m args meth c r) (hdg : decode (s_b r) pc = .ok (.fstore_n v, n)) (hn : n = 1) (hs : s_x (.fstore_n v) pc n L st h = some q) (k : s_W S G p l e R s m args below meth c Q N0 M0 q.1 q.2.1 q.2.2.1 q.2.2.2) : s_W S G p l e R s m args below meth c Q N0 M0 pc L st h := by
  obtain ⟨hx, hb, hml, hown, hts, hI, hini⟩ := C
  subst hn
  dsimp only [s_x] at hs
  split at hs
  · split at hs
    next hlt =>
      cases hs
      intro hlen H locs ls hW hS hL
      exact lv_fstore_n hx hb hdg rfl hL hlt rfl (fun ls2 hl2 => k ((s_put1_len _ _ _).trans hlen) H locs ls2 hW hS (s_LR_put1 hl2))
    · cases hs
  · cases hs
theorem s_d_lstore_n {v : Fin 4} (C : s_Cx S G TW p s m args meth c r) (hdg : decode (s_b r) pc = .ok (.lstore_n v, n)) (hn : n = 1) (hs : s_x (.lstore_n v) pc n L st h = some q) (k : s_W S G p l e R s m args below meth c Q N0 M0 q.1 q.2.1 q.2.2.1 q.2.2.2) : s_W S G p l e R s m args below meth c Q N0 M0 pc L st h := by
  obtain ⟨hx, hb, hml, hown, hts, hI, hini⟩ := C
  subst hn
  dsimp only [s_x] at hs
  split at hs
  · split at hs
    next hlt =>
      cases hs
      intro hlen H locs ls hW hS hL
      exact lv_lstore_n hx hb hdg rfl hL hlt rfl (fun ls2 hl2 => k ((s_put2_len _ _ _).trans hlen) H locs ls2 hW hS (s_LR_put2 hl2))
    · cases hs
  · cases hs
theorem s_d_lstore {v : Nat} (C : s_Cx S G TW p s m args meth c r) (hdg : decode (s_b r) pc = .ok (.lstore v, n)) (hn : n = 2) (hs : s_x (.lstore v) pc n L st h = some q) (k : s_W S G p l e R s m args below meth c Q N0 M0 q.1 q.2.1 q.2.2.1 q.2.2.2) : s_W S G p l e R s m args below meth c Q N0 M0 pc L st h := by
  obtain ⟨hx, hb, hml, hown, hts, hI, hini⟩ := C
  subst hn
  dsimp only [s_x] at hs
  split at hs
  · split at hs
    next hlt =>
      cases hs
      intro hlen H locs ls hW hS hL
      exact lv_lstore hx hb hdg hL hlt rfl (fun ls2 hl2 => k ((s_put2_len _ _ _).trans hlen) H locs ls2 hW hS (s_LR_put2 hl2))
    · cases hs
  · cases hs
theorem s_d_dstore_n {v : Fin 4} (C : s_Cx S G TW p s m args meth c r) (hdg : decode (s_b r) pc = .ok (.dstore_n v, n)) (hn : n = 1) (hs : s_x (.dstore_n v) pc n L st h = some q) (k : s_W S G p l e R s m args below meth c Q N0 M0 q.1 q.2.1 q.2.2.1 q.2.2.2) : s_W S G p l e R s m args below meth c Q N0 M0 pc L st h := by
  obtain ⟨hx, hb, hml, hown, hts, hI, hini⟩ := C
  subst hn
  dsimp only [s_x] at hs
  split at hs
  · split at hs
    next hlt =>
      cases hs
      intro hlen H locs ls hW hS hL
      exact lv_dstore_n hx hb hdg rfl hL hlt rfl (fun ls2 hl2 => k ((s_put2_len _ _ _).trans hlen) H locs ls2 hW hS (s_LR_put2 hl2))
    · cases hs
  · cases hs
theorem s_d_astore_n {v : Fin 4} (C : s_Cx S G TW p s m args meth c r) (hdg : decode (s_b r) pc = .ok (.astore_n v, n)) (hn : n = 1) (hs : s_x (.astore_n v) pc n L st h = some q) (k : s_W S G p l e R s m args below meth c Q N0 M0 q.1 q.2.1 q.2.2.1 q.2.2.2) : s_W S G p l e R s m args below meth c Q N0 M0 pc L st h := by
  obtain ⟨hx, hb, hml, hown, hts, hI, hini⟩ := C
  subst hn
  dsimp only [s_x] at hs
  split at hs
  · split at hs
    next hlt =>
      cases hs
      intro hlen H locs ls hW hS hL
      exact lv_astore_n hx hb hdg rfl hL hlt rfl (fun ls2 hl2 => k ((s_put1_len _ _ _).trans hlen) H locs ls2 hW hS (s_LR_put1 hl2))
    · cases hs
  · split at hs
    next hlt =>
      cases hs
      intro hlen H locs ls hW hS hL
      exact lv_astore_nN hx hb hdg rfl hL hlt rfl (fun ls2 hl2 => k ((s_put1_len _ _ _).trans hlen) H locs ls2 hW hS (s_LR_put1 hl2))
    · cases hs
  · cases hs
theorem s_d_astore {v : Nat} (C : s_Cx S G TW p s m args meth c r) (hdg : decode (s_b r) pc = .ok (.astore v, n)) (hn : n = 2) (hs : s_x (.astore v) pc n L st h = some q) (k : s_W S G p l e R s m args below meth c Q N0 M0 q.1 q.2.1 q.2.2.1 q.2.2.2) : s_W S G p l e R s m args below meth c Q N0 M0 pc L st h := by
  obtain ⟨hx, hb, hml, hown, hts, hI, hini⟩ := C
  subst hn
  dsimp only [s_x] at hs
  split at hs
  · split at hs
    next hlt =>
      cases hs
      intro hlen H locs ls hW hS hL
      exact lv_astore hx hb hdg hL hlt rfl (fun ls2 hl2 => k ((s_put1_len _ _ _).trans hlen) H locs ls2 hW hS (s_LR_put1 hl2))
    · cases hs
  · split at hs
    next hlt =>
      cases hs
      intro hlen H locs ls hW hS hL
      exact lv_astoreN hx hb hdg hL hlt rfl (fun ls2 hl2 => k ((s_put1_len _ _ _).trans hlen) H locs ls2 hW hS (s_LR_put1 hl2))
    · cases hs
  · cases hs
theorem s_d_iinc {v : Nat} {w : Int} (C : s_Cx S G TW p s m args meth c r) (hdg : decode (s_b r) pc = .ok (.iinc v w, n)) (hn : n = 3) (hs : s_x (.iinc v w) pc n L st h = some q) (k : s_W S G p l e R s m args below meth c Q N0 M0 q.1 q.2.1 q.2.2.1 q.2.2.2) : s_W S G p l e R s m args below meth c Q N0 M0 pc L st h := by
  obtain ⟨hx, hb, hml, hown, hts, hI, hini⟩ := C
  subst hn
  dsimp only [s_x] at hs
  split at hs
  next x heq =>
    cases hs
    intro hlen H locs ls hW hS hL
    have hm := s_asc_mem (G := G) (L := L) (q := (v, .int x)) |>.mpr ⟨.int x, by rw [← s_nth_eq]; exact heq, fun a z => (by cases z), rfl⟩
    obtain ⟨j, hj⟩ := List.getElem?_of_mem hm
    have hlt : v < L.length := by rw [s_nth_eq] at heq; exact (List.getElem?_eq_some_iff.mp heq).1
    exact lv_iinc hx hb hdg hL hj rfl hlt rfl (fun ls2 hl2 => k ((s_put1_len _ _ _).trans hlen) H locs ls2 hW hS (s_LR_put1 hl2))
  · cases hs
theorem s_d_iadd (C : s_Cx S G TW p s m args meth c r) (hdg : decode (s_b r) pc = .ok (.iadd, n)) (hn : n = 1) (hs : s_x (.iadd) pc n L st h = some q) (k : s_W S G p l e R s m args below meth c Q N0 M0 q.1 q.2.1 q.2.2.1 q.2.2.2) : s_W S G p l e R s m args below meth c Q N0 M0 pc L st h := by
  obtain ⟨hx, hb, hml, hown, hts, hI, hini⟩ := C
  subst hn
  dsimp only [s_x] at hs
  split at hs
  · cases hs
    intro hlen H locs ls hW hS hL
    exact lv_iadd hx hb hdg (k hlen H locs ls hW hS hL)
  · cases hs
theorem s_d_isub (C : s_Cx S G TW p s m args meth c r) (hdg : decode (s_b r) pc = .ok (.isub, n)) (hn : n = 1) (hs : s_x (.isub) pc n L st h = some q) (k : s_W S G p l e R s m args below meth c Q N0 M0 q.1 q.2.1 q.2.2.1 q.2.2.2) : s_W S G p l e R s m args below meth c Q N0 M0 pc L st h := by
  obtain ⟨hx, hb, hml, hown, hts, hI, hini⟩ := C
  subst hn
  dsimp only [s_x] at hs
  split at hs
  · cases hs
    intro hlen H locs ls hW hS hL
    exact lv_isub hx hb hdg (k hlen H locs ls hW hS hL)
  · cases hs
theorem s_d_imul (C : s_Cx S G TW p s m args meth c r) (hdg : decode (s_b r) pc = .ok (.imul, n)) (hn : n = 1) (hs : s_x (.imul) pc n L st h = some q) (k : s_W S G p l e R s m args below meth c Q N0 M0 q.1 q.2.1 q.2.2.1 q.2.2.2) : s_W S G p l e R s m args below meth c Q N0 M0 pc L st h := by
  obtain ⟨hx, hb, hml, hown, hts, hI, hini⟩ := C
  subst hn
  dsimp only [s_x] at hs
  split at hs
  · cases hs
    intro hlen H locs ls hW hS hL
    exact lv_imul hx hb hdg (k hlen H locs ls hW hS hL)
  · cases hs
theorem s_d_iand (C : s_Cx S G TW p s m args meth c r) (hdg : decode (s_b r) pc = .ok (.iand, n)) (hn : n = 1) (hs : s_x (.iand) pc n L st h = some q) (k : s_W S G p l e R s m args below meth c Q N0 M0 q.1 q.2.1 q.2.2.1 q.2.2.2) : s_W S G p l e R s m args below meth c Q N0 M0 pc L st h := by
  obtain ⟨hx, hb, hml, hown, hts, hI, hini⟩ := C
  subst hn
  dsimp only [s_x] at hs
  split at hs
  · cases hs
    intro hlen H locs ls hW hS hL
    exact lv_iand hx hb hdg (k hlen H locs ls hW hS hL)
  · cases hs
theorem s_d_ior (C : s_Cx S G TW p s m args meth c r) (hdg : decode (s_b r) pc = .ok (.ior, n)) (hn : n = 1) (hs : s_x (.ior) pc n L st h = some q) (k : s_W S G p l e R s m args below meth c Q N0 M0 q.1 q.2.1 q.2.2.1 q.2.2.2) : s_W S G p l e R s m args below meth c Q N0 M0 pc L st h := by
  obtain ⟨hx, hb, hml, hown, hts, hI, hini⟩ := C
  subst hn
  dsimp only [s_x] at hs
  split at hs
  · cases hs
    intro hlen H locs ls hW hS hL
    exact lv_ior hx hb hdg (k hlen H locs ls hW hS hL)
  · cases hs
theorem s_d_ishl (C : s_Cx S G TW p s m args meth c r) (hdg : decode (s_b r) pc = .ok (.ishl, n)) (hn : n = 1) (hs : s_x (.ishl) pc n L st h = some q) (k : s_W S G p l e R s m args below meth c Q N0 M0 q.1 q.2.1 q.2.2.1 q.2.2.2) : s_W S G p l e R s m args below meth c Q N0 M0 pc L st h := by
  obtain ⟨hx, hb, hml, hown, hts, hI, hini⟩ := C
  subst hn
  dsimp only [s_x] at hs
  split at hs
  · cases hs
    intro hlen H locs ls hW hS hL
    exact lv_ishl hx hb hdg (k hlen H locs ls hW hS hL)
  · cases hs
theorem s_d_ladd (C : s_Cx S G TW p s m args meth c r) (hdg : decode (s_b r) pc = .ok (.ladd, n)) (hn : n = 1) (hs : s_x (.ladd) pc n L st h = some q) (k : s_W S G p l e R s m args below meth c Q N0 M0 q.1 q.2.1 q.2.2.1 q.2.2.2) : s_W S G p l e R s m args below meth c Q N0 M0 pc L st h := by
  obtain ⟨hx, hb, hml, hown, hts, hI, hini⟩ := C
  subst hn
  dsimp only [s_x] at hs
  split at hs
  · cases hs
    intro hlen H locs ls hW hS hL
    exact lv_ladd hx hb hdg (k hlen H locs ls hW hS hL)
  · cases hs
theorem s_d_lsub (C : s_Cx S G TW p s m args meth c r) (hdg : decode (s_b r) pc = .ok (.lsub, n)) (hn : n = 1) (hs : s_x (.lsub) pc n L st h = some q) (k : s_W S G p l e R s m args below meth c Q N0 M0 q.1 q.2.1 q.2.2.1 q.2.2.2) : s_W S G p l e R s m args below meth c Q N0 M0 pc L st h := by
  obtain ⟨hx, hb, hml, hown, hts, hI, hini⟩ := C
  subst hn
  dsimp only [s_x] at hs
  split at hs
  · cases hs
    intro hlen H locs ls hW hS hL
    exact lv_lsub hx hb hdg (k hlen H locs ls hW hS hL)
  · cases hs
theorem s_d_land (C : s_Cx S G TW p s m args meth c r) (hdg : decode (s_b r) pc = .ok (.land, n)) (hn : n = 1) (hs : s_x (.land) pc n L st h = some q) (k : s_W S G p l e R s m args below meth c Q N0 M0 q.1 q.2.1 q.2.2.1 q.2.2.2) : s_W S G p l e R s m args below meth c Q N0 M0 pc L st h := by
  obtain ⟨hx, hb, hml, hown, hts, hI, hini⟩ := C
  subst hn
  dsimp only [s_x] at hs
  split at hs
  · cases hs
    intro hlen H locs ls hW hS hL
    exact lv_land hx hb hdg (k hlen H locs ls hW hS hL)
  · cases hs
theorem s_d_lor (C : s_Cx S G TW p s m args meth c r) (hdg : decode (s_b r) pc = .ok (.lor, n)) (hn : n = 1) (hs : s_x (.lor) pc n L st h = some q) (k : s_W S G p l e R s m args below meth c Q N0 M0 q.1 q.2.1 q.2.2.1 q.2.2.2) : s_W S G p l e R s m args below meth c Q N0 M0 pc L st h := by
  obtain ⟨hx, hb, hml, hown, hts, hI, hini⟩ := C
  subst hn
  dsimp only [s_x] at hs
  split at hs
  · cases hs
    intro hlen H locs ls hW hS hL
    exact lv_lor hx hb hdg (k hlen H locs ls hW hS hL)
  · cases hs
theorem s_d_lshl (C : s_Cx S G TW p s m args meth c r) (hdg : decode (s_b r) pc = .ok (.lshl, n)) (hn : n = 1) (hs : s_x (.lshl) pc n L st h = some q) (k : s_W S G p l e R s m args below meth c Q N0 M0 q.1 q.2.1 q.2.2.1 q.2.2.2) : s_W S G p l e R s m args below meth c Q N0 M0 pc L st h := by
  obtain ⟨hx, hb, hml, hown, hts, hI, hini⟩ := C
  subst hn
  dsimp only [s_x] at hs
  split at hs
  · cases hs
    intro hlen H locs ls hW hS hL
    exact lv_lshl hx hb hdg rfl (k hlen H locs ls hW hS hL)
  · cases hs
theorem s_d_lushr (C : s_Cx S G TW p s m args meth c r) (hdg : decode (s_b r) pc = .ok (.lushr, n)) (hn : n = 1) (hs : s_x (.lushr) pc n L st h = some q) (k : s_W S G p l e R s m args below meth c Q N0 M0 q.1 q.2.1 q.2.2.1 q.2.2.2) : s_W S G p l e R s m args below meth c Q N0 M0 pc L st h := by
  obtain ⟨hx, hb, hml, hown, hts, hI, hini⟩ := C
  subst hn
  dsimp only [s_x] at hs
  split at hs
  · cases hs
    intro hlen H locs ls hW hS hL
    exact lv_lushr hx hb hdg rfl (k hlen H locs ls hW hS hL)
  · cases hs
theorem s_d_i2l (C : s_Cx S G TW p s m args meth c r) (hdg : decode (s_b r) pc = .ok (.i2l, n)) (hn : n = 1) (hs : s_x (.i2l) pc n L st h = some q) (k : s_W S G p l e R s m args below meth c Q N0 M0 q.1 q.2.1 q.2.2.1 q.2.2.2) : s_W S G p l e R s m args below meth c Q N0 M0 pc L st h := by
  obtain ⟨hx, hb, hml, hown, hts, hI, hini⟩ := C
  subst hn
  dsimp only [s_x] at hs
  split at hs
  · cases hs
    intro hlen H locs ls hW hS hL
    exact lv_i2l hx hb hdg rfl (k hlen H locs ls hW hS hL)
  · cases hs
theorem s_d_l2i (C : s_Cx S G TW p s m args meth c r) (hdg : decode (s_b r) pc = .ok (.l2i, n)) (hn : n = 1) (hs : s_x (.l2i) pc n L st h = some q) (k : s_W S G p l e R s m args below meth c Q N0 M0 q.1 q.2.1 q.2.2.1 q.2.2.2) : s_W S G p l e R s m args below meth c Q N0 M0 pc L st h := by
  obtain ⟨hx, hb, hml, hown, hts, hI, hini⟩ := C
  subst hn
  dsimp only [s_x] at hs
  split at hs
  · cases hs
    intro hlen H locs ls hW hS hL
    exact lv_l2i hx hb hdg rfl (k hlen H locs ls hW hS hL)
  · cases hs
theorem s_d_i2f (C : s_Cx S G TW p s m args meth c r) (hdg : decode (s_b r) pc = .ok (.i2f, n)) (hn : n = 1) (hs : s_x (.i2f) pc n L st h = some q) (k : s_W S G p l e R s m args below meth c Q N0 M0 q.1 q.2.1 q.2.2.1 q.2.2.2) : s_W S G p l e R s m args below meth c Q N0 M0 pc L st h := by
  obtain ⟨hx, hb, hml, hown, hts, hI, hini⟩ := C
  subst hn
  dsimp only [s_x] at hs
  split at hs
  · cases hs
    intro hlen H locs ls hW hS hL
    exact lv_i2f hx hb hdg (k hlen H locs ls hW hS hL)
  · cases hs
theorem s_d_i2d (C : s_Cx S G TW p s m args meth c r) (hdg : decode (s_b r) pc = .ok (.i2d, n)) (hn : n = 1) (hs : s_x (.i2d) pc n L st h = some q) (k : s_W S G p l e R s m args below meth c Q N0 M0 q.1 q.2.1 q.2.2.1 q.2.2.2) : s_W S G p l e R s m args below meth c Q N0 M0 pc L st h := by
  obtain ⟨hx, hb, hml, hown, hts, hI, hini⟩ := C
  subst hn
  dsimp only [s_x] at hs
  split at hs
  · cases hs
    intro hlen H locs ls hW hS hL
    exact lv_i2d hx hb hdg (k hlen H locs ls hW hS hL)
  · cases hs
theorem s_d_l2d (C : s_Cx S G TW p s m args meth c r) (hdg : decode (s_b r) pc = .ok (.l2d, n)) (hn : n = 1) (hs : s_x (.l2d) pc n L st h = some q) (k : s_W S G p l e R s m args below meth c Q N0 M0 q.1 q.2.1 q.2.2.1 q.2.2.2) : s_W S G p l e R s m args below meth c Q N0 M0 pc L st h := by
  obtain ⟨hx, hb, hml, hown, hts, hI, hini⟩ := C
  subst hn
  dsimp only [s_x] at hs
  split at hs
  · cases hs
    intro hlen H locs ls hW hS hL
    exact lv_l2d hx hb hdg (k hlen H locs ls hW hS hL)
  · cases hs
theorem s_d_d2l (C : s_Cx S G TW p s m args meth c r) (hdg : decode (s_b r) pc = .ok (.d2l, n)) (hn : n = 1) (hs : s_x (.d2l) pc n L st h = some q) (k : s_W S G p l e R s m args below meth c Q N0 M0 q.1 q.2.1 q.2.2.1 q.2.2.2) : s_W S G p l e R s m args below meth c Q N0 M0 pc L st h := by
  obtain ⟨hx, hb, hml, hown, hts, hI, hini⟩ := C
  subst hn
  dsimp only [s_x] at hs
  split at hs
  · cases hs
    intro hlen H locs ls hW hS hL
    exact lv_d2l hx hb hdg (k hlen H locs ls hW hS hL)
  · cases hs
theorem s_d_f2i (C : s_Cx S G TW p s m args meth c r) (hdg : decode (s_b r) pc = .ok (.f2i, n)) (hn : n = 1) (hs : s_x (.f2i) pc n L st h = some q) (k : s_W S G p l e R s m args below meth c Q N0 M0 q.1 q.2.1 q.2.2.1 q.2.2.2) : s_W S G p l e R s m args below meth c Q N0 M0 pc L st h := by
  obtain ⟨hx, hb, hml, hown, hts, hI, hini⟩ := C
  subst hn
  dsimp only [s_x] at hs
  split at hs
  · cases hs
    intro hlen H locs ls hW hS hL
    exact lv_f2i hx hb hdg (k hlen H locs ls hW hS hL)
  · cases hs
theorem s_d_lcmp (C : s_Cx S G TW p s m args meth c r) (hdg : decode (s_b r) pc = .ok (.lcmp, n)) (hn : n = 1) (hs : s_x (.lcmp) pc n L st h = some q) (k : s_W S G p l e R s m args below meth c Q N0 M0 q.1 q.2.1 q.2.2.1 q.2.2.2) : s_W S G p l e R s m args below meth c Q N0 M0 pc L st h := by
  obtain ⟨hx, hb, hml, hown, hts, hI, hini⟩ := C
  subst hn
  dsimp only [s_x] at hs
  split at hs
  · cases hs
    intro hlen H locs ls hW hS hL
    exact W.lcmp hx hb hdg (k hlen H locs ls hW hS hL)
  · cases hs
theorem s_d_fcmp {v : CmpOp} (C : s_Cx S G TW p s m args meth c r) (hdg : decode (s_b r) pc = .ok (.fcmp v, n)) (hn : n = 1) (hs : s_x (.fcmp v) pc n L st h = some q) (k : s_W S G p l e R s m args below meth c Q N0 M0 q.1 q.2.1 q.2.2.1 q.2.2.2) : s_W S G p l e R s m args below meth c Q N0 M0 pc L st h := by
  obtain ⟨hx, hb, hml, hown, hts, hI, hini⟩ := C
  subst hn
  dsimp only [s_x] at hs
  split at hs
  · cases hs
    intro hlen H locs ls hW hS hL
    exact lv_fcmp hx hb hdg (k hlen H locs ls hW hS hL)
  · cases hs
theorem s_d_dcmp {v : CmpOp} (C : s_Cx S G TW p s m args meth c r) (hdg : decode (s_b r) pc = .ok (.dcmp v, n)) (hn : n = 1) (hs : s_x (.dcmp v) pc n L st h = some q) (k : s_W S G p l e R s m args below meth c Q N0 M0 q.1 q.2.1 q.2.2.1 q.2.2.2) : s_W S G p l e R s m args below meth c Q N0 M0 pc L st h := by
  obtain ⟨hx, hb, hml, hown, hts, hI, hini⟩ := C
  subst hn
  dsimp only [s_x] at hs
  split at hs
  · cases hs
    intro hlen H locs ls hW hS hL
    exact lv_dcmp hx hb hdg (k hlen H locs ls hW hS hL)
  · cases hs
theorem s_d_idiv (C : s_Cx S G TW p s m args meth c r) (hdg : decode (s_b r) pc = .ok (.idiv, n)) (hn : n = 1) (hs : s_x (.idiv) pc n L st h = some q) (k : s_W S G p l e R s m args below meth c Q N0 M0 q.1 q.2.1 q.2.2.1 q.2.2.2) : s_W S G p l e R s m args below meth c Q N0 M0 pc L st h := by
  obtain ⟨hx, hb, hml, hown, hts, hI, hini⟩ := C
  subst hn
  dsimp only [s_x] at hs
  split at hs
  · split at hs
    · cases hs
    next hc =>
      cases hs
      intro hlen H locs ls hW hS hL
      exact lv_idiv hx hb hdg hc (k hlen H locs ls hW hS hL)
  · cases hs
theorem s_d_fsub (C : s_Cx S G TW p s m args meth c r) (hdg : decode (s_b r) pc = .ok (.fsub, n)) (hn : n = 1) (hs : s_x (.fsub) pc n L st h = some q) (k : s_W S G p l e R s m args below meth c Q N0 M0 q.1 q.2.1 q.2.2.1 q.2.2.2) : s_W S G p l e R s m args below meth c Q N0 M0 pc L st h := by
  obtain ⟨hx, hb, hml, hown, hts, hI, hini⟩ := C
  subst hn
  dsimp only [s_x] at hs
  split at hs
  · split at hs
    next hc =>
      cases hs
      intro hlen H locs ls hW hS hL
      exact lv_fsub hx hb hdg hc (k hlen H locs ls hW hS hL)
    · cases hs
  · cases hs
theorem s_d_fmul (C : s_Cx S G TW p s m args meth c r) (hdg : decode (s_b r) pc = .ok (.fmul, n)) (hn : n = 1) (hs : s_x (.fmul) pc n L st h = some q) (k : s_W S G p l e R s m args below meth c Q N0 M0 q.1 q.2.1 q.2.2.1 q.2.2.2) : s_W S G p l e R s m args below meth c Q N0 M0 pc L st h := by
  obtain ⟨hx, hb, hml, hown, hts, hI, hini⟩ := C
  subst hn
  dsimp only [s_x] at hs
  split at hs
  · split at hs
    next hc =>
      cases hs
      intro hlen H locs ls hW hS hL
      exact lv_fmul hx hb hdg hc (k hlen H locs ls hW hS hL)
    · cases hs
  · cases hs
theorem s_d_fdiv (C : s_Cx S G TW p s m args meth c r) (hdg : decode (s_b r) pc = .ok (.fdiv, n)) (hn : n = 1) (hs : s_x (.fdiv) pc n L st h = some q) (k : s_W S G p l e R s m args below meth c Q N0 M0 q.1 q.2.1 q.2.2.1 q.2.2.2) : s_W S G p l e R s m args below meth c Q N0 M0 pc L st h := by
  obtain ⟨hx, hb, hml, hown, hts, hI, hini⟩ := C
  subst hn
  dsimp only [s_x] at hs
  split at hs
  · split at hs
    next hc =>
      cases hs
      intro hlen H locs ls hW hS hL
      exact lv_fdiv hx hb hdg hc (k hlen H locs ls hW hS hL)
    · cases hs
  · cases hs
theorem s_d_dsub (C : s_Cx S G TW p s m args meth c r) (hdg : decode (s_b r) pc = .ok (.dsub, n)) (hn : n = 1) (hs : s_x (.dsub) pc n L st h = some q) (k : s_W S G p l e R s m args below meth c Q N0 M0 q.1 q.2.1 q.2.2.1 q.2.2.2) : s_W S G p l e R s m args below meth c Q N0 M0 pc L st h := by
  obtain ⟨hx, hb, hml, hown, hts, hI, hini⟩ := C
  subst hn
  dsimp only [s_x] at hs
  split at hs
  · split at hs
    next hc =>
      cases hs
      intro hlen H locs ls hW hS hL
      exact lv_dsub hx hb hdg hc (k hlen H locs ls hW hS hL)
    · cases hs
  · cases hs
theorem s_d_dmul (C : s_Cx S G TW p s m args meth c r) (hdg : decode (s_b r) pc = .ok (.dmul, n)) (hn : n = 1) (hs : s_x (.dmul) pc n L st h = some q) (k : s_W S G p l e R s m args below meth c Q N0 M0 q.1 q.2.1 q.2.2.1 q.2.2.2) : s_W S G p l e R s m args below meth c Q N0 M0 pc L st h := by
  obtain ⟨hx, hb, hml, hown, hts, hI, hini⟩ := C
  subst hn
  dsimp only [s_x] at hs
  split at hs
  · split at hs
    next hc =>
      cases hs
      intro hlen H locs ls hW hS hL
      exact lv_dmul hx hb hdg hc (k hlen H locs ls hW hS hL)
    · cases hs
  · cases hs
theorem s_d_ddiv (C : s_Cx S G TW p s m args meth c r) (hdg : decode (s_b r) pc = .ok (.ddiv, n)) (hn : n = 1) (hs : s_x (.ddiv) pc n L st h = some q) (k : s_W S G p l e R s m args below meth c Q N0 M0 q.1 q.2.1 q.2.2.1 q.2.2.2) : s_W S G p l e R s m args below meth c Q N0 M0 pc L st h := by
  obtain ⟨hx, hb, hml, hown, hts, hI, hini⟩ := C
  subst hn
  dsimp only [s_x] at hs
  split at hs
  · split at hs
    next hc =>
      cases hs
      intro hlen H locs ls hW hS hL
      exact lv_ddiv hx hb hdg hc (k hlen H locs ls hW hS hL)
    · cases hs
  · cases hs
theorem s_d_drem (C : s_Cx S G TW p s m args meth c r) (hdg : decode (s_b r) pc = .ok (.drem, n)) (hn : n = 1) (hs : s_x (.drem) pc n L st h = some q) (k : s_W S G p l e R s m args below meth c Q N0 M0 q.1 q.2.1 q.2.2.1 q.2.2.2) : s_W S G p l e R s m args below meth c Q N0 M0 pc L st h := by
  obtain ⟨hx, hb, hml, hown, hts, hI, hini⟩ := C
  subst hn
  dsimp only [s_x] at hs
  split at hs
  · split at hs
    next hc =>
      cases hs
      intro hlen H locs ls hW hS hL
      exact lv_drem hx hb hdg hc (k hlen H locs ls hW hS hL)
    · cases hs
  · cases hs
theorem s_cat1 {v : Value} (h : ¬ s_two v = true) : (s_vc G v).category = 1 := by rw [s_vc_cat, if_neg h]
theorem s_cat2 {v : Value} (h : s_two v = true) : (s_vc G v).category = 2 := by rw [s_vc_cat, if_pos h]
theorem s_d_dup (C : s_Cx S G TW p s m args meth c r) (hdg : decode (s_b r) pc = .ok (.dup, n)) (hn : n = 1) (hs : s_x (.dup) pc n L st h = some q) (k : s_W S G p l e R s m args below meth c Q N0 M0 q.1 q.2.1 q.2.2.1 q.2.2.2) : s_W S G p l e R s m args below meth c Q N0 M0 pc L st h := by
  obtain ⟨hx, hb, hml, hown, hts, hI, hini⟩ := C
  subst hn
  dsimp only [s_x] at hs
  split at hs
  · split at hs
    · cases hs
    next hc =>
      cases hs
      intro hlen H locs ls hW hS hL
      exact lv_dup hx hb hdg (s_cat1 hc) (k hlen H locs ls hW hS hL)
  · cases hs
theorem s_d_pop (C : s_Cx S G TW p s m args meth c r) (hdg : decode (s_b r) pc = .ok (.pop, n)) (hn : n = 1) (hs : s_x (.pop) pc n L st h = some q) (k : s_W S G p l e R s m args below meth c Q N0 M0 q.1 q.2.1 q.2.2.1 q.2.2.2) : s_W S G p l e R s m args below meth c Q N0 M0 pc L st h := by
  obtain ⟨hx, hb, hml, hown, hts, hI, hini⟩ := C
  subst hn
  dsimp only [s_x] at hs
  split at hs
  · split at hs
    · cases hs
    next hc =>
      cases hs
      intro hlen H locs ls hW hS hL
      exact lv_pop hx hb hdg (s_cat1 hc) (k hlen H locs ls hW hS hL)
  · cases hs
theorem s_d_dup2 (C : s_Cx S G TW p s m args meth c r) (hdg : decode (s_b r) pc = .ok (.dup2, n)) (hn : n = 1) (hs : s_x (.dup2) pc n L st h = some q) (k : s_W S G p l e R s m args below meth c Q N0 M0 q.1 q.2.1 q.2.2.1 q.2.2.2) : s_W S G p l e R s m args below meth c Q N0 M0 pc L st h := by
  obtain ⟨hx, hb, hml, hown, hts, hI, hini⟩ := C
  subst hn
  dsimp only [s_x] at hs
  split at hs
  · split at hs
    next hc =>
      cases hs
      intro hlen H locs ls hW hS hL
      exact lv_dup2_2 hx hb hdg (s_cat2 hc) (k hlen H locs ls hW hS hL)
    next hc =>
      split at hs
      · split at hs
        · cases hs
        next hc2 =>
          cases hs
          intro hlen H locs ls hW hS hL
          exact lv_dup2_11 hx hb hdg (s_cat1 hc) (s_cat1 hc2) (k hlen H locs ls hW hS hL)
      · cases hs
  · cases hs
theorem s_d_if_eq {v : Int} (C : s_Cx S G TW p s m args meth c r) (hv : 0 ≤ v) (hdg : decode (s_b r) pc = .ok (.ifCond .eq (v - (pc : Int)), n)) (hn : n = 3) (hs : s_x (.ifCond .eq v) pc n L st h = some q) (k : s_W S G p l e R s m args below meth c Q N0 M0 q.1 q.2.1 q.2.2.1 q.2.2.2) : s_W S G p l e R s m args below meth c Q N0 M0 pc L st h := by
  obtain ⟨hx, hb, hml, hown, hts, hI, hini⟩ := C
  subst hn
  dsimp only [s_x] at hs
  split at hs
  · cases hs
    intro hlen H locs ls hW hS hL
    have k := k hlen H locs ls hW hS hL
    refine lv_if_eq (tgt := v.toNat) hx hb hdg (by omega) (fun hc => ?_) (fun hc => ?_)
    · simp only [s_cnd, decide_eq_true_eq] at k
      rw [if_pos hc] at k
      exact k
    · simp only [s_cnd, decide_eq_true_eq] at k
      rw [if_neg (by first | exact hc | exact not_not_intro hc)] at k
      exact k
  · cases hs
theorem s_d_if_ne {v : Int} (C : s_Cx S G TW p s m args meth c r) (hv : 0 ≤ v) (hdg : decode (s_b r) pc = .ok (.ifCond .ne (v - (pc : Int)), n)) (hn : n = 3) (hs : s_x (.ifCond .ne v) pc n L st h = some q) (k : s_W S G p l e R s m args below meth c Q N0 M0 q.1 q.2.1 q.2.2.1 q.2.2.2) : s_W S G p l e R s m args below meth c Q N0 M0 pc L st h := by
  obtain ⟨hx, hb, hml, hown, hts, hI, hini⟩ := C
  subst hn
  dsimp only [s_x] at hs
  split at hs
  · cases hs
    intro hlen H locs ls hW hS hL
    have k := k hlen H locs ls hW hS hL
    refine lv_if_ne (tgt := v.toNat) hx hb hdg (by omega) (fun hc => ?_) (fun hc => ?_)
    · simp only [s_cnd, decide_eq_true_eq] at k
      rw [if_pos hc] at k
      exact k
    · simp only [s_cnd, decide_eq_true_eq] at k
      rw [if_neg (by first | exact hc | exact not_not_intro hc)] at k
      exact k
  · cases hs
theorem s_d_if_lt {v : Int} (C : s_Cx S G TW p s m args meth c r) (hv : 0 ≤ v) (hdg : decode (s_b r) pc = .ok (.ifCond .lt (v - (pc : Int)), n)) (hn : n = 3) (hs : s_x (.ifCond .lt v) pc n L st h = some q) (k : s_W S G p l e R s m args below meth c Q N0 M0 q.1 q.2.1 q.2.2.1 q.2.2.2) : s_W S G p l e R s m args below meth c Q N0 M0 pc L st h := by
  obtain ⟨hx, hb, hml, hown, hts, hI, hini⟩ := C
  subst hn
  dsimp only [s_x] at hs
  split at hs
  · cases hs
    intro hlen H locs ls hW hS hL
    have k := k hlen H locs ls hW hS hL
    refine lv_if_lt (tgt := v.toNat) hx hb hdg (by omega) (fun hc => ?_) (fun hc => ?_)
    · simp only [s_cnd, decide_eq_true_eq] at k
      rw [if_pos hc] at k
      exact k
    · simp only [s_cnd, decide_eq_true_eq] at k
      rw [if_neg (by first | exact hc | exact not_not_intro hc)] at k
      exact k
  · cases hs
theorem s_d_if_ge {v : Int} (C : s_Cx S G TW p s m args meth c r) (hv : 0 ≤ v) (hdg : decode (s_b r) pc = .ok (.ifCond .ge (v - (pc : Int)), n)) (hn : n = 3) (hs : s_x (.ifCond .ge v) pc n L st h = some q) (k : s_W S G p l e R s m args below meth c Q N0 M0 q.1 q.2.1 q.2.2.1 q.2.2.2) : s_W S G p l e R s m args below meth c Q N0 M0 pc L st h := by
  obtain ⟨hx, hb, hml, hown, hts, hI, hini⟩ := C
  subst hn
  dsimp only [s_x] at hs
  split at hs
  · cases hs
    intro hlen H locs ls hW hS hL
    have k := k hlen H locs ls hW hS hL
    refine lv_if_ge (tgt := v.toNat) hx hb hdg (by omega) (fun hc => ?_) (fun hc => ?_)
    · simp only [s_cnd, decide_eq_true_eq] at k
      rw [if_pos hc] at k
      exact k
    · simp only [s_cnd, decide_eq_true_eq] at k
      rw [if_neg (by first | exact hc | exact not_not_intro hc)] at k
      exact k
  · cases hs
theorem s_d_if_gt {v : Int} (C : s_Cx S G TW p s m args meth c r) (hv : 0 ≤ v) (hdg : decode (s_b r) pc = .ok (.ifCond .gt (v - (pc : Int)), n)) (hn : n = 3) (hs : s_x (.ifCond .gt v) pc n L st h = some q) (k : s_W S G p l e R s m args below meth c Q N0 M0 q.1 q.2.1 q.2.2.1 q.2.2.2) : s_W S G p l e R s m args below meth c Q N0 M0 pc L st h := by
  obtain ⟨hx, hb, hml, hown, hts, hI, hini⟩ := C
  subst hn
  dsimp only [s_x] at hs
  split at hs
  · cases hs
    intro hlen H locs ls hW hS hL
    have k := k hlen H locs ls hW hS hL
    refine lv_if_gt (tgt := v.toNat) hx hb hdg (by omega) (fun hc => ?_) (fun hc => ?_)
    · simp only [s_cnd, decide_eq_true_eq] at k
      rw [if_pos hc] at k
      exact k
    · simp only [s_cnd, decide_eq_true_eq] at k
      rw [if_neg (by first | exact hc | exact not_not_intro hc)] at k
      exact k
  · cases hs
theorem s_d_if_le {v : Int} (C : s_Cx S G TW p s m args meth c r) (hv : 0 ≤ v) (hdg : decode (s_b r) pc = .ok (.ifCond .le (v - (pc : Int)), n)) (hn : n = 3) (hs : s_x (.ifCond .le v) pc n L st h = some q) (k : s_W S G p l e R s m args below meth c Q N0 M0 q.1 q.2.1 q.2.2.1 q.2.2.2) : s_W S G p l e R s m args below meth c Q N0 M0 pc L st h := by
  obtain ⟨hx, hb, hml, hown, hts, hI, hini⟩ := C
  subst hn
  dsimp only [s_x] at hs
  split at hs
  · cases hs
    intro hlen H locs ls hW hS hL
    have k := k hlen H locs ls hW hS hL
    refine lv_if_le (tgt := v.toNat) hx hb hdg (by omega) (fun hc => ?_) (fun hc => ?_)
    · simp only [s_cnd, decide_eq_true_eq] at k
      rw [if_pos hc] at k
      exact k
    · simp only [s_cnd, decide_eq_true_eq] at k
      rw [if_neg (by first | exact hc | exact not_not_intro hc)] at k
      exact k
  · cases hs
theorem s_d_icmp_eq {v : Int} (C : s_Cx S G TW p s m args meth c r) (hv : 0 ≤ v) (hdg : decode (s_b r) pc = .ok (.if_icmp .eq (v - (pc : Int)), n)) (hn : n = 3) (hs : s_x (.if_icmp .eq v) pc n L st h = some q) (k : s_W S G p l e R s m args below meth c Q N0 M0 q.1 q.2.1 q.2.2.1 q.2.2.2) : s_W S G p l e R s m args below meth c Q N0 M0 pc L st h := by
  obtain ⟨hx, hb, hml, hown, hts, hI, hini⟩ := C
  subst hn
  dsimp only [s_x] at hs
  split at hs
  · cases hs
    intro hlen H locs ls hW hS hL
    have k := k hlen H locs ls hW hS hL
    refine lv_icmp_eq (tgt := v.toNat) hx hb hdg (by omega) (fun hc => ?_) (fun hc => ?_)
    · simp only [s_cnd, decide_eq_true_eq] at k
      rw [if_pos hc] at k
      exact k
    · simp only [s_cnd, decide_eq_true_eq] at k
      rw [if_neg (by first | exact hc | exact not_not_intro hc)] at k
      exact k
  · cases hs
theorem s_d_icmp_ne {v : Int} (C : s_Cx S G TW p s m args meth c r) (hv : 0 ≤ v) (hdg : decode (s_b r) pc = .ok (.if_icmp .ne (v - (pc : Int)), n)) (hn : n = 3) (hs : s_x (.if_icmp .ne v) pc n L st h = some q) (k : s_W S G p l e R s m args below meth c Q N0 M0 q.1 q.2.1 q.2.2.1 q.2.2.2) : s_W S G p l e R s m args below meth c Q N0 M0 pc L st h := by
  obtain ⟨hx, hb, hml, hown, hts, hI, hini⟩ := C
  subst hn
  dsimp only [s_x] at hs
  split at hs
  · cases hs
    intro hlen H locs ls hW hS hL
    have k := k hlen H locs ls hW hS hL
    refine lv_icmp_ne (tgt := v.toNat) hx hb hdg (by omega) (fun hc => ?_) (fun hc => ?_)
    · simp only [s_cnd, decide_eq_true_eq] at k
      rw [if_pos hc] at k
      exact k
    · simp only [s_cnd, decide_eq_true_eq] at k
      rw [if_neg (by first | exact hc | exact not_not_intro hc)] at k
      exact k
  · cases hs
theorem s_d_icmp_lt {v : Int} (C : s_Cx S G TW p s m args meth c r) (hv : 0 ≤ v) (hdg : decode (s_b r) pc = .ok (.if_icmp .lt (v - (pc : Int)), n)) (hn : n = 3) (hs : s_x (.if_icmp .lt v) pc n L st h = some q) (k : s_W S G p l e R s m args below meth c Q N0 M0 q.1 q.2.1 q.2.2.1 q.2.2.2) : s_W S G p l e R s m args below meth c Q N0 M0 pc L st h := by
  obtain ⟨hx, hb, hml, hown, hts, hI, hini⟩ := C
  subst hn
  dsimp only [s_x] at hs
  split at hs
  · cases hs
    intro hlen H locs ls hW hS hL
    have k := k hlen H locs ls hW hS hL
    refine lv_icmp_lt (tgt := v.toNat) hx hb hdg (by omega) (fun hc => ?_) (fun hc => ?_)
    · simp only [s_cnd, decide_eq_true_eq] at k
      rw [if_pos hc] at k
      exact k
    · simp only [s_cnd, decide_eq_true_eq] at k
      rw [if_neg (by first | exact hc | exact not_not_intro hc)] at k
      exact k
  · cases hs
theorem s_d_icmp_ge {v : Int} (C : s_Cx S G TW p s m args meth c r) (hv : 0 ≤ v) (hdg : decode (s_b r) pc = .ok (.if_icmp .ge (v - (pc : Int)), n)) (hn : n = 3) (hs : s_x (.if_icmp .ge v) pc n L st h = some q) (k : s_W S G p l e R s m args below meth c Q N0 M0 q.1 q.2.1 q.2.2.1 q.2.2.2) : s_W S G p l e R s m args below meth c Q N0 M0 pc L st h := by
  obtain ⟨hx, hb, hml, hown, hts, hI, hini⟩ := C
  subst hn
  dsimp only [s_x] at hs
  split at hs
  · cases hs
    intro hlen H locs ls hW hS hL
    have k := k hlen H locs ls hW hS hL
    refine lv_icmp_ge (tgt := v.toNat) hx hb hdg (by omega) (fun hc => ?_) (fun hc => ?_)
    · simp only [s_cnd, decide_eq_true_eq] at k
      rw [if_pos hc] at k
      exact k
    · simp only [s_cnd, decide_eq_true_eq] at k
      rw [if_neg (by first | exact hc | exact not_not_intro hc)] at k
      exact k
  · cases hs
theorem s_d_icmp_gt {v : Int} (C : s_Cx S G TW p s m args meth c r) (hv : 0 ≤ v) (hdg : decode (s_b r) pc = .ok (.if_icmp .gt (v - (pc : Int)), n)) (hn : n = 3) (hs : s_x (.if_icmp .gt v) pc n L st h = some q) (k : s_W S G p l e R s m args below meth c Q N0 M0 q.1 q.2.1 q.2.2.1 q.2.2.2) : s_W S G p l e R s m args below meth c Q N0 M0 pc L st h := by
  obtain ⟨hx, hb, hml, hown, hts, hI, hini⟩ := C
  subst hn
  dsimp only [s_x] at hs
  split at hs
  · cases hs
    intro hlen H locs ls hW hS hL
    have k := k hlen H locs ls hW hS hL
    refine lv_icmp_gt (tgt := v.toNat) hx hb hdg (by omega) (fun hc => ?_) (fun hc => ?_)
    · simp only [s_cnd, decide_eq_true_eq] at k
      rw [if_pos hc] at k
      exact k
    · simp only [s_cnd, decide_eq_true_eq] at k
      rw [if_neg (by first | exact hc | exact not_not_intro hc)] at k
      exact k
  · cases hs
theorem s_d_icmp_le {v : Int} (C : s_Cx S G TW p s m args meth c r) (hv : 0 ≤ v) (hdg : decode (s_b r) pc = .ok (.if_icmp .le (v - (pc : Int)), n)) (hn : n = 3) (hs : s_x (.if_icmp .le v) pc n L st h = some q) (k : s_W S G p l e R s m args below meth c Q N0 M0 q.1 q.2.1 q.2.2.1 q.2.2.2) : s_W S G p l e R s m args below meth c Q N0 M0 pc L st h := by
  obtain ⟨hx, hb, hml, hown, hts, hI, hini⟩ := C
  subst hn
  dsimp only [s_x] at hs
  split at hs
  · cases hs
    intro hlen H locs ls hW hS hL
    have k := k hlen H locs ls hW hS hL
    refine lv_icmp_le (tgt := v.toNat) hx hb hdg (by omega) (fun hc => ?_) (fun hc => ?_)
    · simp only [s_cnd, decide_eq_true_eq] at k
      rw [if_pos hc] at k
      exact k
    · simp only [s_cnd, decide_eq_true_eq] at k
      rw [if_neg (by first | exact hc | exact not_not_intro hc)] at k
      exact k
  · cases hs
theorem s_d_goto {v : Int} (C : s_Cx S G TW p s m args meth c r) (hv : 0 ≤ v) (hdg : decode (s_b r) pc = .ok (.goto (v - (pc : Int)), n)) (hn : n = 3) (hs : s_x (.goto v) pc n L st h = some q) (k : s_W S G p l e R s m args below meth c Q N0 M0 q.1 q.2.1 q.2.2.1 q.2.2.2) : s_W S G p l e R s m args below meth c Q N0 M0 pc L st h := by
  obtain ⟨hx, hb, hml, hown, hts, hI, hini⟩ := C
  subst hn
  cases hs
  intro hlen H locs ls hW hS hL
  exact lv_goto hx hb hdg (by omega) (k hlen H locs ls hW hS hL)
theorem s_d_ifnull {v : Int} (C : s_Cx S G TW p s m args meth c r) (hv : 0 ≤ v) (hdg : decode (s_b r) pc = .ok (.ifnull (v - (pc : Int)), n)) (hn : n = 3) (hs : s_x (.ifnull v) pc n L st h = some q) (k : s_W S G p l e R s m args below meth c Q N0 M0 q.1 q.2.1 q.2.2.1 q.2.2.2) : s_W S G p l e R s m args below meth c Q N0 M0 pc L st h := by
  obtain ⟨hx, hb, hml, hown, hts, hI, hini⟩ := C
  subst hn
  dsimp only [s_x] at hs
  split at hs
  · cases hs
    intro hlen H locs ls hW hS hL
    exact lv_ifnullN hx hb hdg (by omega) (k hlen H locs ls hW hS hL)
  · cases hs
    intro hlen H locs ls hW hS hL
    exact lv_ifnull hx hb hdg (k hlen H locs ls hW hS hL)
  · cases hs
theorem s_d_ifnonnull {v : Int} (C : s_Cx S G TW p s m args meth c r) (hv : 0 ≤ v) (hdg : decode (s_b r) pc = .ok (.ifnonnull (v - (pc : Int)), n)) (hn : n = 3) (hs : s_x (.ifnonnull v) pc n L st h = some q) (k : s_W S G p l e R s m args below meth c Q N0 M0 q.1 q.2.1 q.2.2.1 q.2.2.2) : s_W S G p l e R s m args below meth c Q N0 M0 pc L st h := by
  obtain ⟨hx, hb, hml, hown, hts, hI, hini⟩ := C
  subst hn
  dsimp only [s_x] at hs
  split at hs
  · cases hs
    intro hlen H locs ls hW hS hL
    exact lv_ifnonnullN hx hb hdg (k hlen H locs ls hW hS hL)
  · cases hs
    intro hlen H locs ls hW hS hL
    exact lv_ifnonnull hx hb hdg (by omega) (k hlen H locs ls hW hS hL)
  · cases hs
theorem s_d_table {d lo hi : Int} {o : Array Int} (C : s_Cx S G TW p s m args meth c r) (hd : 0 ≤ d) (ho : ∀ t ∈ o.toList, 0 ≤ t) (hdg : decode (s_b r) pc = .ok (.tableswitch (d - (pc : Int)) lo hi (o.map (fun t => t - (pc : Int))), n)) (hs : s_x (.tableswitch d lo hi o) pc n L st h = some q) (k : s_W S G p l e R s m args below meth c Q N0 M0 q.1 q.2.1 q.2.2.1 q.2.2.2) : s_W S G p l e R s m args below meth c Q N0 M0 pc L st h := by
  obtain ⟨hx, hb, hml, hown, hts, hI, hini⟩ := C
  dsimp only [s_x] at hs
  split at hs
  · split at hs
    next hc =>
      cases hs
      intro hlen H locs ls hW hS hL
      exact lv_tableOut hx hb hdg hc (by omega) (k hlen H locs ls hW hS hL)
    next x r0 hc =>
      split at hs
      next t heq =>
        cases hs
        intro hlen H locs ls hW hS hL
        have h1 : ¬ x.toInt < lo := fun z => hc (Or.inl z)
        have h2 : ¬ hi < x.toInt := fun z => hc (Or.inr z)
        rw [s_nth_eq] at heq
        have h3 := ho t (List.mem_of_getElem? heq)
        rw [Array.getElem?_toList] at heq
        exact lv_tableIn (off := t - (pc : Int)) hx hb hdg h1 h2 (by rw [Array.getElem?_map, heq]; rfl) (by omega) (k hlen H locs ls hW hS hL)
      · cases hs
  · cases hs
theorem s_off (d z : Int) (pc : Nat) (hd : 0 ≤ d) : ∀ l : List (Int × Int), (∀ q ∈ l, 0 ≤ q.2) → Op.lookupswitch.offset (l.map fun q => (q.1, q.2 - (pc : Int))) (d - (pc : Int)) z = Op.lookupswitch.offset l d z - (pc : Int) ∧ 0 ≤ Op.lookupswitch.offset l d z
  | [], _ => ⟨rfl, hd⟩
  | (a, b) :: l, hl => by
    have ih := s_off d z pc hd l (fun q hq => hl q (List.mem_cons_of_mem _ hq))
    rw [List.map_cons, Op.lookupswitch.offset_cons, Op.lookupswitch.offset_cons]
    split
    · exact ⟨rfl, hl _ List.mem_cons_self⟩
    · exact ih
theorem s_d_look {d : Int} {o : Array (Int × Int)} (C : s_Cx S G TW p s m args meth c r) (hd : 0 ≤ d) (ho : ∀ t ∈ o.toList, 0 ≤ t.2) (hso : ((o.map fun q => (q.1, q.2 - (pc : Int))).toList.zip ((o.map fun q => (q.1, q.2 - (pc : Int))).toList.drop 1)).all (fun (a, next) => a.1 < next.1) = true) (hdg : decode (s_b r) pc = .ok (.lookupswitch (d - (pc : Int)) (o.map fun q => (q.1, q.2 - (pc : Int))), n)) (hs : s_x (.lookupswitch d o) pc n L st h = some q) (k : s_W S G p l e R s m args below meth c Q N0 M0 q.1 q.2.1 q.2.2.1 q.2.2.2) : s_W S G p l e R s m args below meth c Q N0 M0 pc L st h := by
  obtain ⟨hx, hb, hml, hown, hts, hI, hini⟩ := C
  dsimp only [s_x] at hs
  split at hs
  next x r0 =>
    cases hs
    intro hlen H locs ls hW hS hL
    have h1 := s_off d x.toInt pc hd o.toList ho
    exact lv_lookup (off := Op.lookupswitch.offset o.toList d x.toInt - (pc : Int)) hx hb hdg hso (by rw [← h1.1, Array.toList_map]) (by omega) (k hlen H locs ls hW hS hL)
  · cases hs
end STP
end
section
section HPS
variable {p : Program} {l : Launch} {e : Env} {R : Room} {s : State} {m : MethodId} {args : Array Value} {below : List Frame} {meth : Method} {c : Code} {Q : State → Prop}
variable {S : s_SG} {G : s_DG} {TW : List Jvm.Cond} {r : sM} {N0 M0 pc n idx : Nat} {L st : List Value} {h : sHp} {q : sC}
theorem s_cell_o {i k : Nat} (hi : h.2.2[i]? = some (0, k)) : s_cell S G h i = .inr (k, (List.range (s_N S k)).map (s_fv S G h i k)) := by unfold s_cell; rw [hi]
theorem s_cell_i {i k : Nat} (hi : h.2.2[i]? = some (1, k)) : s_cell S G h i = .inl (s_cA G 1, k, .inl (h.1 i)) := by unfold s_cell; rw [hi]
theorem s_cell_r {i t k : Nat} (hi : h.2.2[i]? = some (t + 2, k)) : s_cell S G h i = .inl (s_cA G (t + 2), k, .inr (.inr (.inr (.inr (fun j => (h.2.1 i j).map (s_ad G)))))) := by unfold s_cell; rw [hi]
theorem s_cl_of {k j : Nat} (hk : j < s_N S k) : ∃ q : vw_C, (s_cl S)[k]? = some q ∧ s_N S k = q.2.2 ∧ s_F S k = q.2.1 ∧ s_cn S k = q.1 := by
  unfold s_N at hk
  cases hq : (s_cl S)[k]? with
  | none => rw [hq] at hk; exact absurd hk (Nat.not_lt_zero _)
  | some q => exact ⟨q, rfl, by unfold s_N; rw [hq], by unfold s_F; rw [hq], by unfold s_cn; rw [hq]⟩
theorem s_fs_at {i k j : Nat} (hj : j < s_N S k) : ((List.range (s_N S k)).map (s_fv S G h i k))[j]? = some (s_fv S G h i k j) := by
  rw [List.getElem?_map, List.getElem?_range hj]; rfl
theorem s_fs_set {h2 : sHp} {i k j : Nat} {v : Value} (hv : s_fv S G h2 i k j = v) (ho : ∀ x, x ≠ j → s_fv S G h2 i k x = s_fv S G h i k x) : ((List.range (s_N S k)).map (s_fv S G h i k)).set j v = (List.range (s_N S k)).map (s_fv S G h2 i k) := by
  apply List.ext_getElem?
  intro x
  by_cases hx : x = j
  · subst hx
    by_cases hl : x < s_N S k
    · rw [List.getElem?_set_self (by simpa using hl), s_fs_at hl, hv]
    · rw [List.getElem?_eq_none (by simpa using hl), List.getElem?_eq_none (by simpa using hl)]
  · rw [List.getElem?_set_ne (Ne.symm hx), List.getElem?_map, List.getElem?_map]
    by_cases hl : x < s_N S k
    · rw [List.getElem?_range hl]
      show some _ = some _
      rw [ho x hx]
    · rw [List.getElem?_eq_none (by simpa using hl)]; rfl
theorem s_d_get {ev : Nat} (C : s_Cx S G TW p s m args meth c r) (SK : s_SOK S TW) (hk : ev % 1024 / 8 < s_N S (ev / 1024)) (hkd : ev % 8 = s_kd (s_ty S (ev / 1024) (ev % 1024 / 8))) (hw : (Jvm.Cond.fieldLink (s_y r).cls idx (s_F S (ev / 1024) (ev % 1024 / 8)).1 (s_F S (ev / 1024) (ev % 1024 / 8)).2.1 (s_F S (ev / 1024) (ev % 1024 / 8)).2.2.1).before args s = true) (hdg : decode (s_b r) pc = .ok (.getfield idx, n)) (hn : n = 3) (hs : s_x (.getfield ev) pc n L st h = some q) (k : s_W S G p l e R s m args below meth c Q N0 M0 q.1 q.2.1 q.2.2.1 q.2.2.2) : s_W S G p l e R s m args below meth c Q N0 M0 pc L st h := by
  obtain ⟨hx, hb, hml, hown, hts, hI, hini⟩ := C
  subst hn
  dsimp only [s_x] at hs
  split at hs
  next a r0 =>
    split at hs
    next c0 heq =>
      split at hs
      next hc0 =>
        subst hc0
        intro hlen H locs ls hW hS hL
        obtain ⟨h1, h2, h3⟩ := s_Wd_len hW heq
        have h4 := h3 (by decide)
        obtain ⟨qc, e1, e2, e3, e4⟩ := s_cl_of hk
        have hk2 : ev % 1024 / 8 < qc.2.2 := by rw [← e2]; exact hk
        rw [e3] at hw
        have hv : s_W S G p l e R s m args below meth c Q N0 M0 (pc + 3) L ((if s_kd (s_ty S (ev / 1024) (ev % 1024 / 8)) = 2 then (match h.2.1 a (ev % 1024 / 8) with | some b => .ref b | none => .null) else .int (h.1 a (ev % 1024 / 8))) :: r0) h := by
          rw [hkd] at hs
          split at hs
          next hkk =>
            rw [if_pos hkk]
            split at hs
            next b hb2 => rw [hb2]; cases hs; exact k
            next hb2 => rw [hb2]; cases hs; exact k
          next hkk =>
            rw [if_neg hkk]
            cases hs
            exact k
        refine va_get (D := s_D G) (ci := ev / 1024) (C := qc.1) (T := qc.2.1) (N := qc.2.2) hx hb hts (SK _ _ e1).1 hown hI.1 hW.2.1 (a - 4) (fs := (List.range (s_N S (ev / 1024))).map (s_fv S G h a (ev / 1024))) (by rw [← s_cell_o h1]; exact s_ws_at S G h h4 h2) e1 (ev % 1024 / 8) hk2 hw (fun _ h9 => h9) (s_fs_at hk) hdg ?_
        have e5 : s_fv S G h a (ev / 1024) (ev % 1024 / 8) = s_vc G (if s_kd (s_ty S (ev / 1024) (ev % 1024 / 8)) = 2 then (match h.2.1 a (ev % 1024 / 8) with | some b => .ref b | none => .null) else .int (h.1 a (ev % 1024 / 8))) := by
          unfold s_fv
          split
          · cases h.2.1 a (ev % 1024 / 8) <;> rfl
          · rfl
        rw [e5]
        exact hv hlen H locs ls hW hS hL
      · cases hs
    · cases hs
  · cases hs
theorem s_put_w {ev a : Nat} {v w : Value} {r0 : List Value} {h2 : sHp} (C : s_Cx S G TW p s m args meth c r) (SK : s_SOK S TW) (hk : ev % 1024 / 8 < s_N S (ev / 1024)) (hfin : (s_F S (ev / 1024) (ev % 1024 / 8)).2.2.2 = true → (s_y r).name = "<init>" ∧ (s_F S (ev / 1024) (ev % 1024 / 8)).1 = (s_y r).cls) (hw : (Jvm.Cond.fieldLink (s_y r).cls idx (s_F S (ev / 1024) (ev % 1024 / 8)).1 (s_F S (ev / 1024) (ev % 1024 / 8)).2.1 (s_F S (ev / 1024) (ev % 1024 / 8)).2.2.1).before args s = true) (hdg : decode (s_b r) pc = .ok (.putfield idx, 3))
    (h1 : h.2.2[a]? = some (0, ev / 1024)) (hl : a < h.2.2.length) (h4 : 4 ≤ a) (hvw : v = s_vc G w) (hn : narrow (s_ty S (ev / 1024) (ev % 1024 / 8)) v = v) (hfit : fits (s_ty S (ev / 1024) (ev % 1024 / 8)) v = true) (hs2 : h2.2.2 = h.2.2) (ho : ∀ i : Nat, i ≠ a → h2.1 i = h.1 i ∧ h2.2.1 i = h.2.1 i) (hv2 : s_fv S G h2 a (ev / 1024) (ev % 1024 / 8) = v) (ho2 : ∀ x, x ≠ ev % 1024 / 8 → s_fv S G h2 a (ev / 1024) x = s_fv S G h a (ev / 1024) x)
    (k : s_W S G p l e R s m args below meth c Q N0 M0 (pc + 3) L r0 h2) : s_W S G p l e R s m args below meth c Q N0 M0 pc L (w :: .ref a :: r0) h := by
  obtain ⟨hx, hb, hml, hown, hts, hI, hini⟩ := C
  intro hlen H locs ls hW hS hL
  obtain ⟨qc, e1, e2, e3, e4⟩ := s_cl_of hk
  have hk2 : ev % 1024 / 8 < qc.2.2 := by rw [← e2]; exact hk
  rw [e3] at hw hfin
  have hd := (SK _ _ e1).2.1 _ hk2
  have hws := s_ws_at S G h h4 hl
  rw [s_cell_o h1] at hws
  have hkk : ∀ (H1 : Heap) (locs1 : List Loc), va_P (s_D G) (s_cl S) ((s_ws S G h).set (a - 4) (s_ad G a, .inr (ev / 1024, ((List.range (s_N S (ev / 1024))).map (s_fv S G h a (ev / 1024))).set (ev % 1024 / 8) v))) H1 → va_D (s_A G) ((s_ws S G h).set (a - 4) (s_ad G a, .inr (ev / 1024, ((List.range (s_N S (ev / 1024))).map (s_fv S G h a (ev / 1024))).set (ev % 1024 / 8) v))) → va_S (s_A G) s.heap H1 locs1 → W p l e R s m args below meth c H1 locs1 (h.2.2.length - N0) (s_sz S h.2.2 - M0) Q (F0 m (pc + 3) ls (r0.map (s_vc G))) := by
    intro H1 locs1 hP1 _ hS1
    have hW1 := s_Wd_put hW h4 hl hs2 ho (e := .inr (ev / 1024, ((List.range (s_N S (ev / 1024))).map (s_fv S G h a (ev / 1024))).set (ev % 1024 / 8) v)) (by rw [s_fs_set hv2 ho2, s_cell_o (by rw [hs2]; exact h1)]) hP1
    have := k hlen H1 locs1 ls hW1 hS1 hL
    rw [hs2] at this
    exact this
  show W p l e R s m args below meth c H locs (h.2.2.length - N0) (s_sz S h.2.2 - M0) Q (F0 m pc ls (s_vc G w :: .ref (s_ad G a) :: r0.map (s_vc G)))
  rw [← hvw]
  have hlen2 : ev % 1024 / 8 < ((List.range (s_N S (ev / 1024))).map (s_fv S G h a (ev / 1024))).length := by simpa using hk
  cases hf : (qc.2.1 (ev % 1024 / 8)).2.2.2 with
  | false => exact va_put (D := s_D G) (ci := ev / 1024) (C := qc.1) (T := qc.2.1) (N := qc.2.2) hx hb hts (SK _ _ e1).1 (s_ty S (ev / 1024)) (SK _ _ e1).2.1 (SK _ _ e1).2.2 hown hI.1 hW.2.1 (s_ws_D hI h) hS (a - 4) hws e1 (ev % 1024 / 8) hk2 hw (fun _ h9 => h9) hf hd hn hfit hlen2 hdg hkk
  | true => exact va_putF (D := s_D G) (ci := ev / 1024) (C := qc.1) (T := qc.2.1) (N := qc.2.2) hx hb hts (SK _ _ e1).1 (s_ty S (ev / 1024)) (SK _ _ e1).2.1 (SK _ _ e1).2.2 hown hI.1 hW.2.1 (s_ws_D hI h) hS (a - 4) hws e1 (ev % 1024 / 8) hk2 hw (fun _ h9 => h9) hf (hini (hfin hf).1) (hfin hf).2 hd hn hfit hlen2 hdg hkk
theorem s_fv_upd {a i k j x : Nat} {v : Int32} (hj : x ≠ j) : s_fv S G (s_upd h.1 a j v, h.2) i k x = s_fv S G h i k x := by
  unfold s_fv
  split
  · rfl
  · show Value.int (s_upd h.1 a j v i x) = _
    unfold s_upd
    split
    · rw [show upd (h.1 i) j v x = h.1 i x from if_neg hj]
    · rfl
theorem s_fv_updR {a i k j x : Nat} {v : Option Nat} (hj : x ≠ j) : s_fv S G (h.1, s_updR h.2.1 a j v, h.2.2) i k x = s_fv S G h i k x := by
  unfold s_fv
  split
  · show va_rf ((s_updR h.2.1 a j v i x).map _) = _
    unfold s_updR
    split
    · rw [show va_up (h.2.1 i) j v x = h.2.1 i x from if_neg hj]
    · rfl
  · rfl
theorem s_d_put {ev : Nat} (C : s_Cx S G TW p s m args meth c r) (SK : s_SOK S TW) (hk : ev % 1024 / 8 < s_N S (ev / 1024)) (hkd : ev % 8 = s_kd (s_ty S (ev / 1024) (ev % 1024 / 8))) (hty : ev % 8 = 2 → ∃ nm, s_ty S (ev / 1024) (ev % 1024 / 8) = .object nm ∨ ∃ t, s_ty S (ev / 1024) (ev % 1024 / 8) = .array t) (hfin : (s_F S (ev / 1024) (ev % 1024 / 8)).2.2.2 = true → (s_y r).name = "<init>" ∧ (s_F S (ev / 1024) (ev % 1024 / 8)).1 = (s_y r).cls) (hw : (Jvm.Cond.fieldLink (s_y r).cls idx (s_F S (ev / 1024) (ev % 1024 / 8)).1 (s_F S (ev / 1024) (ev % 1024 / 8)).2.1 (s_F S (ev / 1024) (ev % 1024 / 8)).2.2.1).before args s = true) (hdg : decode (s_b r) pc = .ok (.putfield idx, n)) (hn : n = 3) (hs : s_x (.putfield ev) pc n L st h = some q) (k : s_W S G p l e R s m args below meth c Q N0 M0 q.1 q.2.1 q.2.2.1 q.2.2.2) : s_W S G p l e R s m args below meth c Q N0 M0 pc L st h := by
  subst hn
  dsimp only [s_x] at hs
  split at hs
  next x a r0 =>
    split at hs
    next c0 heq =>
      split at hs
      next hc0 =>
        subst hc0
        intro hlen H locs ls hW hS hL
        obtain ⟨h1, h2, h3⟩ := s_Wd_len hW heq
        have h4 := h3 (by decide)
        refine s_put_w (v := .int x) (h2 := (s_upd h.1 a (ev % 1024 / 8) x, h.2)) C SK hk hfin hw hdg h1 h2 h4 rfl ?_ ?_ rfl (fun i hi => ⟨if_neg hi, rfl⟩) ?_ (fun x hx => s_fv_upd hx) ?_ hlen H locs ls hW hS hL
        · split at hs
          next h0 => rw [hkd] at h0; cases ht : s_ty S (ev / 1024) (ev % 1024 / 8) <;> rw [ht] at h0 <;> simp [s_kd] at h0 <;> rfl
          next h0 =>
            split at hs
            next h01 =>
              split at hs
              next hx =>
                rw [hkd] at h01
                cases ht : s_ty S (ev / 1024) (ev % 1024 / 8) <;> rw [ht] at h01 <;> simp [s_kd] at h01
                rcases hx with rfl | rfl <;> rfl
              · cases hs
            · cases hs
        · split at hs
          next h0 => rw [hkd] at h0; cases ht : s_ty S (ev / 1024) (ev % 1024 / 8) <;> rw [ht] at h0 <;> simp [s_kd] at h0 <;> rfl
          next h0 =>
            split at hs
            next h01 =>
              split at hs
              next hx =>
                rw [hkd] at h01
                cases ht : s_ty S (ev / 1024) (ev % 1024 / 8) <;> rw [ht] at h01 <;> simp [s_kd] at h01
                rcases hx with rfl | rfl <;> rfl
              · cases hs
            · cases hs
        · have : ¬ s_kd (s_ty S (ev / 1024) (ev % 1024 / 8)) = 2 := by
            rw [← hkd]
            intro z
            rw [if_neg (by omega), if_neg (by omega)] at hs
            cases hs
          unfold s_fv
          rw [if_neg this]
          show Value.int (s_upd h.1 a (ev % 1024 / 8) x a (ev % 1024 / 8)) = _
          simp [s_upd, upd]
        · split at hs
          · cases hs; exact k
          · split at hs
            · split at hs
              · cases hs; exact k
              · cases hs
            · cases hs
      · cases hs
    · cases hs
  next b a r0 =>
    split at hs
    next c0 heq =>
      split at hs
      next hc0 =>
        subst hc0
        split at hs
        next hk2 =>
          cases hs
          intro hlen H locs ls hW hS hL
          obtain ⟨h1, h2, h3⟩ := s_Wd_len hW heq
          have h4 := h3 (by decide)
          obtain ⟨nm, ht⟩ := hty hk2
          refine s_put_w (v := .ref (s_ad G b)) (h2 := (h.1, s_updR h.2.1 a (ev % 1024 / 8) (some b), h.2.2)) C SK hk hfin hw hdg h1 h2 h4 rfl ?_ ?_ rfl (fun i hi => ⟨rfl, if_neg hi⟩) ?_ (fun x hx => s_fv_updR hx) k hlen H locs ls hW hS hL
          · rcases ht with ht | ⟨t, ht⟩ <;> rw [ht] <;> rfl
          · rcases ht with ht | ⟨t, ht⟩ <;> rw [ht] <;> rfl
          · unfold s_fv
            rw [if_pos (by rw [← hkd]; exact hk2)]
            show va_rf ((s_updR h.2.1 a (ev % 1024 / 8) (some b) a (ev % 1024 / 8)).map _) = _
            simp [s_updR, va_up, va_rf]
        · cases hs
      · cases hs
    · cases hs
  · cases hs
theorem s_d_gets {j : Nat} (C : s_Cx S G TW p s m args meth c r) (hj : j < s_ns S) (hw : (Jvm.Cond.fieldLink (s_y r).cls idx (s_sn S j).1 (s_sn S j).2.1 (s_sn S j).2.2).before args s = true) (hdg : decode (s_b r) pc = .ok (.getstatic idx, n)) (hn : n = 3) (hs : s_x (.getstatic j) pc n L st h = some q) (k : s_W S G p l e R s m args below meth c Q N0 M0 q.1 q.2.1 q.2.2.1 q.2.2.2) : s_W S G p l e R s m args below meth c Q N0 M0 pc L st h := by
  obtain ⟨hx, hb, hml, hown, hts, hI, hini⟩ := C
  subst hn
  cases hs
  intro hlen H locs ls hW hS hL
  exact va_gets hx hb (hI.2.2.1 j hj).2 hS hown hw (fun _ h9 => h9) hdg (k hlen H locs ls hW hS hL)
theorem s_d_getsN {j : Nat} {host : String} (C : s_Cx S G TW p s m args meth c r) (hj : j < s_ns S) (hw : va_Nw (.fieldLinkNest (s_y r).cls idx (s_sn S j).1 (s_sn S j).2.1 (s_sn S j).2.2 host) s) (hdg : decode (s_b r) pc = .ok (.getstatic idx, n)) (hn : n = 3) (hs : s_x (.instanceof j) pc n L st h = some q) (k : s_W S G p l e R s m args below meth c Q N0 M0 q.1 q.2.1 q.2.2.1 q.2.2.2) : s_W S G p l e R s m args below meth c Q N0 M0 pc L st h := by
  obtain ⟨hx, hb, hml, hown, hts, hI, hini⟩ := C
  subst hn
  cases hs
  intro hlen H locs ls hW hS hL
  exact va_getsN hx hb (hI.2.2.1 j hj).2 hS hown (va_Nw.use rfl hw) (fun _ h9 => h9) hdg (k hlen H locs ls hW hS hL)
theorem s_d_alen (C : s_Cx S G TW p s m args meth c r) (hdg : decode (s_b r) pc = .ok (.arraylength, n)) (hn : n = 1) (hs : s_x .arraylength pc n L st h = some q) (k : s_W S G p l e R s m args below meth c Q N0 M0 q.1 q.2.1 q.2.2.1 q.2.2.2) : s_W S G p l e R s m args below meth c Q N0 M0 pc L st h := by
  obtain ⟨hx, hb, hml, hown, hts, hI, hini⟩ := C
  subst hn
  dsimp only [s_x] at hs
  split at hs
  next a r0 =>
    split at hs
    next t z heq =>
      cases hs
      intro hlen H locs ls hW hS hL
      obtain ⟨h1, h2, h3⟩ := s_Wd_len hW heq
      have kk := k hlen H locs ls hW hS hL
      rcases Nat.lt_or_ge a 4 with h4 | h4
      · obtain ⟨h5, h6⟩ := hW.2.2.1 a h4
        have e1 := h5.symm.trans h1
        cases e1
        obtain ⟨⟨scr, g1, g2, g3, g4, g5, g6, g7⟩, hlt⟩ := hI.2.1 a h4
        exact W.alen (n := Int32.ofNat (s_Lc G a)) hx hb (by rw [hS.2.1 _ (Array.getElem?_eq_some_iff.mp g1).1 g7]; exact g1) g2 g5 rfl rfl hdg kk
      · have h5 := s_ws_at S G h h4 h2
        match t, h1 with
        | 0, h1 =>
          rw [s_cell_i h1] at h5
          exact va_alen hx hb hI.1 hW.2.1 (a - 4) 0 h5 (s_tys_0 S G) rfl hdg kk
        | t + 1, h1 =>
          rw [s_cell_r h1] at h5
          obtain ⟨j, hj⟩ := s_tys_r G (hW.2.2.2 a t z h1)
          exact va_alen hx hb hI.1 hW.2.1 (a - 4) j h5 hj rfl hdg kk
    · cases hs
  · cases hs
theorem s_d_iald (C : s_Cx S G TW p s m args meth c r) (hdg : decode (s_b r) pc = .ok (.iaload, n)) (hn : n = 1) (hs : s_x .iaload pc n L st h = some q) (k : s_W S G p l e R s m args below meth c Q N0 M0 q.1 q.2.1 q.2.2.1 q.2.2.2) : s_W S G p l e R s m args below meth c Q N0 M0 pc L st h := by
  obtain ⟨hx, hb, hml, hown, hts, hI, hini⟩ := C
  subst hn
  dsimp only [s_x] at hs
  split at hs
  next i a r0 =>
    split at hs
    next z heq =>
      split at hs
      · cases hs
      next ho =>
        cases hs
        intro hlen H locs ls hW hS hL
        obtain ⟨h1, h2, h3⟩ := s_Wd_len hW heq
        have kk := k hlen H locs ls hW hS hL
        rcases Nat.lt_or_ge a 4 with h4 | h4
        · obtain ⟨h5, h6⟩ := hW.2.2.1 a h4
          have e1 := h5.symm.trans h1
          cases e1
          obtain ⟨⟨scr, g1, g2, g3, g4, g5, g6, g7⟩, hlt⟩ := hI.2.1 a h4
          dsimp only at kk
          rw [h6] at kk
          have hin := s_vp_in ho
          have hlt2 : i.toNatClampNeg < s_Lc G a := Nat.not_le.mp fun q => hin (Or.inr q)
          exact W.iald (v := .int (s_xs G a i.toNatClampNeg)) hx hb (by rw [hS.2.1 _ (Array.getElem?_eq_some_iff.mp g1).1 g7]; exact g1) g2 g3 (fun z => hin (z.imp id (fun y => Nat.le_trans g4 y))) (g6 _ hlt2) rfl rfl hdg kk
        · have h5 := s_ws_at S G h h4 h2
          rw [s_cell_i h1] at h5
          exact va_iald hx hb hI.1 hW.2.1 (a - 4) 0 h5 (s_tys_0 S G) (s_vp_in ho) hdg kk
    · cases hs
  · cases hs
theorem s_d_iast (C : s_Cx S G TW p s m args meth c r) (hdg : decode (s_b r) pc = .ok (.iastore, n)) (hn : n = 1) (hs : s_x .iastore pc n L st h = some q) (k : s_W S G p l e R s m args below meth c Q N0 M0 q.1 q.2.1 q.2.2.1 q.2.2.2) : s_W S G p l e R s m args below meth c Q N0 M0 pc L st h := by
  obtain ⟨hx, hb, hml, hown, hts, hI, hini⟩ := C
  subst hn
  dsimp only [s_x] at hs
  split at hs
  next x i a r0 =>
    split at hs
    next z heq =>
      split at hs
      · cases hs
      next ho =>
        cases hs
        intro hlen H locs ls hW hS hL
        obtain ⟨h1, h2, h3⟩ := s_Wd_len hW heq
        have h4 : 4 ≤ a := Nat.not_lt.mp fun y => ho (Or.inr y)
        have h5 := s_ws_at S G h h4 h2
        rw [s_cell_i h1] at h5
        refine va_iast hx hb hI.1 hW.2.1 (s_ws_D hI h) hS (a - 4) 0 h5 (s_tys_0 S G) (s_vp_in fun y => ho (Or.inl y)) hdg (fun H1 locs1 hP1 _ hS1 => ?_)
        exact k hlen H1 locs1 ls (s_Wd_put (h2 := (s_upd h.1 a i.toNatClampNeg x, h.2)) hW h4 h2 rfl (fun j hj => ⟨if_neg hj, rfl⟩) (by rw [s_cell_i (by exact h1)]; show _ = Sum.inl (s_cA G 1, z, Sum.inl (s_upd h.1 a i.toNatClampNeg x a)); unfold s_upd; rw [if_pos rfl]) hP1) hS1 hL
    · cases hs
  · cases hs
theorem s_d_aald (C : s_Cx S G TW p s m args meth c r) (hdg : decode (s_b r) pc = .ok (.aaload, n)) (hn : n = 1) (hs : s_x .aaload pc n L st h = some q) (k : s_W S G p l e R s m args below meth c Q N0 M0 q.1 q.2.1 q.2.2.1 q.2.2.2) : s_W S G p l e R s m args below meth c Q N0 M0 pc L st h := by
  obtain ⟨hx, hb, hml, hown, hts, hI, hini⟩ := C
  subst hn
  dsimp only [s_x] at hs
  split at hs
  next i a r0 =>
    split at hs
    next t z heq =>
      split at hs
      · cases hs
      next ho =>
        intro hlen H locs ls hW hS hL
        obtain ⟨h1, h2, h3⟩ := s_Wd_len hW heq
        have h4 : 4 ≤ a := Nat.not_lt.mp fun y => ho (Or.inr y)
        have h5 := s_ws_at S G h h4 h2
        rw [s_cell_r h1] at h5
        obtain ⟨j, hj⟩ := s_tys_r G (hW.2.2.2 a t z h1)
        refine va_aldq hx hb hI.1 hW.2.1 (a - 4) j h5 hj (s_vp_in fun y => ho (Or.inl y)) hdg ?_
        split at hs
        next b hb2 =>
          cases hs
          rw [hb2]
          exact k hlen H locs ls hW hS hL
        next hb2 =>
          cases hs
          rw [hb2]
          exact k hlen H locs ls hW hS hL
    · cases hs
  · cases hs
theorem s_d_aast (C : s_Cx S G TW p s m args meth c r) (hrk : ∀ t ∈ s_rk S, 0 < s_N S t) (hdg : decode (s_b r) pc = .ok (.aastore, n)) (hn : n = 1) (hs : s_x .aastore pc n L st h = some q) (k : s_W S G p l e R s m args below meth c Q N0 M0 q.1 q.2.1 q.2.2.1 q.2.2.2) : s_W S G p l e R s m args below meth c Q N0 M0 pc L st h := by
  obtain ⟨hx, hb, hml, hown, hts, hI, hini⟩ := C
  subst hn
  dsimp only [s_x] at hs
  split at hs
  next b i a r0 =>
    split at hs
    next t z cc heq heq2 =>
      split at hs
      · cases hs
      next ho =>
        cases hs
        intro hlen H locs ls hW hS hL
        obtain ⟨h1, h2, h3⟩ := s_Wd_len hW heq
        obtain ⟨g1, g2, g3⟩ := s_Wd_len hW heq2
        have h4 : 4 ≤ a := Nat.not_lt.mp fun y => ho (Or.inr (Or.inl y))
        have g4 : 4 ≤ b := Nat.not_lt.mp fun y => ho (Or.inr (Or.inr (Or.inl y)))
        have hct : cc = t := Classical.byContradiction fun y => ho (Or.inr (Or.inr (Or.inr y)))
        subst hct
        have h5 := s_ws_at S G h h4 h2
        rw [s_cell_r h1] at h5
        have g5 := s_ws_at S G h g4 g2
        rw [s_cell_o g1] at g5
        have hmem := hW.2.2.2 a cc z h1
        obtain ⟨j, hj⟩ := s_tys_r G hmem
        obtain ⟨qc, e1, e2, e3, e4⟩ := s_cl_of (hrk _ hmem)
        rw [e4] at hj
        refine va_astq hx hb hI.1 hW.2.1 (s_ws_D hI h) hS (a - 4) j (b - 4) cc h5 hj g5 e1 (s_vp_in fun y => ho (Or.inl y)) hdg (fun H1 locs1 hP1 _ hS1 => ?_)
        refine k hlen H1 locs1 ls (s_Wd_put (h2 := (h.1, s_updR h.2.1 a i.toNatClampNeg (some b), h.2.2)) hW h4 h2 rfl (fun j hj => ⟨rfl, if_neg hj⟩) ?_ hP1) hS1 hL
        rw [s_cell_r (by exact h1)]
        have : (fun x => Option.map (s_ad G) (s_updR h.2.1 a i.toNatClampNeg (some b) a x)) = va_up (fun x => Option.map (s_ad G) (h.2.1 a x)) i.toNatClampNeg (some (s_ad G b)) := by
          funext x
          unfold s_updR va_up
          rw [if_pos rfl]
          by_cases y : x = i.toNatClampNeg
          · rw [if_pos y, if_pos y]; rfl
          · rw [if_neg y, if_neg y]
        show _ = Sum.inl (s_cA G (cc + 2), z, Sum.inr (Sum.inr (Sum.inr (Sum.inr (fun x => Option.map (s_ad G) (s_updR h.2.1 a i.toNatClampNeg (some b) a x))))))
        rw [this]
    · cases hs
  · cases hs
end HPS
end
section
section MKS
variable {p : Program} {l : Launch} {e : Env} {R : Room} {s : State} {m : MethodId} {args : Array Value} {below : List Frame} {meth : Method} {c : Code} {Q : State → Prop}
variable {S : s_SG} {G : s_DG} {TW : List Jvm.Cond} {r : sM} {N0 M0 pc n idx : Nat} {L st : List Value} {h : sHp} {q : sC}
theorem s_cell_new {t k i : Nat} (hi : i < h.2.2.length) : s_cell S G (s_new h t k) i = s_cell S G h i := by
  have e1 : (s_new h t k).2.2[i]? = h.2.2[i]? := by
    show (h.2.2 ++ [(t, k)])[i]? = _
    rw [List.getElem?_append_left hi]
  have e2 : (s_new h t k).1 i = h.1 i := if_neg (by omega)
  have e3 : (s_new h t k).2.1 i = h.2.1 i := if_neg (by omega)
  have e4 : ∀ cc, s_fv S G (s_new h t k) i cc = s_fv S G h i cc := fun cc => by funext x; unfold s_fv; rw [e2, e3]
  unfold s_cell
  rw [e1, e2, e3]
  simp only [e4]
theorem s_ws_new {t k : Nat} (h4 : 4 ≤ h.2.2.length) : s_ws S G (s_new h t k) = s_ws S G h ++ [(s_ad G h.2.2.length, s_cell S G (s_new h t k) h.2.2.length)] := by
  have hl : (s_new h t k).2.2.length = h.2.2.length + 1 := by show (h.2.2 ++ [(t, k)]).length = _; simp
  unfold s_ws
  rw [hl, show h.2.2.length + 1 - 4 = (h.2.2.length - 4) + 1 by omega, List.range_succ, List.map_append]
  congr 1
  · apply List.map_congr_left
    intro j hj
    rw [s_cell_new (by have := List.mem_range.mp hj; omega)]
  · rw [List.map_cons, List.map_nil, show h.2.2.length - 4 + 4 = h.2.2.length by omega]
theorem s_new_at {t k : Nat} : (s_new h t k).2.2[h.2.2.length]? = some (t, k) := by
  show (h.2.2 ++ [(t, k)])[h.2.2.length]? = _
  simp
theorem s_Wd_new {H H1 : Heap} {t k : Nat} (hW : s_Wd S G h H) (hrk : ∀ x, t = x + 2 → x ∈ s_rk S) (hP : va_P (s_D G) (s_cl S) (s_ws S G h ++ [(s_ad G h.2.2.length, s_cell S G (s_new h t k) h.2.2.length)]) H1) : s_Wd S G (s_new h t k) H1 := by
  have hl : (s_new h t k).2.2.length = h.2.2.length + 1 := by show (h.2.2 ++ [(t, k)]).length = _; simp
  have h4 := hW.1
  refine ⟨by rw [hl]; omega, by rw [s_ws_new h4]; exact hP, fun i hi => ?_, fun i x y hi => ?_⟩
  · have e1 : (s_new h t k).2.2[i]? = h.2.2[i]? := by
      show (h.2.2 ++ [(t, k)])[i]? = _
      rw [List.getElem?_append_left (by omega)]
    have e2 : (s_new h t k).1 i = h.1 i := if_neg (by omega)
    rw [e1, e2]
    exact hW.2.2.1 i hi
  · rcases Nat.lt_or_ge i h.2.2.length with z | z
    · have e1 : (s_new h t k).2.2[i]? = h.2.2[i]? := by
        show (h.2.2 ++ [(t, k)])[i]? = _
        rw [List.getElem?_append_left z]
      rw [e1] at hi
      exact hW.2.2.2 i x y hi
    · have hlt := (List.getElem?_eq_some_iff.mp hi).1
      rw [hl] at hlt
      have : i = h.2.2.length := by omega
      subst this
      rw [s_new_at] at hi
      cases hi
      exact hrk x rfl
/-- a new cell comes just behind the others -/
theorem s_at_end {T : State} {H1 : Heap} {locs : List Loc} {k1 n1 a : Nat} {ev : va_E} (hI : s_In S G s) (hsz : s.heap.size = s_B G + (N0 - 4)) (hN : 4 ≤ N0) (hN2 : N0 ≤ h.2.2.length) (hk1 : k1 = h.2.2.length - N0 + 1) (hP : va_P (s_D G) (s_cl S) (s_ws S G h ++ [(a, ev)]) H1) (hD : va_D (s_A G) (s_ws S G h ++ [(a, ev)])) (hT : T.heap = H1) (X : Stand p l e R s m args below meth c T locs k1 n1) : a = s_ad G h.2.2.length := by
  have hlen := s_ws_len S G h
  have hlast : (s_ws S G h ++ [(a, ev)])[h.2.2.length - 4]? = some (a, ev) := by
    rw [← hlen]
    simp
  have h1 := (hP _ _ hlast).lt
  have h2 := X.heapSize
  rw [hT] at h2
  have h3 : s_B G ≤ a := hD.2 _ _ hlast
  rw [s_ad_ge hI (by omega)]
  rcases Nat.lt_or_ge a (s_B G + (h.2.2.length - 4)) with z | z
  · exfalso
    have hj : (s_ws S G h ++ [(a, ev)])[a - s_B G]? = some (s_ad G (a - s_B G + 4), s_cell S G h (a - s_B G + 4)) := by
      rw [List.getElem?_append_left (by omega), s_ws_get, if_pos (by omega)]
    have := hD.1 _ _ _ _ hj hlast (by show s_ad G _ = a; rw [hI.2.2.2.1]; omega)
    omega
  · dsimp only at h1 h3
    omega
theorem s_d_new {ci : Nat} (C : s_Cx S G TW p s m args meth c r) (SK : s_SOK S TW) (hdf : ∀ k, k < s_N S ci → defaultValue (s_ty S ci k) = if s_kd (s_ty S ci k) = 2 then .null else .int 0) (hci : 0 < s_N S ci) (hsz : s.heap.size = s_B G + (N0 - 4)) (hN : 4 ≤ N0) (hN2 : N0 ≤ h.2.2.length) (hM2 : M0 ≤ s_sz S h.2.2) (hroom : q.2.2.2.2.2.length - N0 ≤ R.cells ∧ s_sz S q.2.2.2.2.2 - M0 ≤ R.slots) (hw1 : (Jvm.Cond.classLink (s_y r).cls idx (s_cn S ci)).before args s = true) (hw2 : (Jvm.Cond.instantiable (s_cn S ci) (s_N S ci)).before args s = true) (hw3 : (Jvm.Cond.initialized (s_cn S ci)).before args s = true) (hdg : decode (s_b r) pc = .ok (.new idx, n)) (hn : n = 3) (hs : s_x (.new ci) pc n L st h = some q) (k : s_W S G p l e R s m args below meth c Q N0 M0 q.1 q.2.1 q.2.2.1 q.2.2.2) : s_W S G p l e R s m args below meth c Q N0 M0 pc L st h := by
  obtain ⟨hx, hb, hml, hown, hts, hI, hini⟩ := C
  subst hn
  cases hs
  intro hlen H locs ls hW hS hL
  obtain ⟨qc, e1, e2, e3, e4⟩ := s_cl_of hci
  have hl : (s_new h 0 ci).2.2.length = h.2.2.length + 1 := by show (h.2.2 ++ [(0, ci)]).length = _; simp
  have hz : s_sz S (s_new h 0 ci).2.2 = s_sz S h.2.2 + s_N S ci := by
    show s_sz S (h.2.2 ++ [(0, ci)]) = _
    rw [s_sz_app]; rfl
  dsimp only at hroom k
  rw [hl, hz] at hroom
  rw [e4] at hw1 hw2 hw3
  rw [e2] at hw2
  have h4 := hW.1
  have hcell : s_cell S G (s_new h 0 ci) h.2.2.length = .inr (ci, (List.range (s_N S ci)).map (s_fv S G (s_new h 0 ci) h.2.2.length ci)) := s_cell_o s_new_at
  refine va_new (ci := ci) (fs := (List.range (s_N S ci)).map (s_fv S G (s_new h 0 ci) h.2.2.length ci)) (C := qc.1) (T := qc.2.1) (N := qc.2.2) hx hb hts (SK _ _ e1).1 (s_ty S ci) (SK _ _ e1).2.1 hown hw1 hw2 hw3 hI.1 hW.2.1 (s_ws_D hI h) hS (fun z hz => (by show s_B G ≤ z; omega)) e1 (fun j hj => ?_) (by omega) (by rw [← e2]; omega) hdg (fun a H1 hP1 hD1 hS1 => ?_)
  · rw [← e2] at hj
    rw [hdf j hj]
    unfold vp_V
    rw [List.getD_eq_getElem?_getD, s_fs_at hj]
    show _ = s_fv S G (s_new h 0 ci) h.2.2.length ci j
    unfold s_fv
    have z1 : (s_new h 0 ci).1 h.2.2.length j = 0 := by show (if _ then _ else _ : Nat → Int32) j = 0; rw [if_pos rfl]
    have z2 : (s_new h 0 ci).2.1 h.2.2.length j = none := by show (if _ then _ else _ : Nat → Option Nat) j = none; rw [if_pos rfl]
    rw [z1, z2]
    rfl
  · intro T hT X
    have ha := s_at_end hI hsz hN hN2 rfl hP1 hD1 hT X
    subst ha
    rw [← hcell] at hP1
    have hW1 := s_Wd_new hW (fun x hx => (by cases hx)) hP1
    have kk := k hlen H1 locs ls hW1 hS1 hL
    rw [hl, hz, e2, show h.2.2.length + 1 - N0 = h.2.2.length - N0 + 1 by omega, show s_sz S h.2.2 + qc.2.2 - M0 = s_sz S h.2.2 - M0 + qc.2.2 by omega] at kk
    exact kk T hT X
theorem s_d_newa (C : s_Cx S G TW p s m args meth c r) (hsz : s.heap.size = s_B G + (N0 - 4)) (hN : 4 ≤ N0) (hN2 : N0 ≤ h.2.2.length) (hM2 : M0 ≤ s_sz S h.2.2) (hroom : q.2.2.2.2.2.length - N0 ≤ R.cells ∧ s_sz S q.2.2.2.2.2 - M0 ≤ R.slots) (hw1 : (Jvm.Cond.arrayClass .int).before args s = true) (hdg : decode (s_b r) pc = .ok (.newarray .int, n)) (hn : n = 2) (hs : s_x (.newarray .int) pc n L st h = some q) (k : s_W S G p l e R s m args below meth c Q N0 M0 q.1 q.2.1 q.2.2.1 q.2.2.2) : s_W S G p l e R s m args below meth c Q N0 M0 pc L st h := by
  obtain ⟨hx, hb, hml, hown, hts, hI, hini⟩ := C
  subst hn
  dsimp only [s_x] at hs
  split at hs
  next z r0 =>
    split at hs
    · cases hs
    next hz0 =>
      cases hs
      intro hlen H locs ls hW hS hL
      have hl : (s_new h 1 z.toNatClampNeg).2.2.length = h.2.2.length + 1 := by show (h.2.2 ++ [_]).length = _; simp
      have hz : s_sz S (s_new h 1 z.toNatClampNeg).2.2 = s_sz S h.2.2 + z.toNatClampNeg := by
        show s_sz S (h.2.2 ++ [(1, _)]) = _
        rw [s_sz_app]; rfl
      dsimp only at hroom k
      rw [hl, hz] at hroom
      have h4 := hW.1
      have hcell : s_cell S G (s_new h 1 z.toNatClampNeg) h.2.2.length = .inl (s_cA G 1, z.toNatClampNeg, .inl (fun _ => 0)) := by
        rw [s_cell_i s_new_at]
        have z1 : (s_new h 1 z.toNatClampNeg).1 h.2.2.length = fun _ => 0 := if_pos rfl
        rw [z1]
      have hle : z.toNatClampNeg ≤ 65536 := by
        have h9 : z.toInt ≤ 65536 := Int.not_lt.mp (fun y => hz0 (Or.inr (Int32.lt_iff_toInt_lt.mpr y)))
        show z.toInt.toNat ≤ 65536
        omega
      refine va_newa (atype := .int) (ty := .int) (a0 := (z.toNatClampNeg, .inl (fun _ => 0))) hx hb hw1 rfl hI.1 hW.2.1 (s_ws_D hI h) hS (fun y hy => (by show s_B G ≤ y; omega)) (fun cA => rfl) (fun y => hz0 (Or.inl y)) rfl (by show _ * 4 ≤ _; omega) (by omega) (by omega) hdg (fun a cA H1 hK1 hP1 hD1 hS1 => ?_)
      intro T hT X
      have ha := s_at_end hI hsz hN hN2 rfl hP1 hD1 hT X
      subst ha
      have hcA : cA = s_cA G 1 := by
        have g1 := (hK1.2 (s_tys S G).length (cA, .int) (by simp)).2
        have g2 := (hI.1.2 0 (s_cA G 1, .int) rfl).2
        exact Option.some.inj (g1.symm.trans g2)
      subst hcA
      rw [← hcell] at hP1
      have hW1 := s_Wd_new hW (fun x hx => (by cases hx)) hP1
      have kk := k hlen H1 locs ls hW1 hS1 hL
      rw [hl, hz, show h.2.2.length + 1 - N0 = h.2.2.length - N0 + 1 by omega, show s_sz S h.2.2 + z.toNatClampNeg - M0 = s_sz S h.2.2 - M0 + z.toNatClampNeg by omega] at kk
      exact kk T hT X
  · cases hs
theorem s_d_newq {t : Nat} (C : s_Cx S G TW p s m args meth c r) (ht : t ∈ s_rk S) (hsz : s.heap.size = s_B G + (N0 - 4)) (hN : 4 ≤ N0) (hN2 : N0 ≤ h.2.2.length) (hM2 : M0 ≤ s_sz S h.2.2) (hroom : q.2.2.2.2.2.length - N0 ≤ R.cells ∧ s_sz S q.2.2.2.2.2 - M0 ≤ R.slots) (hw1 : (Jvm.Cond.classLink (s_y r).cls idx (s_cn S t)).before args s = true) (hw2 : va_Nw (.arrayOver (.object (s_cn S t))) s) (hdg : decode (s_b r) pc = .ok (.anewarray idx, n)) (hn : n = 3) (hs : s_x (.anewarray t) pc n L st h = some q) (k : s_W S G p l e R s m args below meth c Q N0 M0 q.1 q.2.1 q.2.2.1 q.2.2.2) : s_W S G p l e R s m args below meth c Q N0 M0 pc L st h := by
  obtain ⟨hx, hb, hml, hown, hts, hI, hini⟩ := C
  subst hn
  dsimp only [s_x] at hs
  split at hs
  next z r0 =>
    split at hs
    · cases hs
    next hz0 =>
      cases hs
      intro hlen H locs ls hW hS hL
      have hl : (s_new h (t + 2) z.toNatClampNeg).2.2.length = h.2.2.length + 1 := by show (h.2.2 ++ [_]).length = _; simp
      have hz : s_sz S (s_new h (t + 2) z.toNatClampNeg).2.2 = s_sz S h.2.2 + z.toNatClampNeg := by
        show s_sz S (h.2.2 ++ [(t + 2, _)]) = _
        rw [s_sz_app]; rfl
      dsimp only at hroom k
      rw [hl, hz] at hroom
      have h4 := hW.1
      have hcell : s_cell S G (s_new h (t + 2) z.toNatClampNeg) h.2.2.length = .inl (s_cA G (t + 2), z.toNatClampNeg, .inr (.inr (.inr (.inr (fun _ => none))))) := by
        rw [s_cell_r s_new_at]
        have z1 : (s_new h (t + 2) z.toNatClampNeg).2.1 h.2.2.length = fun _ => none := if_pos rfl
        rw [z1]
        rfl
      have hle : z.toNatClampNeg ≤ 65536 := by
        have h9 : z.toInt ≤ 65536 := Int.not_lt.mp (fun y => hz0 (Or.inr (Int32.lt_iff_toInt_lt.mpr y)))
        show z.toInt.toNat ≤ 65536
        omega
      refine va_newq hx hb hown hw1 hw2 hI.1 hW.2.1 (s_ws_D hI h) hS (fun y hy => (by show s_B G ≤ y; omega)) (fun y => hz0 (Or.inl y)) rfl (by omega) (by omega) (by omega) hdg (fun a cA H1 hK1 hP1 hD1 hS1 => ?_)
      intro T hT X
      have ha := s_at_end hI hsz hN hN2 rfl hP1 hD1 hT X
      subst ha
      have hcA : cA = s_cA G (t + 2) := by
        obtain ⟨_, _, _, _, _, g1⟩ := (hK1.2 (s_tys S G).length (cA, .object (s_cn S t)) (by simp)).2
        obtain ⟨j, hj⟩ := s_tys_r G ht
        obtain ⟨_, _, _, _, _, g2⟩ := (hI.1.2 j _ hj).2
        exact Option.some.inj (g1.symm.trans g2)
      subst hcA
      rw [← hcell] at hP1
      have hW1 := s_Wd_new hW (fun x hx => (by cases hx; exact ht)) hP1
      have kk := k hlen H1 locs ls hW1 hS1 hL
      rw [hl, hz, show h.2.2.length + 1 - N0 = h.2.2.length - N0 + 1 by omega, show s_sz S h.2.2 + z.toNatClampNeg - M0 = s_sz S h.2.2 - M0 + z.toNatClampNeg by omega] at kk
      exact kk T hT X
  · cases hs
theorem s_d_obj (C : s_Cx S G TW p s m args meth c r) (hRf : 1 ≤ R.frames) (hRl : 26 ≤ R.locals) (hw1 : (Jvm.Cond.methodLink (s_y r).cls idx Lib.objectInit).before args s = true) (hw2 : (Jvm.Cond.instanceMethod Lib.objectInit).before args s = true) (hw3 : (Jvm.Cond.code Lib.objectInit ⟨#[0xb1]⟩ 1 none).before args s = true) (hdg : decode (s_b r) pc = .ok (.invokespecial idx, n)) (hn : n = 3) (hs : s_x (.monitorenter) pc n L st h = some q) (k : s_W S G p l e R s m args below meth c Q N0 M0 q.1 q.2.1 q.2.2.1 q.2.2.2) : s_W S G p l e R s m args below meth c Q N0 M0 pc L st h := by
  obtain ⟨hx, hb, hml, hown, hts, hI, hini⟩ := C
  subst hn
  dsimp only [s_x] at hs
  split at hs
  next a r0 =>
    split at hs
    · cases hs
    next hc =>
      cases hs
      intro hlen H locs ls hW hS hL
      have h1 := s_cat_sum G r0
      refine W.objInit (g := F0 m pc ls (.ref (s_ad G a) :: r0.map (s_vc G))) hx hb hown hw1 hw2 hw3 rfl (by show ls.size = _; rw [hL.1, hlen]) rfl hdg hRf (by show 2 * 0 + _ + 12 ≤ _; omega) ?_
      exact W.eq rfl (k hlen H locs ls hW hS hL)
  · cases hs
theorem s_d_d2r (C : s_Cx S G TW p s m args meth c r) (hRf : 1 ≤ R.frames) (hRl : 26 ≤ R.locals) (hw1 : (Jvm.Cond.methodLink (s_y r).cls idx ⟨"java/lang/Double", "doubleToRawLongBits", "(D)J"⟩).before args s = true) (hw2 : (Jvm.Cond.native ⟨"java/lang/Double", "doubleToRawLongBits", "(D)J"⟩).before args s = true) (hw3 : (Jvm.Cond.static ⟨"java/lang/Double", "doubleToRawLongBits", "(D)J"⟩).before args s = true) (hw4 : (Jvm.Cond.initialized "java/lang/Double").before args s = true) (hdg : decode (s_b r) pc = .ok (.invokestatic idx, n)) (hn : n = 3) (hs : s_x (.nop) pc n L st h = some q) (k : s_W S G p l e R s m args below meth c Q N0 M0 q.1 q.2.1 q.2.2.1 q.2.2.2) : s_W S G p l e R s m args below meth c Q N0 M0 pc L st h := by
  obtain ⟨hx, hb, hml, hown, hts, hI, hini⟩ := C
  subst hn
  dsimp only [s_x] at hs
  split at hs
  next a r0 =>
    split at hs
    · cases hs
    next hc =>
      cases hs
      intro hlen H locs ls hW hS hL
      have h1 := s_cat_sum G r0
      exact vn_d2l hx hb (by rw [hL.1, hlen]) hown hw1 hw2 hw3 hw4 hRf (by omega) hdg (k hlen H locs ls hW hS hL)
  · cases hs
theorem s_d_f2r (C : s_Cx S G TW p s m args meth c r) (hRf : 1 ≤ R.frames) (hRl : 26 ≤ R.locals) (hw1 : (Jvm.Cond.methodLink (s_y r).cls idx ⟨"java/lang/Float", "floatToRawIntBits", "(F)I"⟩).before args s = true) (hw2 : (Jvm.Cond.native ⟨"java/lang/Float", "floatToRawIntBits", "(F)I"⟩).before args s = true) (hw3 : (Jvm.Cond.static ⟨"java/lang/Float", "floatToRawIntBits", "(F)I"⟩).before args s = true) (hw4 : (Jvm.Cond.initialized "java/lang/Float").before args s = true) (hdg : decode (s_b r) pc = .ok (.invokestatic idx, n)) (hn : n = 3) (hs : s_x (.swap) pc n L st h = some q) (k : s_W S G p l e R s m args below meth c Q N0 M0 q.1 q.2.1 q.2.2.1 q.2.2.2) : s_W S G p l e R s m args below meth c Q N0 M0 pc L st h := by
  obtain ⟨hx, hb, hml, hown, hts, hI, hini⟩ := C
  subst hn
  dsimp only [s_x] at hs
  split at hs
  next a r0 =>
    split at hs
    · cases hs
    next hc =>
      cases hs
      intro hlen H locs ls hW hS hL
      have h1 := s_cat_sum G r0
      exact vn_f2i hx hb (by rw [hL.1, hlen]) hown hw1 hw2 hw3 hw4 hRf (by omega) hdg (k hlen H locs ls hW hS hL)
  · cases hs
theorem s_d_acpy (C : s_Cx S G TW p s m args meth c r) (hRf : 1 ≤ R.frames) (hRl : 26 ≤ R.locals) (hw1 : (Jvm.Cond.methodLink (s_y r).cls idx arraycopyName).before args s = true) (hw2 : (Jvm.Cond.native arraycopyName).before args s = true) (hw3 : (Jvm.Cond.static arraycopyName).before args s = true) (hw4 : (Jvm.Cond.initialized "java/lang/System").before args s = true) (hdg : decode (s_b r) pc = .ok (.invokestatic idx, n)) (hn : n = 3) (hs : s_x (.monitorexit) pc n L st h = some q) (k : s_W S G p l e R s m args below meth c Q N0 M0 q.1 q.2.1 q.2.2.1 q.2.2.2) : s_W S G p l e R s m args below meth c Q N0 M0 pc L st h := by
  obtain ⟨hx, hb, hml, hown, hts, hI, hini⟩ := C
  subst hn
  dsimp only [s_x] at hs
  split at hs
  next kn dp b sp a r0 =>
    split at hs
    next na nb heq heq2 =>
      split at hs
      · cases hs
      next hc =>
        cases hs
        intro hlen H locs ls hW hS hL
        simp only [not_or, Nat.not_lt] at hc
        obtain ⟨c1, c2, c3, c4, c5, c6, c7, c8⟩ := hc
        obtain ⟨h1, h2, -⟩ := s_Wd_len hW heq
        obtain ⟨g1, g2, -⟩ := s_Wd_len hW heq2
        have h5 := s_ws_at S G h c7 h2
        rw [s_cell_i h1] at h5
        have g5 := s_ws_at S G h c8 g2
        rw [s_cell_i g1] at g5
        have hcat := s_cat_sum G r0
        have hnf : nativeFrameWords "java/lang/System" "arraycopy" 5 = 7 := by decide +kernel
        refine va_copyi (ty := .int) hx hb (by rw [hL.1, hlen]) hown hw1 hw2 hw3 hw4 hI.1 hW.2.1 (s_ws_D hI h) hS (a - 4) (b - 4) 0 0 h5 g5 (s_tys_0 S G) (s_tys_0 S G) rfl c2 c3 c4 c5 c6 (fun i hi => rfl) hRf (by omega) hdg (fun H1 locs1 hP1 _ hS1 => ?_)
        refine k hlen H1 locs1 ls (s_Wd_put (h2 := (fun i => if i = b then va_cpy (h.1 a) (h.1 b) sp.toNatClampNeg dp.toNatClampNeg kn.toNatClampNeg else h.1 i, h.2)) hW c8 g2 rfl (fun j hj => ⟨if_neg hj, rfl⟩) ?_ hP1) hS1 hL
        rw [s_cell_i (by exact g1)]
        show _ = Sum.inl (s_cA G 1, nb, Sum.inl (if b = b then _ else _))
        rw [if_pos rfl]
    · cases hs
  · cases hs
theorem s_ldcwf {v : UInt32} {cc : ByteArray} {H : Heap} {locs : List Loc} {ls : Array Slot} {rest : List Value} {cells slots : Nat} (hexec : p.tables.exec = Jvm.exec) (hb : c.code = cc) {own : String} {index : Nat} (hown : s.vm.findClass own = some m.cls) (hconst : (Jvm.Cond.constantFloat own index v).before args s = true) (hdg : decode cc pc = .ok (.ldc_w index, 3)) (k : W p l e R s m args below meth c H locs cells slots Q (F0 m (pc + 3) ls (.float v :: rest))) : W p l e R s m args below meth c H locs cells slots Q (F0 m pc ls rest) := by
  intro T hT X
  obtain ⟨t, a, b⟩ := k T hT X
  refine ⟨t, ?_, b⟩
  obtain ⟨k0, cf, hk, hcf, hcp⟩ := Cond.constantFloat_spec hown hconst
  obtain ⟨k', hk', he⟩ := X.warmed.alike.2.2 _ _ hk
  subst hb
  jvm_step X.here [hexec, hdg, ldc_w.wp_float (s := T) (f := F0 m pc ls rest) X.here.top hk' (by rw [he]; exact hcf) hcp]
  exact a
theorem s_d_ldcwf {v z : Nat} (C : s_Cx S G TW p s m args meth c r) (hw : (Jvm.Cond.constantFloat (s_y r).cls idx (UInt32.ofNat v)).before args s = true) (hdg : decode (s_b r) pc = .ok (.ldc_w idx, n)) (hn : n = 3) (hs : s_x (.multianewarray v z) pc n L st h = some q) (k : s_W S G p l e R s m args below meth c Q N0 M0 q.1 q.2.1 q.2.2.1 q.2.2.2) : s_W S G p l e R s m args below meth c Q N0 M0 pc L st h := by
  obtain ⟨hx, hb, hml, hown, hts, hI, hini⟩ := C
  subst hn
  cases hs
  intro hlen H locs ls hW hS hL
  exact s_ldcwf hx hb hown hw hdg (k hlen H locs ls hW hS hL)
theorem s_d_mmax {z : Int} (C : s_Cx S G TW p s m args meth c r) (hRf : 1 ≤ R.frames) (hRl : 26 ≤ R.locals) (hroom : q.2.2.2.2.2.length - N0 ≤ R.cells ∧ s_sz S q.2.2.2.2.2 - M0 ≤ R.slots) (hw1 : (Jvm.Cond.methodLink (s_y r).cls idx Lib.Math.max.name).before args s = true) (hw2 : (Jvm.Cond.static Lib.Math.max.name).before args s = true) (hw3 : (Jvm.Cond.initialized "java/lang/Math").before args s = true) (hw4 : (Jvm.Cond.code Lib.Math.max.name Lib.Math.max.code 2 (some .int)).before args s = true) (hdg : decode (s_b r) pc = .ok (.invokestatic idx, n)) (hn : n = 3) (hs : s_x (.jsr z) pc n L st h = some q) (k : s_W S G p l e R s m args below meth c Q N0 M0 q.1 q.2.1 q.2.2.1 q.2.2.2) : s_W S G p l e R s m args below meth c Q N0 M0 pc L st h := by
  obtain ⟨hx, hb, hml, hown, hts, hI, hini⟩ := C
  subst hn
  dsimp only [s_x] at hs
  split at hs
  next y x r0 =>
    split at hs
    · cases hs
    next hc =>
      cases hs
      intro hlen H locs ls hW hS hL
      have h1 := s_cat_sum G r0
      exact va_mmax hx hb (by rw [hL.1, hlen]) hown hw1 hw2 hw3 hw4 hRf (by omega) hroom.1 hroom.2 hdg (k hlen H locs ls hW hS hL)
  · cases hs
theorem s_d_mmin {z : Int} (C : s_Cx S G TW p s m args meth c r) (hRf : 1 ≤ R.frames) (hRl : 26 ≤ R.locals) (hroom : q.2.2.2.2.2.length - N0 ≤ R.cells ∧ s_sz S q.2.2.2.2.2 - M0 ≤ R.slots) (hw1 : (Jvm.Cond.methodLink (s_y r).cls idx Lib.Math.min.name).before args s = true) (hw2 : (Jvm.Cond.static Lib.Math.min.name).before args s = true) (hw3 : (Jvm.Cond.initialized "java/lang/Math").before args s = true) (hw4 : (Jvm.Cond.code Lib.Math.min.name Lib.Math.min.code 2 (some .int)).before args s = true) (hdg : decode (s_b r) pc = .ok (.invokestatic idx, n)) (hn : n = 3) (hs : s_x (.jsr_w z) pc n L st h = some q) (k : s_W S G p l e R s m args below meth c Q N0 M0 q.1 q.2.1 q.2.2.1 q.2.2.2) : s_W S G p l e R s m args below meth c Q N0 M0 pc L st h := by
  obtain ⟨hx, hb, hml, hown, hts, hI, hini⟩ := C
  subst hn
  dsimp only [s_x] at hs
  split at hs
  next y x r0 =>
    split at hs
    · cases hs
    next hc =>
      cases hs
      intro hlen H locs ls hW hS hL
      have h1 := s_cat_sum G r0
      exact va_mmin hx hb (by rw [hL.1, hlen]) hown hw1 hw2 hw3 hw4 hRf (by omega) hroom.1 hroom.2 hdg (k hlen H locs ls hW hS hL)
  · cases hs
end MKS
end
section
/-! A ROW OF A METHOD'S CODE, CHECKED: its decoding, its words, its side conditions -/
abbrev sMT : Type := Nat → Option (sM × Option Nat)
def s_rel (pc idx : Nat) : Instr → Instr
  | .goto t => .goto (t - (pc : Int))
  | .ifCond c t => .ifCond c (t - (pc : Int))
  | .if_icmp c t => .if_icmp c (t - (pc : Int))
  | .ifnull t => .ifnull (t - (pc : Int))
  | .ifnonnull t => .ifnonnull (t - (pc : Int))
  | .tableswitch d lo hi o => .tableswitch (d - (pc : Int)) lo hi (o.map (fun t => t - (pc : Int)))
  | .lookupswitch d o => .lookupswitch (d - (pc : Int)) (o.map fun q => (q.1, q.2 - (pc : Int)))
  | .getfield _ => .getfield idx
  | .putfield _ => .putfield idx
  | .getstatic _ => .getstatic idx
  | .instanceof _ => .getstatic idx
  | .invokevirtual _ => .invokevirtual idx
  | .invokestatic _ => .invokestatic idx
  | .invokespecial _ => .invokespecial idx
  | .invokeinterface _ _ => .invokespecial idx
  | .monitorenter => .invokespecial idx
  | .monitorexit => .invokestatic idx
  | .nop => .invokestatic idx
  | .jsr _ => .invokestatic idx
  | .jsr_w _ => .invokestatic idx
  | .swap => .invokestatic idx
  | .new _ => .new idx
  | .anewarray _ => .anewarray idx
  | .ldc _ => .ldc idx
  | .ldc_w _ => .ldc_w idx
  | .ldc2_w _ => .ldc2_w idx
  | .ret _ => .ldc idx
  | .multianewarray _ _ => .ldc_w idx
  | .putstatic _ => .ldc2_w idx
  | i => i
/-- the length that an instruction has; 0: any -/
def s_ln : Instr → Nat
  | .bipush _ | .ldc _ | .ret _ | .iload _ | .lload _ | .istore _ | .lstore _ | .aload _ | .astore _ | .newarray _ => 2
  | .sipush _ | .ldc_w _ | .ldc2_w _ | .putstatic _ | .multianewarray _ _ | .iinc _ _ | .goto _ | .ifCond _ _ | .if_icmp _ _ | .ifnull _ | .ifnonnull _ | .getfield _ | .putfield _ | .getstatic _ | .instanceof _ => 3
  | .invokevirtual _ | .invokestatic _ | .invokespecial _ | .invokeinterface _ _ | .monitorenter | .monitorexit | .nop | .jsr _ | .jsr_w _ | .swap | .new _ | .anewarray _ => 3
  | .tableswitch _ _ _ _ | .lookupswitch _ _ => 0
  | _ => 1
def s_dl : MethodName := ⟨"java/lang/Double", "doubleToRawLongBits", "(D)J"⟩
def s_fi : MethodName := ⟨"java/lang/Float", "floatToRawIntBits", "(F)I"⟩
def s_wf (S : s_SG) (own : String) (idx ev : Nat) : Jvm.Cond := .fieldLink own idx (s_F S (ev / 1024) (ev % 1024 / 8)).1 (s_F S (ev / 1024) (ev % 1024 / 8)).2.1 (s_F S (ev / 1024) (ev % 1024 / 8)).2.2.1
def s_wc (MT : sMT) (k : Nat) (f : sM → List Jvm.Cond) : List Jvm.Cond := match MT k with
  | some q => f q.1
  | none => []
def s_wds (S : s_SG) (MT : sMT) (own : String) (idx : Nat) : Instr → List Jvm.Cond
  | .getfield ev => [s_wf S own idx ev]
  | .putfield ev => [s_wf S own idx ev]
  | .getstatic j => [.fieldLink own idx (s_sn S j).1 (s_sn S j).2.1 (s_sn S j).2.2]
  | .invokevirtual k => s_wc MT k fun r => [.methodLink own idx (s_y r), .instanceMethod (s_y r), .selects (s_y r).cls (s_y r) (s_y r), .initialized (s_y r).cls, .code (s_y r) (s_b r) (s_mL r) (s_rt r)]
  | .invokestatic k => s_wc MT k fun r => [.methodLink own idx (s_y r), .static (s_y r), .initialized (s_y r).cls, .code (s_y r) (s_b r) (s_mL r) (s_rt r)]
  | .invokespecial k => s_wc MT k fun r => [.methodLink own idx (s_y r), .instanceMethod (s_y r), .initialized (s_y r).cls, .code (s_y r) (s_b r) (s_mL r) (s_rt r)]
  | .invokeinterface k _ => s_wc MT k fun r => [.instanceMethod (s_y r), .initialized (s_y r).cls, .code (s_y r) (s_b r) (s_mL r) (s_rt r)]
  | .monitorenter => [.methodLink own idx Lib.objectInit, .instanceMethod Lib.objectInit, .code Lib.objectInit ⟨#[0xb1]⟩ 1 none]
  | .monitorexit => [.methodLink own idx arraycopyName, .native arraycopyName, .static arraycopyName, .initialized "java/lang/System"]
  | .jsr _ => [.methodLink own idx Lib.Math.max.name, .static Lib.Math.max.name, .initialized "java/lang/Math", .code Lib.Math.max.name Lib.Math.max.code 2 (some .int)]
  | .jsr_w _ => [.methodLink own idx Lib.Math.min.name, .static Lib.Math.min.name, .initialized "java/lang/Math", .code Lib.Math.min.name Lib.Math.min.code 2 (some .int)]
  | .nop => [.methodLink own idx s_dl, .native s_dl, .static s_dl, .initialized "java/lang/Double"]
  | .swap => [.methodLink own idx s_fi, .native s_fi, .static s_fi, .initialized "java/lang/Float"]
  | .new c => [.classLink own idx (s_cn S c), .instantiable (s_cn S c) (s_N S c), .initialized (s_cn S c)]
  | .newarray _ => [.arrayClass .int]
  | .anewarray t => [.classLink own idx (s_cn S t)]
  | .ldc v => [.constant own idx (Int32.ofNat v)]
  | .ldc_w v => [.constant own idx (Int32.ofNat v)]
  | .ldc2_w v => [.constantLong own idx (Int64.ofNat v)]
  | .ret v => [.constantFloat own idx (UInt32.ofNat v)]
  | .multianewarray v _ => [.constantFloat own idx (UInt32.ofNat v)]
  | .putstatic v => [.constantDouble own idx (UInt64.ofNat v)]
  | _ => []
def s_rfT : FieldType → Bool
  | .object _ => true
  | .array _ => true
  | _ => false
/-- may r call r2 (as: how many arguments beside the receiver) -/
def s_okc (r r2 : sM) (init : Bool) (n : Nat) : Bool := decide (s_fr r2 + 1 ≤ s_fr r) && decide (8 + (s_mL r2 + 11) + s_lo r2 ≤ s_lo r) && decide ((s_y r2).cls ≠ "java/lang/invoke/MethodHandle") && decide ((s_y r2).cls ≠ "java/lang/invoke/VarHandle") && decide ((parseMethodDescriptor (s_y r2).desc).map (fun d => d.parameters.length) = some n) && (!init || (decide ((s_y r2).name = "<init>") && decide (s_rt r2 = none)))
def s_sd (S : s_SG) (MT : sMT) (host : String) (r : sM) (idx : Nat) : Instr → Bool
  | .goto t | .ifCond _ t | .if_icmp _ t | .ifnull t | .ifnonnull t => decide (0 ≤ t)
  | .tableswitch d _ _ o => decide (0 ≤ d) && o.toList.all (fun t => decide (0 ≤ t))
  | .lookupswitch d o => decide (0 ≤ d) && o.toList.all (fun t => decide (0 ≤ t.2))
  | .getfield ev => decide (ev % 1024 / 8 < s_N S (ev / 1024)) && decide (ev % 8 = s_kd (s_ty S (ev / 1024) (ev % 1024 / 8)))
  | .putfield ev => decide (ev % 1024 / 8 < s_N S (ev / 1024)) && decide (ev % 8 = s_kd (s_ty S (ev / 1024) (ev % 1024 / 8))) && (decide (ev % 8 ≠ 2) || s_rfT (s_ty S (ev / 1024) (ev % 1024 / 8))) && (!(s_F S (ev / 1024) (ev % 1024 / 8)).2.2.2 || (decide ((s_y r).name = "<init>") && decide ((s_F S (ev / 1024) (ev % 1024 / 8)).1 = (s_y r).cls)))
  | .getstatic j => decide (j < s_ns S)
  | .instanceof j => decide (j < s_ns S) && decide (Jvm.Cond.fieldLinkNest (s_y r).cls idx (s_sn S j).1 (s_sn S j).2.1 (s_sn S j).2.2 host ∈ s_nw S)
  | .new c => decide (0 < s_N S c)
  | .anewarray t => decide (t ∈ s_rk S) && decide (Jvm.Cond.arrayOver (.object (s_cn S t)) ∈ s_nw S)
  | .newarray a => decide (a = .int)
  | .monitorenter | .monitorexit | .nop | .jsr _ | .jsr_w _ | .swap => decide (1 ≤ s_fr r) && decide (26 ≤ s_lo r)
  | .invokevirtual k => (match MT k with
    | some (r2, some c) => decide (s_na r2 = s_na r2 - 1 + 1) && s_okc r r2 false (s_na r2 - 1) && decide (s_cn S c = (s_y r2).cls) && decide (0 < s_N S c)
    | _ => false)
  | .invokestatic k => (match MT k with
    | some (r2, _) => s_okc r r2 false (s_na r2)
    | _ => false)
  | .invokespecial k => (match MT k with
    | some (r2, _) => decide (s_na r2 = s_na r2 - 1 + 1) && s_okc r r2 true (s_na r2 - 1)
    | _ => false)
  | .invokeinterface k _ => (match MT k with
    | some (r2, _) => decide (s_na r2 = s_na r2 - 1 + 1) && s_okc r r2 true (s_na r2 - 1) && decide (Jvm.Cond.methodLinkNest (s_y r).cls idx (s_y r2) host ∈ s_nw S)
    | _ => false)
  | _ => true
def s_so (pc : Nat) : Instr → Bool
  | .lookupswitch _ o => ((o.map fun q => (q.1, q.2 - (pc : Int))).toList.zip ((o.map fun q => (q.1, q.2 - (pc : Int))).toList.drop 1)).all (fun (a, next) => a.1 < next.1)
  | _ => true
def s_chk (S : s_SG) (MT : sMT) (big : List Jvm.Cond) (host : String) (r : sM) (e : sE) : Bool :=
  decide (decode (s_b r) e.1 = .ok (s_rel e.1 e.2.2.2.1 e.2.1, e.2.2.1)) && (decide (s_ln e.2.1 = 0) || decide (e.2.2.1 = s_ln e.2.1)) && decide ((s_wds S MT (s_y r).cls e.2.2.2.1 e.2.1).map some = e.2.2.2.2.map (fun i => big[i]?)) && (s_wds S MT (s_y r).cls e.2.2.2.1 e.2.1).all goodWord && s_sd S MT host r e.2.2.2.1 e.2.1 && s_so e.1 e.2.1
/-- every row of every method is checked -/
def s_Chk (S : s_SG) (MT : sMT) (big : List Jvm.Cond) (host : String) : Prop := ∀ (k : Nat) (r : sM) (cn : Option Nat), MT k = some (r, cn) → (∀ e ∈ s_cd r, s_chk S MT big host r e = true) ∧ plainFor (s_y r) = true ∧ (∀ c, cn = some c → s_cn S c = (s_y r).cls ∧ 0 < s_N S c)
def s_TW (big : List Jvm.Cond) : List Jvm.Cond := big.filter goodWord
theorem s_TW_good (big : List Jvm.Cond) : ∀ w ∈ s_TW big, goodWord w = true := fun w h => (List.mem_filter.mp h).2
theorem s_wds_in {S : s_SG} {MT : sMT} {big : List Jvm.Cond} {own : String} {idx : Nat} {i : Instr} {pl : List Nat} (h1 : (s_wds S MT own idx i).map some = pl.map (fun i => big[i]?)) (h2 : (s_wds S MT own idx i).all goodWord = true) : ∀ w ∈ s_wds S MT own idx i, w ∈ s_TW big := by
  intro w hw
  refine List.mem_filter.mpr ⟨?_, List.all_eq_true.mp h2 w hw⟩
  have : some w ∈ pl.map (fun i => big[i]?) := by
    rw [← h1]
    exact List.mem_map.mpr ⟨w, hw, rfl⟩
  obtain ⟨j, -, hj⟩ := List.mem_map.mp this
  exact List.mem_of_getElem? hj
/-- what else the classes must show -/
def s_SD (S : s_SG) : Prop := (∀ t ∈ s_rk S, 0 < s_N S t) ∧ (∀ c k, k < s_N S c → defaultValue (s_ty S c k) = if s_kd (s_ty S c k) = 2 then .null else .int 0)
section RNS
variable {p : Program} {l : Launch} {e : Env} {R : Room} {s : State} {m : MethodId} {args : Array Value} {below : List Frame} {meth : Method} {c : Code} {Q : State → Prop}
variable {S : s_SG} {G : s_DG} {MT : sMT} {big : List Jvm.Cond} {host : String} {r : sM} {N0 M0 : Nat} {L st : List Value} {h : sHp} {q : sC}
theorem s_mem1 {a : Jvm.Cond} {l : List Jvm.Cond} : a ∈ a :: l := List.mem_cons_self
/-- ONE STEP -/
theorem s_one {ev : sE} (C : s_Cx S G (s_TW big) p s m args meth c r) (SK : s_SOK S (s_TW big)) (SD : s_SD S) (hck : s_chk S MT big host r ev = true) (hRf : s_fr r ≤ R.frames) (hRl : s_lo r ≤ R.locals) (hsz : s.heap.size = s_B G + (N0 - 4)) (hN : 4 ≤ N0) (hN2 : N0 ≤ h.2.2.length) (hM2 : M0 ≤ s_sz S h.2.2) (hroom : q.2.2.2.2.2.length - N0 ≤ R.cells ∧ s_sz S q.2.2.2.2.2 - M0 ≤ R.slots)
    (hs : s_x ev.2.1 ev.1 ev.2.2.1 L st h = some q) (k : s_W S G p l e R s m args below meth c Q N0 M0 q.1 q.2.1 q.2.2.1 q.2.2.2) : s_W S G p l e R s m args below meth c Q N0 M0 ev.1 L st h := by
  obtain ⟨pc, i, n, idx, pl⟩ := ev
  unfold s_chk at hck
  simp only [Bool.and_eq_true, decide_eq_true_eq, Bool.or_eq_true] at hck
  obtain ⟨⟨⟨⟨⟨hdg, hln⟩, hw1⟩, hw2⟩, hsd⟩, hso⟩ := hck
  have hw := s_wds_in hw1 hw2
  have hts := C.2.2.2.2.1
  have hI := C.2.2.2.2.2.1
  clear hw1 hw2
  dsimp only at hs hdg hln hw hsd hso ⊢
  cases i with
  | iconst v => exact s_d_iconst C hdg (hln.resolve_left (Nat.succ_ne_zero _)) hs k
  | bipush v => exact s_d_bipush C hdg (hln.resolve_left (Nat.succ_ne_zero _)) hs k
  | sipush v => exact s_d_sipush C hdg (hln.resolve_left (Nat.succ_ne_zero _)) hs k
  | ldc v => exact s_d_ldc C (hts _ (hw _ s_mem1)) hdg (hln.resolve_left (Nat.succ_ne_zero _)) hs k
  | ldc_w v => exact s_d_ldcw C (hts _ (hw _ s_mem1)) hdg (hln.resolve_left (Nat.succ_ne_zero _)) hs k
  | ldc2_w v => exact s_d_ldc2 C (hts _ (hw _ s_mem1)) hdg (hln.resolve_left (Nat.succ_ne_zero _)) hs k
  | ret v => exact s_d_ldcf C (hts _ (hw _ s_mem1)) hdg (hln.resolve_left (Nat.succ_ne_zero _)) hs k
  | multianewarray v z => exact s_d_ldcwf C (hts _ (hw _ s_mem1)) hdg (hln.resolve_left (Nat.succ_ne_zero _)) hs k
  | putstatic v => exact s_d_ldc2d C (hts _ (hw _ s_mem1)) hdg (hln.resolve_left (Nat.succ_ne_zero _)) hs k
  | lconst v => exact s_d_lconst C hdg (hln.resolve_left (Nat.succ_ne_zero _)) hs k
  | fconst v => exact s_d_fconst C hdg (hln.resolve_left (Nat.succ_ne_zero _)) hs k
  | dconst v => exact s_d_dconst C hdg (hln.resolve_left (Nat.succ_ne_zero _)) hs k
  | aconst_null => exact s_d_null C hdg (hln.resolve_left (Nat.succ_ne_zero _)) hs k
  | iload_n v => exact s_d_iload_n C hdg (hln.resolve_left (Nat.succ_ne_zero _)) hs k
  | iload v => exact s_d_iload C hdg (hln.resolve_left (Nat.succ_ne_zero _)) hs k
  | lload_n v => exact s_d_lload_n C hdg (hln.resolve_left (Nat.succ_ne_zero _)) hs k
  | lload v => exact s_d_lload C hdg (hln.resolve_left (Nat.succ_ne_zero _)) hs k
  | fload_n v => exact s_d_fload_n C hdg (hln.resolve_left (Nat.succ_ne_zero _)) hs k
  | dload_n v => exact s_d_dload_n C hdg (hln.resolve_left (Nat.succ_ne_zero _)) hs k
  | aload_n v => exact s_d_aload_n C hdg (hln.resolve_left (Nat.succ_ne_zero _)) hs k
  | aload v => exact s_d_aload C hdg (hln.resolve_left (Nat.succ_ne_zero _)) hs k
  | istore_n v => exact s_d_istore_n C hdg (hln.resolve_left (Nat.succ_ne_zero _)) hs k
  | istore v => exact s_d_istore C hdg (hln.resolve_left (Nat.succ_ne_zero _)) hs k
  | fstore_n v => exact s_d_fstore_n C hdg (hln.resolve_left (Nat.succ_ne_zero _)) hs k
  | lstore_n v => exact s_d_lstore_n C hdg (hln.resolve_left (Nat.succ_ne_zero _)) hs k
  | lstore v => exact s_d_lstore C hdg (hln.resolve_left (Nat.succ_ne_zero _)) hs k
  | dstore_n v => exact s_d_dstore_n C hdg (hln.resolve_left (Nat.succ_ne_zero _)) hs k
  | astore_n v => exact s_d_astore_n C hdg (hln.resolve_left (Nat.succ_ne_zero _)) hs k
  | astore v => exact s_d_astore C hdg (hln.resolve_left (Nat.succ_ne_zero _)) hs k
  | iinc v w => exact s_d_iinc C hdg (hln.resolve_left (Nat.succ_ne_zero _)) hs k
  | dup => exact s_d_dup C hdg (hln.resolve_left (Nat.succ_ne_zero _)) hs k
  | pop => exact s_d_pop C hdg (hln.resolve_left (Nat.succ_ne_zero _)) hs k
  | dup2 => exact s_d_dup2 C hdg (hln.resolve_left (Nat.succ_ne_zero _)) hs k
  | iadd => exact s_d_iadd C hdg (hln.resolve_left (Nat.succ_ne_zero _)) hs k
  | isub => exact s_d_isub C hdg (hln.resolve_left (Nat.succ_ne_zero _)) hs k
  | imul => exact s_d_imul C hdg (hln.resolve_left (Nat.succ_ne_zero _)) hs k
  | iand => exact s_d_iand C hdg (hln.resolve_left (Nat.succ_ne_zero _)) hs k
  | ior => exact s_d_ior C hdg (hln.resolve_left (Nat.succ_ne_zero _)) hs k
  | ishl => exact s_d_ishl C hdg (hln.resolve_left (Nat.succ_ne_zero _)) hs k
  | idiv => exact s_d_idiv C hdg (hln.resolve_left (Nat.succ_ne_zero _)) hs k
  | ladd => exact s_d_ladd C hdg (hln.resolve_left (Nat.succ_ne_zero _)) hs k
  | lsub => exact s_d_lsub C hdg (hln.resolve_left (Nat.succ_ne_zero _)) hs k
  | land => exact s_d_land C hdg (hln.resolve_left (Nat.succ_ne_zero _)) hs k
  | lor => exact s_d_lor C hdg (hln.resolve_left (Nat.succ_ne_zero _)) hs k
  | lshl => exact s_d_lshl C hdg (hln.resolve_left (Nat.succ_ne_zero _)) hs k
  | lushr => exact s_d_lushr C hdg (hln.resolve_left (Nat.succ_ne_zero _)) hs k
  | i2l => exact s_d_i2l C hdg (hln.resolve_left (Nat.succ_ne_zero _)) hs k
  | l2i => exact s_d_l2i C hdg (hln.resolve_left (Nat.succ_ne_zero _)) hs k
  | i2f => exact s_d_i2f C hdg (hln.resolve_left (Nat.succ_ne_zero _)) hs k
  | i2d => exact s_d_i2d C hdg (hln.resolve_left (Nat.succ_ne_zero _)) hs k
  | l2d => exact s_d_l2d C hdg (hln.resolve_left (Nat.succ_ne_zero _)) hs k
  | d2l => exact s_d_d2l C hdg (hln.resolve_left (Nat.succ_ne_zero _)) hs k
  | f2i => exact s_d_f2i C hdg (hln.resolve_left (Nat.succ_ne_zero _)) hs k
  | lcmp => exact s_d_lcmp C hdg (hln.resolve_left (Nat.succ_ne_zero _)) hs k
  | fcmp v => exact s_d_fcmp C hdg (hln.resolve_left (Nat.succ_ne_zero _)) hs k
  | dcmp v => exact s_d_dcmp C hdg (hln.resolve_left (Nat.succ_ne_zero _)) hs k
  | fsub => exact s_d_fsub C hdg (hln.resolve_left (Nat.succ_ne_zero _)) hs k
  | fmul => exact s_d_fmul C hdg (hln.resolve_left (Nat.succ_ne_zero _)) hs k
  | fdiv => exact s_d_fdiv C hdg (hln.resolve_left (Nat.succ_ne_zero _)) hs k
  | dsub => exact s_d_dsub C hdg (hln.resolve_left (Nat.succ_ne_zero _)) hs k
  | dmul => exact s_d_dmul C hdg (hln.resolve_left (Nat.succ_ne_zero _)) hs k
  | ddiv => exact s_d_ddiv C hdg (hln.resolve_left (Nat.succ_ne_zero _)) hs k
  | drem => exact s_d_drem C hdg (hln.resolve_left (Nat.succ_ne_zero _)) hs k
  | ifCond cd v =>
    have hv : 0 ≤ v := of_decide_eq_true hsd
    cases cd with
    | eq => exact s_d_if_eq C hv hdg (hln.resolve_left (Nat.succ_ne_zero _)) hs k
    | ne => exact s_d_if_ne C hv hdg (hln.resolve_left (Nat.succ_ne_zero _)) hs k
    | lt => exact s_d_if_lt C hv hdg (hln.resolve_left (Nat.succ_ne_zero _)) hs k
    | ge => exact s_d_if_ge C hv hdg (hln.resolve_left (Nat.succ_ne_zero _)) hs k
    | gt => exact s_d_if_gt C hv hdg (hln.resolve_left (Nat.succ_ne_zero _)) hs k
    | le => exact s_d_if_le C hv hdg (hln.resolve_left (Nat.succ_ne_zero _)) hs k
  | if_icmp cd v =>
    have hv : 0 ≤ v := of_decide_eq_true hsd
    cases cd with
    | eq => exact s_d_icmp_eq C hv hdg (hln.resolve_left (Nat.succ_ne_zero _)) hs k
    | ne => exact s_d_icmp_ne C hv hdg (hln.resolve_left (Nat.succ_ne_zero _)) hs k
    | lt => exact s_d_icmp_lt C hv hdg (hln.resolve_left (Nat.succ_ne_zero _)) hs k
    | ge => exact s_d_icmp_ge C hv hdg (hln.resolve_left (Nat.succ_ne_zero _)) hs k
    | gt => exact s_d_icmp_gt C hv hdg (hln.resolve_left (Nat.succ_ne_zero _)) hs k
    | le => exact s_d_icmp_le C hv hdg (hln.resolve_left (Nat.succ_ne_zero _)) hs k
  | ifnull v => exact s_d_ifnull C (of_decide_eq_true hsd) hdg (hln.resolve_left (Nat.succ_ne_zero _)) hs k
  | ifnonnull v => exact s_d_ifnonnull C (of_decide_eq_true hsd) hdg (hln.resolve_left (Nat.succ_ne_zero _)) hs k
  | goto v => exact s_d_goto C (of_decide_eq_true hsd) hdg (hln.resolve_left (Nat.succ_ne_zero _)) hs k
  | tableswitch d lo hi o =>
    simp only [s_sd, Bool.and_eq_true, decide_eq_true_eq, List.all_eq_true] at hsd
    exact s_d_table C hsd.1 hsd.2 hdg hs k
  | lookupswitch d o =>
    simp only [s_sd, Bool.and_eq_true, decide_eq_true_eq, List.all_eq_true] at hsd
    exact s_d_look C hsd.1 hsd.2 hso hdg hs k
  | getfield ev =>
    simp only [s_sd, Bool.and_eq_true, decide_eq_true_eq] at hsd
    exact s_d_get C SK hsd.1 hsd.2 (hts _ (hw _ s_mem1)) hdg (hln.resolve_left (Nat.succ_ne_zero _)) hs k
  | putfield ev =>
    simp only [s_sd, Bool.and_eq_true, decide_eq_true_eq, Bool.or_eq_true, Bool.not_eq_true'] at hsd
    refine s_d_put C SK hsd.1.1.1 hsd.1.1.2 (fun h2 => ?_) (fun hf => ?_) (hts _ (hw _ s_mem1)) hdg (hln.resolve_left (Nat.succ_ne_zero _)) hs k
    · have h3 := hsd.1.2.resolve_left (fun z => z h2)
      cases ht : s_ty S (ev / 1024) (ev % 1024 / 8) with
      | object nm => exact ⟨nm, Or.inl rfl⟩
      | array t => exact ⟨"", Or.inr ⟨t, rfl⟩⟩
      | _ => rw [ht] at h3; cases h3
    · exact hsd.2.resolve_left (fun z => by rw [hf] at z; cases z)
  | getstatic j => exact s_d_gets C (of_decide_eq_true hsd) (hts _ (hw _ s_mem1)) hdg (hln.resolve_left (Nat.succ_ne_zero _)) hs k
  | instanceof j =>
    simp only [s_sd, Bool.and_eq_true, decide_eq_true_eq] at hsd
    exact s_d_getsN C hsd.1 (hI.2.2.2.2 _ hsd.2) hdg (hln.resolve_left (Nat.succ_ne_zero _)) hs k
  | arraylength => exact s_d_alen C hdg (hln.resolve_left (Nat.succ_ne_zero _)) hs k
  | iaload => exact s_d_iald C hdg (hln.resolve_left (Nat.succ_ne_zero _)) hs k
  | iastore => exact s_d_iast C hdg (hln.resolve_left (Nat.succ_ne_zero _)) hs k
  | aaload => exact s_d_aald C hdg (hln.resolve_left (Nat.succ_ne_zero _)) hs k
  | aastore => exact s_d_aast C SD.1 hdg (hln.resolve_left (Nat.succ_ne_zero _)) hs k
  | new ci =>
    exact s_d_new C SK (SD.2 ci) (of_decide_eq_true hsd) hsz hN hN2 hM2 hroom (hts _ (hw _ s_mem1)) (hts _ (hw _ (List.mem_cons_of_mem _ s_mem1))) (hts _ (hw _ (List.mem_cons_of_mem _ (List.mem_cons_of_mem _ s_mem1)))) hdg (hln.resolve_left (Nat.succ_ne_zero _)) hs k
  | newarray a =>
    have ha : a = .int := of_decide_eq_true hsd
    subst ha
    exact s_d_newa C hsz hN hN2 hM2 hroom (hts _ (hw _ s_mem1)) hdg (hln.resolve_left (Nat.succ_ne_zero _)) hs k
  | anewarray t =>
    simp only [s_sd, Bool.and_eq_true, decide_eq_true_eq] at hsd
    exact s_d_newq C hsd.1 hsz hN hN2 hM2 hroom (hts _ (hw _ s_mem1)) (hI.2.2.2.2 _ hsd.2) hdg (hln.resolve_left (Nat.succ_ne_zero _)) hs k
  | monitorenter =>
    simp only [s_sd, Bool.and_eq_true, decide_eq_true_eq] at hsd
    exact s_d_obj C (by omega) (by omega) (hts _ (hw _ s_mem1)) (hts _ (hw _ (List.mem_cons_of_mem _ s_mem1))) (hts _ (hw _ (List.mem_cons_of_mem _ (List.mem_cons_of_mem _ s_mem1)))) hdg (hln.resolve_left (Nat.succ_ne_zero _)) hs k
  | monitorexit =>
    simp only [s_sd, Bool.and_eq_true, decide_eq_true_eq] at hsd
    exact s_d_acpy C (by omega) (by omega) (hts _ (hw _ s_mem1)) (hts _ (hw _ (List.mem_cons_of_mem _ s_mem1))) (hts _ (hw _ (List.mem_cons_of_mem _ (List.mem_cons_of_mem _ s_mem1)))) (hts _ (hw _ (List.mem_cons_of_mem _ (List.mem_cons_of_mem _ (List.mem_cons_of_mem _ s_mem1))))) hdg (hln.resolve_left (Nat.succ_ne_zero _)) hs k
  | jsr z =>
    simp only [s_sd, Bool.and_eq_true, decide_eq_true_eq] at hsd
    exact s_d_mmax C (by omega) (by omega) hroom (hts _ (hw _ s_mem1)) (hts _ (hw _ (List.mem_cons_of_mem _ s_mem1))) (hts _ (hw _ (List.mem_cons_of_mem _ (List.mem_cons_of_mem _ s_mem1)))) (hts _ (hw _ (List.mem_cons_of_mem _ (List.mem_cons_of_mem _ (List.mem_cons_of_mem _ s_mem1))))) hdg (hln.resolve_left (Nat.succ_ne_zero _)) hs k
  | jsr_w z =>
    simp only [s_sd, Bool.and_eq_true, decide_eq_true_eq] at hsd
    exact s_d_mmin C (by omega) (by omega) hroom (hts _ (hw _ s_mem1)) (hts _ (hw _ (List.mem_cons_of_mem _ s_mem1))) (hts _ (hw _ (List.mem_cons_of_mem _ (List.mem_cons_of_mem _ s_mem1)))) (hts _ (hw _ (List.mem_cons_of_mem _ (List.mem_cons_of_mem _ (List.mem_cons_of_mem _ s_mem1))))) hdg (hln.resolve_left (Nat.succ_ne_zero _)) hs k
  | nop =>
    simp only [s_sd, Bool.and_eq_true, decide_eq_true_eq] at hsd
    exact s_d_d2r C (by omega) (by omega) (hts _ (hw _ s_mem1)) (hts _ (hw _ (List.mem_cons_of_mem _ s_mem1))) (hts _ (hw _ (List.mem_cons_of_mem _ (List.mem_cons_of_mem _ s_mem1)))) (hts _ (hw _ (List.mem_cons_of_mem _ (List.mem_cons_of_mem _ (List.mem_cons_of_mem _ s_mem1))))) hdg (hln.resolve_left (Nat.succ_ne_zero _)) hs k
  | swap =>
    simp only [s_sd, Bool.and_eq_true, decide_eq_true_eq] at hsd
    exact s_d_f2r C (by omega) (by omega) (hts _ (hw _ s_mem1)) (hts _ (hw _ (List.mem_cons_of_mem _ s_mem1))) (hts _ (hw _ (List.mem_cons_of_mem _ (List.mem_cons_of_mem _ s_mem1)))) (hts _ (hw _ (List.mem_cons_of_mem _ (List.mem_cons_of_mem _ (List.mem_cons_of_mem _ s_mem1))))) hdg (hln.resolve_left (Nat.succ_ne_zero _)) hs k
  | _ => cases hs
end RNS
end
section
/-! THE WHOLE RUN -/
theorem s_x_ext {i : Instr} {pc n : Nat} {L st : List Value} {h : sHp} {q : sC} (hs : s_x i pc n L st h = some q) : ∃ l : List (Nat × Nat), q.2.2.2.2.2 = h.2.2 ++ l := by
  have nil : ∀ {z : sHp}, z.2.2 = h.2.2 → ∃ l : List (Nat × Nat), z.2.2 = h.2.2 ++ l := fun e => ⟨[], by rw [e, List.append_nil]⟩
  cases i <;> dsimp only [s_x] at hs <;> (repeat' split at hs) <;> cases hs <;> first | exact nil rfl | exact ⟨_, rfl⟩
theorem s_run_ext {MT : sMT} : ∀ (f k pc : Nat) (L st : List Value) (h : sHp) (o : Option Value × sHp), s_run MT f k pc L st h = some o → ∃ l : List (Nat × Nat), o.2.2.2 = h.2.2 ++ l
  | 0, _, _, _, _, _, _, hr => by cases hr
  | f + 1, k, pc, L, st, h, o, hr => by
    unfold s_run at hr
    split at hr
    · cases hr
    split at hr
    · cases hr
    split at hr
    · split at hr
      · cases hr
      split at hr
      · cases hr
      split at hr
      · cases hr
      next o1 h1 =>
        obtain ⟨l1, e1⟩ := s_run_ext f _ _ _ _ _ _ h1
        obtain ⟨l2, e2⟩ := s_run_ext f _ _ _ _ _ _ hr
        exact ⟨l1 ++ l2, by rw [e2, e1, List.append_assoc]⟩
    · split at hr
      · cases hr; exact ⟨[], by rw [List.append_nil]⟩
      · split at hr
        · cases hr
        next c1 h1 =>
          obtain ⟨l1, e1⟩ := s_x_ext h1
          obtain ⟨l2, e2⟩ := s_run_ext f _ _ _ _ _ _ hr
          exact ⟨l1 ++ l2, by rw [e2, e1, List.append_assoc]⟩
theorem s_sz_le (S : s_SG) : ∀ a b : List (Nat × Nat), s_sz S a ≤ s_sz S (a ++ b)
  | [], b => Nat.zero_le _
  | (0, c) :: a, b => by
    rw [List.cons_append, s_sz, s_sz]
    exact Nat.add_le_add_left (s_sz_le S a b) _
  | (t + 1, c) :: a, b => by
    rw [List.cons_append, s_sz, s_sz]
    exact Nat.add_le_add_left (s_sz_le S a b) _
theorem s_ext_le {S : s_SG} {h h1 : sHp} (he : ∃ l : List (Nat × Nat), h1.2.2 = h.2.2 ++ l) : h.2.2.length ≤ h1.2.2.length ∧ s_sz S h.2.2 ≤ s_sz S h1.2.2 := by
  obtain ⟨l, e⟩ := he
  rw [e]
  exact ⟨by rw [List.length_append]; omega, s_sz_le S _ _⟩
/-- the words that are told one by one stay true -/
def s_nwk : Jvm.Cond → Bool
  | .methodLinkNest _ _ _ _ => true
  | .fieldLinkNest _ _ _ _ _ _ => true
  | .arrayOver (.object _) => true
  | _ => false
theorem s_nw_warm {w : Jvm.Cond} {s U : State} (hk : s_nwk w = true) (hW : s.WarmedH U.vm) (h : va_Nw w s) : va_Nw w U := by
  cases w with
  | methodLinkNest a i x y => exact va_Nw.warmM hW h
  | fieldLinkNest a i b n d y => exact va_Nw.warmF hW h
  | arrayOver ty => cases ty with
    | object C => exact va_AO.moved (C := C) hW.alike h
    | _ => cases hk
  | _ => cases hk
theorem s_In_moved {S : s_SG} {G : s_DG} {s U : State} (hnw : ∀ w ∈ s_nw S, s_nwk w = true) (hW : s.WarmedH U.vm) (hk : ∀ a : Nat, a < s.heap.size → ¬ s_A G a → U.heap[a]? = s.heap[a]?) (h : s_In S G s) : s_In S G U := by
  obtain ⟨h1, h2, h3, h4, h5⟩ := h
  refine ⟨va_K.moved hW.alike h1, fun i hi => ⟨?_, (h2 i hi).2⟩, fun j hj => ⟨(h3 j hj).1, va_Z.moved hW.alike (va_Z.kept (h3 j hj).2 hk)⟩, h4, fun w hw => s_nw_warm (hnw w hw) hW (h5 w hw)⟩
  exact va_T.moved hW.alike (va_T.kept (h2 i hi).1 hk)
def s_Pc (S : s_SG) (G : s_DG) (as : List Value) (h : sHp) : Array Value → State → Prop := fun v U => v = (as.map (s_vc G)).toArray ∧ s_In S G U ∧ s_Wd S G h U.heap ∧ U.heap.size = s_B G + (h.2.2.length - 4)
def s_Qc (S : s_SG) (G : s_DG) (o : Option Value × sHp) : Array Value → State → Outcome → State → Prop := fun _ st oc t => oc = .returned (o.1.map (s_vc G)) ∧ s_Wd S G o.2 t.heap ∧ va_F (s_A G) st t
def s_wsl (big : List Jvm.Cond) (r : sM) : List Jvm.Cond := .code (s_y r) (s_b r) (s_mL r) (s_rt r) :: s_TW big
def s_rm (S : s_SG) (r : sM) (h h1 : sHp) : Room := { frames := s_fr r, cells := h1.2.2.length - h.2.2.length, slots := s_sz S h1.2.2 - s_sz S h.2.2, locals := s_lo r }
def s_Meets (S : s_SG) (G : s_DG) (big : List Jvm.Cond) (l : Launch) (r : sM) (as : List Value) (h : sHp) (o : Option Value × sHp) : Prop :=
  Met l (s_y r) (s_wsl big r) (s_rm S r h o.2) (s_Pc S G as h) (s_Qc S G o) (o.2.2.2.length - h.2.2.length) (s_sz S o.2.2.2 - s_sz S h.2.2) (s_A G)
/-- all that is fixed -/
def s_Fix (S : s_SG) (MT : sMT) (big : List Jvm.Cond) (host : String) : Prop := s_SOK S (s_TW big) ∧ s_SD S ∧ s_Chk S MT big host ∧ ∀ w ∈ s_nw S, s_nwk w = true
def s_MetAt (S : s_SG) (G : s_DG) (MT : sMT) (big : List Jvm.Cond) (l : Launch) (f : Nat) : Prop :=
  ∀ (k : Nat) (r : sM) (cn : Option Nat) (as : List Value) (h : sHp) (o : Option Value × sHp), MT k = some (r, cn) → s_cat as ≤ s_mL r → s_run MT f k 0 (s_ent as (s_mL r)) [] h = some o → s_Meets S G big l r as h o
def s_BodyAt (S : s_SG) (G : s_DG) (MT : sMT) (big : List Jvm.Cond) (l : Launch) (f : Nat) : Prop :=
  ∀ (p : Program) (e : Env) (R : Room) (s : State) (m : MethodId) (args : Array Value) (below : List Frame) (meth : Method) (c : Code) (Q : State → Prop) (k : Nat) (r : sM) (cn : Option Nat) (N0 M0 pc : Nat) (L st : List Value) (h : sHp) (o : Option Value × sHp),
    MT k = some (r, cn) → s_Cx S G (s_TW big) p s m args meth c r → s_run MT f k pc L st h = some o → s_fr r ≤ R.frames → s_lo r ≤ R.locals → s.heap.size = s_B G + (N0 - 4) → 4 ≤ N0 → N0 ≤ h.2.2.length → M0 ≤ s_sz S h.2.2 → o.2.2.2.length - N0 ≤ R.cells ∧ s_sz S o.2.2.2 - M0 ≤ R.slots →
    (∀ (ri : Instr) (pc2 : Nat) (L2 st2 : List Value), decode (s_b r) pc2 = .ok (ri, 1) → s_rx ri (s_rt r) st2 = some o.1 → s_W S G p l e R s m args below meth c Q N0 M0 pc2 L2 st2 o.2) →
    s_W S G p l e R s m args below meth c Q N0 M0 pc L st h
section SDS
variable {S : s_SG} {G : s_DG} {MT : sMT} {big : List Jvm.Cond} {host : String} {l : Launch}
theorem s_cat_sl (G : s_DG) : ∀ as : List Value, (lg_sl (as.map (s_vc G))).length = s_cat as
  | [] => rfl
  | v :: as => by
    have ih := s_cat_sl G as
    unfold lg_sl at ih ⊢
    rw [List.map_cons, List.flatMap_cons, List.length_append, ih, s_vc_cat, s_cat]
    by_cases ht : s_two v = true
    · rw [if_pos ht, if_pos rfl]; rfl
    · rw [if_neg ht, if_neg (by decide)]; rfl
theorem s_ofWF {l : Launch} {y : MethodName} {ws ws' : List Cond} {rm : Room} {Pc : Array Value → State → Prop} {Qc : Array Value → State → Outcome → State → Prop} {mc ms : Nat} {free : Addr → Prop} {cc : ByteArray} {maxL : Nat} {ret : Option FieldType}
    (hy : plainFor y = true) (hw : ws = Cond.code y cc maxL ret :: ws')
    (body : ∀ p e s m args below meth c s₁, BodyLoose p l y (headSpec ws rm) cc maxL ret e s m args below meth c s₁ → c.maxLocals = maxL → Pc args s →
      W p l e (headSpec ws rm).room s m args below meth c s.heap [] 0 0 (MQ below Qc args s mc ms free) (entryFrame m args maxL)) : Met l y ws rm Pc Qc mc ms free := by
  refine MetFree.of_bodySF (code := cc) (maxLocals := maxL) (ret := ret) hy ?_ ?_
  · intro args s m h hn
    obtain ⟨meth, c, h1, h2, h3, h4, h5, h6, -, -⟩ := Cond.code_spec hn (atoms_spec (ws := ws) h _ (by rw [hw]; exact List.mem_cons_self))
    exact ⟨meth, c, h1, h2, h3, h4, h5, h6⟩
  · intro p e s m args below meth c s₁ B hml hP _
    have hh0 : s₁.heap = s.heap := by rw [B.state]; rfl
    obtain ⟨t, a1, o, b1, b2, b3⟩ := body p e s m args below meth c s₁ B hml hP s₁ hh0 (Stand.of_body B)
    exact ⟨t, o, a1, b1, b2, ⟨b3.1, b3.2⟩⟩
theorem s_met_of_body (FX : s_Fix S MT big host) {f : Nat} (hB : s_BodyAt S G MT big l f) : s_MetAt S G MT big l f := by
  intro k r cn as h o hk hcat hrun
  obtain ⟨SK, SD, CK, NW⟩ := FX
  obtain ⟨ck1, ck2, ck3⟩ := CK k r cn hk
  have hext := s_run_ext _ _ _ _ _ _ _ hrun
  have hle := s_ext_le (S := S) hext
  unfold s_Meets
  refine s_ofWF (cc := s_b r) (maxL := s_mL r) (ret := s_rt r) ck2 rfl ?_
  intro p e s m args below meth c s₁ B hml hv
  obtain ⟨rfl, hI, hW, hsz⟩ := hv
  have hts := atoms_spec (ws := s_wsl big r) B.pre
  have hnm : meth.name = (s_y r).name := (name_of_methodNamed B.named B.method).1
  have C : s_Cx S G (s_TW big) p s m (as.map (s_vc G)).toArray meth c r := ⟨B.exec, B.bytes, hml, findClass_of_methodNamed B.named, fun w hw => hts w (List.mem_cons_of_mem _ hw), hI, fun z => hnm.trans z⟩
  have hsl : (lg_sl (as.map (s_vc G))).length ≤ s_mL r := by rw [s_cat_sl]; exact hcat
  have hl := lv_entry (as.map (s_vc G)) (n := s_mL r) hsl
  rw [lg_entry_eq]
  generalize (lg_sl (as.map (s_vc G)) ++ List.replicate (s_mL r - (lg_sl (as.map (s_vc G))).length) Slot.unset).toArray = ls at hl ⊢
  have hL := s_LR_ent (G := G) hsl hl
  have hlen : (s_ent as (s_mL r)).length = c.maxLocals := (s_ent_len G as _ hsl).trans hml.symm
  have key := hB p e (s_rm S r h o.2) s m (as.map (s_vc G)).toArray below meth c (MQ below (s_Qc S G o) (as.map (s_vc G)).toArray s (o.2.2.2.length - h.2.2.length) (s_sz S o.2.2.2 - s_sz S h.2.2) (s_A G)) k r cn h.2.2.length (s_sz S h.2.2) 0 (s_ent as (s_mL r)) [] h o hk C hrun (Nat.le_refl _) (Nat.le_refl _) hsz hW.1 (Nat.le_refl _) (Nat.le_refl _) ⟨Nat.le_refl _, Nat.le_refl _⟩ ?_ hlen s.heap [] ls hW va_S.rf hL
  · rw [Nat.sub_self, Nat.sub_self] at key
    exact key
  · intro ri pc2 L2 st2 hdg hrx hlen2 H locs ls2 hW2 hS2 hL2
    have hx := B.exec
    have hb := B.bytes
    have hr := B.returns
    have hlk := B.notSynchronized
    unfold s_rx at hrx
    split at hrx
    next hrt =>
      rw [hrt] at hr
      have ho : o.1 = none := (Option.some.inj hrx).symm
      exact W.vret hx hb hr (fun t ht hWm => ⟨by rw [ho]; rfl, by rw [ht]; exact hW2, hS2.F ht⟩) hS2.2.2 hdg hlk
    next v hrt =>
      rw [hrt] at hr
      have ho : o.1 = some (.int v) := (Option.some.inj hrx).symm
      exact W.iret (v := v) hx hb hr (fun t ht hWm => ⟨by rw [ho]; rfl, by rw [ht]; exact hW2, hS2.F ht⟩) hS2.2.2 hdg hlk
    next v hrt =>
      split at hrx
      next h01 =>
        rw [hrt] at hr
        have ho : o.1 = some (.int v) := (Option.some.inj hrx).symm
        exact W.zret (v := v) (ty := .boolean) hx hb hr (by rcases h01 with rfl | rfl <;> rfl) (fun t ht hWm => ⟨by rw [ho]; rfl, by rw [ht]; exact hW2, hS2.F ht⟩) hS2.2.2 hdg hlk
      · cases hrx
    next v hrt =>
      rw [hrt] at hr
      have ho : o.1 = some (.long v) := (Option.some.inj hrx).symm
      exact W.lret (v := v) hx hb hr (fun t ht hWm => ⟨by rw [ho]; rfl, by rw [ht]; exact hW2, hS2.F ht⟩) hS2.2.2 hdg hlk
    next nm a hrt =>
      rw [hrt] at hr
      have ho : o.1 = some (.ref a) := (Option.some.inj hrx).symm
      exact W.aret (v := .ref (s_ad G a)) (rt := .object nm) hx hb hr (Or.inl ⟨nm, rfl⟩) (Or.inr ⟨_, rfl⟩) (fun t ht hWm => ⟨by rw [ho]; rfl, by rw [ht]; exact hW2, hS2.F ht⟩) hS2.2.2 hdg hlk
    next nm hrt =>
      rw [hrt] at hr
      have ho : o.1 = some .null := (Option.some.inj hrx).symm
      exact W.aret (v := .null) (rt := .object nm) hx hb hr (Or.inl ⟨nm, rfl⟩) (Or.inl rfl) (fun t ht hWm => ⟨by rw [ho]; rfl, by rw [ht]; exact hW2, hS2.F ht⟩) hS2.2.2 hdg hlk
    · cases hrx
/-- how many cells there are -/
theorem s_size {s T : State} {p : Program} {e : Env} {R : Room} {m : MethodId} {args : Array Value} {below : List Frame} {meth : Method} {c : Code} {H : Heap} {locs : List Loc} {h : sHp} {N0 n1 : Nat} (hI : s_In S G s) (hsz : s.heap.size = s_B G + (N0 - 4)) (hN : 4 ≤ N0) (hN2 : N0 ≤ h.2.2.length) (hW : s_Wd S G h H) (hS : va_S (s_A G) s.heap H locs) (hT : T.heap = H) (X : Stand p l e R s m args below meth c T locs (h.2.2.length - N0) n1) : H.size = s_B G + (h.2.2.length - 4) := by
  have h2 := X.heapSize
  rw [hT] at h2
  have h3 := hS.1
  rcases Nat.lt_or_ge 4 h.2.2.length with z | z
  · have h4 := s_ws_at S G h (a := h.2.2.length - 1) (by omega) (by omega)
    have h5 := (hW.2.1 _ _ h4).lt
    dsimp only at h5
    rw [s_ad_ge hI (by omega)] at h5
    omega
  · omega
theorem s_blind (NW : ∀ w ∈ s_nw S, s_nwk w = true) (as : List Value) (h : sHp) : FrameBlind (s_Pc S G as h) := by
  intro a U g mk hp
  obtain ⟨h1, h2, h3, h4⟩ := hp
  exact ⟨h1, s_In_moved (U := U.calling g mk a) NW (State.WarmedH.refl U) (fun _ _ _ => rfl) h2, h3, h4⟩
/-- behind a call -/
theorem s_call {p : Program} {e : Env} {R : Room} {s : State} {m : MethodId} {args : Array Value} {below : List Frame} {meth : Method} {c : Code} {Q : State → Prop} {N0 M0 pc : Nat} {L rest : List Value} {st0 : List Value} {h : sHp} {o : Option Value × sHp} {H : Heap} {locs : List Loc} {ls : Array Slot} {a : Array Value}
    (hr : va_Run p l e R s m args below meth c H locs (h.2.2.length - N0) (s_sz S h.2.2 - M0) (o.2.2.2.length - h.2.2.length) (s_sz S o.2.2.2 - s_sz S h.2.2) (F0 m pc ls st0) (rest.map (s_vc G)) (s_Qc S G o a) (s_A G)) (hle : h.2.2.length ≤ o.2.2.2.length ∧ s_sz S h.2.2 ≤ s_sz S o.2.2.2) (hN2 : N0 ≤ h.2.2.length) (hM2 : M0 ≤ s_sz S h.2.2)
    (hlen : L.length = c.maxLocals) (hS : va_S (s_A G) s.heap H locs) (hL : s_LR G ls L) (k : s_W S G p l e R s m args below meth c Q N0 M0 (pc + 3) L (o.1.toList ++ rest) o.2) : W p l e R s m args below meth c H locs (h.2.2.length - N0) (s_sz S h.2.2 - M0) Q (F0 m pc ls st0) := by
  intro T hT X
  obtain ⟨v, st₀, t, T', L1, h0, X', hL1, e1, e2, ⟨hv, hW1, hz, hk⟩, st⟩ := hr T hT X
  have hv : v = o.1.map (s_vc G) := Outcome.returned.inj hv
  subst hv
  rw [h0] at hz hk
  rw [← e1] at hz hk hW1
  have hS1 : va_S (s_A G) s.heap T'.heap (locs ++ L1) := ⟨Nat.le_trans hS.1 hz, fun q h1 h2 => by rw [hk q (Nat.lt_of_lt_of_le h1 hS.1) h2]; exact hS.2.1 q h1 h2, fun q hq => by
    rcases List.mem_append.mp hq with h | h
    · exact hS.2.2 q h
    · exact hL1 q h⟩
  have kk := k hlen T'.heap (locs ++ L1) ls hW1 hS1 hL T' rfl (by
    rw [show o.2.2.2.length - N0 = h.2.2.length - N0 + (o.2.2.2.length - h.2.2.length) by omega, show s_sz S o.2.2.2 - M0 = s_sz S h.2.2 - M0 + (s_sz S o.2.2.2 - s_sz S h.2.2) by omega]
    exact X')
  obtain ⟨t2, a1, b1⟩ := kk
  refine ⟨t2, st t2 ?_, b1⟩
  have : (Option.map (s_vc G) o.1).toList ++ rest.map (s_vc G) = (o.1.toList ++ rest).map (s_vc G) := by
    rw [List.map_append]
    cases o.1 <;> rfl
  rw [this]
  exact a1
end SDS
end
section
section BDS
variable {S : s_SG} {G : s_DG} {MT : sMT} {big : List Jvm.Cond} {host : String} {l : Launch}
theorem s_GI {big ws : List Jvm.Cond} (h : ∀ w ∈ ws, w ∈ s_TW big) : GoodIn (s_TW big) ws := fun w hw => ⟨h w hw, good_of_word (s_TW_good big w (h w hw))⟩
theorem s_split (G : s_DG) (st : List Value) (n : Nat) : st.map (s_vc G) = (((st.take n).reverse).map (s_vc G)).reverse ++ (st.drop n).map (s_vc G) := by
  rw [List.map_reverse, List.reverse_reverse, ← List.map_append, List.take_append_drop]
theorem s_rc_0 {cn : Option Nat} {h : sHp} {as : List Value} (c4 : s_rc 0 cn h as = true) : ∃ (a c : Nat) (as2 : List Value), as = .ref a :: as2 ∧ s_nth h.2.2 a = some (0, c) ∧ cn = some c := by
  simp only [s_rc] at c4
  split at c4
  next a as2 =>
    split at c4
    next cc c2 heq =>
      have hcc : cc = c2 := Nat.eq_of_beq_eq_true c4
      subst hcc
      exact ⟨_, _, _, rfl, heq, rfl⟩
    · cases c4
  · cases c4
theorem s_rc_2 {cn : Option Nat} {h : sHp} {as : List Value} (c4 : s_rc 2 cn h as = true ∨ s_rc 3 cn h as = true) : ∃ (a : Nat) (as2 : List Value), as = .ref a :: as2 := by
  simp only [s_rc, or_self] at c4
  split at c4
  next a as2 => exact ⟨_, _, rfl⟩
  · cases c4
theorem s_body_succ (FX : s_Fix S MT big host) {f : Nat} (hM : s_MetAt S G MT big l f) (hB : s_BodyAt S G MT big l f) : s_BodyAt S G MT big l (f + 1) := by
  intro p e R s m args below meth c Q k r cn N0 M0 pc L st h o hk C hrun hRf hRl hsz hN hN2 hM2 hroom K
  have FX0 := FX
  obtain ⟨SK, SD, CK, NW⟩ := FX
  unfold s_run at hrun
  rw [hk] at hrun
  dsimp only at hrun
  split at hrun
  · cases hrun
  next ev hat =>
  obtain ⟨hmem, hpc⟩ := s_at_mem hat
  subst hpc
  have hck := (CK k r cn hk).1 ev hmem
  split at hrun
  next q hci =>
    split at hrun
    · cases hrun
    next r2p hk2 =>
    split at hrun
    · cases hrun
    next hcond =>
    split at hrun
    · cases hrun
    next o1 h1 =>
    obtain ⟨r2, cn2⟩ := r2p
    dsimp only at hrun h1 hcond
    simp only [not_or, Nat.not_lt, Bool.not_eq_false] at hcond
    obtain ⟨c1, c2, c3, c4⟩ := hcond
    have hle := s_ext_le (S := S) (s_run_ext _ _ _ _ _ _ _ h1)
    have hle2 := s_ext_le (S := S) (s_run_ext _ _ _ _ _ _ _ hrun)
    have Mt := hM q.2 r2 cn2 _ h o1 hk2 c2 h1
    have kk := hB p e R s m args below meth c Q k r cn N0 M0 (ev.1 + 3) L _ o1.2 o hk C hrun hRf hRl hsz hN (Nat.le_trans hN2 hle.1) (Nat.le_trans hM2 hle.2) hroom K
    intro hlen H locs ls hW hS hL T hT X
    have hI := C.2.2.2.2.2.1
    have hsize := s_size hI hsz hN hN2 hW hS hT X
    refine (?_ : W p l e R s m args below meth c H locs (h.2.2.length - N0) (s_sz S h.2.2 - M0) Q (F0 m ev.1 ls (st.map (s_vc G)))) T hT X
    have hx := C.1
    have hb := C.2.1
    have hml := C.2.2.1
    have hown := C.2.2.2.1
    have hts := C.2.2.2.2.1
    have hcat : ((List.map (s_vc G) (st.drop (s_na r2))).map fun v => v.category).sum ≤ 8 := by rw [s_cat_sum]; exact c3
    have hlsz : ls.size = s_mL r := by rw [hL.1, hlen, hml]
    have hpre : ∀ U : State, U.heap = H → s.WarmedH U.vm → s_Pc S G (st.take (s_na r2)).reverse h ((st.take (s_na r2)).reverse.map (s_vc G)).toArray U := fun U hU hWm =>
      ⟨rfl, s_In_moved NW hWm (fun a ha hna => by rw [hU]; exact hS.2.1 a ha hna) hI, by rw [hU]; exact hW, by rw [hU]; exact hsize⟩
    have hfit : h.2.2.length - N0 + (o1.2.2.2.length - h.2.2.length) ≤ R.cells ∧ s_sz S h.2.2 - M0 + (s_sz S o1.2.2.2 - s_sz S h.2.2) ≤ R.slots := by omega
    have hstk := s_split G st (s_na r2)
    unfold s_chk at hck
    simp only [Bool.and_eq_true, decide_eq_true_eq, Bool.or_eq_true] at hck
    obtain ⟨⟨⟨⟨⟨hdg, hln⟩, hw1⟩, hw2⟩, hsd⟩, hso⟩ := hck
    have hw := s_wds_in hw1 hw2
    clear hw1 hw2 hso
    obtain ⟨pc, i, n, idx, pl⟩ := ev
    dsimp only at hdg hln hw hsd hci kk ⊢
    have hlt : (st.take (s_na r2)).reverse.length = s_na r2 := by rw [List.length_reverse, List.length_take]; omega
    generalize hasE : (st.take (s_na r2)).reverse = as at *
    generalize hrsE : st.drop (s_na r2) = rest at *
    cases i with
    | invokevirtual k2 =>
      cases hci
      have hn3 : n = 3 := hln.resolve_left (Nat.succ_ne_zero _)
      subst hn3
      dsimp only at hk2 c4
      dsimp only [s_sd] at hsd
      dsimp only [s_wds, s_wc] at hw
      rw [hk2] at hsd hw
      dsimp only at hsd hw
      obtain ⟨a, cc, as2, rfl, heq, rfl⟩ := s_rc_0 c4
      simp only [s_okc, Bool.and_eq_true, decide_eq_true_eq] at hsd
      obtain ⟨⟨⟨hna, ⟨⟨⟨⟨hf1, hf2⟩, hy1⟩, hy2⟩, hd⟩, -⟩, hcn⟩, hc0⟩ := hsd
      obtain ⟨g1, g2, g3⟩ := s_Wd_len hW heq
      have g4 := g3 (by decide)
      have g5 := s_ws_at S G h g4 g2
      rw [s_cell_o g1] at g5
      obtain ⟨qc, e1, e2, e3, e4⟩ := s_cl_of hc0
      have hrecv := va_recv hI.1 hW.2.1 e1 g5
      rw [← e4, hcn] at hrecv
      refine s_call (o := o1) (rest := rest) (a := ((Value.ref a :: as2).map (s_vc G)).toArray) ?_ hle hN2 hM2 hlen hS hL kk
      exact va_runV (C := (s_y r2).cls) (b := s_ad G a) (As := as2.map (s_vc G)) (rest := rest.map (s_vc G)) (g := F0 m pc ls (st.map (s_vc G))) (Ts := s_TW big) (n := s_na r2 - 1) ⟨hx, hb, hml, hown, hts⟩ Mt (cwV (s_na r2 - 1) hts (s_GI (fun w hq => by
        rcases List.mem_append.mp hq with z | z
        · refine hw w ?_
          simp only [List.mem_cons, List.not_mem_nil, or_false] at z ⊢
          rcases z with z | z | z | z <;> simp [z]
        · rcases List.mem_cons.mp z with z | z
          · refine hw w ?_
            simp [z]
          · exact z)) rfl rfl rfl ⟨rfl, hy1, hy2, hd⟩ ⟨by show s_fr r2 + 1 ≤ _; omega, by show _ + _ + s_lo r2 ≤ _; omega⟩) ⟨s_blind NW _ h, hrecv, hpre⟩ rfl (by rw [List.length_map]; simp only [List.length_cons] at hlt; omega) hlsz (by show st.map (s_vc G) = _; rw [hstk]; simp [s_vc]) (lv_room hcat) hdg hfit
    | invokestatic k2 =>
      cases hci
      have hn3 : n = 3 := hln.resolve_left (Nat.succ_ne_zero _)
      subst hn3
      dsimp only at hk2 c4
      dsimp only [s_sd] at hsd
      dsimp only [s_wds, s_wc] at hw
      rw [hk2] at hsd hw
      dsimp only at hsd hw
      simp only [s_okc, Bool.and_eq_true, decide_eq_true_eq] at hsd
      obtain ⟨⟨⟨⟨⟨hf1, hf2⟩, hy1⟩, hy2⟩, hd⟩, -⟩ := hsd
      refine s_call (o := o1) (rest := rest) (a := (as.map (s_vc G)).toArray) ?_ hle hN2 hM2 hlen hS hL kk
      exact va_runS (As := as.map (s_vc G)) (rest := rest.map (s_vc G)) (g := F0 m pc ls (st.map (s_vc G))) (Ts := s_TW big) (n := s_na r2) ⟨hx, hb, hml, hown, hts⟩ Mt (va_cwS (s_na r2) hts (s_GI (fun w hq => by
            rcases List.mem_append.mp hq with z | z
            · refine hw w ?_
              simp only [List.mem_cons, List.not_mem_nil, or_false] at z ⊢
              rcases z with z | z | z <;> simp [z]
            · rcases List.mem_cons.mp z with z | z
              · refine hw w ?_
                simp [z]
              · exact z)) rfl rfl rfl ⟨hy1, hy2, hd⟩ ⟨by show s_fr r2 + 1 ≤ _; omega, by show _ + _ + s_lo r2 ≤ _; omega⟩) ⟨s_blind NW _ h, hpre⟩ rfl (by rw [List.length_map]; exact hlt) hlsz hstk (lv_room hcat) hdg hfit
    | invokespecial k2 =>
      cases hci
      have hn3 : n = 3 := hln.resolve_left (Nat.succ_ne_zero _)
      subst hn3
      dsimp only at hk2 c4
      dsimp only [s_sd] at hsd
      dsimp only [s_wds, s_wc] at hw
      rw [hk2] at hsd hw
      dsimp only at hsd hw
      obtain ⟨a, as2, rfl⟩ := s_rc_2 (Or.inl c4)
      simp only [s_okc, Bool.and_eq_true, decide_eq_true_eq, Bool.or_eq_true, Bool.not_true, Bool.false_eq_true, false_or] at hsd
      obtain ⟨hna, ⟨⟨⟨⟨hf1, hf2⟩, hy1⟩, hy2⟩, hd⟩, hin1, hin2⟩ := hsd
      rw [hin2] at hw
      have Mt2 : Met l (s_y r2) (.code (s_y r2) (s_b r2) (s_mL r2) none :: s_TW big) (s_rm S r2 h o1.2) (s_Pc S G (.ref a :: as2) h) (s_Qc S G o1) (o1.2.2.2.length - h.2.2.length) (s_sz S o1.2.2.2 - s_sz S h.2.2) (s_A G) := by
        have := Mt
        unfold s_Meets s_wsl at this
        rw [hin2] at this
        exact this
      refine s_call (o := o1) (rest := rest) (a := ((Value.ref a :: as2).map (s_vc G)).toArray) ?_ hle hN2 hM2 hlen hS hL kk
      exact va_runI (b := s_ad G a) (As := as2.map (s_vc G)) (rest := rest.map (s_vc G)) (g := F0 m pc ls (st.map (s_vc G))) (Ts := s_TW big) (n := s_na r2 - 1) ⟨hx, hb, hml, hown, hts⟩ Mt2 (cwI (s_na r2 - 1) hts (s_GI (fun w z => by
          rcases List.mem_cons.mp z with z | z
          · refine hw w ?_
            simp [z]
          · exact z)) rfl rfl rfl (hts _ (hw _ (by simp))) (hts _ (hw _ (by simp))) (hts _ (hw _ (by simp))) hin1 ⟨hy1, hy2, hd⟩ ⟨by show s_fr r2 + 1 ≤ _; omega, by show _ + _ + s_lo r2 ≤ _; omega⟩) ⟨s_blind NW _ h, hpre⟩ rfl (by rw [List.length_map]; simp only [List.length_cons] at hlt; omega) hlsz (by show st.map (s_vc G) = _; rw [hstk]; simp [s_vc]) (lv_room hcat) hdg hfit
    | invokeinterface k2 z2 =>
      cases hci
      have hn3 : n = 3 := hln.resolve_left (Nat.succ_ne_zero _)
      subst hn3
      dsimp only at hk2 c4
      dsimp only [s_sd] at hsd
      dsimp only [s_wds, s_wc] at hw
      rw [hk2] at hsd hw
      dsimp only at hsd hw
      obtain ⟨a, as2, rfl⟩ := s_rc_2 (Or.inr c4)
      simp only [s_okc, Bool.and_eq_true, decide_eq_true_eq, Bool.or_eq_true, Bool.not_true, Bool.false_eq_true, false_or] at hsd
      obtain ⟨⟨hna, ⟨⟨⟨⟨hf1, hf2⟩, hy1⟩, hy2⟩, hd⟩, hin1, hin2⟩, hnw⟩ := hsd
      rw [hin2] at hw
      have Mt2 : Met l (s_y r2) (.code (s_y r2) (s_b r2) (s_mL r2) none :: s_TW big) (s_rm S r2 h o1.2) (s_Pc S G (.ref a :: as2) h) (s_Qc S G o1) (o1.2.2.2.length - h.2.2.length) (s_sz S o1.2.2.2 - s_sz S h.2.2) (s_A G) := by
        have := Mt
        unfold s_Meets s_wsl at this
        rw [hin2] at this
        exact this
      refine s_call (o := o1) (rest := rest) (a := ((Value.ref a :: as2).map (s_vc G)).toArray) ?_ hle hN2 hM2 hlen hS hL kk
      exact va_runIN (host := host) (b := s_ad G a) (As := as2.map (s_vc G)) (rest := rest.map (s_vc G)) (g := F0 m pc ls (st.map (s_vc G))) (Ts := s_TW big) (n := s_na r2 - 1) ⟨hx, hb, hml, hown, hts⟩ Mt2 ⟨va_cnB (s_na r2 - 1) hts (s_GI (fun w z => by
          rcases List.mem_cons.mp z with z | z
          · refine hw w ?_
            simp [z]
          · exact z)) rfl rfl rfl (hI.2.2.2.2 _ hnw) (hts _ (hw _ (by simp))) ⟨hy1, hy2, hd⟩ ⟨by show s_fr r2 + 1 ≤ _; omega, by show _ + _ + s_lo r2 ≤ _; omega⟩, hin1, hts _ (hw _ (by simp))⟩ ⟨s_blind NW _ h, hpre⟩ rfl (by rw [List.length_map]; simp only [List.length_cons] at hlt; omega) hlsz (by show st.map (s_vc G) = _; rw [hstk]; simp [s_vc]) (lv_room hcat) hdg hfit
    | _ => cases hci
  next hci =>
    split at hrun
    next v hrx =>
      cases hrun
      have hdg : decode (s_b r) ev.1 = .ok (ev.2.1, 1) := by
        unfold s_chk at hck
        simp only [Bool.and_eq_true, decide_eq_true_eq, Bool.or_eq_true] at hck
        obtain ⟨⟨⟨⟨⟨hdg, hln⟩, -⟩, -⟩, -⟩, -⟩ := hck
        obtain ⟨pc, i, n, idx, pl⟩ := ev
        dsimp only at hdg hln hrx ⊢
        unfold s_rx at hrx
        split at hrx <;> first
          | (cases hrx; done)
          | (have hn : n = 1 := hln.resolve_left (Nat.succ_ne_zero _)
             subst hn
             exact hdg)
      exact K ev.2.1 ev.1 L st hdg hrx
    next hrx =>
      split at hrun
      · cases hrun
      next q hx1 =>
      have hle2 := s_ext_le (S := S) (s_run_ext _ _ _ _ _ _ _ hrun)
      have hle := s_ext_le (S := S) (s_x_ext hx1)
      have kk := hB p e R s m args below meth c Q k r cn N0 M0 q.1 q.2.1 q.2.2.1 q.2.2.2 o hk C hrun hRf hRl hsz hN (Nat.le_trans hN2 hle.1) (Nat.le_trans hM2 hle.2) hroom K
      exact s_one C SK SD hck hRf hRl hsz hN hN2 hM2 ⟨by omega, by omega⟩ hx1 kk
/-- THE SMALL MACHINE IS RIGHT -/
theorem s_body (FX : s_Fix S MT big host) : ∀ f : Nat, s_BodyAt S G MT big l f
  | 0 => fun p e R s m args below meth c Q k r cn N0 M0 pc L st h o hk C hrun => by cases hrun
  | f + 1 => s_body_succ FX (s_met_of_body FX (s_body FX f)) (s_body FX f)
end BDS
end
section
/-! THE METHODS, printed by wip/whole/gen/tabs.py: pc, instruction with its links resolved, length, pool index, places of its words in lw_tbl -/
def s_S : s_SG := (s_vw, s_tyf, s_rkl, s_snf, 3, s_nwl)
/-- LeaningTrees$History.<init>()V -/
def s_m0 : sM := (yX0_init, cX0_init, 2, none, 1, 3, 68, [(0, .aload_n 0, 1, 0, []), (1, .monitorenter, 3, 3, [151, 76, 77]), (4, .aload_n 0, 1, 0, []), (5, .bipush 6, 2, 0, []), (7, .anewarray 5, 3, 9, [152]), (10, .putfield 2, 3, 11, [155]), (13, .iconst 0, 1, 0, []), (14, .istore_n 1, 1, 0, []), (15, .iload_n 1, 1, 0, []), (16, .aload_n 0, 1, 0, []), (17, .getfield 2, 3, 11, [155]), (20, .arraylength, 1, 0, []), (21, .if_icmp .ge 43, 3, 0, []), (24, .aload_n 0, 1, 0, []), (25, .getfield 2, 3, 11, [155]), (28, .iload_n 1, 1, 0, []), (29, .new 5, 3, 9, [152, 79, 59]), (32, .dup, 1, 0, []), (33, .invokespecial 28, 3, 17, [154, 81, 59, 82]), (36, .aastore, 1, 0, []), (37, .iinc 1 1, 3, 0, []), (40, .goto 15, 3, 0, []), (43, .return_, 1, 0, [])])
/-- LeaningTrees$History.keep(LLeaningTrees$Tree;)V -/
def s_m1 : sM := (yX0_keep, cX0_keep, 3, none, 2, 3, 68, [(0, .aload_n 0, 1, 0, []), (1, .getfield 8, 3, 18, [156]), (4, .aload_n 0, 1, 0, []), (5, .getfield 2, 3, 11, [155]), (8, .arraylength, 1, 0, []), (9, .if_icmp .lt 16, 3, 0, []), (12, .aload_n 0, 1, 0, []), (13, .invokevirtual 3, 3, 22, [251, 253, 0, 61, 254]), (16, .aload_n 0, 1, 0, []), (17, .aload_n 0, 1, 0, []), (18, .getfield 8, 3, 18, [156]), (21, .invokevirtual 4, 3, 25, [255, 257, 1, 61, 258]), (24, .astore_n 2, 1, 0, []), (25, .aload_n 2, 1, 0, []), (26, .ifnull 44, 3, 0, []), (29, .aload_n 2, 1, 0, []), (30, .aload_n 1, 1, 0, []), (31, .invokevirtual 29, 3, 29, [259, 260, 261, 59, 262]), (34, .aload_n 0, 1, 0, []), (35, .dup, 1, 0, []), (36, .getfield 8, 3, 18, [156]), (39, .iconst 1, 1, 0, []), (40, .iadd, 1, 0, []), (41, .putfield 8, 3, 18, [156]), (44, .return_, 1, 0, [])])
/-- LeaningTrees$History.takeBackInto(LLeaningTrees$Tree;)Z -/
def s_m2 : sM := (yX0_takeBackInto, cX0_takeBackInto, 3, (some .boolean), 2, 3, 68, [(0, .aload_n 0, 1, 0, []), (1, .aload_n 0, 1, 0, []), (2, .getfield 8, 3, 18, [156]), (5, .iconst 1, 1, 0, []), (6, .isub, 1, 0, []), (7, .invokevirtual 4, 3, 25, [255, 257, 1, 61, 258]), (10, .astore_n 2, 1, 0, []), (11, .aload_n 2, 1, 0, []), (12, .ifnonnull 17, 3, 0, []), (15, .iconst 0, 1, 0, []), (16, .ireturn, 1, 0, []), (17, .aload_n 1, 1, 0, []), (18, .aload_n 2, 1, 0, []), (19, .invokevirtual 29, 3, 29, [259, 260, 261, 59, 262]), (22, .aload_n 0, 1, 0, []), (23, .dup, 1, 0, []), (24, .getfield 8, 3, 18, [156]), (27, .iconst 1, 1, 0, []), (28, .isub, 1, 0, []), (29, .putfield 8, 3, 18, [156]), (32, .iconst 1, 1, 0, []), (33, .ireturn, 1, 0, [])])
/-- LeaningTrees$History.turn()V -/
def s_m3 : sM := (yX0_turn, cX0_turn, 3, none, 1, 1, 21, [(0, .aload_n 0, 1, 0, []), (1, .iconst 0, 1, 0, []), (2, .invokevirtual 4, 3, 25, [255, 257, 1, 61, 258]), (5, .astore_n 1, 1, 0, []), (6, .iconst 1, 1, 0, []), (7, .istore_n 2, 1, 0, []), (8, .iload_n 2, 1, 0, []), (9, .aload_n 0, 1, 0, []), (10, .getfield 2, 3, 11, [155]), (13, .arraylength, 1, 0, []), (14, .if_icmp .ge 37, 3, 0, []), (17, .aload_n 0, 1, 0, []), (18, .getfield 2, 3, 11, [155]), (21, .iload_n 2, 1, 0, []), (22, .iconst 1, 1, 0, []), (23, .isub, 1, 0, []), (24, .aload_n 0, 1, 0, []), (25, .getfield 2, 3, 11, [155]), (28, .iload_n 2, 1, 0, []), (29, .aaload, 1, 0, []), (30, .aastore, 1, 0, []), (31, .iinc 2 1, 3, 0, []), (34, .goto 8, 3, 0, []), (37, .aload_n 0, 1, 0, []), (38, .aload_n 0, 1, 0, []), (39, .getfield 2, 3, 11, [155]), (42, .arraylength, 1, 0, []), (43, .iconst 1, 1, 0, []), (44, .isub, 1, 0, []), (45, .putfield 8, 3, 18, [156]), (48, .aload_n 0, 1, 0, []), (49, .getfield 8, 3, 18, [156]), (52, .ifCond .lt 65, 3, 0, []), (55, .aload_n 0, 1, 0, []), (56, .getfield 2, 3, 11, [155]), (59, .aload_n 0, 1, 0, []), (60, .getfield 8, 3, 18, [156]), (63, .aload_n 1, 1, 0, []), (64, .aastore, 1, 0, []), (65, .return_, 1, 0, [])])
/-- LeaningTrees$History.stateAt(I)LLeaningTrees$Tree; -/
def s_m4 : sM := (yX0_stateAt, cX0_stateAt, 2, (some (.object "LeaningTrees$Tree")), 2, 0, 0, [(0, .iload_n 1, 1, 0, []), (1, .ifCond .lt 22, 3, 0, []), (4, .iload_n 1, 1, 0, []), (5, .aload_n 0, 1, 0, []), (6, .getfield 2, 3, 11, [155]), (9, .arraylength, 1, 0, []), (10, .if_icmp .ge 22, 3, 0, []), (13, .aload_n 0, 1, 0, []), (14, .getfield 2, 3, 11, [155]), (17, .iload_n 1, 1, 0, []), (18, .aaload, 1, 0, []), (19, .goto 23, 3, 0, []), (22, .aconst_null, 1, 0, []), (23, .areturn, 1, 0, [])])
/-- LeaningTrees$OrderReader.<init>()V -/
def s_m5 : sM := (yX1_init, cX1_init, 1, none, 1, 1, 26, [(0, .aload_n 0, 1, 0, []), (1, .monitorenter, 3, 3, [187, 76, 77]), (4, .return_, 1, 0, [])])
/-- LeaningTrees$OrderReader.begin()V -/
def s_m6 : sM := (yX1_begin, cX1_begin, 1, none, 1, 0, 0, [(0, .aload_n 0, 1, 0, []), (1, .iconst 0, 1, 0, []), (2, .putfield 1032, 3, 11, [190]), (5, .return_, 1, 0, [])])
/-- LeaningTrees$OrderReader.takes(I)Z -/
def s_m7 : sM := (yX1_takes, cX1_takes, 2, (some .boolean), 2, 2, 42, [(0, .aload_n 0, 1, 0, []), (1, .getfield 1032, 3, 11, [190]), (4, .lookupswitch 44 #[(0, 32), (1, 38)], 28, 0, []), (32, .aload_n 0, 1, 0, []), (33, .iload_n 1, 1, 0, []), (34, .invokevirtual 11, 3, 15, [524, 526, 12, 63, 527]), (37, .ireturn, 1, 0, []), (38, .aload_n 0, 1, 0, []), (39, .iload_n 1, 1, 0, []), (40, .invokevirtual 12, 3, 19, [528, 530, 13, 63, 531]), (43, .ireturn, 1, 0, []), (44, .aload_n 0, 1, 0, []), (45, .iload_n 1, 1, 0, []), (46, .invokevirtual 13, 3, 22, [535, 537, 14, 63, 538]), (49, .ifCond .ne 68, 3, 0, []), (52, .aload_n 0, 1, 0, []), (53, .iload_n 1, 1, 0, []), (54, .invokevirtual 14, 3, 25, [539, 541, 15, 63, 542]), (57, .ifCond .ne 68, 3, 0, []), (60, .aload_n 0, 1, 0, []), (61, .iload_n 1, 1, 0, []), (62, .invokevirtual 15, 3, 28, [543, 545, 16, 63, 546]), (65, .ifCond .eq 72, 3, 0, []), (68, .iconst 1, 1, 0, []), (69, .goto 73, 3, 0, []), (72, .iconst 0, 1, 0, []), (73, .ireturn, 1, 0, [])])
/-- LeaningTrees$OrderReader.hasWholeOrder()Z -/
def s_m8 : sM := (yX1_hasWholeOrder, cX1_hasWholeOrder, 1, (some .boolean), 1, 0, 0, [(0, .aload_n 0, 1, 0, []), (1, .getfield 1032, 3, 11, [190]), (4, .iconst 2, 1, 0, []), (5, .if_icmp .ne 12, 3, 0, []), (8, .iconst 1, 1, 0, []), (9, .goto 13, 3, 0, []), (12, .iconst 0, 1, 0, []), (13, .ireturn, 1, 0, [])])
/-- LeaningTrees$OrderReader.keyOfOrder()I -/
def s_m9 : sM := (yX1_keyOfOrder, cX1_keyOfOrder, 1, (some .int), 1, 0, 0, [(0, .aload_n 0, 1, 0, []), (1, .getfield 1057, 3, 31, [193]), (4, .ifCond .eq 14, 3, 0, []), (7, .aload_n 0, 1, 0, []), (8, .getfield 1040, 3, 35, [191]), (11, .goto 18, 3, 0, []), (14, .aload_n 0, 1, 0, []), (15, .getfield 1048, 3, 38, [192]), (18, .ireturn, 1, 0, [])])
/-- LeaningTrees$OrderReader.valueOfOrder()I -/
def s_m10 : sM := (yX1_valueOfOrder, cX1_valueOfOrder, 1, (some .int), 1, 0, 0, [(0, .aload_n 0, 1, 0, []), (1, .getfield 1048, 3, 38, [192]), (4, .ireturn, 1, 0, [])])
/-- LeaningTrees$OrderReader.takesSign(I)Z -/
def s_m11 : sM := (yX1_takesSign, cX1_takesSign, 2, (some .boolean), 2, 0, 0, [(0, .iload_n 1, 1, 0, []), (1, .bipush 43, 2, 0, []), (3, .if_icmp .eq 20, 3, 0, []), (6, .iload_n 1, 1, 0, []), (7, .bipush 45, 2, 0, []), (9, .if_icmp .eq 20, 3, 0, []), (12, .iload_n 1, 1, 0, []), (13, .bipush 33, 2, 0, []), (15, .if_icmp .eq 20, 3, 0, []), (18, .iconst 0, 1, 0, []), (19, .ireturn, 1, 0, []), (20, .aload_n 0, 1, 0, []), (21, .iload_n 1, 1, 0, []), (22, .putfield 1024, 3, 41, [188]), (25, .aload_n 0, 1, 0, []), (26, .iconst 0, 1, 0, []), (27, .putfield 1057, 3, 31, [193]), (30, .aload_n 0, 1, 0, []), (31, .iconst 1, 1, 0, []), (32, .putfield 1032, 3, 11, [190]), (35, .iconst 1, 1, 0, []), (36, .ireturn, 1, 0, [])])
/-- LeaningTrees$OrderReader.takesFirstDigit(I)Z -/
def s_m12 : sM := (yX1_takesFirstDigit, cX1_takesFirstDigit, 2, (some .boolean), 2, 1, 20, [(0, .iload_n 1, 1, 0, []), (1, .invokestatic 16, 3, 44, [532, 533, 63, 534]), (4, .ifCond .ne 9, 3, 0, []), (7, .iconst 0, 1, 0, []), (8, .ireturn, 1, 0, []), (9, .aload_n 0, 1, 0, []), (10, .iload_n 1, 1, 0, []), (11, .bipush 48, 2, 0, []), (13, .isub, 1, 0, []), (14, .putfield 1048, 3, 38, [192]), (17, .aload_n 0, 1, 0, []), (18, .iconst 2, 1, 0, []), (19, .putfield 1032, 3, 11, [190]), (22, .iconst 1, 1, 0, []), (23, .ireturn, 1, 0, [])])
/-- LeaningTrees$OrderReader.takesDigit(I)Z -/
def s_m13 : sM := (yX1_takesDigit, cX1_takesDigit, 3, (some .boolean), 2, 1, 20, [(0, .iload_n 1, 1, 0, []), (1, .invokestatic 16, 3, 44, [532, 533, 63, 534]), (4, .ifCond .eq 14, 3, 0, []), (7, .aload_n 0, 1, 0, []), (8, .getfield 1048, 3, 38, [192]), (11, .ifCond .ne 16, 3, 0, []), (14, .iconst 0, 1, 0, []), (15, .ireturn, 1, 0, []), (16, .bipush 10, 2, 0, []), (18, .aload_n 0, 1, 0, []), (19, .getfield 1048, 3, 38, [192]), (22, .imul, 1, 0, []), (23, .iload_n 1, 1, 0, []), (24, .iadd, 1, 0, []), (25, .bipush 48, 2, 0, []), (27, .isub, 1, 0, []), (28, .istore_n 2, 1, 0, []), (29, .iload_n 2, 1, 0, []), (30, .sipush 999, 3, 0, []), (33, .if_icmp .le 38, 3, 0, []), (36, .iconst 0, 1, 0, []), (37, .ireturn, 1, 0, []), (38, .aload_n 0, 1, 0, []), (39, .iload_n 2, 1, 0, []), (40, .putfield 1048, 3, 38, [192]), (43, .iconst 1, 1, 0, []), (44, .ireturn, 1, 0, [])])
/-- LeaningTrees$OrderReader.takesEqualsSign(I)Z -/
def s_m14 : sM := (yX1_takesEqualsSign, cX1_takesEqualsSign, 2, (some .boolean), 2, 0, 0, [(0, .iload_n 1, 1, 0, []), (1, .bipush 61, 2, 0, []), (3, .if_icmp .ne 22, 3, 0, []), (6, .aload_n 0, 1, 0, []), (7, .getfield 1024, 3, 41, [188]), (10, .bipush 43, 2, 0, []), (12, .if_icmp .ne 22, 3, 0, []), (15, .aload_n 0, 1, 0, []), (16, .getfield 1057, 3, 31, [193]), (19, .ifCond .eq 24, 3, 0, []), (22, .iconst 0, 1, 0, []), (23, .ireturn, 1, 0, []), (24, .aload_n 0, 1, 0, []), (25, .aload_n 0, 1, 0, []), (26, .getfield 1048, 3, 38, [192]), (29, .putfield 1040, 3, 35, [191]), (32, .aload_n 0, 1, 0, []), (33, .iconst 1, 1, 0, []), (34, .putfield 1057, 3, 31, [193]), (37, .aload_n 0, 1, 0, []), (38, .iconst 1, 1, 0, []), (39, .putfield 1032, 3, 11, [190]), (42, .iconst 1, 1, 0, []), (43, .ireturn, 1, 0, [])])
/-- LeaningTrees$OrderReader.takesEndOfOrder(I)Z -/
def s_m15 : sM := (yX1_takesEndOfOrder, cX1_takesEndOfOrder, 2, (some .boolean), 2, 0, 0, [(0, .iload_n 1, 1, 0, []), (1, .bipush 59, 2, 0, []), (3, .if_icmp .eq 8, 3, 0, []), (6, .iconst 0, 1, 0, []), (7, .ireturn, 1, 0, []), (8, .aload_n 0, 1, 0, []), (9, .iconst 0, 1, 0, []), (10, .putfield 1032, 3, 11, [190]), (13, .iconst 1, 1, 0, []), (14, .ireturn, 1, 0, [])])
/-- LeaningTrees$OrderReader.isDigit(I)Z -/
def s_m16 : sM := (yX1_isDigit, cX1_isDigit, 1, (some .boolean), 1, 0, 0, [(0, .iload_n 0, 1, 0, []), (1, .bipush 48, 2, 0, []), (3, .if_icmp .lt 16, 3, 0, []), (6, .iload_n 0, 1, 0, []), (7, .bipush 57, 2, 0, []), (9, .if_icmp .gt 16, 3, 0, []), (12, .iconst 1, 1, 0, []), (13, .goto 17, 3, 0, []), (16, .iconst 0, 1, 0, []), (17, .ireturn, 1, 0, [])])
/-- LeaningTrees$Pad.<init>()V -/
def s_m17 : sM := (yX2_init, cX2_init, 1, none, 1, 2, 47, [(0, .aload_n 0, 1, 0, []), (1, .monitorenter, 3, 3, [170, 76, 77]), (4, .aload_n 0, 1, 0, []), (5, .new 3, 3, 9, [171, 85, 60]), (8, .dup, 1, 0, []), (9, .bipush 80, 2, 0, []), (11, .invokespecial 21, 3, 11, [172, 89, 60, 90]), (14, .putfield 2050, 3, 14, [173]), (17, .return_, 1, 0, [])])
/-- LeaningTrees$Pad.charactersIn(J)I -/
def s_m18 : sM := (yX2_charactersIn, cX2_charactersIn, 4, (some .int), 1, 1, 22, [(0, .iconst 0, 1, 0, []), (1, .istore_n 2, 1, 0, []), (2, .iload_n 2, 1, 0, []), (3, .bipush 8, 2, 0, []), (5, .if_icmp .ge 55, 3, 0, []), (8, .lload_n 0, 1, 0, []), (9, .iload_n 2, 1, 0, []), (10, .invokestatic 20, 3, 20, [500, 501, 62, 502]), (13, .istore_n 3, 1, 0, []), (14, .iload_n 3, 1, 0, []), (15, .ifCond .ne 35, 3, 0, []), (18, .lload_n 0, 1, 0, []), (19, .bipush 8, 2, 0, []), (21, .iload_n 2, 1, 0, []), (22, .imul, 1, 0, []), (23, .lushr, 1, 0, []), (24, .lconst 0, 1, 0, []), (25, .lcmp, 1, 0, []), (26, .ifCond .ne 33, 3, 0, []), (29, .iload_n 2, 1, 0, []), (30, .goto 34, 3, 0, []), (33, .iconst 0, 1, 0, []), (34, .ireturn, 1, 0, []), (35, .iload_n 3, 1, 0, []), (36, .bipush 33, 2, 0, []), (38, .if_icmp .lt 47, 3, 0, []), (41, .iload_n 3, 1, 0, []), (42, .bipush 126, 2, 0, []), (44, .if_icmp .le 49, 3, 0, []), (47, .iconst 0, 1, 0, []), (48, .ireturn, 1, 0, []), (49, .iinc 2 1, 3, 0, []), (52, .goto 2, 3, 0, []), (55, .bipush 8, 2, 0, []), (57, .ireturn, 1, 0, [])])
/-- LeaningTrees$Pad.append(JI)V -/
def s_m19 : sM := (yX2_append, cX2_append, 5, none, 3, 1, 22, [(0, .iload_n 3, 1, 0, []), (1, .iconst 1, 1, 0, []), (2, .isub, 1, 0, []), (3, .istore 4, 2, 0, []), (5, .iload 4, 2, 0, []), (7, .ifCond .lt 43, 3, 0, []), (10, .aload_n 0, 1, 0, []), (11, .getfield 2050, 3, 14, [173]), (14, .aload_n 0, 1, 0, []), (15, .getfield 2056, 3, 24, [175]), (18, .lload_n 1, 1, 0, []), (19, .iload 4, 2, 0, []), (21, .invokestatic 20, 3, 20, [500, 501, 62, 502]), (24, .invokevirtual 23, 3, 28, [507, 98, 99, 60, 100]), (27, .aload_n 0, 1, 0, []), (28, .dup, 1, 0, []), (29, .getfield 2056, 3, 24, [175]), (32, .iconst 1, 1, 0, []), (33, .iadd, 1, 0, []), (34, .putfield 2056, 3, 24, [175]), (37, .iinc 4 (-1), 3, 0, []), (40, .goto 5, 3, 0, []), (43, .return_, 1, 0, [])])
/-- LeaningTrees$Pad.codeFromEnd(JI)I -/
def s_m20 : sM := (yX2_codeFromEnd, cX2_codeFromEnd, 3, (some .int), 2, 0, 0, [(0, .lload_n 0, 1, 0, []), (1, .bipush 8, 2, 0, []), (3, .iload_n 2, 1, 0, []), (4, .imul, 1, 0, []), (5, .lushr, 1, 0, []), (6, .l2i, 1, 0, []), (7, .sipush 255, 3, 0, []), (10, .iand, 1, 0, []), (11, .ireturn, 1, 0, [])])
/-- LeaningTrees$Row.<init>(I)V -/
def s_m21 : sM := (yX3_init, cX3_init, 2, none, 2, 1, 26, [(0, .aload_n 0, 1, 0, []), (1, .monitorenter, 3, 1, [91, 76, 77]), (4, .aload_n 0, 1, 0, []), (5, .iload_n 1, 1, 0, []), (6, .ifCond .ge 13, 3, 0, []), (9, .iconst 0, 1, 0, []), (10, .goto 14, 3, 0, []), (13, .iload_n 1, 1, 0, []), (14, .newarray .int, 2, 0, [96]), (16, .putfield 3074, 3, 7, [92]), (19, .return_, 1, 0, [])])
/-- LeaningTrees$Row.at(I)I -/
def s_m22 : sM := (yX3_at, cX3_at, 2, (some .int), 2, 0, 0, [(0, .iload_n 1, 1, 0, []), (1, .ifCond .lt 22, 3, 0, []), (4, .iload_n 1, 1, 0, []), (5, .aload_n 0, 1, 0, []), (6, .getfield 3074, 3, 7, [92]), (9, .arraylength, 1, 0, []), (10, .if_icmp .ge 22, 3, 0, []), (13, .aload_n 0, 1, 0, []), (14, .getfield 3074, 3, 7, [92]), (17, .iload_n 1, 1, 0, []), (18, .iaload, 1, 0, []), (19, .goto 23, 3, 0, []), (22, .iconst 0, 1, 0, []), (23, .ireturn, 1, 0, [])])
/-- LeaningTrees$Row.write(II)V -/
def s_m23 : sM := (yX3_write, cX3_write, 3, none, 3, 0, 0, [(0, .iload_n 1, 1, 0, []), (1, .ifCond .lt 20, 3, 0, []), (4, .iload_n 1, 1, 0, []), (5, .aload_n 0, 1, 0, []), (6, .getfield 3074, 3, 7, [92]), (9, .arraylength, 1, 0, []), (10, .if_icmp .ge 20, 3, 0, []), (13, .aload_n 0, 1, 0, []), (14, .getfield 3074, 3, 7, [92]), (17, .iload_n 1, 1, 0, []), (18, .iload_n 2, 1, 0, []), (19, .iastore, 1, 0, []), (20, .return_, 1, 0, [])])
/-- LeaningTrees$Row.become(LLeaningTrees$Row;)V -/
def s_m24 : sM := (yX3_become, cX3_become, 2, none, 2, 1, 26, [(0, .aload_n 1, 1, 0, []), (1, .getfield 3074, 3, 7, [92]), (4, .iconst 0, 1, 0, []), (5, .aload_n 0, 1, 0, []), (6, .getfield 3074, 3, 7, [92]), (9, .iconst 0, 1, 0, []), (10, .aload_n 0, 1, 0, []), (11, .getfield 3074, 3, 7, [92]), (14, .arraylength, 1, 0, []), (15, .aload_n 1, 1, 0, []), (16, .getfield 3074, 3, 7, [92]), (19, .arraylength, 1, 0, []), (20, .jsr_w 0, 3, 13, [267, 268, 66, 269]), (23, .monitorexit, 3, 19, [270, 272, 271, 67]), (26, .return_, 1, 0, [])])
/-- LeaningTrees$Row.total(II)I -/
def s_m25 : sM := (yX3_total, cX3_total, 5, (some .int), 3, 1, 21, [(0, .iconst 0, 1, 0, []), (1, .istore_n 3, 1, 0, []), (2, .iload_n 1, 1, 0, []), (3, .istore 4, 2, 0, []), (5, .iload 4, 2, 0, []), (7, .iload_n 2, 1, 0, []), (8, .if_icmp .gt 36, 3, 0, []), (11, .iload 4, 2, 0, []), (13, .aload_n 0, 1, 0, []), (14, .getfield 3074, 3, 7, [92]), (17, .arraylength, 1, 0, []), (18, .if_icmp .ge 36, 3, 0, []), (21, .iload_n 3, 1, 0, []), (22, .aload_n 0, 1, 0, []), (23, .iload 4, 2, 0, []), (25, .invokevirtual 22, 3, 25, [346, 274, 275, 60, 276]), (28, .iadd, 1, 0, []), (29, .istore_n 3, 1, 0, []), (30, .iinc 4 1, 3, 0, []), (33, .goto 5, 3, 0, []), (36, .iload_n 3, 1, 0, []), (37, .ireturn, 1, 0, [])])
/-- LeaningTrees$Row.greatest(II)I -/
def s_m26 : sM := (yX3_greatest, cX3_greatest, 5, (some .int), 3, 1, 26, [(0, .aload_n 0, 1, 0, []), (1, .iload_n 1, 1, 0, []), (2, .invokevirtual 22, 3, 25, [346, 274, 275, 60, 276]), (5, .istore_n 3, 1, 0, []), (6, .iload_n 1, 1, 0, []), (7, .istore 4, 2, 0, []), (9, .iload 4, 2, 0, []), (11, .iload_n 2, 1, 0, []), (12, .if_icmp .gt 42, 3, 0, []), (15, .iload 4, 2, 0, []), (17, .aload_n 0, 1, 0, []), (18, .getfield 3074, 3, 7, [92]), (21, .arraylength, 1, 0, []), (22, .if_icmp .ge 42, 3, 0, []), (25, .iload_n 3, 1, 0, []), (26, .aload_n 0, 1, 0, []), (27, .iload 4, 2, 0, []), (29, .invokevirtual 22, 3, 25, [346, 274, 275, 60, 276]), (32, .jsr 0, 3, 29, [417, 320, 66, 321]), (35, .istore_n 3, 1, 0, []), (36, .iinc 4 1, 3, 0, []), (39, .goto 9, 3, 0, []), (42, .iload_n 3, 1, 0, []), (43, .ireturn, 1, 0, [])])
/-- LeaningTrees$Slot.<init>()V -/
def s_m27 : sM := (yX4_init, cX4_init, 1, none, 1, 3, 68, [(0, .aload_n 0, 1, 0, []), (1, .monitorenter, 3, 1, [209, 76, 77]), (4, .aload_n 0, 1, 0, []), (5, .new 5, 3, 7, [210, 79, 59]), (8, .dup, 1, 0, []), (9, .invokespecial 28, 3, 9, [211, 81, 59, 82]), (12, .putfield 4098, 3, 10, [212]), (15, .return_, 1, 0, [])])
/-- LeaningTrees$Tree.<init>()V -/
def s_m28 : sM := (yX5_init, cX5_init, 2, none, 1, 2, 47, [(0, .aload_n 0, 1, 0, []), (1, .monitorenter, 3, 3, [83, 76, 77]), (4, .aload_n 0, 1, 0, []), (5, .new 3, 3, 9, [84, 85, 60]), (8, .dup, 1, 0, []), (9, .instanceof 0, 3, 11, []), (12, .arraylength, 1, 0, []), (13, .invokespecial 21, 3, 15, [88, 89, 60, 90]), (16, .putfield 5122, 3, 18, [101]), (19, .aload_n 0, 1, 0, []), (20, .new 3, 3, 9, [84, 85, 60]), (23, .dup, 1, 0, []), (24, .bipush 60, 2, 0, []), (26, .invokespecial 21, 3, 15, [88, 89, 60, 90]), (29, .putfield 5130, 3, 24, [103]), (32, .aload_n 0, 1, 0, []), (33, .new 3, 3, 9, [84, 85, 60]), (36, .dup, 1, 0, []), (37, .bipush 60, 2, 0, []), (39, .invokespecial 21, 3, 15, [88, 89, 60, 90]), (42, .putfield 5138, 3, 27, [105]), (45, .aload_n 0, 1, 0, []), (46, .new 3, 3, 9, [84, 85, 60]), (49, .dup, 1, 0, []), (50, .bipush 60, 2, 0, []), (52, .invokespecial 21, 3, 15, [88, 89, 60, 90]), (55, .putfield 5146, 3, 30, [107]), (58, .aload_n 0, 1, 0, []), (59, .new 3, 3, 9, [84, 85, 60]), (62, .dup, 1, 0, []), (63, .bipush 60, 2, 0, []), (65, .invokespecial 21, 3, 15, [88, 89, 60, 90]), (68, .putfield 5154, 3, 33, [109]), (71, .aload_n 0, 1, 0, []), (72, .new 3, 3, 9, [84, 85, 60]), (75, .dup, 1, 0, []), (76, .bipush 60, 2, 0, []), (78, .invokespecial 21, 3, 15, [88, 89, 60, 90]), (81, .putfield 5162, 3, 36, [111]), (84, .iconst 0, 1, 0, []), (85, .istore_n 1, 1, 0, []), (86, .iload_n 1, 1, 0, []), (87, .instanceof 0, 3, 11, []), (90, .arraylength, 1, 0, []), (91, .if_icmp .ge 113, 3, 0, []), (94, .aload_n 0, 1, 0, []), (95, .getfield 5122, 3, 18, [101]), (98, .iload_n 1, 1, 0, []), (99, .instanceof 0, 3, 11, []), (102, .iload_n 1, 1, 0, []), (103, .iaload, 1, 0, []), (104, .invokevirtual 23, 3, 39, [97, 98, 99, 60, 100]), (107, .iinc 1 1, 3, 0, []), (110, .goto 86, 3, 0, []), (113, .return_, 1, 0, [])])
/-- LeaningTrees$Tree.become(LLeaningTrees$Tree;)V -/
def s_m29 : sM := (yX5_become, cX5_become, 2, none, 2, 2, 47, [(0, .aload_n 0, 1, 0, []), (1, .getfield 5122, 3, 18, [101]), (4, .aload_n 1, 1, 0, []), (5, .getfield 5122, 3, 18, [101]), (8, .invokevirtual 24, 3, 43, [263, 264, 265, 60, 266]), (11, .aload_n 0, 1, 0, []), (12, .getfield 5130, 3, 24, [103]), (15, .aload_n 1, 1, 0, []), (16, .getfield 5130, 3, 24, [103]), (19, .invokevirtual 24, 3, 43, [263, 264, 265, 60, 266]), (22, .aload_n 0, 1, 0, []), (23, .getfield 5138, 3, 27, [105]), (26, .aload_n 1, 1, 0, []), (27, .getfield 5138, 3, 27, [105]), (30, .invokevirtual 24, 3, 43, [263, 264, 265, 60, 266]), (33, .aload_n 0, 1, 0, []), (34, .getfield 5146, 3, 30, [107]), (37, .aload_n 1, 1, 0, []), (38, .getfield 5146, 3, 30, [107]), (41, .invokevirtual 24, 3, 43, [263, 264, 265, 60, 266]), (44, .aload_n 0, 1, 0, []), (45, .getfield 5154, 3, 33, [109]), (48, .aload_n 1, 1, 0, []), (49, .getfield 5154, 3, 33, [109]), (52, .invokevirtual 24, 3, 43, [263, 264, 265, 60, 266]), (55, .aload_n 0, 1, 0, []), (56, .getfield 5162, 3, 36, [111]), (59, .aload_n 1, 1, 0, []), (60, .getfield 5162, 3, 36, [111]), (63, .invokevirtual 24, 3, 43, [263, 264, 265, 60, 266]), (66, .aload_n 0, 1, 0, []), (67, .aload_n 1, 1, 0, []), (68, .getfield 5168, 3, 47, [113]), (71, .putfield 5168, 3, 47, [113]), (74, .aload_n 0, 1, 0, []), (75, .aload_n 1, 1, 0, []), (76, .getfield 5176, 3, 51, [115]), (79, .putfield 5176, 3, 51, [115]), (82, .aload_n 0, 1, 0, []), (83, .aload_n 1, 1, 0, []), (84, .getfield 5184, 3, 54, [117]), (87, .putfield 5184, 3, 54, [117]), (90, .aload_n 0, 1, 0, []), (91, .aload_n 1, 1, 0, []), (92, .getfield 5192, 3, 57, [119]), (95, .putfield 5192, 3, 57, [119]), (98, .aload_n 0, 1, 0, []), (99, .aload_n 1, 1, 0, []), (100, .getfield 5200, 3, 60, [121]), (103, .putfield 5200, 3, 60, [121]), (106, .return_, 1, 0, [])])
/-- LeaningTrees$Tree.placeOf(I)I -/
def s_m30 : sM := (yX5_placeOf, cX5_placeOf, 3, (some .int), 2, 1, 21, [(0, .iconst 0, 1, 0, []), (1, .istore_n 2, 1, 0, []), (2, .iload_n 2, 1, 0, []), (3, .aload_n 0, 1, 0, []), (4, .getfield 5168, 3, 47, [113]), (7, .if_icmp .ge 28, 3, 0, []), (10, .aload_n 0, 1, 0, []), (11, .getfield 5130, 3, 24, [103]), (14, .iload_n 2, 1, 0, []), (15, .invokevirtual 22, 3, 63, [297, 274, 275, 60, 276]), (18, .iload_n 1, 1, 0, []), (19, .if_icmp .ge 28, 3, 0, []), (22, .iinc 2 1, 3, 0, []), (25, .goto 2, 3, 0, []), (28, .iload_n 2, 1, 0, []), (29, .ireturn, 1, 0, [])])
/-- LeaningTrees$Tree.nodeOf(I)I -/
def s_m31 : sM := (yX5_nodeOf, cX5_nodeOf, 3, (some .int), 2, 2, 43, [(0, .aload_n 0, 1, 0, []), (1, .iload_n 1, 1, 0, []), (2, .invokevirtual 30, 3, 67, [293, 294, 295, 59, 296]), (5, .istore_n 2, 1, 0, []), (6, .iload_n 2, 1, 0, []), (7, .aload_n 0, 1, 0, []), (8, .getfield 5168, 3, 47, [113]), (11, .if_icmp .ge 30, 3, 0, []), (14, .aload_n 0, 1, 0, []), (15, .getfield 5130, 3, 24, [103]), (18, .iload_n 2, 1, 0, []), (19, .invokevirtual 22, 3, 63, [297, 274, 275, 60, 276]), (22, .iload_n 1, 1, 0, []), (23, .if_icmp .ne 30, 3, 0, []), (26, .iload_n 2, 1, 0, []), (27, .goto 32, 3, 0, []), (30, .bipush (-6), 2, 0, []), (32, .ireturn, 1, 0, [])])
/-- LeaningTrees$Tree.fullNodeOf(I)I -/
def s_m32 : sM := (yX5_fullNodeOf, cX5_fullNodeOf, 3, (some .int), 2, 3, 65, [(0, .aload_n 0, 1, 0, []), (1, .iload_n 1, 1, 0, []), (2, .invokevirtual 31, 3, 70, [289, 290, 291, 59, 292]), (5, .istore_n 2, 1, 0, []), (6, .iload_n 2, 1, 0, []), (7, .bipush (-6), 2, 0, []), (9, .if_icmp .eq 24, 3, 0, []), (12, .aload_n 0, 1, 0, []), (13, .iload_n 2, 1, 0, []), (14, .invokevirtual 33, 3, 73, [355, 356, 357, 59, 358]), (17, .ifCond .eq 24, 3, 0, []), (20, .iload_n 2, 1, 0, []), (21, .goto 26, 3, 0, []), (24, .bipush (-6), 2, 0, []), (26, .ireturn, 1, 0, [])])
/-- LeaningTrees$Tree.isFull(I)Z -/
def s_m33 : sM := (yX5_isFull, cX5_isFull, 2, (some .boolean), 2, 1, 21, [(0, .aload_n 0, 1, 0, []), (1, .getfield 5162, 3, 36, [111]), (4, .iload_n 1, 1, 0, []), (5, .invokevirtual 22, 3, 63, [297, 274, 275, 60, 276]), (8, .iconst 1, 1, 0, []), (9, .if_icmp .ne 16, 3, 0, []), (12, .iconst 1, 1, 0, []), (13, .goto 17, 3, 0, []), (16, .iconst 0, 1, 0, []), (17, .ireturn, 1, 0, [])])
/-- LeaningTrees$Tree.allKeys()I -/
def s_m34 : sM := (yX5_allKeys, cX5_allKeys, 1, (some .int), 1, 2, 45, [(0, .aload_n 0, 1, 0, []), (1, .getfield 5162, 3, 36, [111]), (4, .iconst 0, 1, 0, []), (5, .aload_n 0, 1, 0, []), (6, .getfield 5168, 3, 47, [113]), (9, .iconst 1, 1, 0, []), (10, .isub, 1, 0, []), (11, .invokevirtual 25, 3, 77, [342, 343, 344, 60, 345]), (14, .ireturn, 1, 0, [])])
/-- LeaningTrees$Tree.keysAhead(I)I -/
def s_m35 : sM := (yX5_keysAhead, cX5_keysAhead, 2, (some .int), 2, 2, 45, [(0, .aload_n 0, 1, 0, []), (1, .getfield 5162, 3, 36, [111]), (4, .iconst 0, 1, 0, []), (5, .aload_n 0, 1, 0, []), (6, .iload_n 1, 1, 0, []), (7, .invokevirtual 30, 3, 67, [293, 294, 295, 59, 296]), (10, .iconst 1, 1, 0, []), (11, .isub, 1, 0, []), (12, .invokevirtual 25, 3, 77, [342, 343, 344, 60, 345]), (15, .ireturn, 1, 0, [])])
/-- LeaningTrees$Tree.placeOfKth(I)I -/
def s_m36 : sM := (yX5_placeOfKth, cX5_placeOfKth, 4, (some .int), 2, 2, 42, [(0, .iconst 0, 1, 0, []), (1, .istore_n 2, 1, 0, []), (2, .iconst 0, 1, 0, []), (3, .istore_n 3, 1, 0, []), (4, .iload_n 3, 1, 0, []), (5, .aload_n 0, 1, 0, []), (6, .getfield 5168, 3, 47, [113]), (9, .if_icmp .ge 36, 3, 0, []), (12, .aload_n 0, 1, 0, []), (13, .iload_n 3, 1, 0, []), (14, .invokevirtual 33, 3, 73, [355, 356, 357, 59, 358]), (17, .ifCond .eq 30, 3, 0, []), (20, .iload_n 2, 1, 0, []), (21, .iload_n 1, 1, 0, []), (22, .if_icmp .ne 27, 3, 0, []), (25, .iload_n 3, 1, 0, []), (26, .ireturn, 1, 0, []), (27, .iinc 2 1, 3, 0, []), (30, .iinc 3 1, 3, 0, []), (33, .goto 4, 3, 0, []), (36, .bipush (-6), 2, 0, []), (38, .ireturn, 1, 0, [])])
/-- LeaningTrees$Tree.lowestOf(I)I -/
def s_m37 : sM := (yX5_lowestOf, cX5_lowestOf, 3, (some .int), 2, 1, 21, [(0, .iload_n 1, 1, 0, []), (1, .istore_n 2, 1, 0, []), (2, .iload_n 2, 1, 0, []), (3, .ifCond .le 33, 3, 0, []), (6, .aload_n 0, 1, 0, []), (7, .getfield 5154, 3, 33, [109]), (10, .iload_n 2, 1, 0, []), (11, .iconst 1, 1, 0, []), (12, .isub, 1, 0, []), (13, .invokevirtual 22, 3, 63, [297, 274, 275, 60, 276]), (16, .aload_n 0, 1, 0, []), (17, .getfield 5154, 3, 33, [109]), (20, .iload_n 1, 1, 0, []), (21, .invokevirtual 22, 3, 63, [297, 274, 275, 60, 276]), (24, .if_icmp .le 33, 3, 0, []), (27, .iinc 2 (-1), 3, 0, []), (30, .goto 2, 3, 0, []), (33, .iload_n 2, 1, 0, []), (34, .ireturn, 1, 0, [])])
/-- LeaningTrees$Tree.highestOf(I)I -/
def s_m38 : sM := (yX5_highestOf, cX5_highestOf, 3, (some .int), 2, 1, 21, [(0, .iload_n 1, 1, 0, []), (1, .istore_n 2, 1, 0, []), (2, .iload_n 2, 1, 0, []), (3, .aload_n 0, 1, 0, []), (4, .getfield 5168, 3, 47, [113]), (7, .iconst 1, 1, 0, []), (8, .isub, 1, 0, []), (9, .if_icmp .ge 39, 3, 0, []), (12, .aload_n 0, 1, 0, []), (13, .getfield 5154, 3, 33, [109]), (16, .iload_n 2, 1, 0, []), (17, .iconst 1, 1, 0, []), (18, .iadd, 1, 0, []), (19, .invokevirtual 22, 3, 63, [297, 274, 275, 60, 276]), (22, .aload_n 0, 1, 0, []), (23, .getfield 5154, 3, 33, [109]), (26, .iload_n 1, 1, 0, []), (27, .invokevirtual 22, 3, 63, [297, 274, 275, 60, 276]), (30, .if_icmp .le 39, 3, 0, []), (33, .iinc 2 1, 3, 0, []), (36, .goto 2, 3, 0, []), (39, .iload_n 2, 1, 0, []), (40, .ireturn, 1, 0, [])])
/-- LeaningTrees$Tree.topBetween(III)I -/
def s_m39 : sM := (yX5_topBetween, cX5_topBetween, 5, (some .int), 4, 1, 21, [(0, .iload_n 1, 1, 0, []), (1, .istore 4, 2, 0, []), (3, .iload 4, 2, 0, []), (5, .iload_n 2, 1, 0, []), (6, .if_icmp .ge 28, 3, 0, []), (9, .aload_n 0, 1, 0, []), (10, .getfield 5154, 3, 33, [109]), (13, .iload 4, 2, 0, []), (15, .invokevirtual 22, 3, 63, [297, 274, 275, 60, 276]), (18, .iload_n 3, 1, 0, []), (19, .if_icmp .eq 28, 3, 0, []), (22, .iinc 4 1, 3, 0, []), (25, .goto 3, 3, 0, []), (28, .iload 4, 2, 0, []), (30, .ireturn, 1, 0, [])])
/-- LeaningTrees$Tree.isTooHeavy(II)Z -/
def s_m40 : sM := (yX5_isTooHeavy, cX5_isTooHeavy, 3, (some .boolean), 3, 1, 26, [(0, .bipush 100, 2, 0, []), (2, .iload_n 1, 1, 0, []), (3, .iload_n 2, 1, 0, []), (4, .jsr 0, 3, 81, [319, 320, 66, 321]), (7, .imul, 1, 0, []), (8, .aload_n 0, 1, 0, []), (9, .getfield 5122, 3, 18, [101]), (12, .iconst 0, 1, 0, []), (13, .invokevirtual 22, 3, 63, [297, 274, 275, 60, 276]), (16, .iload_n 1, 1, 0, []), (17, .iload_n 2, 1, 0, []), (18, .iadd, 1, 0, []), (19, .iconst 1, 1, 0, []), (20, .iadd, 1, 0, []), (21, .imul, 1, 0, []), (22, .if_icmp .le 29, 3, 0, []), (25, .iconst 1, 1, 0, []), (26, .goto 30, 3, 0, []), (29, .iconst 0, 1, 0, []), (30, .ireturn, 1, 0, [])])
/-- LeaningTrees$Tree.leans(I)Z -/
def s_m41 : sM := (yX5_leans, cX5_leans, 2, (some .boolean), 2, 2, 48, [(0, .aload_n 0, 1, 0, []), (1, .iload_n 1, 1, 0, []), (2, .aload_n 0, 1, 0, []), (3, .iload_n 1, 1, 0, []), (4, .invokevirtual 37, 3, 86, [334, 335, 336, 59, 337]), (7, .isub, 1, 0, []), (8, .aload_n 0, 1, 0, []), (9, .iload_n 1, 1, 0, []), (10, .invokevirtual 38, 3, 89, [338, 339, 340, 59, 341]), (13, .iload_n 1, 1, 0, []), (14, .isub, 1, 0, []), (15, .invokevirtual 40, 3, 92, [315, 316, 317, 59, 318]), (18, .ireturn, 1, 0, [])])
/-- LeaningTrees$Tree.leaningNodes()I -/
def s_m42 : sM := (yX5_leaningNodes, cX5_leaningNodes, 3, (some .int), 1, 3, 69, [(0, .iconst 0, 1, 0, []), (1, .istore_n 1, 1, 0, []), (2, .iconst 0, 1, 0, []), (3, .istore_n 2, 1, 0, []), (4, .iload_n 2, 1, 0, []), (5, .aload_n 0, 1, 0, []), (6, .getfield 5168, 3, 47, [113]), (9, .if_icmp .ge 34, 3, 0, []), (12, .iload_n 1, 1, 0, []), (13, .aload_n 0, 1, 0, []), (14, .iload_n 2, 1, 0, []), (15, .invokevirtual 41, 3, 96, [436, 410, 411, 59, 412]), (18, .ifCond .eq 25, 3, 0, []), (21, .iconst 1, 1, 0, []), (22, .goto 26, 3, 0, []), (25, .iconst 0, 1, 0, []), (26, .iadd, 1, 0, []), (27, .istore_n 1, 1, 0, []), (28, .iinc 2 1, 3, 0, []), (31, .goto 4, 3, 0, []), (34, .iload_n 1, 1, 0, []), (35, .ireturn, 1, 0, [])])
/-- LeaningTrees$Tree.wouldLeanWithNewAt(I)I -/
def s_m43 : sM := (yX5_wouldLeanWithNewAt, cX5_wouldLeanWithNewAt, 8, (some .int), 2, 2, 48, [(0, .iconst 0, 1, 0, []), (1, .istore_n 2, 1, 0, []), (2, .aload_n 0, 1, 0, []), (3, .getfield 5168, 3, 47, [113]), (6, .iconst 1, 1, 0, []), (7, .isub, 1, 0, []), (8, .istore_n 3, 1, 0, []), (9, .iconst 0, 1, 0, []), (10, .istore 4, 2, 0, []), (12, .iload 4, 2, 0, []), (14, .bipush 60, 2, 0, []), (16, .if_icmp .ge 91, 3, 0, []), (19, .iload_n 2, 1, 0, []), (20, .iload_n 3, 1, 0, []), (21, .if_icmp .gt 91, 3, 0, []), (24, .aload_n 0, 1, 0, []), (25, .iload_n 2, 1, 0, []), (26, .iload_n 3, 1, 0, []), (27, .iload 4, 2, 0, []), (29, .invokevirtual 39, 3, 99, [307, 308, 309, 59, 310]), (32, .istore 5, 2, 0, []), (34, .iload 5, 2, 0, []), (36, .iload_n 2, 1, 0, []), (37, .isub, 1, 0, []), (38, .istore 6, 2, 0, []), (40, .iload_n 3, 1, 0, []), (41, .iload 5, 2, 0, []), (43, .isub, 1, 0, []), (44, .istore 7, 2, 0, []), (46, .iload_n 1, 1, 0, []), (47, .iload 5, 2, 0, []), (49, .if_icmp .gt 63, 3, 0, []), (52, .iinc 6 1, 3, 0, []), (55, .iload 5, 2, 0, []), (57, .iconst 1, 1, 0, []), (58, .isub, 1, 0, []), (59, .istore_n 3, 1, 0, []), (60, .goto 71, 3, 0, []), (63, .iinc 7 1, 3, 0, []), (66, .iload 5, 2, 0, []), (68, .iconst 1, 1, 0, []), (69, .iadd, 1, 0, []), (70, .istore_n 2, 1, 0, []), (71, .aload_n 0, 1, 0, []), (72, .iload 6, 2, 0, []), (74, .iload 7, 2, 0, []), (76, .invokevirtual 40, 3, 92, [315, 316, 317, 59, 318]), (79, .ifCond .eq 85, 3, 0, []), (82, .iload 5, 2, 0, []), (84, .ireturn, 1, 0, []), (85, .iinc 4 1, 3, 0, []), (88, .goto 12, 3, 0, []), (91, .bipush (-6), 2, 0, []), (93, .ireturn, 1, 0, [])])
/-- LeaningTrees$Tree.costOf(I)I -/
def s_m44 : sM := (yX5_costOf, cX5_costOf, 3, (some .int), 2, 3, 75, [(0, .aload_n 0, 1, 0, []), (1, .iload_n 1, 1, 0, []), (2, .invokevirtual 31, 3, 70, [289, 290, 291, 59, 292]), (5, .bipush (-6), 2, 0, []), (7, .if_icmp .eq 12, 3, 0, []), (10, .iconst 0, 1, 0, []), (11, .ireturn, 1, 0, []), (12, .aload_n 0, 1, 0, []), (13, .aload_n 0, 1, 0, []), (14, .iload_n 1, 1, 0, []), (15, .invokevirtual 30, 3, 67, [293, 294, 295, 59, 296]), (18, .invokevirtual 43, 3, 103, [311, 312, 313, 59, 314]), (21, .istore_n 2, 1, 0, []), (22, .iload_n 2, 1, 0, []), (23, .bipush (-6), 2, 0, []), (25, .if_icmp .ne 32, 3, 0, []), (28, .iconst 0, 1, 0, []), (29, .goto 45, 3, 0, []), (32, .aload_n 0, 1, 0, []), (33, .iload_n 2, 1, 0, []), (34, .invokevirtual 38, 3, 89, [338, 339, 340, 59, 341]), (37, .aload_n 0, 1, 0, []), (38, .iload_n 2, 1, 0, []), (39, .invokevirtual 37, 3, 86, [334, 335, 336, 59, 337]), (42, .isub, 1, 0, []), (43, .iconst 2, 1, 0, []), (44, .iadd, 1, 0, []), (45, .ireturn, 1, 0, [])])
/-- LeaningTrees$Tree.hasRoomFor(I)Z -/
def s_m45 : sM := (yX5_hasRoomFor, cX5_hasRoomFor, 2, (some .boolean), 2, 3, 65, [(0, .aload_n 0, 1, 0, []), (1, .getfield 5168, 3, 47, [113]), (4, .bipush 60, 2, 0, []), (6, .if_icmp .lt 19, 3, 0, []), (9, .aload_n 0, 1, 0, []), (10, .iload_n 1, 1, 0, []), (11, .invokevirtual 31, 3, 70, [289, 290, 291, 59, 292]), (14, .bipush (-6), 2, 0, []), (16, .if_icmp .eq 23, 3, 0, []), (19, .iconst 1, 1, 0, []), (20, .goto 24, 3, 0, []), (23, .iconst 0, 1, 0, []), (24, .ireturn, 1, 0, [])])
/-- LeaningTrees$Tree.enter(II)I -/
def s_m46 : sM := (yX5_enter, cX5_enter, 5, (some .int), 3, 4, 95, [(0, .aload_n 0, 1, 0, []), (1, .iload_n 1, 1, 0, []), (2, .invokevirtual 45, 3, 106, [302, 286, 287, 59, 288]), (5, .ifCond .ne 11, 3, 0, []), (8, .bipush (-4), 2, 0, []), (10, .ireturn, 1, 0, []), (11, .aload_n 0, 1, 0, []), (12, .iload_n 1, 1, 0, []), (13, .invokevirtual 30, 3, 67, [293, 294, 295, 59, 296]), (16, .istore_n 3, 1, 0, []), (17, .aload_n 0, 1, 0, []), (18, .iload_n 1, 1, 0, []), (19, .invokevirtual 31, 3, 70, [289, 290, 291, 59, 292]), (22, .bipush (-6), 2, 0, []), (24, .if_icmp .eq 52, 3, 0, []), (27, .aload_n 0, 1, 0, []), (28, .getfield 5138, 3, 27, [105]), (31, .iload_n 3, 1, 0, []), (32, .iload_n 2, 1, 0, []), (33, .invokevirtual 23, 3, 39, [97, 98, 99, 60, 100]), (36, .aload_n 0, 1, 0, []), (37, .getfield 5162, 3, 36, [111]), (40, .iload_n 3, 1, 0, []), (41, .iconst 1, 1, 0, []), (42, .invokevirtual 23, 3, 39, [97, 98, 99, 60, 100]), (45, .aload_n 0, 1, 0, []), (46, .iload_n 3, 1, 0, []), (47, .invokevirtual 49, 3, 109, [303, 305, 2, 59, 306]), (50, .iconst 0, 1, 0, []), (51, .ireturn, 1, 0, []), (52, .aload_n 0, 1, 0, []), (53, .iload_n 3, 1, 0, []), (54, .invokevirtual 43, 3, 103, [311, 312, 313, 59, 314]), (57, .istore 4, 2, 0, []), (59, .aload_n 0, 1, 0, []), (60, .iload_n 3, 1, 0, []), (61, .iload_n 1, 1, 0, []), (62, .iload_n 2, 1, 0, []), (63, .invokevirtual 50, 3, 112, [322, 324, 3, 59, 325]), (66, .aload_n 0, 1, 0, []), (67, .iload_n 3, 1, 0, []), (68, .invokevirtual 49, 3, 109, [303, 305, 2, 59, 306]), (71, .iload 4, 2, 0, []), (73, .bipush (-6), 2, 0, []), (75, .if_icmp .ne 80, 3, 0, []), (78, .iconst 0, 1, 0, []), (79, .ireturn, 1, 0, []), (80, .aload_n 0, 1, 0, []), (81, .iload 4, 2, 0, []), (83, .iload_n 3, 1, 0, []), (84, .if_icmp .ge 92, 3, 0, []), (87, .iload 4, 2, 0, []), (89, .goto 96, 3, 0, []), (92, .iload 4, 2, 0, []), (94, .iconst 1, 1, 0, []), (95, .iadd, 1, 0, []), (96, .invokevirtual 52, 3, 116, [330, 332, 5, 59, 333]), (99, .ireturn, 1, 0, [])])
/-- LeaningTrees$Tree.hollowOut(I)I -/
def s_m47 : sM := (yX5_hollowOut, cX5_hollowOut, 4, (some .int), 2, 4, 95, [(0, .aload_n 0, 1, 0, []), (1, .iload_n 1, 1, 0, []), (2, .invokevirtual 32, 3, 119, [374, 367, 368, 59, 369]), (5, .istore_n 2, 1, 0, []), (6, .iload_n 2, 1, 0, []), (7, .bipush (-6), 2, 0, []), (9, .if_icmp .ne 14, 3, 0, []), (12, .iconst (-1), 1, 0, []), (13, .ireturn, 1, 0, []), (14, .aload_n 0, 1, 0, []), (15, .getfield 5162, 3, 36, [111]), (18, .iload_n 2, 1, 0, []), (19, .iconst 0, 1, 0, []), (20, .invokevirtual 23, 3, 39, [97, 98, 99, 60, 100]), (23, .aload_n 0, 1, 0, []), (24, .iload_n 2, 1, 0, []), (25, .invokevirtual 49, 3, 109, [303, 305, 2, 59, 306]), (28, .aload_n 0, 1, 0, []), (29, .getfield 5168, 3, 47, [113]), (32, .aload_n 0, 1, 0, []), (33, .invokevirtual 34, 3, 122, [375, 376, 377, 59, 378]), (36, .isub, 1, 0, []), (37, .istore_n 3, 1, 0, []), (38, .bipush 100, 2, 0, []), (40, .iload_n 3, 1, 0, []), (41, .imul, 1, 0, []), (42, .aload_n 0, 1, 0, []), (43, .getfield 5122, 3, 18, [101]), (46, .iconst 1, 1, 0, []), (47, .invokevirtual 22, 3, 63, [297, 274, 275, 60, 276]), (50, .aload_n 0, 1, 0, []), (51, .getfield 5168, 3, 47, [113]), (54, .imul, 1, 0, []), (55, .if_icmp .le 77, 3, 0, []), (58, .aload_n 0, 1, 0, []), (59, .aload_n 0, 1, 0, []), (60, .iconst 0, 1, 0, []), (61, .aload_n 0, 1, 0, []), (62, .getfield 5168, 3, 47, [113]), (65, .iconst 1, 1, 0, []), (66, .isub, 1, 0, []), (67, .iconst 0, 1, 0, []), (68, .invokevirtual 39, 3, 99, [307, 308, 309, 59, 310]), (71, .invokevirtual 52, 3, 116, [330, 332, 5, 59, 333]), (74, .goto 78, 3, 0, []), (77, .iconst 0, 1, 0, []), (78, .ireturn, 1, 0, [])])
/-- LeaningTrees$Tree.layAnewFromKey(I)I -/
def s_m48 : sM := (yX5_layAnewFromKey, cX5_layAnewFromKey, 3, (some .int), 2, 4, 95, [(0, .aload_n 0, 1, 0, []), (1, .iload_n 1, 1, 0, []), (2, .invokevirtual 31, 3, 70, [289, 290, 291, 59, 292]), (5, .istore_n 2, 1, 0, []), (6, .iload_n 2, 1, 0, []), (7, .bipush (-6), 2, 0, []), (9, .if_icmp .ne 16, 3, 0, []), (12, .iconst (-1), 1, 0, []), (13, .goto 21, 3, 0, []), (16, .aload_n 0, 1, 0, []), (17, .iload_n 2, 1, 0, []), (18, .invokevirtual 52, 3, 116, [330, 332, 5, 59, 333]), (21, .ireturn, 1, 0, [])])
/-- LeaningTrees$Tree.payOnWayTo(I)V -/
def s_m49 : sM := (yX5_payOnWayTo, cX5_payOnWayTo, 6, none, 2, 2, 45, [(0, .iconst 0, 1, 0, []), (1, .istore_n 2, 1, 0, []), (2, .aload_n 0, 1, 0, []), (3, .getfield 5168, 3, 47, [113]), (6, .iconst 1, 1, 0, []), (7, .isub, 1, 0, []), (8, .istore_n 3, 1, 0, []), (9, .iconst 0, 1, 0, []), (10, .istore 4, 2, 0, []), (12, .iload 4, 2, 0, []), (14, .bipush 60, 2, 0, []), (16, .if_icmp .ge 104, 3, 0, []), (19, .iload_n 2, 1, 0, []), (20, .iload_n 3, 1, 0, []), (21, .if_icmp .gt 104, 3, 0, []), (24, .aload_n 0, 1, 0, []), (25, .iload_n 2, 1, 0, []), (26, .iload_n 3, 1, 0, []), (27, .iload 4, 2, 0, []), (29, .invokevirtual 39, 3, 99, [307, 308, 309, 59, 310]), (32, .istore 5, 2, 0, []), (34, .aload_n 0, 1, 0, []), (35, .getfield 5146, 3, 30, [107]), (38, .iload 5, 2, 0, []), (40, .aload_n 0, 1, 0, []), (41, .getfield 5146, 3, 30, [107]), (44, .iload 5, 2, 0, []), (46, .invokevirtual 22, 3, 63, [297, 274, 275, 60, 276]), (49, .aload_n 0, 1, 0, []), (50, .getfield 5122, 3, 18, [101]), (53, .iconst 2, 1, 0, []), (54, .invokevirtual 22, 3, 63, [297, 274, 275, 60, 276]), (57, .iadd, 1, 0, []), (58, .invokevirtual 23, 3, 39, [97, 98, 99, 60, 100]), (61, .iload 5, 2, 0, []), (63, .iload_n 1, 1, 0, []), (64, .if_icmp .ge 74, 3, 0, []), (67, .iload 5, 2, 0, []), (69, .iconst 1, 1, 0, []), (70, .iadd, 1, 0, []), (71, .goto 75, 3, 0, []), (74, .iload_n 2, 1, 0, []), (75, .istore_n 2, 1, 0, []), (76, .iload 5, 2, 0, []), (78, .iload_n 1, 1, 0, []), (79, .if_icmp .le 89, 3, 0, []), (82, .iload 5, 2, 0, []), (84, .iconst 1, 1, 0, []), (85, .isub, 1, 0, []), (86, .goto 90, 3, 0, []), (89, .iload_n 3, 1, 0, []), (90, .istore_n 3, 1, 0, []), (91, .iload 5, 2, 0, []), (93, .iload_n 1, 1, 0, []), (94, .if_icmp .ne 98, 3, 0, []), (97, .return_, 1, 0, []), (98, .iinc 4 1, 3, 0, []), (101, .goto 12, 3, 0, []), (104, .return_, 1, 0, [])])
/-- LeaningTrees$Tree.makeNode(III)V -/
def s_m50 : sM := (yX5_makeNode, cX5_makeNode, 7, none, 4, 2, 44, [(0, .iload_n 1, 1, 0, []), (1, .ifCond .le 17, 3, 0, []), (4, .aload_n 0, 1, 0, []), (5, .getfield 5154, 3, 33, [109]), (8, .iload_n 1, 1, 0, []), (9, .iconst 1, 1, 0, []), (10, .isub, 1, 0, []), (11, .invokevirtual 22, 3, 63, [297, 274, 275, 60, 276]), (14, .goto 18, 3, 0, []), (17, .iconst (-1), 1, 0, []), (18, .istore 4, 2, 0, []), (20, .iload_n 1, 1, 0, []), (21, .aload_n 0, 1, 0, []), (22, .getfield 5168, 3, 47, [113]), (25, .if_icmp .ge 39, 3, 0, []), (28, .aload_n 0, 1, 0, []), (29, .getfield 5154, 3, 33, [109]), (32, .iload_n 1, 1, 0, []), (33, .invokevirtual 22, 3, 63, [297, 274, 275, 60, 276]), (36, .goto 40, 3, 0, []), (39, .iconst (-1), 1, 0, []), (40, .istore 5, 2, 0, []), (42, .aload_n 0, 1, 0, []), (43, .getfield 5168, 3, 47, [113]), (46, .istore 6, 2, 0, []), (48, .iload 6, 2, 0, []), (50, .iload_n 1, 1, 0, []), (51, .if_icmp .le 70, 3, 0, []), (54, .aload_n 0, 1, 0, []), (55, .iload 6, 2, 0, []), (57, .iconst 1, 1, 0, []), (58, .isub, 1, 0, []), (59, .iload 6, 2, 0, []), (61, .invokevirtual 51, 3, 126, [326, 328, 4, 59, 329]), (64, .iinc 6 (-1), 3, 0, []), (67, .goto 48, 3, 0, []), (70, .aload_n 0, 1, 0, []), (71, .dup, 1, 0, []), (72, .getfield 5168, 3, 47, [113]), (75, .iconst 1, 1, 0, []), (76, .iadd, 1, 0, []), (77, .putfield 5168, 3, 47, [113]), (80, .aload_n 0, 1, 0, []), (81, .getfield 5130, 3, 24, [103]), (84, .iload_n 1, 1, 0, []), (85, .iload_n 2, 1, 0, []), (86, .invokevirtual 23, 3, 39, [97, 98, 99, 60, 100]), (89, .aload_n 0, 1, 0, []), (90, .getfield 5138, 3, 27, [105]), (93, .iload_n 1, 1, 0, []), (94, .iload_n 3, 1, 0, []), (95, .invokevirtual 23, 3, 39, [97, 98, 99, 60, 100]), (98, .aload_n 0, 1, 0, []), (99, .getfield 5146, 3, 30, [107]), (102, .iload_n 1, 1, 0, []), (103, .iconst 0, 1, 0, []), (104, .invokevirtual 23, 3, 39, [97, 98, 99, 60, 100]), (107, .aload_n 0, 1, 0, []), (108, .getfield 5154, 3, 33, [109]), (111, .iload_n 1, 1, 0, []), (112, .iload 4, 2, 0, []), (114, .iload 5, 2, 0, []), (116, .jsr 0, 3, 81, [319, 320, 66, 321]), (119, .iconst 1, 1, 0, []), (120, .iadd, 1, 0, []), (121, .invokevirtual 23, 3, 39, [97, 98, 99, 60, 100]), (124, .aload_n 0, 1, 0, []), (125, .getfield 5162, 3, 36, [111]), (128, .iload_n 1, 1, 0, []), (129, .iconst 1, 1, 0, []), (130, .invokevirtual 23, 3, 39, [97, 98, 99, 60, 100]), (133, .return_, 1, 0, [])])
/-- LeaningTrees$Tree.moveNode(II)V -/
def s_m51 : sM := (yX5_moveNode, cX5_moveNode, 3, none, 3, 1, 22, [(0, .aload_n 0, 1, 0, []), (1, .getfield 5130, 3, 24, [103]), (4, .iload_n 2, 1, 0, []), (5, .aload_n 0, 1, 0, []), (6, .getfield 5130, 3, 24, [103]), (9, .iload_n 1, 1, 0, []), (10, .invokevirtual 22, 3, 63, [297, 274, 275, 60, 276]), (13, .invokevirtual 23, 3, 39, [97, 98, 99, 60, 100]), (16, .aload_n 0, 1, 0, []), (17, .getfield 5138, 3, 27, [105]), (20, .iload_n 2, 1, 0, []), (21, .aload_n 0, 1, 0, []), (22, .getfield 5138, 3, 27, [105]), (25, .iload_n 1, 1, 0, []), (26, .invokevirtual 22, 3, 63, [297, 274, 275, 60, 276]), (29, .invokevirtual 23, 3, 39, [97, 98, 99, 60, 100]), (32, .aload_n 0, 1, 0, []), (33, .getfield 5146, 3, 30, [107]), (36, .iload_n 2, 1, 0, []), (37, .aload_n 0, 1, 0, []), (38, .getfield 5146, 3, 30, [107]), (41, .iload_n 1, 1, 0, []), (42, .invokevirtual 22, 3, 63, [297, 274, 275, 60, 276]), (45, .invokevirtual 23, 3, 39, [97, 98, 99, 60, 100]), (48, .aload_n 0, 1, 0, []), (49, .getfield 5154, 3, 33, [109]), (52, .iload_n 2, 1, 0, []), (53, .aload_n 0, 1, 0, []), (54, .getfield 5154, 3, 33, [109]), (57, .iload_n 1, 1, 0, []), (58, .invokevirtual 22, 3, 63, [297, 274, 275, 60, 276]), (61, .invokevirtual 23, 3, 39, [97, 98, 99, 60, 100]), (64, .aload_n 0, 1, 0, []), (65, .getfield 5162, 3, 36, [111]), (68, .iload_n 2, 1, 0, []), (69, .aload_n 0, 1, 0, []), (70, .getfield 5162, 3, 36, [111]), (73, .iload_n 1, 1, 0, []), (74, .invokevirtual 22, 3, 63, [297, 274, 275, 60, 276]), (77, .invokevirtual 23, 3, 39, [97, 98, 99, 60, 100]), (80, .return_, 1, 0, [])])
/-- LeaningTrees$Tree.layAnew(I)I -/
def s_m52 : sM := (yX5_layAnew, cX5_layAnew, 8, (some .int), 2, 3, 68, [(0, .aload_n 0, 1, 0, []), (1, .iload_n 1, 1, 0, []), (2, .invokevirtual 37, 3, 86, [334, 335, 336, 59, 337]), (5, .istore_n 2, 1, 0, []), (6, .aload_n 0, 1, 0, []), (7, .iload_n 1, 1, 0, []), (8, .invokevirtual 38, 3, 89, [338, 339, 340, 59, 341]), (11, .istore_n 3, 1, 0, []), (12, .aload_n 0, 1, 0, []), (13, .getfield 5154, 3, 33, [109]), (16, .iload_n 1, 1, 0, []), (17, .invokevirtual 22, 3, 63, [297, 274, 275, 60, 276]), (20, .istore 4, 2, 0, []), (22, .iload_n 3, 1, 0, []), (23, .iload_n 2, 1, 0, []), (24, .isub, 1, 0, []), (25, .iconst 1, 1, 0, []), (26, .iadd, 1, 0, []), (27, .istore 5, 2, 0, []), (29, .aload_n 0, 1, 0, []), (30, .aload_n 0, 1, 0, []), (31, .getfield 5146, 3, 30, [107]), (34, .iload_n 2, 1, 0, []), (35, .iload_n 3, 1, 0, []), (36, .invokevirtual 25, 3, 77, [342, 343, 344, 60, 345]), (39, .iload 5, 2, 0, []), (41, .invokevirtual 53, 3, 129, [347, 349, 6, 59, 350]), (44, .aload_n 0, 1, 0, []), (45, .getfield 5162, 3, 36, [111]), (48, .iload_n 2, 1, 0, []), (49, .iload_n 3, 1, 0, []), (50, .invokevirtual 25, 3, 77, [342, 343, 344, 60, 345]), (53, .istore 6, 2, 0, []), (55, .aload_n 0, 1, 0, []), (56, .iload_n 2, 1, 0, []), (57, .iload_n 3, 1, 0, []), (58, .invokevirtual 54, 3, 132, [351, 353, 7, 59, 354]), (61, .iconst 0, 1, 0, []), (62, .istore 7, 2, 0, []), (64, .iload 7, 2, 0, []), (66, .iload 6, 2, 0, []), (68, .if_icmp .ge 110, 3, 0, []), (71, .aload_n 0, 1, 0, []), (72, .getfield 5154, 3, 33, [109]), (75, .iload_n 2, 1, 0, []), (76, .iload 7, 2, 0, []), (78, .iadd, 1, 0, []), (79, .iload 4, 2, 0, []), (81, .iload 7, 2, 0, []), (83, .iload 6, 2, 0, []), (85, .invokestatic 55, 3, 135, [359, 360, 59, 361]), (88, .iadd, 1, 0, []), (89, .invokevirtual 23, 3, 39, [97, 98, 99, 60, 100]), (92, .aload_n 0, 1, 0, []), (93, .getfield 5146, 3, 30, [107]), (96, .iload_n 2, 1, 0, []), (97, .iload 7, 2, 0, []), (99, .iadd, 1, 0, []), (100, .iconst 0, 1, 0, []), (101, .invokevirtual 23, 3, 39, [97, 98, 99, 60, 100]), (104, .iinc 7 1, 3, 0, []), (107, .goto 64, 3, 0, []), (110, .iload 5, 2, 0, []), (112, .ireturn, 1, 0, [])])
/-- LeaningTrees$Tree.spend(II)V -/
def s_m53 : sM := (yX5_spend, cX5_spend, 3, none, 3, 1, 26, [(0, .aload_n 0, 1, 0, []), (1, .dup, 1, 0, []), (2, .getfield 5184, 3, 54, [117]), (5, .iload_n 1, 1, 0, []), (6, .iload_n 2, 1, 0, []), (7, .isub, 1, 0, []), (8, .iadd, 1, 0, []), (9, .putfield 5184, 3, 54, [117]), (12, .aload_n 0, 1, 0, []), (13, .dup, 1, 0, []), (14, .getfield 5176, 3, 51, [115]), (17, .iload_n 2, 1, 0, []), (18, .iadd, 1, 0, []), (19, .putfield 5176, 3, 51, [115]), (22, .aload_n 0, 1, 0, []), (23, .dup, 1, 0, []), (24, .getfield 5192, 3, 57, [119]), (27, .iconst 1, 1, 0, []), (28, .iadd, 1, 0, []), (29, .putfield 5192, 3, 57, [119]), (32, .aload_n 0, 1, 0, []), (33, .aload_n 0, 1, 0, []), (34, .getfield 5200, 3, 60, [121]), (37, .iload_n 2, 1, 0, []), (38, .jsr 0, 3, 81, [319, 320, 66, 321]), (41, .putfield 5200, 3, 60, [121]), (44, .return_, 1, 0, [])])
/-- LeaningTrees$Tree.dropHollow(II)V -/
def s_m54 : sM := (yX5_dropHollow, cX5_dropHollow, 5, none, 3, 2, 44, [(0, .iload_n 1, 1, 0, []), (1, .istore_n 3, 1, 0, []), (2, .iload_n 1, 1, 0, []), (3, .istore 4, 2, 0, []), (5, .iload 4, 2, 0, []), (7, .aload_n 0, 1, 0, []), (8, .getfield 5168, 3, 47, [113]), (11, .if_icmp .ge 45, 3, 0, []), (14, .iload 4, 2, 0, []), (16, .iload_n 2, 1, 0, []), (17, .if_icmp .gt 29, 3, 0, []), (20, .aload_n 0, 1, 0, []), (21, .iload 4, 2, 0, []), (23, .invokevirtual 33, 3, 73, [355, 356, 357, 59, 358]), (26, .ifCond .eq 39, 3, 0, []), (29, .aload_n 0, 1, 0, []), (30, .iload 4, 2, 0, []), (32, .iload_n 3, 1, 0, []), (33, .invokevirtual 51, 3, 126, [326, 328, 4, 59, 329]), (36, .iinc 3 1, 3, 0, []), (39, .iinc 4 1, 3, 0, []), (42, .goto 5, 3, 0, []), (45, .aload_n 0, 1, 0, []), (46, .iload_n 3, 1, 0, []), (47, .putfield 5168, 3, 47, [113]), (50, .return_, 1, 0, [])])
/-- LeaningTrees$Tree.depthLaidEvenly(II)I -/
def s_m55 : sM := (yX5_depthLaidEvenly, cX5_depthLaidEvenly, 6, (some .int), 2, 0, 0, [(0, .iconst 0, 1, 0, []), (1, .istore_n 2, 1, 0, []), (2, .iload_n 1, 1, 0, []), (3, .iconst 1, 1, 0, []), (4, .isub, 1, 0, []), (5, .istore_n 3, 1, 0, []), (6, .iconst 0, 1, 0, []), (7, .istore 4, 2, 0, []), (9, .iload_n 2, 1, 0, []), (10, .iload_n 3, 1, 0, []), (11, .if_icmp .ge 74, 3, 0, []), (14, .iload 4, 2, 0, []), (16, .iload_n 1, 1, 0, []), (17, .if_icmp .ge 74, 3, 0, []), (20, .iload_n 2, 1, 0, []), (21, .iload_n 3, 1, 0, []), (22, .iload_n 2, 1, 0, []), (23, .isub, 1, 0, []), (24, .iconst 2, 1, 0, []), (25, .idiv, 1, 0, []), (26, .iadd, 1, 0, []), (27, .istore 5, 2, 0, []), (29, .iload_n 0, 1, 0, []), (30, .iload 5, 2, 0, []), (32, .if_icmp .ne 38, 3, 0, []), (35, .iload 4, 2, 0, []), (37, .ireturn, 1, 0, []), (38, .iload_n 0, 1, 0, []), (39, .iload 5, 2, 0, []), (41, .if_icmp .le 51, 3, 0, []), (44, .iload 5, 2, 0, []), (46, .iconst 1, 1, 0, []), (47, .iadd, 1, 0, []), (48, .goto 52, 3, 0, []), (51, .iload_n 2, 1, 0, []), (52, .istore_n 2, 1, 0, []), (53, .iload_n 0, 1, 0, []), (54, .iload 5, 2, 0, []), (56, .if_icmp .ge 66, 3, 0, []), (59, .iload 5, 2, 0, []), (61, .iconst 1, 1, 0, []), (62, .isub, 1, 0, []), (63, .goto 67, 3, 0, []), (66, .iload_n 3, 1, 0, []), (67, .istore_n 3, 1, 0, []), (68, .iinc 4 1, 3, 0, []), (71, .goto 9, 3, 0, []), (74, .iload 4, 2, 0, []), (76, .ireturn, 1, 0, [])])
/-- LeaningTrees.<init>()V -/
def s_m56 : sM := (yX6_init, cX6_init, 2, none, 1, 4, 89, [(0, .aload_n 0, 1, 0, []), (1, .monitorenter, 3, 1, [75, 76, 77]), (4, .aload_n 0, 1, 0, []), (5, .new 5, 3, 7, [78, 79, 59]), (8, .dup, 1, 0, []), (9, .invokespecial 28, 3, 9, [80, 81, 59, 82]), (12, .putfield 6146, 3, 10, [220]), (15, .aload_n 0, 1, 0, []), (16, .new 0, 3, 16, [146, 147, 61]), (19, .dup, 1, 0, []), (20, .invokespecial 0, 3, 18, [148, 149, 61, 150]), (23, .putfield 6154, 3, 19, [221]), (26, .aload_n 0, 1, 0, []), (27, .iconst 2, 1, 0, []), (28, .anewarray 4, 3, 23, [163]), (31, .putfield 6162, 3, 25, [222]), (34, .aload_n 0, 1, 0, []), (35, .new 2, 3, 29, [165, 166, 62]), (38, .dup, 1, 0, []), (39, .invokeinterface 17 0, 3, 31, [168, 62, 169]), (42, .putfield 6170, 3, 32, [223]), (45, .aload_n 0, 1, 0, []), (46, .new 1, 3, 36, [182, 183, 63]), (49, .dup, 1, 0, []), (50, .invokeinterface 5 0, 3, 38, [185, 63, 186]), (53, .putfield 6178, 3, 39, [224]), (56, .iconst 0, 1, 0, []), (57, .istore_n 1, 1, 0, []), (58, .iload_n 1, 1, 0, []), (59, .aload_n 0, 1, 0, []), (60, .getfield 6162, 3, 25, [222]), (63, .arraylength, 1, 0, []), (64, .if_icmp .ge 86, 3, 0, []), (67, .aload_n 0, 1, 0, []), (68, .getfield 6162, 3, 25, [222]), (71, .iload_n 1, 1, 0, []), (72, .new 4, 3, 23, [163, 205, 64]), (75, .dup, 1, 0, []), (76, .invokeinterface 27 0, 3, 43, [207, 64, 208]), (79, .aastore, 1, 0, []), (80, .iinc 1 1, 3, 0, []), (83, .goto 58, 3, 0, []), (86, .return_, 1, 0, [])])
/-- LeaningTrees.set(II)I -/
def s_m57 : sM := (yX6_set, cX6_set, 4, (some .int), 3, 4, 90, [(0, .iload_n 1, 1, 0, []), (1, .iload_n 2, 1, 0, []), (2, .invokestatic 80, 3, 44, [240, 241, 58, 242]), (5, .ifCond .ne 11, 3, 0, []), (8, .bipush (-2), 2, 0, []), (10, .ireturn, 1, 0, []), (11, .aload_n 0, 1, 0, []), (12, .getfield 6154, 3, 19, [221]), (15, .aload_n 0, 1, 0, []), (16, .getfield 6146, 3, 10, [220]), (19, .invokevirtual 1, 3, 48, [247, 248, 249, 61, 250]), (22, .aload_n 0, 1, 0, []), (23, .getfield 6146, 3, 10, [220]), (26, .getfield 5122, 3, 52, [102]), (29, .iload_n 1, 1, 0, []), (30, .invokevirtual 22, 3, 56, [273, 274, 275, 60, 276]), (33, .istore_n 3, 1, 0, []), (34, .aload_n 0, 1, 0, []), (35, .getfield 6146, 3, 10, [220]), (38, .getfield 5122, 3, 52, [102]), (41, .iload_n 1, 1, 0, []), (42, .iload_n 2, 1, 0, []), (43, .invokevirtual 23, 3, 62, [277, 98, 99, 60, 100]), (46, .iload_n 3, 1, 0, []), (47, .ireturn, 1, 0, [])])
/-- LeaningTrees.putIn(II)I -/
def s_m58 : sM := (yX6_putIn, cX6_putIn, 3, (some .int), 3, 5, 119, [(0, .iload_n 1, 1, 0, []), (1, .invokestatic 79, 3, 66, [282, 283, 58, 284]), (4, .ifCond .eq 14, 3, 0, []), (7, .iload_n 2, 1, 0, []), (8, .invokestatic 79, 3, 66, [282, 283, 58, 284]), (11, .ifCond .ne 17, 3, 0, []), (14, .bipush (-2), 2, 0, []), (16, .ireturn, 1, 0, []), (17, .aload_n 0, 1, 0, []), (18, .getfield 6146, 3, 10, [220]), (21, .iload_n 1, 1, 0, []), (22, .invokevirtual 45, 3, 70, [285, 286, 287, 59, 288]), (25, .ifCond .ne 31, 3, 0, []), (28, .bipush (-4), 2, 0, []), (30, .ireturn, 1, 0, []), (31, .aload_n 0, 1, 0, []), (32, .getfield 6154, 3, 19, [221]), (35, .aload_n 0, 1, 0, []), (36, .getfield 6146, 3, 10, [220]), (39, .invokevirtual 1, 3, 48, [247, 248, 249, 61, 250]), (42, .aload_n 0, 1, 0, []), (43, .getfield 6146, 3, 10, [220]), (46, .iload_n 1, 1, 0, []), (47, .iload_n 2, 1, 0, []), (48, .invokevirtual 46, 3, 73, [298, 299, 300, 59, 301]), (51, .ireturn, 1, 0, [])])
/-- LeaningTrees.remove(I)I -/
def s_m59 : sM := (yX6_remove, cX6_remove, 2, (some .int), 2, 5, 118, [(0, .iload_n 1, 1, 0, []), (1, .invokestatic 79, 3, 66, [282, 283, 58, 284]), (4, .ifCond .ne 10, 3, 0, []), (7, .bipush (-2), 2, 0, []), (9, .ireturn, 1, 0, []), (10, .aload_n 0, 1, 0, []), (11, .getfield 6146, 3, 10, [220]), (14, .iload_n 1, 1, 0, []), (15, .invokevirtual 32, 3, 77, [366, 367, 368, 59, 369]), (18, .bipush (-6), 2, 0, []), (20, .if_icmp .ne 25, 3, 0, []), (23, .iconst (-1), 1, 0, []), (24, .ireturn, 1, 0, []), (25, .aload_n 0, 1, 0, []), (26, .getfield 6154, 3, 19, [221]), (29, .aload_n 0, 1, 0, []), (30, .getfield 6146, 3, 10, [220]), (33, .invokevirtual 1, 3, 48, [247, 248, 249, 61, 250]), (36, .aload_n 0, 1, 0, []), (37, .getfield 6146, 3, 10, [220]), (40, .iload_n 1, 1, 0, []), (41, .invokevirtual 47, 3, 80, [370, 371, 372, 59, 373]), (44, .ireturn, 1, 0, [])])
/-- LeaningTrees.rebuild(I)I -/
def s_m60 : sM := (yX6_rebuild, cX6_rebuild, 2, (some .int), 2, 5, 117, [(0, .iload_n 1, 1, 0, []), (1, .invokestatic 79, 3, 66, [282, 283, 58, 284]), (4, .ifCond .ne 10, 3, 0, []), (7, .bipush (-2), 2, 0, []), (9, .ireturn, 1, 0, []), (10, .aload_n 0, 1, 0, []), (11, .getfield 6146, 3, 10, [220]), (14, .iload_n 1, 1, 0, []), (15, .invokevirtual 31, 3, 83, [383, 290, 291, 59, 292]), (18, .bipush (-6), 2, 0, []), (20, .if_icmp .ne 25, 3, 0, []), (23, .iconst (-1), 1, 0, []), (24, .ireturn, 1, 0, []), (25, .aload_n 0, 1, 0, []), (26, .getfield 6154, 3, 19, [221]), (29, .aload_n 0, 1, 0, []), (30, .getfield 6146, 3, 10, [220]), (33, .invokevirtual 1, 3, 48, [247, 248, 249, 61, 250]), (36, .aload_n 0, 1, 0, []), (37, .getfield 6146, 3, 10, [220]), (40, .iload_n 1, 1, 0, []), (41, .invokevirtual 48, 3, 86, [384, 385, 386, 59, 387]), (44, .ireturn, 1, 0, [])])
/-- LeaningTrees.value(I)I -/
def s_m61 : sM := (yX6_value, cX6_value, 3, (some .int), 2, 4, 87, [(0, .iload_n 1, 1, 0, []), (1, .invokestatic 79, 3, 66, [282, 283, 58, 284]), (4, .ifCond .ne 10, 3, 0, []), (7, .bipush (-2), 2, 0, []), (9, .ireturn, 1, 0, []), (10, .aload_n 0, 1, 0, []), (11, .getfield 6146, 3, 10, [220]), (14, .iload_n 1, 1, 0, []), (15, .invokevirtual 32, 3, 77, [366, 367, 368, 59, 369]), (18, .istore_n 2, 1, 0, []), (19, .iload_n 2, 1, 0, []), (20, .bipush (-6), 2, 0, []), (22, .if_icmp .ne 30, 3, 0, []), (25, .bipush (-6), 2, 0, []), (27, .goto 41, 3, 0, []), (30, .aload_n 0, 1, 0, []), (31, .getfield 6146, 3, 10, [220]), (34, .getfield 5138, 3, 89, [106]), (37, .iload_n 2, 1, 0, []), (38, .invokevirtual 22, 3, 56, [273, 274, 275, 60, 276]), (41, .ireturn, 1, 0, [])])
/-- LeaningTrees.node(II)I -/
def s_m62 : sM := (yX6_node, cX6_node, 4, (some .int), 3, 4, 94, [(0, .iload_n 1, 1, 0, []), (1, .invokestatic 79, 3, 66, [282, 283, 58, 284]), (4, .ifCond .eq 17, 3, 0, []), (7, .iload_n 2, 1, 0, []), (8, .ifCond .lt 17, 3, 0, []), (11, .iload_n 2, 1, 0, []), (12, .bipush 8, 2, 0, []), (14, .if_icmp .le 20, 3, 0, []), (17, .bipush (-2), 2, 0, []), (19, .ireturn, 1, 0, []), (20, .aload_n 0, 1, 0, []), (21, .getfield 6146, 3, 10, [220]), (24, .iload_n 1, 1, 0, []), (25, .invokevirtual 31, 3, 83, [383, 290, 291, 59, 292]), (28, .istore_n 3, 1, 0, []), (29, .iload_n 3, 1, 0, []), (30, .bipush (-6), 2, 0, []), (32, .if_icmp .ne 39, 3, 0, []), (35, .iconst (-1), 1, 0, []), (36, .goto 45, 3, 0, []), (39, .aload_n 0, 1, 0, []), (40, .iload_n 3, 1, 0, []), (41, .iload_n 2, 1, 0, []), (42, .invokevirtual 82, 3, 92, [396, 398, 8, 58, 399]), (45, .ireturn, 1, 0, [])])
/-- LeaningTrees.count(I)I -/
def s_m63 : sM := (yX6_count, cX6_count, 2, (some .int), 2, 5, 112, [(0, .iload_n 1, 1, 0, []), (1, .ifCond .lt 10, 3, 0, []), (4, .iload_n 1, 1, 0, []), (5, .bipush 14, 2, 0, []), (7, .if_icmp .le 13, 3, 0, []), (10, .bipush (-2), 2, 0, []), (12, .ireturn, 1, 0, []), (13, .iload_n 1, 1, 0, []), (14, .lookupswitch 56 #[(13, 40), (14, 48)], 26, 0, []), (40, .aload_n 0, 1, 0, []), (41, .getfield 6170, 3, 32, [223]), (44, .getfield 2056, 3, 95, [176]), (47, .ireturn, 1, 0, []), (48, .aload_n 0, 1, 0, []), (49, .getfield 6154, 3, 19, [221]), (52, .getfield 8, 3, 99, [157]), (55, .ireturn, 1, 0, []), (56, .iload_n 1, 1, 0, []), (57, .iconst 4, 1, 0, []), (58, .if_icmp .ge 69, 3, 0, []), (61, .aload_n 0, 1, 0, []), (62, .iload_n 1, 1, 0, []), (63, .invokevirtual 83, 3, 100, [422, 424, 10, 58, 425]), (66, .goto 74, 3, 0, []), (69, .aload_n 0, 1, 0, []), (70, .iload_n 1, 1, 0, []), (71, .invokevirtual 84, 3, 103, [427, 429, 11, 58, 430]), (74, .ireturn, 1, 0, [])])
/-- LeaningTrees.meanDepth(I)J -/
def s_m64 : sM := (yX6_meanDepth, cX6_meanDepth, 4, (some .long), 2, 2, 45, [(0, .iload_n 1, 1, 0, []), (1, .ifCond .eq 13, 3, 0, []), (4, .iload_n 1, 1, 0, []), (5, .iconst 1, 1, 0, []), (6, .if_icmp .eq 13, 3, 0, []), (9, .ldc2_w 18446744073709551614, 3, 106, [441]), (12, .lreturn, 1, 0, []), (13, .aload_n 0, 1, 0, []), (14, .getfield 6146, 3, 10, [220]), (17, .getfield 5168, 3, 108, [114]), (20, .ifCond .gt 25, 3, 0, []), (23, .lconst 0, 1, 0, []), (24, .lreturn, 1, 0, []), (25, .aload_n 0, 1, 0, []), (26, .getfield 6146, 3, 10, [220]), (29, .getfield 5154, 3, 111, [110]), (32, .iconst 0, 1, 0, []), (33, .aload_n 0, 1, 0, []), (34, .getfield 6146, 3, 10, [220]), (37, .getfield 5168, 3, 108, [114]), (40, .iconst 1, 1, 0, []), (41, .isub, 1, 0, []), (42, .invokevirtual 25, 3, 114, [408, 343, 344, 60, 345]), (45, .i2d, 1, 0, []), (46, .aload_n 0, 1, 0, []), (47, .getfield 6146, 3, 10, [220]), (50, .getfield 5168, 3, 108, [114]), (53, .i2d, 1, 0, []), (54, .ddiv, 1, 0, []), (55, .dstore_n 2, 1, 0, []), (56, .iload_n 1, 1, 0, []), (57, .ifCond .ne 64, 3, 0, []), (60, .dload_n 2, 1, 0, []), (61, .goto 69, 3, 0, []), (64, .dload_n 2, 1, 0, []), (65, .dload_n 2, 1, 0, []), (66, .d2l, 1, 0, []), (67, .l2d, 1, 0, []), (68, .dsub, 1, 0, []), (69, .invokestatic 87, 3, 117, [442, 443, 58, 444]), (72, .lreturn, 1, 0, [])])
/-- LeaningTrees.leaning(I)I -/
def s_m65 : sM := (yX6_leaning, cX6_leaning, 6, (some .int), 2, 3, 65, [(0, .iload_n 1, 1, 0, []), (1, .invokestatic 79, 3, 66, [282, 283, 58, 284]), (4, .ifCond .ne 10, 3, 0, []), (7, .bipush (-2), 2, 0, []), (9, .ireturn, 1, 0, []), (10, .aload_n 0, 1, 0, []), (11, .getfield 6146, 3, 10, [220]), (14, .iload_n 1, 1, 0, []), (15, .invokevirtual 31, 3, 83, [383, 290, 291, 59, 292]), (18, .istore_n 2, 1, 0, []), (19, .iload_n 2, 1, 0, []), (20, .bipush (-6), 2, 0, []), (22, .if_icmp .ne 27, 3, 0, []), (25, .iconst (-1), 1, 0, []), (26, .ireturn, 1, 0, []), (27, .aload_n 0, 1, 0, []), (28, .getfield 6146, 3, 10, [220]), (31, .iload_n 2, 1, 0, []), (32, .invokevirtual 37, 3, 121, [400, 335, 336, 59, 337]), (35, .istore_n 3, 1, 0, []), (36, .aload_n 0, 1, 0, []), (37, .getfield 6146, 3, 10, [220]), (40, .iload_n 2, 1, 0, []), (41, .invokevirtual 38, 3, 124, [401, 339, 340, 59, 341]), (44, .istore 4, 2, 0, []), (46, .iload 4, 2, 0, []), (48, .iload_n 3, 1, 0, []), (49, .isub, 1, 0, []), (50, .iconst 1, 1, 0, []), (51, .iadd, 1, 0, []), (52, .istore 5, 2, 0, []), (54, .iload 5, 2, 0, []), (56, .ifCond .gt 61, 3, 0, []), (59, .iconst 0, 1, 0, []), (60, .ireturn, 1, 0, []), (61, .iload_n 2, 1, 0, []), (62, .iload_n 3, 1, 0, []), (63, .isub, 1, 0, []), (64, .iload 4, 2, 0, []), (66, .iload_n 2, 1, 0, []), (67, .isub, 1, 0, []), (68, .jsr 0, 3, 127, [451, 320, 66, 321]), (71, .i2f, 1, 0, []), (72, .iload 5, 2, 0, []), (74, .i2f, 1, 0, []), (75, .fdiv, 1, 0, []), (76, .invokestatic 88, 3, 132, [452, 453, 58, 454]), (79, .ireturn, 1, 0, [])])
/-- LeaningTrees.rank(I)I -/
def s_m66 : sM := (yX6_rank, cX6_rank, 2, (some .int), 2, 3, 66, [(0, .iload_n 1, 1, 0, []), (1, .invokestatic 79, 3, 66, [282, 283, 58, 284]), (4, .ifCond .eq 18, 3, 0, []), (7, .aload_n 0, 1, 0, []), (8, .getfield 6146, 3, 10, [220]), (11, .iload_n 1, 1, 0, []), (12, .invokevirtual 35, 3, 136, [460, 461, 462, 59, 463]), (15, .goto 20, 3, 0, []), (18, .bipush (-2), 2, 0, []), (20, .ireturn, 1, 0, [])])
/-- LeaningTrees.kth(I)I -/
def s_m67 : sM := (yX6_kth, cX6_kth, 3, (some .int), 2, 3, 65, [(0, .aload_n 0, 1, 0, []), (1, .getfield 6146, 3, 10, [220]), (4, .iload_n 1, 1, 0, []), (5, .invokevirtual 36, 3, 139, [468, 469, 470, 59, 471]), (8, .istore_n 2, 1, 0, []), (9, .iload_n 2, 1, 0, []), (10, .bipush (-6), 2, 0, []), (12, .if_icmp .ne 19, 3, 0, []), (15, .iconst (-1), 1, 0, []), (16, .goto 30, 3, 0, []), (19, .aload_n 0, 1, 0, []), (20, .getfield 6146, 3, 10, [220]), (23, .getfield 5130, 3, 142, [104]), (26, .iload_n 2, 1, 0, []), (27, .invokevirtual 22, 3, 56, [273, 274, 275, 60, 276]), (30, .ireturn, 1, 0, [])])
/-- LeaningTrees.neighbour(II)I -/
def s_m68 : sM := (yX6_neighbour, cX6_neighbour, 6, (some .int), 3, 4, 87, [(0, .iload_n 1, 1, 0, []), (1, .invokestatic 79, 3, 66, [282, 283, 58, 284]), (4, .ifCond .eq 16, 3, 0, []), (7, .iload_n 2, 1, 0, []), (8, .ifCond .eq 19, 3, 0, []), (11, .iload_n 2, 1, 0, []), (12, .iconst 1, 1, 0, []), (13, .if_icmp .eq 19, 3, 0, []), (16, .bipush (-2), 2, 0, []), (18, .ireturn, 1, 0, []), (19, .aload_n 0, 1, 0, []), (20, .getfield 6146, 3, 10, [220]), (23, .iload_n 1, 1, 0, []), (24, .invokevirtual 35, 3, 136, [460, 461, 462, 59, 463]), (27, .istore_n 3, 1, 0, []), (28, .aload_n 0, 1, 0, []), (29, .getfield 6146, 3, 10, [220]), (32, .iload_n 1, 1, 0, []), (33, .invokevirtual 32, 3, 77, [366, 367, 368, 59, 369]), (36, .bipush (-6), 2, 0, []), (38, .if_icmp .ne 45, 3, 0, []), (41, .iconst 0, 1, 0, []), (42, .goto 46, 3, 0, []), (45, .iconst 1, 1, 0, []), (46, .istore 4, 2, 0, []), (48, .aload_n 0, 1, 0, []), (49, .getfield 6146, 3, 10, [220]), (52, .iload_n 2, 1, 0, []), (53, .ifCond .ne 62, 3, 0, []), (56, .iload_n 3, 1, 0, []), (57, .iconst 1, 1, 0, []), (58, .isub, 1, 0, []), (59, .goto 66, 3, 0, []), (62, .iload_n 3, 1, 0, []), (63, .iload 4, 2, 0, []), (65, .iadd, 1, 0, []), (66, .invokevirtual 36, 3, 139, [468, 469, 470, 59, 471]), (69, .istore 5, 2, 0, []), (71, .iload 5, 2, 0, []), (73, .bipush (-6), 2, 0, []), (75, .if_icmp .ne 83, 3, 0, []), (78, .bipush (-6), 2, 0, []), (80, .goto 95, 3, 0, []), (83, .aload_n 0, 1, 0, []), (84, .getfield 6146, 3, 10, [220]), (87, .getfield 5130, 3, 142, [104]), (90, .iload 5, 2, 0, []), (92, .invokevirtual 22, 3, 56, [273, 274, 275, 60, 276]), (95, .ireturn, 1, 0, [])])
/-- LeaningTrees.sum(II)I -/
def s_m69 : sM := (yX6_sum, cX6_sum, 5, (some .int), 3, 2, 43, [(0, .iload_n 1, 1, 0, []), (1, .invokestatic 79, 3, 66, [282, 283, 58, 284]), (4, .ifCond .eq 19, 3, 0, []), (7, .iload_n 2, 1, 0, []), (8, .invokestatic 79, 3, 66, [282, 283, 58, 284]), (11, .ifCond .eq 19, 3, 0, []), (14, .iload_n 2, 1, 0, []), (15, .iload_n 1, 1, 0, []), (16, .if_icmp .ge 22, 3, 0, []), (19, .bipush (-2), 2, 0, []), (21, .ireturn, 1, 0, []), (22, .iconst 0, 1, 0, []), (23, .istore_n 3, 1, 0, []), (24, .aload_n 0, 1, 0, []), (25, .getfield 6146, 3, 10, [220]), (28, .iload_n 1, 1, 0, []), (29, .invokevirtual 30, 3, 145, [480, 294, 295, 59, 296]), (32, .istore 4, 2, 0, []), (34, .iload 4, 2, 0, []), (36, .aload_n 0, 1, 0, []), (37, .getfield 6146, 3, 10, [220]), (40, .getfield 5168, 3, 108, [114]), (43, .if_icmp .ge 99, 3, 0, []), (46, .aload_n 0, 1, 0, []), (47, .getfield 6146, 3, 10, [220]), (50, .getfield 5130, 3, 142, [104]), (53, .iload 4, 2, 0, []), (55, .invokevirtual 22, 3, 56, [273, 274, 275, 60, 276]), (58, .iload_n 2, 1, 0, []), (59, .if_icmp .gt 99, 3, 0, []), (62, .iload_n 3, 1, 0, []), (63, .aload_n 0, 1, 0, []), (64, .getfield 6146, 3, 10, [220]), (67, .iload 4, 2, 0, []), (69, .invokevirtual 33, 3, 148, [407, 356, 357, 59, 358]), (72, .ifCond .eq 90, 3, 0, []), (75, .aload_n 0, 1, 0, []), (76, .getfield 6146, 3, 10, [220]), (79, .getfield 5138, 3, 89, [106]), (82, .iload 4, 2, 0, []), (84, .invokevirtual 22, 3, 56, [273, 274, 275, 60, 276]), (87, .goto 91, 3, 0, []), (90, .iconst 0, 1, 0, []), (91, .iadd, 1, 0, []), (92, .istore_n 3, 1, 0, []), (93, .iinc 4 1, 3, 0, []), (96, .goto 34, 3, 0, []), (99, .iload_n 3, 1, 0, []), (100, .ireturn, 1, 0, [])])
/-- LeaningTrees.wouldCost(I)I -/
def s_m70 : sM := (yX6_wouldCost, cX6_wouldCost, 2, (some .int), 2, 4, 97, [(0, .iload_n 1, 1, 0, []), (1, .invokestatic 79, 3, 66, [282, 283, 58, 284]), (4, .ifCond .ne 10, 3, 0, []), (7, .bipush (-2), 2, 0, []), (9, .ireturn, 1, 0, []), (10, .aload_n 0, 1, 0, []), (11, .getfield 6146, 3, 10, [220]), (14, .iload_n 1, 1, 0, []), (15, .invokevirtual 45, 3, 70, [285, 286, 287, 59, 288]), (18, .ifCond .eq 32, 3, 0, []), (21, .aload_n 0, 1, 0, []), (22, .getfield 6146, 3, 10, [220]), (25, .iload_n 1, 1, 0, []), (26, .invokevirtual 44, 3, 151, [485, 486, 487, 59, 488]), (29, .goto 34, 3, 0, []), (32, .bipush (-4), 2, 0, []), (34, .ireturn, 1, 0, [])])
/-- LeaningTrees.worst(I)I -/
def s_m71 : sM := (yX6_worst, cX6_worst, 7, (some .int), 2, 4, 97, [(0, .iload_n 1, 1, 0, []), (1, .ifCond .eq 12, 3, 0, []), (4, .iload_n 1, 1, 0, []), (5, .iconst 1, 1, 0, []), (6, .if_icmp .eq 12, 3, 0, []), (9, .bipush (-2), 2, 0, []), (11, .ireturn, 1, 0, []), (12, .aload_n 0, 1, 0, []), (13, .getfield 6146, 3, 10, [220]), (16, .getfield 5168, 3, 108, [114]), (19, .bipush 60, 2, 0, []), (21, .if_icmp .lt 27, 3, 0, []), (24, .bipush (-4), 2, 0, []), (26, .ireturn, 1, 0, []), (27, .iconst 0, 1, 0, []), (28, .istore_n 2, 1, 0, []), (29, .iconst 0, 1, 0, []), (30, .istore_n 3, 1, 0, []), (31, .iconst 0, 1, 0, []), (32, .istore 4, 2, 0, []), (34, .iload 4, 2, 0, []), (36, .aload_n 0, 1, 0, []), (37, .getfield 6146, 3, 10, [220]), (40, .getfield 5168, 3, 108, [114]), (43, .if_icmp .gt 114, 3, 0, []), (46, .iload 4, 2, 0, []), (48, .ifCond .ne 55, 3, 0, []), (51, .iconst 0, 1, 0, []), (52, .goto 71, 3, 0, []), (55, .aload_n 0, 1, 0, []), (56, .getfield 6146, 3, 10, [220]), (59, .getfield 5130, 3, 142, [104]), (62, .iload 4, 2, 0, []), (64, .iconst 1, 1, 0, []), (65, .isub, 1, 0, []), (66, .invokevirtual 22, 3, 56, [273, 274, 275, 60, 276]), (69, .iconst 1, 1, 0, []), (70, .iadd, 1, 0, []), (71, .istore 5, 2, 0, []), (73, .iload 5, 2, 0, []), (75, .invokestatic 79, 3, 66, [282, 283, 58, 284]), (78, .ifCond .eq 93, 3, 0, []), (81, .aload_n 0, 1, 0, []), (82, .getfield 6146, 3, 10, [220]), (85, .iload 5, 2, 0, []), (87, .invokevirtual 44, 3, 151, [485, 486, 487, 59, 488]), (90, .goto 94, 3, 0, []), (93, .iconst 0, 1, 0, []), (94, .istore 6, 2, 0, []), (96, .iload 6, 2, 0, []), (98, .iload_n 3, 1, 0, []), (99, .if_icmp .le 108, 3, 0, []), (102, .iload 6, 2, 0, []), (104, .istore_n 3, 1, 0, []), (105, .iload 5, 2, 0, []), (107, .istore_n 2, 1, 0, []), (108, .iinc 4 1, 3, 0, []), (111, .goto 34, 3, 0, []), (114, .iload_n 1, 1, 0, []), (115, .ifCond .ne 122, 3, 0, []), (118, .iload_n 2, 1, 0, []), (119, .goto 123, 3, 0, []), (122, .iload_n 3, 1, 0, []), (123, .ireturn, 1, 0, [])])
/-- LeaningTrees.put(J)I -/
def s_m72 : sM := (yX6_put, cX6_put, 4, (some .int), 2, 2, 46, [(0, .lload_n 1, 1, 0, []), (1, .invokestatic 18, 3, 154, [497, 498, 62, 499]), (4, .istore_n 3, 1, 0, []), (5, .iload_n 3, 1, 0, []), (6, .ifCond .gt 12, 3, 0, []), (9, .bipush (-2), 2, 0, []), (11, .ireturn, 1, 0, []), (12, .aload_n 0, 1, 0, []), (13, .getfield 6170, 3, 32, [223]), (16, .getfield 2056, 3, 95, [176]), (19, .iload_n 3, 1, 0, []), (20, .iadd, 1, 0, []), (21, .bipush 80, 2, 0, []), (23, .if_icmp .le 29, 3, 0, []), (26, .bipush (-4), 2, 0, []), (28, .ireturn, 1, 0, []), (29, .aload_n 0, 1, 0, []), (30, .getfield 6170, 3, 32, [223]), (33, .lload_n 1, 1, 0, []), (34, .iload_n 3, 1, 0, []), (35, .invokevirtual 19, 3, 158, [503, 504, 505, 62, 506]), (38, .aload_n 0, 1, 0, []), (39, .getfield 6170, 3, 32, [223]), (42, .getfield 2056, 3, 95, [176]), (45, .ireturn, 1, 0, [])])
/-- LeaningTrees.wipe()I -/
def s_m73 : sM := (yX6_wipe, cX6_wipe, 2, (some .int), 1, 0, 0, [(0, .aload_n 0, 1, 0, []), (1, .getfield 6170, 3, 32, [223]), (4, .getfield 2056, 3, 95, [176]), (7, .istore_n 1, 1, 0, []), (8, .aload_n 0, 1, 0, []), (9, .getfield 6170, 3, 32, [223]), (12, .iconst 0, 1, 0, []), (13, .putfield 2056, 3, 95, [176]), (16, .iload_n 1, 1, 0, []), (17, .ireturn, 1, 0, [])])
/-- LeaningTrees.fault()I -/
def s_m74 : sM := (yX6_fault, cX6_fault, 2, (some .int), 1, 3, 63, [(0, .aload_n 0, 1, 0, []), (1, .getfield 6178, 3, 39, [224]), (4, .invokevirtual 6, 3, 162, [516, 517, 518, 63, 519]), (7, .iconst 0, 1, 0, []), (8, .istore_n 1, 1, 0, []), (9, .iload_n 1, 1, 0, []), (10, .aload_n 0, 1, 0, []), (11, .getfield 6170, 3, 32, [223]), (14, .getfield 2056, 3, 95, [176]), (17, .if_icmp .ge 49, 3, 0, []), (20, .aload_n 0, 1, 0, []), (21, .getfield 6178, 3, 39, [224]), (24, .aload_n 0, 1, 0, []), (25, .getfield 6170, 3, 32, [223]), (28, .getfield 2050, 3, 165, [174]), (31, .iload_n 1, 1, 0, []), (32, .invokevirtual 22, 3, 56, [273, 274, 275, 60, 276]), (35, .invokevirtual 7, 3, 168, [520, 521, 522, 63, 523]), (38, .ifCond .ne 43, 3, 0, []), (41, .iload_n 1, 1, 0, []), (42, .ireturn, 1, 0, []), (43, .iinc 1 1, 3, 0, []), (46, .goto 9, 3, 0, []), (49, .aload_n 0, 1, 0, []), (50, .getfield 6178, 3, 39, [224]), (53, .invokevirtual 8, 3, 171, [547, 548, 549, 63, 550]), (56, .ifCond .eq 64, 3, 0, []), (59, .bipush (-6), 2, 0, []), (61, .goto 71, 3, 0, []), (64, .aload_n 0, 1, 0, []), (65, .getfield 6170, 3, 32, [223]), (68, .getfield 2056, 3, 95, [176]), (71, .ireturn, 1, 0, [])])
/-- LeaningTrees.carryOut()I -/
def s_m75 : sM := (yX6_carryOut, cX6_carryOut, 4, (some .int), 1, 6, 140, [(0, .aload_n 0, 1, 0, []), (1, .invokevirtual 74, 3, 175, [555, 513, 514, 58, 515]), (4, .bipush (-6), 2, 0, []), (6, .if_icmp .eq 12, 3, 0, []), (9, .bipush (-3), 2, 0, []), (11, .ireturn, 1, 0, []), (12, .aload_n 0, 1, 0, []), (13, .getfield 6154, 3, 19, [221]), (16, .aload_n 0, 1, 0, []), (17, .getfield 6146, 3, 10, [220]), (20, .invokevirtual 1, 3, 48, [247, 248, 249, 61, 250]), (23, .iconst 0, 1, 0, []), (24, .istore_n 1, 1, 0, []), (25, .aload_n 0, 1, 0, []), (26, .getfield 6178, 3, 39, [224]), (29, .invokevirtual 6, 3, 162, [516, 517, 518, 63, 519]), (32, .iconst 0, 1, 0, []), (33, .istore_n 2, 1, 0, []), (34, .iload_n 2, 1, 0, []), (35, .aload_n 0, 1, 0, []), (36, .getfield 6170, 3, 32, [223]), (39, .getfield 2056, 3, 95, [176]), (42, .if_icmp .gt 107, 3, 0, []), (45, .iload_n 2, 1, 0, []), (46, .aload_n 0, 1, 0, []), (47, .getfield 6170, 3, 32, [223]), (50, .getfield 2056, 3, 95, [176]), (53, .if_icmp .ge 70, 3, 0, []), (56, .aload_n 0, 1, 0, []), (57, .getfield 6170, 3, 32, [223]), (60, .getfield 2050, 3, 165, [174]), (63, .iload_n 2, 1, 0, []), (64, .invokevirtual 22, 3, 56, [273, 274, 275, 60, 276]), (67, .goto 72, 3, 0, []), (70, .bipush 59, 2, 0, []), (72, .istore_n 3, 1, 0, []), (73, .iload_n 3, 1, 0, []), (74, .bipush 59, 2, 0, []), (76, .if_icmp .ne 92, 3, 0, []), (79, .aload_n 0, 1, 0, []), (80, .invokevirtual 86, 3, 179, [556, 558, 17, 58, 559]), (83, .ifCond .ge 89, 3, 0, []), (86, .goto 107, 3, 0, []), (89, .iinc 1 1, 3, 0, []), (92, .aload_n 0, 1, 0, []), (93, .getfield 6178, 3, 39, [224]), (96, .iload_n 3, 1, 0, []), (97, .invokevirtual 7, 3, 168, [520, 521, 522, 63, 523]), (100, .pop, 1, 0, []), (101, .iinc 2 1, 3, 0, []), (104, .goto 34, 3, 0, []), (107, .aload_n 0, 1, 0, []), (108, .getfield 6170, 3, 32, [223]), (111, .iconst 0, 1, 0, []), (112, .putfield 2056, 3, 95, [176]), (115, .iload_n 1, 1, 0, []), (116, .ireturn, 1, 0, [])])
/-- LeaningTrees.undo()I -/
def s_m76 : sM := (yX6_undo, cX6_undo, 1, (some .int), 1, 4, 90, [(0, .aload_n 0, 1, 0, []), (1, .getfield 6154, 3, 19, [221]), (4, .aload_n 0, 1, 0, []), (5, .getfield 6146, 3, 10, [220]), (8, .invokevirtual 2, 3, 182, [572, 573, 574, 61, 575]), (11, .ifCond .eq 24, 3, 0, []), (14, .aload_n 0, 1, 0, []), (15, .getfield 6154, 3, 19, [221]), (18, .getfield 8, 3, 99, [157]), (21, .goto 26, 3, 0, []), (24, .bipush (-5), 2, 0, []), (26, .ireturn, 1, 0, [])])
/-- LeaningTrees.save(I)I -/
def s_m77 : sM := (yX6_save, cX6_save, 3, (some .int), 2, 3, 68, [(0, .aload_n 0, 1, 0, []), (1, .iload_n 1, 1, 0, []), (2, .invokevirtual 81, 3, 186, [580, 582, 18, 58, 583]), (5, .astore_n 2, 1, 0, []), (6, .aload_n 2, 1, 0, []), (7, .ifnonnull 13, 3, 0, []), (10, .bipush (-2), 2, 0, []), (12, .ireturn, 1, 0, []), (13, .aload_n 2, 1, 0, []), (14, .getfield 4098, 3, 190, [213]), (17, .aload_n 0, 1, 0, []), (18, .getfield 6146, 3, 10, [220]), (21, .invokevirtual 29, 3, 193, [584, 260, 261, 59, 262]), (24, .aload_n 2, 1, 0, []), (25, .iconst 1, 1, 0, []), (26, .putfield 4105, 3, 196, [214]), (29, .aload_n 0, 1, 0, []), (30, .getfield 6146, 3, 10, [220]), (33, .invokevirtual 34, 3, 200, [426, 376, 377, 59, 378]), (36, .ireturn, 1, 0, [])])
/-- LeaningTrees.restore(I)I -/
def s_m78 : sM := (yX6_restore, cX6_restore, 3, (some .int), 2, 4, 90, [(0, .aload_n 0, 1, 0, []), (1, .iload_n 1, 1, 0, []), (2, .invokevirtual 81, 3, 186, [580, 582, 18, 58, 583]), (5, .astore_n 2, 1, 0, []), (6, .aload_n 2, 1, 0, []), (7, .ifnonnull 13, 3, 0, []), (10, .bipush (-2), 2, 0, []), (12, .ireturn, 1, 0, []), (13, .aload_n 2, 1, 0, []), (14, .getfield 4105, 3, 196, [214]), (17, .ifCond .ne 23, 3, 0, []), (20, .bipush (-5), 2, 0, []), (22, .ireturn, 1, 0, []), (23, .aload_n 0, 1, 0, []), (24, .getfield 6154, 3, 19, [221]), (27, .aload_n 0, 1, 0, []), (28, .getfield 6146, 3, 10, [220]), (31, .invokevirtual 1, 3, 48, [247, 248, 249, 61, 250]), (34, .aload_n 0, 1, 0, []), (35, .getfield 6146, 3, 10, [220]), (38, .aload_n 2, 1, 0, []), (39, .getfield 4098, 3, 190, [213]), (42, .invokevirtual 29, 3, 193, [584, 260, 261, 59, 262]), (45, .aload_n 0, 1, 0, []), (46, .getfield 6146, 3, 10, [220]), (49, .invokevirtual 34, 3, 200, [426, 376, 377, 59, 378]), (52, .ireturn, 1, 0, [])])
/-- LeaningTrees.isNumber(I)Z -/
def s_m79 : sM := (yX6_isNumber, cX6_isNumber, 1, (some .boolean), 1, 0, 0, [(0, .iload_n 0, 1, 0, []), (1, .ifCond .lt 15, 3, 0, []), (4, .iload_n 0, 1, 0, []), (5, .sipush 999, 3, 0, []), (8, .if_icmp .gt 15, 3, 0, []), (11, .iconst 1, 1, 0, []), (12, .goto 16, 3, 0, []), (15, .iconst 0, 1, 0, []), (16, .ireturn, 1, 0, [])])
/-- LeaningTrees.isSetting(II)Z -/
def s_m80 : sM := (yX6_isSetting, cX6_isSetting, 2, (some .boolean), 2, 0, 0, [(0, .iload_n 0, 1, 0, []), (1, .ifCond .lt 20, 3, 0, []), (4, .iload_n 0, 1, 0, []), (5, .getstatic 1, 3, 203, [243]), (8, .arraylength, 1, 0, []), (9, .if_icmp .ge 20, 3, 0, []), (12, .iload_n 0, 1, 0, []), (13, .getstatic 2, 3, 207, [245]), (16, .arraylength, 1, 0, []), (17, .if_icmp .lt 22, 3, 0, []), (20, .iconst 0, 1, 0, []), (21, .ireturn, 1, 0, []), (22, .iload_n 1, 1, 0, []), (23, .getstatic 1, 3, 203, [243]), (26, .iload_n 0, 1, 0, []), (27, .iaload, 1, 0, []), (28, .if_icmp .lt 44, 3, 0, []), (31, .iload_n 1, 1, 0, []), (32, .getstatic 2, 3, 207, [245]), (35, .iload_n 0, 1, 0, []), (36, .iaload, 1, 0, []), (37, .if_icmp .gt 44, 3, 0, []), (40, .iconst 1, 1, 0, []), (41, .goto 45, 3, 0, []), (44, .iconst 0, 1, 0, []), (45, .ireturn, 1, 0, [])])
/-- LeaningTrees.slotAt(I)LLeaningTrees$Slot; -/
def s_m81 : sM := (yX6_slotAt, cX6_slotAt, 2, (some (.object "LeaningTrees$Slot")), 2, 0, 0, [(0, .iload_n 1, 1, 0, []), (1, .ifCond .lt 22, 3, 0, []), (4, .iload_n 1, 1, 0, []), (5, .aload_n 0, 1, 0, []), (6, .getfield 6162, 3, 25, [222]), (9, .arraylength, 1, 0, []), (10, .if_icmp .ge 22, 3, 0, []), (13, .aload_n 0, 1, 0, []), (14, .getfield 6162, 3, 25, [222]), (17, .iload_n 1, 1, 0, []), (18, .aaload, 1, 0, []), (19, .goto 23, 3, 0, []), (22, .aconst_null, 1, 0, []), (23, .areturn, 1, 0, [])])
/-- LeaningTrees.aboutNode(II)I -/
def s_m82 : sM := (yX6_aboutNode, cX6_aboutNode, 6, (some .int), 3, 3, 69, [(0, .aload_n 0, 1, 0, []), (1, .getfield 6146, 3, 10, [220]), (4, .iload_n 1, 1, 0, []), (5, .invokevirtual 37, 3, 121, [400, 335, 336, 59, 337]), (8, .istore_n 3, 1, 0, []), (9, .aload_n 0, 1, 0, []), (10, .getfield 6146, 3, 10, [220]), (13, .iload_n 1, 1, 0, []), (14, .invokevirtual 38, 3, 124, [401, 339, 340, 59, 341]), (17, .istore 4, 2, 0, []), (19, .aload_n 0, 1, 0, []), (20, .getfield 6146, 3, 10, [220]), (23, .getfield 5154, 3, 111, [110]), (26, .iload_n 1, 1, 0, []), (27, .invokevirtual 22, 3, 56, [273, 274, 275, 60, 276]), (30, .istore 5, 2, 0, []), (32, .iload_n 2, 1, 0, []), (33, .tableswitch 177 0 7 #[80, 93, 107, 114, 117, 129, 146, 160], 47, 0, []), (80, .aload_n 0, 1, 0, []), (81, .iload_n 3, 1, 0, []), (82, .iload_n 1, 1, 0, []), (83, .iconst 1, 1, 0, []), (84, .isub, 1, 0, []), (85, .iload 5, 2, 0, []), (87, .iconst 1, 1, 0, []), (88, .iadd, 1, 0, []), (89, .invokevirtual 85, 3, 210, [402, 404, 9, 58, 405]), (92, .ireturn, 1, 0, []), (93, .aload_n 0, 1, 0, []), (94, .iload_n 1, 1, 0, []), (95, .iconst 1, 1, 0, []), (96, .iadd, 1, 0, []), (97, .iload 4, 2, 0, []), (99, .iload 5, 2, 0, []), (101, .iconst 1, 1, 0, []), (102, .iadd, 1, 0, []), (103, .invokevirtual 85, 3, 210, [402, 404, 9, 58, 405]), (106, .ireturn, 1, 0, []), (107, .iload 4, 2, 0, []), (109, .iload_n 3, 1, 0, []), (110, .isub, 1, 0, []), (111, .iconst 1, 1, 0, []), (112, .iadd, 1, 0, []), (113, .ireturn, 1, 0, []), (114, .iload 5, 2, 0, []), (116, .ireturn, 1, 0, []), (117, .aload_n 0, 1, 0, []), (118, .getfield 6146, 3, 10, [220]), (121, .getfield 5146, 3, 214, [108]), (124, .iload_n 1, 1, 0, []), (125, .invokevirtual 22, 3, 56, [273, 274, 275, 60, 276]), (128, .ireturn, 1, 0, []), (129, .aload_n 0, 1, 0, []), (130, .getfield 6146, 3, 10, [220]), (133, .iload_n 1, 1, 0, []), (134, .invokevirtual 33, 3, 148, [407, 356, 357, 59, 358]), (137, .ifCond .eq 144, 3, 0, []), (140, .iconst 1, 1, 0, []), (141, .goto 145, 3, 0, []), (144, .iconst 0, 1, 0, []), (145, .ireturn, 1, 0, []), (146, .aload_n 0, 1, 0, []), (147, .getfield 6146, 3, 10, [220]), (150, .getfield 5162, 3, 217, [112]), (153, .iload_n 3, 1, 0, []), (154, .iload 4, 2, 0, []), (156, .invokevirtual 25, 3, 114, [408, 343, 344, 60, 345]), (159, .ireturn, 1, 0, []), (160, .aload_n 0, 1, 0, []), (161, .getfield 6146, 3, 10, [220]), (164, .iload_n 1, 1, 0, []), (165, .invokevirtual 41, 3, 220, [409, 410, 411, 59, 412]), (168, .ifCond .eq 175, 3, 0, []), (171, .iconst 1, 1, 0, []), (172, .goto 176, 3, 0, []), (175, .iconst 0, 1, 0, []), (176, .ireturn, 1, 0, []), (177, .aload_n 0, 1, 0, []), (178, .getfield 6146, 3, 10, [220]), (181, .getfield 5154, 3, 111, [110]), (184, .iload_n 3, 1, 0, []), (185, .iload 4, 2, 0, []), (187, .invokevirtual 26, 3, 223, [413, 414, 415, 60, 416]), (190, .iload 5, 2, 0, []), (192, .isub, 1, 0, []), (193, .ireturn, 1, 0, [])])
/-- LeaningTrees.shapeOfTree(I)I -/
def s_m83 : sM := (yX6_shapeOfTree, cX6_shapeOfTree, 3, (some .int), 2, 3, 68, [(0, .aload_n 0, 1, 0, []), (1, .getfield 6146, 3, 10, [220]), (4, .getfield 5168, 3, 108, [114]), (7, .iconst 1, 1, 0, []), (8, .isub, 1, 0, []), (9, .istore_n 2, 1, 0, []), (10, .iload_n 1, 1, 0, []), (11, .tableswitch 60 0 2 #[36, 44, 52], 25, 0, []), (36, .aload_n 0, 1, 0, []), (37, .getfield 6146, 3, 10, [220]), (40, .getfield 5168, 3, 108, [114]), (43, .ireturn, 1, 0, []), (44, .aload_n 0, 1, 0, []), (45, .getfield 6146, 3, 10, [220]), (48, .invokevirtual 34, 3, 200, [426, 376, 377, 59, 378]), (51, .ireturn, 1, 0, []), (52, .aload_n 0, 1, 0, []), (53, .iconst 0, 1, 0, []), (54, .iload_n 2, 1, 0, []), (55, .iconst 0, 1, 0, []), (56, .invokevirtual 85, 3, 210, [402, 404, 9, 58, 405]), (59, .ireturn, 1, 0, []), (60, .aload_n 0, 1, 0, []), (61, .getfield 6146, 3, 10, [220]), (64, .getfield 5168, 3, 108, [114]), (67, .ifCond .ne 75, 3, 0, []), (70, .bipush (-6), 2, 0, []), (72, .goto 87, 3, 0, []), (75, .aload_n 0, 1, 0, []), (76, .getfield 6146, 3, 10, [220]), (79, .getfield 5154, 3, 111, [110]), (82, .iconst 0, 1, 0, []), (83, .iload_n 2, 1, 0, []), (84, .invokevirtual 26, 3, 223, [413, 414, 415, 60, 416]), (87, .ireturn, 1, 0, [])])
/-- LeaningTrees.booksOfTree(I)I -/
def s_m84 : sM := (yX6_booksOfTree, cX6_booksOfTree, 2, (some .int), 2, 4, 91, [(0, .iload_n 1, 1, 0, []), (1, .tableswitch 104 4 9 #[40, 48, 59, 80, 88, 96], 39, 0, []), (40, .aload_n 0, 1, 0, []), (41, .getfield 6146, 3, 10, [220]), (44, .getfield 5176, 3, 226, [116]), (47, .ireturn, 1, 0, []), (48, .aload_n 0, 1, 0, []), (49, .getfield 6146, 3, 10, [220]), (52, .getfield 5184, 3, 229, [118]), (55, .ldc 1000000, 2, 232, [431]), (57, .iadd, 1, 0, []), (58, .ireturn, 1, 0, []), (59, .aload_n 0, 1, 0, []), (60, .getfield 6146, 3, 10, [220]), (63, .getfield 5146, 3, 214, [108]), (66, .iconst 0, 1, 0, []), (67, .aload_n 0, 1, 0, []), (68, .getfield 6146, 3, 10, [220]), (71, .getfield 5168, 3, 108, [114]), (74, .iconst 1, 1, 0, []), (75, .isub, 1, 0, []), (76, .invokevirtual 25, 3, 114, [408, 343, 344, 60, 345]), (79, .ireturn, 1, 0, []), (80, .aload_n 0, 1, 0, []), (81, .getfield 6146, 3, 10, [220]), (84, .getfield 5192, 3, 233, [120]), (87, .ireturn, 1, 0, []), (88, .aload_n 0, 1, 0, []), (89, .getfield 6146, 3, 10, [220]), (92, .getfield 5200, 3, 236, [122]), (95, .ireturn, 1, 0, []), (96, .aload_n 0, 1, 0, []), (97, .getfield 6146, 3, 10, [220]), (100, .invokevirtual 42, 3, 239, [432, 433, 434, 59, 435]), (103, .ireturn, 1, 0, []), (104, .aload_n 0, 1, 0, []), (105, .getfield 6146, 3, 10, [220]), (108, .getfield 5122, 3, 52, [102]), (111, .iload_n 1, 1, 0, []), (112, .bipush 10, 2, 0, []), (114, .isub, 1, 0, []), (115, .invokevirtual 22, 3, 56, [273, 274, 275, 60, 276]), (118, .ireturn, 1, 0, [])])
/-- LeaningTrees.keyOfTop(III)I -/
def s_m85 : sM := (yX6_keyOfTop, cX6_keyOfTop, 4, (some .int), 4, 2, 45, [(0, .iload_n 1, 1, 0, []), (1, .iload_n 2, 1, 0, []), (2, .if_icmp .le 10, 3, 0, []), (5, .bipush (-6), 2, 0, []), (7, .goto 30, 3, 0, []), (10, .aload_n 0, 1, 0, []), (11, .getfield 6146, 3, 10, [220]), (14, .getfield 5130, 3, 142, [104]), (17, .aload_n 0, 1, 0, []), (18, .getfield 6146, 3, 10, [220]), (21, .iload_n 1, 1, 0, []), (22, .iload_n 2, 1, 0, []), (23, .iload_n 3, 1, 0, []), (24, .invokevirtual 39, 3, 242, [406, 308, 309, 59, 310]), (27, .invokevirtual 22, 3, 56, [273, 274, 275, 60, 276]), (30, .ireturn, 1, 0, [])])
/-- LeaningTrees.answerToOrder()I -/
def s_m86 : sM := (yX6_answerToOrder, cX6_answerToOrder, 2, (some .int), 1, 5, 119, [(0, .aload_n 0, 1, 0, []), (1, .getfield 6178, 3, 39, [224]), (4, .invokevirtual 9, 3, 245, [560, 561, 562, 63, 563]), (7, .istore_n 1, 1, 0, []), (8, .aload_n 0, 1, 0, []), (9, .getfield 6178, 3, 39, [224]), (12, .getfield 1024, 3, 248, [189]), (15, .lookupswitch 65 #[(43, 40), (45, 56)], 25, 0, []), (40, .aload_n 0, 1, 0, []), (41, .getfield 6146, 3, 10, [220]), (44, .iload_n 1, 1, 0, []), (45, .aload_n 0, 1, 0, []), (46, .getfield 6178, 3, 39, [224]), (49, .invokevirtual 10, 3, 251, [564, 565, 566, 63, 567]), (52, .invokevirtual 46, 3, 73, [298, 299, 300, 59, 301]), (55, .ireturn, 1, 0, []), (56, .aload_n 0, 1, 0, []), (57, .getfield 6146, 3, 10, [220]), (60, .iload_n 1, 1, 0, []), (61, .invokevirtual 47, 3, 80, [370, 371, 372, 59, 373]), (64, .ireturn, 1, 0, []), (65, .aload_n 0, 1, 0, []), (66, .getfield 6146, 3, 10, [220]), (69, .iload_n 1, 1, 0, []), (70, .invokevirtual 48, 3, 86, [384, 385, 386, 59, 387]), (73, .ireturn, 1, 0, [])])
/-- LeaningTrees.bitsOfDouble(D)J -/
def s_m87 : sM := (yX6_bitsOfDouble, cX6_bitsOfDouble, 6, (some .long), 1, 0, 0, [(0, .dload_n 0, 1, 0, []), (1, .dconst 0, 1, 0, []), (2, .dcmp .l, 1, 0, []), (3, .ifCond .gt 8, 3, 0, []), (6, .lconst 0, 1, 0, []), (7, .lreturn, 1, 0, []), (8, .dload_n 0, 1, 0, []), (9, .dstore_n 2, 1, 0, []), (10, .iconst 0, 1, 0, []), (11, .istore 4, 2, 0, []), (13, .iconst 0, 1, 0, []), (14, .istore 5, 2, 0, []), (16, .iload 5, 2, 0, []), (18, .bipush 64, 2, 0, []), (20, .if_icmp .ge 46, 3, 0, []), (23, .dload_n 2, 1, 0, []), (24, .putstatic 4611686018427387904, 3, 254, [445]), (27, .dcmp .l, 1, 0, []), (28, .ifCond .lt 46, 3, 0, []), (31, .dload_n 2, 1, 0, []), (32, .putstatic 4611686018427387904, 3, 254, [445]), (35, .ddiv, 1, 0, []), (36, .dstore_n 2, 1, 0, []), (37, .iinc 4 1, 3, 0, []), (40, .iinc 5 1, 3, 0, []), (43, .goto 16, 3, 0, []), (46, .iconst 0, 1, 0, []), (47, .istore 5, 2, 0, []), (49, .iload 5, 2, 0, []), (51, .bipush 64, 2, 0, []), (53, .if_icmp .ge 77, 3, 0, []), (56, .dload_n 2, 1, 0, []), (57, .dconst 1, 1, 0, []), (58, .dcmp .g, 1, 0, []), (59, .ifCond .ge 77, 3, 0, []), (62, .dload_n 2, 1, 0, []), (63, .putstatic 4611686018427387904, 3, 254, [445]), (66, .dmul, 1, 0, []), (67, .dstore_n 2, 1, 0, []), (68, .iinc 4 (-1), 3, 0, []), (71, .iinc 5 1, 3, 0, []), (74, .goto 49, 3, 0, []), (77, .iload 4, 2, 0, []), (79, .sipush 1023, 3, 0, []), (82, .iadd, 1, 0, []), (83, .i2l, 1, 0, []), (84, .bipush 52, 2, 0, []), (86, .lshl, 1, 0, []), (87, .dload_n 2, 1, 0, []), (88, .dconst 1, 1, 0, []), (89, .dsub, 1, 0, []), (90, .putstatic 4841369599423283200, 3, 256, [446]), (93, .dmul, 1, 0, []), (94, .d2l, 1, 0, []), (95, .ladd, 1, 0, []), (96, .lreturn, 1, 0, [])])
/-- LeaningTrees.bitsOfFloat(F)I -/
def s_m88 : sM := (yX6_bitsOfFloat, cX6_bitsOfFloat, 4, (some .int), 1, 0, 0, [(0, .fload_n 0, 1, 0, []), (1, .fconst 0, 1, 0, []), (2, .fcmp .l, 1, 0, []), (3, .ifCond .gt 8, 3, 0, []), (6, .iconst 0, 1, 0, []), (7, .ireturn, 1, 0, []), (8, .fload_n 0, 1, 0, []), (9, .fstore_n 1, 1, 0, []), (10, .iconst 0, 1, 0, []), (11, .istore_n 2, 1, 0, []), (12, .iconst 0, 1, 0, []), (13, .istore_n 3, 1, 0, []), (14, .iload_n 3, 1, 0, []), (15, .bipush 64, 2, 0, []), (17, .if_icmp .ge 39, 3, 0, []), (20, .fload_n 1, 1, 0, []), (21, .fconst 1, 1, 0, []), (22, .fcmp .g, 1, 0, []), (23, .ifCond .ge 39, 3, 0, []), (26, .fload_n 1, 1, 0, []), (27, .fconst 2, 1, 0, []), (28, .fmul, 1, 0, []), (29, .fstore_n 1, 1, 0, []), (30, .iinc 2 (-1), 3, 0, []), (33, .iinc 3 1, 3, 0, []), (36, .goto 14, 3, 0, []), (39, .iload_n 2, 1, 0, []), (40, .bipush 127, 2, 0, []), (42, .iadd, 1, 0, []), (43, .bipush 23, 2, 0, []), (45, .ishl, 1, 0, []), (46, .fload_n 1, 1, 0, []), (47, .fconst 1, 1, 0, []), (48, .fsub, 1, 0, []), (49, .multianewarray 1258291200 0, 3, 258, [455]), (52, .fmul, 1, 0, []), (53, .f2i, 1, 0, []), (54, .iadd, 1, 0, []), (55, .ireturn, 1, 0, [])])
/-- LeaningTreesModel.<init>()V -/
def s_m89 : sM := (yX7_init, cX7_init, 1, none, 1, 1, 26, [(0, .aload_n 0, 1, 0, []), (1, .monitorenter, 3, 1, [594, 76, 77]), (4, .aload_n 0, 1, 0, []), (5, .sipush 308, 3, 0, []), (8, .newarray .int, 2, 0, [96]), (10, .putfield 7170, 3, 7, [595]), (13, .aload_n 0, 1, 0, []), (14, .sipush 308, 3, 0, []), (17, .newarray .int, 2, 0, [96]), (19, .putfield 7178, 3, 13, [596]), (22, .aload_n 0, 1, 0, []), (23, .sipush 1848, 3, 0, []), (26, .newarray .int, 2, 0, [96]), (28, .putfield 7186, 3, 16, [597]), (31, .aload_n 0, 1, 0, []), (32, .sipush 616, 3, 0, []), (35, .newarray .int, 2, 0, [96]), (37, .putfield 7202, 3, 19, [599]), (40, .aload_n 0, 1, 0, []), (41, .iconst 2, 1, 0, []), (42, .newarray .int, 2, 0, [96]), (44, .putfield 7210, 3, 22, [600]), (47, .aload_n 0, 1, 0, []), (48, .bipush 64, 2, 0, []), (50, .newarray .int, 2, 0, [96]), (52, .putfield 7218, 3, 25, [601]), (55, .aload_n 0, 1, 0, []), (56, .bipush 64, 2, 0, []), (58, .newarray .int, 2, 0, [96]), (60, .putfield 7226, 3, 28, [602]), (63, .aload_n 0, 1, 0, []), (64, .bipush 64, 2, 0, []), (66, .newarray .int, 2, 0, [96]), (68, .putfield 7234, 3, 31, [603]), (71, .aload_n 0, 1, 0, []), (72, .bipush 80, 2, 0, []), (74, .newarray .int, 2, 0, [96]), (76, .putfield 7242, 3, 34, [604]), (79, .aload_n 0, 1, 0, []), (80, .getfield 7170, 3, 7, [595]), (83, .iconst 0, 1, 0, []), (84, .bipush 70, 2, 0, []), (86, .iastore, 1, 0, []), (87, .aload_n 0, 1, 0, []), (88, .getfield 7170, 3, 7, [595]), (91, .iconst 1, 1, 0, []), (92, .bipush 40, 2, 0, []), (94, .iastore, 1, 0, []), (95, .aload_n 0, 1, 0, []), (96, .getfield 7170, 3, 7, [595]), (99, .iconst 2, 1, 0, []), (100, .iconst 2, 1, 0, []), (101, .iastore, 1, 0, []), (102, .return_, 1, 0, [])])
/-- LeaningTreesModel.in(JJJ)Z -/
def s_m90 : sM := (yX7_in, cX7_in, 6, (some .boolean), 3, 0, 0, [(0, .lload_n 0, 1, 0, []), (1, .lload_n 2, 1, 0, []), (2, .lcmp, 1, 0, []), (3, .ifCond .lt 17, 3, 0, []), (6, .lload_n 0, 1, 0, []), (7, .lload 4, 2, 0, []), (9, .lcmp, 1, 0, []), (10, .ifCond .gt 17, 3, 0, []), (13, .iconst 1, 1, 0, []), (14, .goto 18, 3, 0, []), (17, .iconst 0, 1, 0, []), (18, .ireturn, 1, 0, [])])
/-- LeaningTreesModel.keep()V -/
def s_m91 : sM := (yX7_keep, cX7_keep, 2, none, 1, 0, 0, [(0, .iconst 0, 1, 0, []), (1, .istore_n 1, 1, 0, []), (2, .iload_n 1, 1, 0, []), (3, .sipush 308, 3, 0, []), (6, .if_icmp .ge 27, 3, 0, []), (9, .aload_n 0, 1, 0, []), (10, .getfield 7178, 3, 13, [596]), (13, .iload_n 1, 1, 0, []), (14, .aload_n 0, 1, 0, []), (15, .getfield 7170, 3, 7, [595]), (18, .iload_n 1, 1, 0, []), (19, .iaload, 1, 0, []), (20, .iastore, 1, 0, []), (21, .iinc 1 1, 3, 0, []), (24, .goto 2, 3, 0, []), (27, .return_, 1, 0, [])])
/-- LeaningTreesModel.giveBack()V -/
def s_m92 : sM := (yX7_giveBack, cX7_giveBack, 2, none, 1, 0, 0, [(0, .iconst 0, 1, 0, []), (1, .istore_n 1, 1, 0, []), (2, .iload_n 1, 1, 0, []), (3, .sipush 308, 3, 0, []), (6, .if_icmp .ge 27, 3, 0, []), (9, .aload_n 0, 1, 0, []), (10, .getfield 7170, 3, 7, [595]), (13, .iload_n 1, 1, 0, []), (14, .aload_n 0, 1, 0, []), (15, .getfield 7178, 3, 13, [596]), (18, .iload_n 1, 1, 0, []), (19, .iaload, 1, 0, []), (20, .iastore, 1, 0, []), (21, .iinc 1 1, 3, 0, []), (24, .goto 2, 3, 0, []), (27, .return_, 1, 0, [])])
/-- LeaningTreesModel.changed(I)I -/
def s_m93 : sM := (yX7_changed, cX7_changed, 3, (some .int), 2, 0, 0, [(0, .iload_n 1, 1, 0, []), (1, .ifCond .ge 6, 3, 0, []), (4, .iload_n 1, 1, 0, []), (5, .ireturn, 1, 0, []), (6, .aload_n 0, 1, 0, []), (7, .getfield 7192, 3, 37, [598]), (10, .bipush 6, 2, 0, []), (12, .if_icmp .ne 56, 3, 0, []), (15, .iconst 0, 1, 0, []), (16, .istore_n 2, 1, 0, []), (17, .iload_n 2, 1, 0, []), (18, .sipush 1540, 3, 0, []), (21, .if_icmp .ge 46, 3, 0, []), (24, .aload_n 0, 1, 0, []), (25, .getfield 7186, 3, 16, [597]), (28, .iload_n 2, 1, 0, []), (29, .aload_n 0, 1, 0, []), (30, .getfield 7186, 3, 16, [597]), (33, .iload_n 2, 1, 0, []), (34, .sipush 308, 3, 0, []), (37, .iadd, 1, 0, []), (38, .iaload, 1, 0, []), (39, .iastore, 1, 0, []), (40, .iinc 2 1, 3, 0, []), (43, .goto 17, 3, 0, []), (46, .aload_n 0, 1, 0, []), (47, .dup, 1, 0, []), (48, .getfield 7192, 3, 37, [598]), (51, .iconst 1, 1, 0, []), (52, .isub, 1, 0, []), (53, .putfield 7192, 3, 37, [598]), (56, .iconst 0, 1, 0, []), (57, .istore_n 2, 1, 0, []), (58, .iload_n 2, 1, 0, []), (59, .sipush 308, 3, 0, []), (62, .if_icmp .ge 92, 3, 0, []), (65, .aload_n 0, 1, 0, []), (66, .getfield 7186, 3, 16, [597]), (69, .sipush 308, 3, 0, []), (72, .aload_n 0, 1, 0, []), (73, .getfield 7192, 3, 37, [598]), (76, .imul, 1, 0, []), (77, .iload_n 2, 1, 0, []), (78, .iadd, 1, 0, []), (79, .aload_n 0, 1, 0, []), (80, .getfield 7178, 3, 13, [596]), (83, .iload_n 2, 1, 0, []), (84, .iaload, 1, 0, []), (85, .iastore, 1, 0, []), (86, .iinc 2 1, 3, 0, []), (89, .goto 58, 3, 0, []), (92, .aload_n 0, 1, 0, []), (93, .dup, 1, 0, []), (94, .getfield 7192, 3, 37, [598]), (97, .iconst 1, 1, 0, []), (98, .iadd, 1, 0, []), (99, .putfield 7192, 3, 37, [598]), (102, .iload_n 1, 1, 0, []), (103, .ireturn, 1, 0, [])])
/-- LeaningTreesModel.isKey(I)Z -/
def s_m94 : sM := (yX7_isKey, cX7_isKey, 1, (some .boolean), 1, 1, 25, [(0, .iload_n 0, 1, 0, []), (1, .i2l, 1, 0, []), (2, .lconst 0, 1, 0, []), (3, .ldc2_w 999, 3, 41, [679]), (6, .invokestatic 90, 3, 43, [658, 659, 65, 660]), (9, .ireturn, 1, 0, [])])
/-- LeaningTreesModel.depth(I)I -/
def s_m95 : sM := (yX7_depth, cX7_depth, 2, (some .int), 2, 0, 0, [(0, .aload_n 0, 1, 0, []), (1, .getfield 7170, 3, 7, [595]), (4, .sipush 248, 3, 0, []), (7, .iload_n 1, 1, 0, []), (8, .iadd, 1, 0, []), (9, .iaload, 1, 0, []), (10, .ireturn, 1, 0, [])])
/-- LeaningTreesModel.find(I)I -/
def s_m96 : sM := (yX7_find, cX7_find, 3, (some .int), 2, 0, 0, [(0, .iconst 0, 1, 0, []), (1, .istore_n 2, 1, 0, []), (2, .iload_n 2, 1, 0, []), (3, .aload_n 0, 1, 0, []), (4, .getfield 7170, 3, 7, [595]), (7, .iconst 3, 1, 0, []), (8, .iaload, 1, 0, []), (9, .if_icmp .ge 33, 3, 0, []), (12, .aload_n 0, 1, 0, []), (13, .getfield 7170, 3, 7, [595]), (16, .bipush 8, 2, 0, []), (18, .iload_n 2, 1, 0, []), (19, .iadd, 1, 0, []), (20, .iaload, 1, 0, []), (21, .iload_n 1, 1, 0, []), (22, .if_icmp .ne 27, 3, 0, []), (25, .iload_n 2, 1, 0, []), (26, .ireturn, 1, 0, []), (27, .iinc 2 1, 3, 0, []), (30, .goto 2, 3, 0, []), (33, .bipush (-6), 2, 0, []), (35, .ireturn, 1, 0, [])])
/-- LeaningTreesModel.first(I)I -/
def s_m97 : sM := (yX7_first, cX7_first, 3, (some .int), 2, 1, 21, [(0, .iload_n 1, 1, 0, []), (1, .istore_n 2, 1, 0, []), (2, .iload_n 2, 1, 0, []), (3, .ifCond .le 27, 3, 0, []), (6, .aload_n 0, 1, 0, []), (7, .iload_n 2, 1, 0, []), (8, .iconst 1, 1, 0, []), (9, .isub, 1, 0, []), (10, .invokevirtual 95, 3, 47, [696, 698, 27, 65, 699]), (13, .aload_n 0, 1, 0, []), (14, .iload_n 1, 1, 0, []), (15, .invokevirtual 95, 3, 47, [696, 698, 27, 65, 699]), (18, .if_icmp .le 27, 3, 0, []), (21, .iinc 2 (-1), 3, 0, []), (24, .goto 2, 3, 0, []), (27, .iload_n 2, 1, 0, []), (28, .ireturn, 1, 0, [])])
/-- LeaningTreesModel.last(I)I -/
def s_m98 : sM := (yX7_last, cX7_last, 3, (some .int), 2, 1, 21, [(0, .iload_n 1, 1, 0, []), (1, .istore_n 2, 1, 0, []), (2, .iload_n 2, 1, 0, []), (3, .aload_n 0, 1, 0, []), (4, .getfield 7170, 3, 7, [595]), (7, .iconst 3, 1, 0, []), (8, .iaload, 1, 0, []), (9, .iconst 1, 1, 0, []), (10, .isub, 1, 0, []), (11, .if_icmp .ge 35, 3, 0, []), (14, .aload_n 0, 1, 0, []), (15, .iload_n 2, 1, 0, []), (16, .iconst 1, 1, 0, []), (17, .iadd, 1, 0, []), (18, .invokevirtual 95, 3, 47, [696, 698, 27, 65, 699]), (21, .aload_n 0, 1, 0, []), (22, .iload_n 1, 1, 0, []), (23, .invokevirtual 95, 3, 47, [696, 698, 27, 65, 699]), (26, .if_icmp .le 35, 3, 0, []), (29, .iinc 2 1, 3, 0, []), (32, .goto 2, 3, 0, []), (35, .iload_n 2, 1, 0, []), (36, .ireturn, 1, 0, [])])
/-- LeaningTreesModel.weight(I)I -/
def s_m99 : sM := (yX7_weight, cX7_weight, 2, (some .int), 2, 2, 43, [(0, .aload_n 0, 1, 0, []), (1, .iload_n 1, 1, 0, []), (2, .invokevirtual 98, 3, 51, [700, 702, 28, 65, 703]), (5, .aload_n 0, 1, 0, []), (6, .iload_n 1, 1, 0, []), (7, .invokevirtual 97, 3, 54, [692, 694, 26, 65, 695]), (10, .isub, 1, 0, []), (11, .iconst 1, 1, 0, []), (12, .iadd, 1, 0, []), (13, .ireturn, 1, 0, [])])
/-- LeaningTreesModel.isUnder(II)Z -/
def s_m100 : sM := (yX7_isUnder, cX7_isUnder, 3, (some .boolean), 3, 2, 43, [(0, .iload_n 1, 1, 0, []), (1, .i2l, 1, 0, []), (2, .aload_n 0, 1, 0, []), (3, .iload_n 2, 1, 0, []), (4, .invokevirtual 97, 3, 54, [692, 694, 26, 65, 695]), (7, .i2l, 1, 0, []), (8, .aload_n 0, 1, 0, []), (9, .iload_n 2, 1, 0, []), (10, .invokevirtual 98, 3, 51, [700, 702, 28, 65, 703]), (13, .i2l, 1, 0, []), (14, .invokestatic 90, 3, 43, [658, 659, 65, 660]), (17, .ireturn, 1, 0, [])])
/-- LeaningTreesModel.child(II)I -/
def s_m101 : sM := (yX7_child, cX7_child, 6, (some .int), 3, 2, 43, [(0, .iload_n 2, 1, 0, []), (1, .ifCond .ne 12, 3, 0, []), (4, .aload_n 0, 1, 0, []), (5, .iload_n 1, 1, 0, []), (6, .invokevirtual 97, 3, 54, [692, 694, 26, 65, 695]), (9, .goto 15, 3, 0, []), (12, .iload_n 1, 1, 0, []), (13, .iconst 1, 1, 0, []), (14, .iadd, 1, 0, []), (15, .istore_n 3, 1, 0, []), (16, .iload_n 2, 1, 0, []), (17, .ifCond .ne 26, 3, 0, []), (20, .iload_n 1, 1, 0, []), (21, .iconst 1, 1, 0, []), (22, .isub, 1, 0, []), (23, .goto 31, 3, 0, []), (26, .aload_n 0, 1, 0, []), (27, .iload_n 1, 1, 0, []), (28, .invokevirtual 98, 3, 51, [700, 702, 28, 65, 703]), (31, .istore 4, 2, 0, []), (33, .iload_n 3, 1, 0, []), (34, .istore 5, 2, 0, []), (36, .iload 5, 2, 0, []), (38, .iload 4, 2, 0, []), (40, .if_icmp .gt 68, 3, 0, []), (43, .aload_n 0, 1, 0, []), (44, .iload 5, 2, 0, []), (46, .invokevirtual 95, 3, 47, [696, 698, 27, 65, 699]), (49, .aload_n 0, 1, 0, []), (50, .iload_n 1, 1, 0, []), (51, .invokevirtual 95, 3, 47, [696, 698, 27, 65, 699]), (54, .iconst 1, 1, 0, []), (55, .iadd, 1, 0, []), (56, .if_icmp .ne 62, 3, 0, []), (59, .iload 5, 2, 0, []), (61, .ireturn, 1, 0, []), (62, .iinc 5 1, 3, 0, []), (65, .goto 36, 3, 0, []), (68, .bipush (-6), 2, 0, []), (70, .ireturn, 1, 0, [])])
/-- LeaningTreesModel.childWeight(II)I -/
def s_m102 : sM := (yX7_childWeight, cX7_childWeight, 3, (some .int), 3, 2, 43, [(0, .iload_n 2, 1, 0, []), (1, .ifCond .ne 14, 3, 0, []), (4, .iload_n 1, 1, 0, []), (5, .aload_n 0, 1, 0, []), (6, .iload_n 1, 1, 0, []), (7, .invokevirtual 97, 3, 54, [692, 694, 26, 65, 695]), (10, .isub, 1, 0, []), (11, .goto 21, 3, 0, []), (14, .aload_n 0, 1, 0, []), (15, .iload_n 1, 1, 0, []), (16, .invokevirtual 98, 3, 51, [700, 702, 28, 65, 703]), (19, .iload_n 1, 1, 0, []), (20, .isub, 1, 0, []), (21, .ireturn, 1, 0, [])])
/-- LeaningTreesModel.heavier(I)I -/
def s_m103 : sM := (yX7_heavier, cX7_heavier, 4, (some .int), 2, 3, 65, [(0, .aload_n 0, 1, 0, []), (1, .iload_n 1, 1, 0, []), (2, .iconst 0, 1, 0, []), (3, .invokevirtual 102, 3, 57, [724, 726, 34, 65, 727]), (6, .istore_n 2, 1, 0, []), (7, .aload_n 0, 1, 0, []), (8, .iload_n 1, 1, 0, []), (9, .iconst 1, 1, 0, []), (10, .invokevirtual 102, 3, 57, [724, 726, 34, 65, 727]), (13, .istore_n 3, 1, 0, []), (14, .iload_n 2, 1, 0, []), (15, .iload_n 3, 1, 0, []), (16, .if_icmp .le 23, 3, 0, []), (19, .iload_n 2, 1, 0, []), (20, .goto 24, 3, 0, []), (23, .iload_n 3, 1, 0, []), (24, .ireturn, 1, 0, [])])
/-- LeaningTreesModel.leans(I)Z -/
def s_m104 : sM := (yX7_leans, cX7_leans, 2, (some .boolean), 2, 4, 88, [(0, .bipush 100, 2, 0, []), (2, .aload_n 0, 1, 0, []), (3, .iload_n 1, 1, 0, []), (4, .invokevirtual 103, 3, 61, [720, 722, 33, 65, 723]), (7, .imul, 1, 0, []), (8, .aload_n 0, 1, 0, []), (9, .getfield 7170, 3, 7, [595]), (12, .iconst 0, 1, 0, []), (13, .iaload, 1, 0, []), (14, .aload_n 0, 1, 0, []), (15, .iload_n 1, 1, 0, []), (16, .invokevirtual 99, 3, 64, [728, 730, 35, 65, 731]), (19, .imul, 1, 0, []), (20, .if_icmp .le 27, 3, 0, []), (23, .iconst 1, 1, 0, []), (24, .goto 28, 3, 0, []), (27, .iconst 0, 1, 0, []), (28, .ireturn, 1, 0, [])])
/-- LeaningTreesModel.sumOf(III)I -/
def s_m105 : sM := (yX7_sumOf, cX7_sumOf, 6, (some .int), 4, 0, 0, [(0, .iconst 0, 1, 0, []), (1, .istore 4, 2, 0, []), (3, .iload_n 2, 1, 0, []), (4, .istore 5, 2, 0, []), (6, .iload 5, 2, 0, []), (8, .iload_n 3, 1, 0, []), (9, .if_icmp .gt 32, 3, 0, []), (12, .iload 4, 2, 0, []), (14, .aload_n 0, 1, 0, []), (15, .getfield 7170, 3, 7, [595]), (18, .iload_n 1, 1, 0, []), (19, .iload 5, 2, 0, []), (21, .iadd, 1, 0, []), (22, .iaload, 1, 0, []), (23, .iadd, 1, 0, []), (24, .istore 4, 2, 0, []), (26, .iinc 5 1, 3, 0, []), (29, .goto 6, 3, 0, []), (32, .iload 4, 2, 0, []), (34, .ireturn, 1, 0, [])])
/-- LeaningTreesModel.lays(III)V -/
def s_m106 : sM := (yX7_lays, cX7_lays, 9, none, 4, 0, 0, [(0, .iconst 0, 1, 0, []), (1, .istore 4, 2, 0, []), (3, .aload_n 0, 1, 0, []), (4, .getfield 7218, 3, 25, [601]), (7, .iload 4, 2, 0, []), (9, .iload_n 1, 1, 0, []), (10, .iastore, 1, 0, []), (11, .aload_n 0, 1, 0, []), (12, .getfield 7226, 3, 28, [602]), (15, .iload 4, 2, 0, []), (17, .iload_n 2, 1, 0, []), (18, .iastore, 1, 0, []), (19, .aload_n 0, 1, 0, []), (20, .getfield 7234, 3, 31, [603]), (23, .iload 4, 2, 0, []), (25, .iload_n 3, 1, 0, []), (26, .iastore, 1, 0, []), (27, .iinc 4 1, 3, 0, []), (30, .iload 4, 2, 0, []), (32, .ifCond .le 171, 3, 0, []), (35, .iinc 4 (-1), 3, 0, []), (38, .aload_n 0, 1, 0, []), (39, .getfield 7218, 3, 25, [601]), (42, .iload 4, 2, 0, []), (44, .iaload, 1, 0, []), (45, .istore 5, 2, 0, []), (47, .aload_n 0, 1, 0, []), (48, .getfield 7226, 3, 28, [602]), (51, .iload 4, 2, 0, []), (53, .iaload, 1, 0, []), (54, .istore 6, 2, 0, []), (56, .aload_n 0, 1, 0, []), (57, .getfield 7234, 3, 31, [603]), (60, .iload 4, 2, 0, []), (62, .iaload, 1, 0, []), (63, .istore 7, 2, 0, []), (65, .iload 5, 2, 0, []), (67, .iload 6, 2, 0, []), (69, .if_icmp .gt 168, 3, 0, []), (72, .iload 5, 2, 0, []), (74, .iload 6, 2, 0, []), (76, .iload 5, 2, 0, []), (78, .isub, 1, 0, []), (79, .iconst 2, 1, 0, []), (80, .idiv, 1, 0, []), (81, .iadd, 1, 0, []), (82, .istore 8, 2, 0, []), (84, .aload_n 0, 1, 0, []), (85, .getfield 7170, 3, 7, [595]), (88, .sipush 248, 3, 0, []), (91, .iload 8, 2, 0, []), (93, .iadd, 1, 0, []), (94, .iload 7, 2, 0, []), (96, .iastore, 1, 0, []), (97, .aload_n 0, 1, 0, []), (98, .getfield 7218, 3, 25, [601]), (101, .iload 4, 2, 0, []), (103, .iload 5, 2, 0, []), (105, .iastore, 1, 0, []), (106, .aload_n 0, 1, 0, []), (107, .getfield 7226, 3, 28, [602]), (110, .iload 4, 2, 0, []), (112, .iload 8, 2, 0, []), (114, .iconst 1, 1, 0, []), (115, .isub, 1, 0, []), (116, .iastore, 1, 0, []), (117, .aload_n 0, 1, 0, []), (118, .getfield 7234, 3, 31, [603]), (121, .iload 4, 2, 0, []), (123, .iload 7, 2, 0, []), (125, .iconst 1, 1, 0, []), (126, .iadd, 1, 0, []), (127, .iastore, 1, 0, []), (128, .aload_n 0, 1, 0, []), (129, .getfield 7218, 3, 25, [601]), (132, .iload 4, 2, 0, []), (134, .iconst 1, 1, 0, []), (135, .iadd, 1, 0, []), (136, .iload 8, 2, 0, []), (138, .iconst 1, 1, 0, []), (139, .iadd, 1, 0, []), (140, .iastore, 1, 0, []), (141, .aload_n 0, 1, 0, []), (142, .getfield 7226, 3, 28, [602]), (145, .iload 4, 2, 0, []), (147, .iconst 1, 1, 0, []), (148, .iadd, 1, 0, []), (149, .iload 6, 2, 0, []), (151, .iastore, 1, 0, []), (152, .aload_n 0, 1, 0, []), (153, .getfield 7234, 3, 31, [603]), (156, .iload 4, 2, 0, []), (158, .iconst 1, 1, 0, []), (159, .iadd, 1, 0, []), (160, .iload 7, 2, 0, []), (162, .iconst 1, 1, 0, []), (163, .iadd, 1, 0, []), (164, .iastore, 1, 0, []), (165, .iinc 4 2, 3, 0, []), (168, .goto 30, 3, 0, []), (171, .return_, 1, 0, [])])
/-- LeaningTreesModel.takesOut(I)V -/
def s_m107 : sM := (yX7_takesOut, cX7_takesOut, 4, none, 2, 0, 0, [(0, .aload_n 0, 1, 0, []), (1, .getfield 7170, 3, 7, [595]), (4, .iconst 3, 1, 0, []), (5, .dup2, 1, 0, []), (6, .iaload, 1, 0, []), (7, .iconst 1, 1, 0, []), (8, .isub, 1, 0, []), (9, .iastore, 1, 0, []), (10, .iload_n 1, 1, 0, []), (11, .istore_n 2, 1, 0, []), (12, .iload_n 2, 1, 0, []), (13, .aload_n 0, 1, 0, []), (14, .getfield 7170, 3, 7, [595]), (17, .iconst 3, 1, 0, []), (18, .iaload, 1, 0, []), (19, .if_icmp .ge 62, 3, 0, []), (22, .bipush 8, 2, 0, []), (24, .istore_n 3, 1, 0, []), (25, .iload_n 3, 1, 0, []), (26, .sipush 248, 3, 0, []), (29, .if_icmp .gt 56, 3, 0, []), (32, .aload_n 0, 1, 0, []), (33, .getfield 7170, 3, 7, [595]), (36, .iload_n 3, 1, 0, []), (37, .iload_n 2, 1, 0, []), (38, .iadd, 1, 0, []), (39, .aload_n 0, 1, 0, []), (40, .getfield 7170, 3, 7, [595]), (43, .iload_n 3, 1, 0, []), (44, .iload_n 2, 1, 0, []), (45, .iadd, 1, 0, []), (46, .iconst 1, 1, 0, []), (47, .iadd, 1, 0, []), (48, .iaload, 1, 0, []), (49, .iastore, 1, 0, []), (50, .iinc 3 60, 3, 0, []), (53, .goto 25, 3, 0, []), (56, .iinc 2 1, 3, 0, []), (59, .goto 12, 3, 0, []), (62, .return_, 1, 0, [])])
/-- LeaningTreesModel.rebuilds(I)I -/
def s_m108 : sM := (yX7_rebuilds, cX7_rebuilds, 8, (some .int), 2, 2, 43, [(0, .aload_n 0, 1, 0, []), (1, .iload_n 1, 1, 0, []), (2, .invokevirtual 97, 3, 54, [692, 694, 26, 65, 695]), (5, .istore_n 2, 1, 0, []), (6, .aload_n 0, 1, 0, []), (7, .iload_n 1, 1, 0, []), (8, .invokevirtual 98, 3, 51, [700, 702, 28, 65, 703]), (11, .istore_n 3, 1, 0, []), (12, .aload_n 0, 1, 0, []), (13, .iload_n 1, 1, 0, []), (14, .invokevirtual 95, 3, 47, [696, 698, 27, 65, 699]), (17, .istore 4, 2, 0, []), (19, .iload_n 3, 1, 0, []), (20, .iload_n 2, 1, 0, []), (21, .isub, 1, 0, []), (22, .iconst 1, 1, 0, []), (23, .iadd, 1, 0, []), (24, .istore 5, 2, 0, []), (26, .aload_n 0, 1, 0, []), (27, .getfield 7170, 3, 7, [595]), (30, .iconst 5, 1, 0, []), (31, .dup2, 1, 0, []), (32, .iaload, 1, 0, []), (33, .aload_n 0, 1, 0, []), (34, .sipush 128, 3, 0, []), (37, .iload_n 2, 1, 0, []), (38, .iload_n 3, 1, 0, []), (39, .invokevirtual 105, 3, 67, [736, 738, 37, 65, 739]), (42, .iload 5, 2, 0, []), (44, .isub, 1, 0, []), (45, .iadd, 1, 0, []), (46, .iastore, 1, 0, []), (47, .aload_n 0, 1, 0, []), (48, .getfield 7170, 3, 7, [595]), (51, .iconst 4, 1, 0, []), (52, .dup2, 1, 0, []), (53, .iaload, 1, 0, []), (54, .iload 5, 2, 0, []), (56, .iadd, 1, 0, []), (57, .iastore, 1, 0, []), (58, .aload_n 0, 1, 0, []), (59, .getfield 7170, 3, 7, [595]), (62, .bipush 6, 2, 0, []), (64, .dup2, 1, 0, []), (65, .iaload, 1, 0, []), (66, .iconst 1, 1, 0, []), (67, .iadd, 1, 0, []), (68, .iastore, 1, 0, []), (69, .aload_n 0, 1, 0, []), (70, .getfield 7170, 3, 7, [595]), (73, .bipush 7, 2, 0, []), (75, .iload 5, 2, 0, []), (77, .aload_n 0, 1, 0, []), (78, .getfield 7170, 3, 7, [595]), (81, .bipush 7, 2, 0, []), (83, .iaload, 1, 0, []), (84, .if_icmp .le 92, 3, 0, []), (87, .iload 5, 2, 0, []), (89, .goto 99, 3, 0, []), (92, .aload_n 0, 1, 0, []), (93, .getfield 7170, 3, 7, [595]), (96, .bipush 7, 2, 0, []), (98, .iaload, 1, 0, []), (99, .iastore, 1, 0, []), (100, .iload_n 3, 1, 0, []), (101, .istore 6, 2, 0, []), (103, .iload_n 3, 1, 0, []), (104, .istore 7, 2, 0, []), (106, .iload 7, 2, 0, []), (108, .iload_n 2, 1, 0, []), (109, .if_icmp .lt 153, 3, 0, []), (112, .aload_n 0, 1, 0, []), (113, .getfield 7170, 3, 7, [595]), (116, .sipush 128, 3, 0, []), (119, .iload 7, 2, 0, []), (121, .iadd, 1, 0, []), (122, .iconst 0, 1, 0, []), (123, .iastore, 1, 0, []), (124, .aload_n 0, 1, 0, []), (125, .getfield 7170, 3, 7, [595]), (128, .sipush 188, 3, 0, []), (131, .iload 7, 2, 0, []), (133, .iadd, 1, 0, []), (134, .iaload, 1, 0, []), (135, .ifCond .ne 147, 3, 0, []), (138, .aload_n 0, 1, 0, []), (139, .iload 7, 2, 0, []), (141, .invokevirtual 107, 3, 71, [740, 742, 38, 65, 743]), (144, .iinc 6 (-1), 3, 0, []), (147, .iinc 7 (-1), 3, 0, []), (150, .goto 106, 3, 0, []), (153, .aload_n 0, 1, 0, []), (154, .iload_n 2, 1, 0, []), (155, .iload 6, 2, 0, []), (157, .iload 4, 2, 0, []), (159, .invokevirtual 106, 3, 75, [744, 746, 39, 65, 747]), (162, .iload 5, 2, 0, []), (164, .ireturn, 1, 0, [])])
/-- LeaningTreesModel.pays(I)V -/
def s_m109 : sM := (yX7_pays, cX7_pays, 3, none, 2, 3, 65, [(0, .iconst 0, 1, 0, []), (1, .istore_n 2, 1, 0, []), (2, .iload_n 2, 1, 0, []), (3, .aload_n 0, 1, 0, []), (4, .getfield 7170, 3, 7, [595]), (7, .iconst 3, 1, 0, []), (8, .iaload, 1, 0, []), (9, .if_icmp .ge 50, 3, 0, []), (12, .aload_n 0, 1, 0, []), (13, .getfield 7170, 3, 7, [595]), (16, .sipush 128, 3, 0, []), (19, .iload_n 2, 1, 0, []), (20, .iadd, 1, 0, []), (21, .dup2, 1, 0, []), (22, .iaload, 1, 0, []), (23, .aload_n 0, 1, 0, []), (24, .iload_n 1, 1, 0, []), (25, .iload_n 2, 1, 0, []), (26, .invokevirtual 100, 3, 79, [688, 690, 25, 65, 691]), (29, .ifCond .eq 41, 3, 0, []), (32, .aload_n 0, 1, 0, []), (33, .getfield 7170, 3, 7, [595]), (36, .iconst 2, 1, 0, []), (37, .iaload, 1, 0, []), (38, .goto 42, 3, 0, []), (41, .iconst 0, 1, 0, []), (42, .iadd, 1, 0, []), (43, .iastore, 1, 0, []), (44, .iinc 2 1, 3, 0, []), (47, .goto 2, 3, 0, []), (50, .return_, 1, 0, [])])
/-- LeaningTreesModel.newDepth(I)I -/
def s_m110 : sM := (yX7_newDepth, cX7_newDepth, 4, (some .int), 2, 1, 21, [(0, .iload_n 1, 1, 0, []), (1, .ifCond .le 14, 3, 0, []), (4, .aload_n 0, 1, 0, []), (5, .iload_n 1, 1, 0, []), (6, .iconst 1, 1, 0, []), (7, .isub, 1, 0, []), (8, .invokevirtual 95, 3, 47, [696, 698, 27, 65, 699]), (11, .goto 15, 3, 0, []), (14, .iconst (-1), 1, 0, []), (15, .istore_n 2, 1, 0, []), (16, .iload_n 1, 1, 0, []), (17, .aload_n 0, 1, 0, []), (18, .getfield 7170, 3, 7, [595]), (21, .iconst 3, 1, 0, []), (22, .iaload, 1, 0, []), (23, .if_icmp .ge 34, 3, 0, []), (26, .aload_n 0, 1, 0, []), (27, .iload_n 1, 1, 0, []), (28, .invokevirtual 95, 3, 47, [696, 698, 27, 65, 699]), (31, .goto 35, 3, 0, []), (34, .iconst (-1), 1, 0, []), (35, .istore_n 3, 1, 0, []), (36, .iconst 1, 1, 0, []), (37, .iload_n 2, 1, 0, []), (38, .iload_n 3, 1, 0, []), (39, .if_icmp .le 46, 3, 0, []), (42, .iload_n 2, 1, 0, []), (43, .goto 47, 3, 0, []), (46, .iload_n 3, 1, 0, []), (47, .iadd, 1, 0, []), (48, .ireturn, 1, 0, [])])
/-- LeaningTreesModel.comes(II)V -/
def s_m111 : sM := (yX7_comes, cX7_comes, 7, none, 3, 2, 44, [(0, .iconst 0, 1, 0, []), (1, .istore_n 3, 1, 0, []), (2, .iload_n 3, 1, 0, []), (3, .aload_n 0, 1, 0, []), (4, .getfield 7170, 3, 7, [595]), (7, .iconst 3, 1, 0, []), (8, .iaload, 1, 0, []), (9, .if_icmp .ge 31, 3, 0, []), (12, .aload_n 0, 1, 0, []), (13, .getfield 7170, 3, 7, [595]), (16, .bipush 8, 2, 0, []), (18, .iload_n 3, 1, 0, []), (19, .iadd, 1, 0, []), (20, .iaload, 1, 0, []), (21, .iload_n 1, 1, 0, []), (22, .if_icmp .ge 31, 3, 0, []), (25, .iinc 3 1, 3, 0, []), (28, .goto 2, 3, 0, []), (31, .aload_n 0, 1, 0, []), (32, .iload_n 3, 1, 0, []), (33, .invokevirtual 110, 3, 83, [708, 710, 30, 65, 711]), (36, .istore 4, 2, 0, []), (38, .aload_n 0, 1, 0, []), (39, .getfield 7170, 3, 7, [595]), (42, .iconst 3, 1, 0, []), (43, .iaload, 1, 0, []), (44, .istore 5, 2, 0, []), (46, .iload 5, 2, 0, []), (48, .iload_n 3, 1, 0, []), (49, .if_icmp .le 98, 3, 0, []), (52, .bipush 8, 2, 0, []), (54, .istore 6, 2, 0, []), (56, .iload 6, 2, 0, []), (58, .sipush 248, 3, 0, []), (61, .if_icmp .gt 92, 3, 0, []), (64, .aload_n 0, 1, 0, []), (65, .getfield 7170, 3, 7, [595]), (68, .iload 6, 2, 0, []), (70, .iload 5, 2, 0, []), (72, .iadd, 1, 0, []), (73, .aload_n 0, 1, 0, []), (74, .getfield 7170, 3, 7, [595]), (77, .iload 6, 2, 0, []), (79, .iload 5, 2, 0, []), (81, .iadd, 1, 0, []), (82, .iconst 1, 1, 0, []), (83, .isub, 1, 0, []), (84, .iaload, 1, 0, []), (85, .iastore, 1, 0, []), (86, .iinc 6 60, 3, 0, []), (89, .goto 56, 3, 0, []), (92, .iinc 5 (-1), 3, 0, []), (95, .goto 46, 3, 0, []), (98, .aload_n 0, 1, 0, []), (99, .getfield 7170, 3, 7, [595]), (102, .iconst 3, 1, 0, []), (103, .dup2, 1, 0, []), (104, .iaload, 1, 0, []), (105, .iconst 1, 1, 0, []), (106, .iadd, 1, 0, []), (107, .iastore, 1, 0, []), (108, .aload_n 0, 1, 0, []), (109, .getfield 7170, 3, 7, [595]), (112, .bipush 8, 2, 0, []), (114, .iload_n 3, 1, 0, []), (115, .iadd, 1, 0, []), (116, .iload_n 1, 1, 0, []), (117, .iastore, 1, 0, []), (118, .aload_n 0, 1, 0, []), (119, .getfield 7170, 3, 7, [595]), (122, .bipush 68, 2, 0, []), (124, .iload_n 3, 1, 0, []), (125, .iadd, 1, 0, []), (126, .iload_n 2, 1, 0, []), (127, .iastore, 1, 0, []), (128, .aload_n 0, 1, 0, []), (129, .getfield 7170, 3, 7, [595]), (132, .sipush 128, 3, 0, []), (135, .iload_n 3, 1, 0, []), (136, .iadd, 1, 0, []), (137, .iconst 0, 1, 0, []), (138, .iastore, 1, 0, []), (139, .aload_n 0, 1, 0, []), (140, .getfield 7170, 3, 7, [595]), (143, .sipush 188, 3, 0, []), (146, .iload_n 3, 1, 0, []), (147, .iadd, 1, 0, []), (148, .iconst 1, 1, 0, []), (149, .iastore, 1, 0, []), (150, .aload_n 0, 1, 0, []), (151, .getfield 7170, 3, 7, [595]), (154, .sipush 248, 3, 0, []), (157, .iload_n 3, 1, 0, []), (158, .iadd, 1, 0, []), (159, .iload 4, 2, 0, []), (161, .iastore, 1, 0, []), (162, .return_, 1, 0, [])])
/-- LeaningTreesModel.leaningAbove(I)I -/
def s_m112 : sM := (yX7_leaningAbove, cX7_leaningAbove, 5, (some .int), 2, 5, 109, [(0, .bipush (-6), 2, 0, []), (2, .istore_n 2, 1, 0, []), (3, .iconst 0, 1, 0, []), (4, .istore_n 3, 1, 0, []), (5, .iload_n 3, 1, 0, []), (6, .aload_n 0, 1, 0, []), (7, .getfield 7170, 3, 7, [595]), (10, .iconst 3, 1, 0, []), (11, .iaload, 1, 0, []), (12, .if_icmp .ge 75, 3, 0, []), (15, .aload_n 0, 1, 0, []), (16, .iload_n 1, 1, 0, []), (17, .iload_n 3, 1, 0, []), (18, .invokevirtual 100, 3, 79, [688, 690, 25, 65, 691]), (21, .ifCond .eq 36, 3, 0, []), (24, .aload_n 0, 1, 0, []), (25, .iload_n 3, 1, 0, []), (26, .invokevirtual 104, 3, 86, [716, 718, 32, 65, 719]), (29, .ifCond .eq 36, 3, 0, []), (32, .iconst 1, 1, 0, []), (33, .goto 37, 3, 0, []), (36, .iconst 0, 1, 0, []), (37, .istore 4, 2, 0, []), (39, .iload 4, 2, 0, []), (41, .ifCond .eq 67, 3, 0, []), (44, .iload_n 2, 1, 0, []), (45, .bipush (-6), 2, 0, []), (47, .if_icmp .eq 63, 3, 0, []), (50, .aload_n 0, 1, 0, []), (51, .iload_n 3, 1, 0, []), (52, .invokevirtual 95, 3, 47, [696, 698, 27, 65, 699]), (55, .aload_n 0, 1, 0, []), (56, .iload_n 2, 1, 0, []), (57, .invokevirtual 95, 3, 47, [696, 698, 27, 65, 699]), (60, .if_icmp .ge 67, 3, 0, []), (63, .iload_n 3, 1, 0, []), (64, .goto 68, 3, 0, []), (67, .iload_n 2, 1, 0, []), (68, .istore_n 2, 1, 0, []), (69, .iinc 3 1, 3, 0, []), (72, .goto 5, 3, 0, []), (75, .iload_n 2, 1, 0, []), (76, .ireturn, 1, 0, [])])
/-- LeaningTreesModel.doPutIn(II)I -/
def s_m113 : sM := (yX7_doPutIn, cX7_doPutIn, 5, (some .int), 3, 6, 133, [(0, .iload_n 1, 1, 0, []), (1, .invokestatic 94, 3, 90, [676, 677, 65, 678]), (4, .ifCond .eq 14, 3, 0, []), (7, .iload_n 2, 1, 0, []), (8, .invokestatic 94, 3, 90, [676, 677, 65, 678]), (11, .ifCond .ne 17, 3, 0, []), (14, .bipush (-2), 2, 0, []), (16, .ireturn, 1, 0, []), (17, .aload_n 0, 1, 0, []), (18, .iload_n 1, 1, 0, []), (19, .invokevirtual 96, 3, 93, [680, 682, 23, 65, 683]), (22, .istore_n 3, 1, 0, []), (23, .iload_n 3, 1, 0, []), (24, .bipush (-6), 2, 0, []), (26, .if_icmp .eq 57, 3, 0, []), (29, .aload_n 0, 1, 0, []), (30, .getfield 7170, 3, 7, [595]), (33, .bipush 68, 2, 0, []), (35, .iload_n 3, 1, 0, []), (36, .iadd, 1, 0, []), (37, .iload_n 2, 1, 0, []), (38, .iastore, 1, 0, []), (39, .aload_n 0, 1, 0, []), (40, .getfield 7170, 3, 7, [595]), (43, .sipush 188, 3, 0, []), (46, .iload_n 3, 1, 0, []), (47, .iadd, 1, 0, []), (48, .iconst 1, 1, 0, []), (49, .iastore, 1, 0, []), (50, .aload_n 0, 1, 0, []), (51, .iload_n 3, 1, 0, []), (52, .invokevirtual 109, 3, 96, [684, 686, 24, 65, 687]), (55, .iconst 0, 1, 0, []), (56, .ireturn, 1, 0, []), (57, .aload_n 0, 1, 0, []), (58, .getfield 7170, 3, 7, [595]), (61, .iconst 3, 1, 0, []), (62, .iaload, 1, 0, []), (63, .bipush 60, 2, 0, []), (65, .if_icmp .ne 71, 3, 0, []), (68, .bipush (-4), 2, 0, []), (70, .ireturn, 1, 0, []), (71, .aload_n 0, 1, 0, []), (72, .iload_n 1, 1, 0, []), (73, .iload_n 2, 1, 0, []), (74, .invokevirtual 111, 3, 99, [704, 706, 29, 65, 707]), (77, .aload_n 0, 1, 0, []), (78, .aload_n 0, 1, 0, []), (79, .iload_n 1, 1, 0, []), (80, .invokevirtual 96, 3, 93, [680, 682, 23, 65, 683]), (83, .invokevirtual 109, 3, 96, [684, 686, 24, 65, 687]), (86, .aload_n 0, 1, 0, []), (87, .aload_n 0, 1, 0, []), (88, .iload_n 1, 1, 0, []), (89, .invokevirtual 96, 3, 93, [680, 682, 23, 65, 683]), (92, .invokevirtual 112, 3, 103, [712, 714, 31, 65, 715]), (95, .istore 4, 2, 0, []), (97, .iload 4, 2, 0, []), (99, .bipush (-6), 2, 0, []), (101, .if_icmp .ne 108, 3, 0, []), (104, .iconst 0, 1, 0, []), (105, .goto 114, 3, 0, []), (108, .aload_n 0, 1, 0, []), (109, .iload 4, 2, 0, []), (111, .invokevirtual 108, 3, 106, [732, 734, 36, 65, 735]), (114, .ireturn, 1, 0, [])])
/-- LeaningTreesModel.root()I -/
def s_m114 : sM := (yX7_root, cX7_root, 3, (some .int), 1, 1, 21, [(0, .bipush (-6), 2, 0, []), (2, .istore_n 1, 1, 0, []), (3, .iconst 0, 1, 0, []), (4, .istore_n 2, 1, 0, []), (5, .iload_n 2, 1, 0, []), (6, .aload_n 0, 1, 0, []), (7, .getfield 7170, 3, 7, [595]), (10, .iconst 3, 1, 0, []), (11, .iaload, 1, 0, []), (12, .if_icmp .ge 35, 3, 0, []), (15, .aload_n 0, 1, 0, []), (16, .iload_n 2, 1, 0, []), (17, .invokevirtual 95, 3, 47, [696, 698, 27, 65, 699]), (20, .ifCond .ne 27, 3, 0, []), (23, .iload_n 2, 1, 0, []), (24, .goto 28, 3, 0, []), (27, .iload_n 1, 1, 0, []), (28, .istore_n 1, 1, 0, []), (29, .iinc 2 1, 3, 0, []), (32, .goto 5, 3, 0, []), (35, .iload_n 1, 1, 0, []), (36, .ireturn, 1, 0, [])])
/-- LeaningTreesModel.fulls()I -/
def s_m115 : sM := (yX7_fulls, cX7_fulls, 1, (some .int), 1, 1, 25, [(0, .aload_n 0, 1, 0, []), (1, .sipush 188, 3, 0, []), (4, .iconst 0, 1, 0, []), (5, .aload_n 0, 1, 0, []), (6, .getfield 7170, 3, 7, [595]), (9, .iconst 3, 1, 0, []), (10, .iaload, 1, 0, []), (11, .iconst 1, 1, 0, []), (12, .isub, 1, 0, []), (13, .invokevirtual 105, 3, 67, [736, 738, 37, 65, 739]), (16, .ireturn, 1, 0, [])])
/-- LeaningTreesModel.doRemove(I)I -/
def s_m116 : sM := (yX7_doRemove, cX7_doRemove, 3, (some .int), 2, 4, 87, [(0, .iload_n 1, 1, 0, []), (1, .invokestatic 94, 3, 90, [676, 677, 65, 678]), (4, .ifCond .ne 10, 3, 0, []), (7, .bipush (-2), 2, 0, []), (9, .ireturn, 1, 0, []), (10, .aload_n 0, 1, 0, []), (11, .iload_n 1, 1, 0, []), (12, .invokevirtual 96, 3, 93, [680, 682, 23, 65, 683]), (15, .istore_n 2, 1, 0, []), (16, .iload_n 2, 1, 0, []), (17, .bipush (-6), 2, 0, []), (19, .if_icmp .eq 35, 3, 0, []), (22, .aload_n 0, 1, 0, []), (23, .getfield 7170, 3, 7, [595]), (26, .sipush 188, 3, 0, []), (29, .iload_n 2, 1, 0, []), (30, .iadd, 1, 0, []), (31, .iaload, 1, 0, []), (32, .ifCond .ne 37, 3, 0, []), (35, .iconst (-1), 1, 0, []), (36, .ireturn, 1, 0, []), (37, .aload_n 0, 1, 0, []), (38, .getfield 7170, 3, 7, [595]), (41, .sipush 188, 3, 0, []), (44, .iload_n 2, 1, 0, []), (45, .iadd, 1, 0, []), (46, .iconst 0, 1, 0, []), (47, .iastore, 1, 0, []), (48, .aload_n 0, 1, 0, []), (49, .iload_n 2, 1, 0, []), (50, .invokevirtual 109, 3, 96, [684, 686, 24, 65, 687]), (53, .bipush 100, 2, 0, []), (55, .aload_n 0, 1, 0, []), (56, .getfield 7170, 3, 7, [595]), (59, .iconst 3, 1, 0, []), (60, .iaload, 1, 0, []), (61, .aload_n 0, 1, 0, []), (62, .invokevirtual 115, 3, 109, [756, 758, 41, 65, 759]), (65, .isub, 1, 0, []), (66, .imul, 1, 0, []), (67, .aload_n 0, 1, 0, []), (68, .getfield 7170, 3, 7, [595]), (71, .iconst 1, 1, 0, []), (72, .iaload, 1, 0, []), (73, .aload_n 0, 1, 0, []), (74, .getfield 7170, 3, 7, [595]), (77, .iconst 3, 1, 0, []), (78, .iaload, 1, 0, []), (79, .imul, 1, 0, []), (80, .if_icmp .le 94, 3, 0, []), (83, .aload_n 0, 1, 0, []), (84, .aload_n 0, 1, 0, []), (85, .invokevirtual 114, 3, 113, [760, 762, 42, 65, 763]), (88, .invokevirtual 108, 3, 106, [732, 734, 36, 65, 735]), (91, .goto 95, 3, 0, []), (94, .iconst 0, 1, 0, []), (95, .ireturn, 1, 0, [])])
/-- LeaningTreesModel.doRebuild(I)I -/
def s_m117 : sM := (yX7_doRebuild, cX7_doRebuild, 3, (some .int), 2, 3, 70, [(0, .iload_n 1, 1, 0, []), (1, .invokestatic 94, 3, 90, [676, 677, 65, 678]), (4, .ifCond .ne 10, 3, 0, []), (7, .bipush (-2), 2, 0, []), (9, .ireturn, 1, 0, []), (10, .aload_n 0, 1, 0, []), (11, .iload_n 1, 1, 0, []), (12, .invokevirtual 96, 3, 93, [680, 682, 23, 65, 683]), (15, .istore_n 2, 1, 0, []), (16, .iload_n 2, 1, 0, []), (17, .bipush (-6), 2, 0, []), (19, .if_icmp .ne 26, 3, 0, []), (22, .iconst (-1), 1, 0, []), (23, .goto 31, 3, 0, []), (26, .aload_n 0, 1, 0, []), (27, .iload_n 2, 1, 0, []), (28, .invokevirtual 108, 3, 106, [732, 734, 36, 65, 735]), (31, .ireturn, 1, 0, [])])
/-- LeaningTreesModel.doSet(II)I -/
def s_m118 : sM := (yX7_doSet, cX7_doSet, 5, (some .int), 3, 1, 25, [(0, .iload_n 1, 1, 0, []), (1, .ifCond .ne 18, 3, 0, []), (4, .iload_n 2, 1, 0, []), (5, .i2l, 1, 0, []), (6, .ldc2_w 55, 3, 116, [656]), (9, .ldc2_w 95, 3, 118, [657]), (12, .invokestatic 90, 3, 43, [658, 659, 65, 660]), (15, .goto 59, 3, 0, []), (18, .iload_n 1, 1, 0, []), (19, .iconst 1, 1, 0, []), (20, .if_icmp .ne 37, 3, 0, []), (23, .iload_n 2, 1, 0, []), (24, .i2l, 1, 0, []), (25, .ldc2_w 10, 3, 120, [661]), (28, .ldc2_w 90, 3, 122, [662]), (31, .invokestatic 90, 3, 43, [658, 659, 65, 660]), (34, .goto 59, 3, 0, []), (37, .iload_n 1, 1, 0, []), (38, .iconst 2, 1, 0, []), (39, .if_icmp .ne 58, 3, 0, []), (42, .iload_n 2, 1, 0, []), (43, .i2l, 1, 0, []), (44, .lconst 0, 1, 0, []), (45, .ldc2_w 9, 3, 124, [663]), (48, .invokestatic 90, 3, 43, [658, 659, 65, 660]), (51, .ifCond .eq 58, 3, 0, []), (54, .iconst 1, 1, 0, []), (55, .goto 59, 3, 0, []), (58, .iconst 0, 1, 0, []), (59, .istore_n 3, 1, 0, []), (60, .iload_n 3, 1, 0, []), (61, .ifCond .ne 67, 3, 0, []), (64, .bipush (-2), 2, 0, []), (66, .ireturn, 1, 0, []), (67, .aload_n 0, 1, 0, []), (68, .getfield 7170, 3, 7, [595]), (71, .iload_n 1, 1, 0, []), (72, .iaload, 1, 0, []), (73, .istore 4, 2, 0, []), (75, .aload_n 0, 1, 0, []), (76, .getfield 7170, 3, 7, [595]), (79, .iload_n 1, 1, 0, []), (80, .iload_n 2, 1, 0, []), (81, .iastore, 1, 0, []), (82, .iload 4, 2, 0, []), (84, .ireturn, 1, 0, [])])
/-- LeaningTreesModel.set(II)I -/
def s_m119 : sM := (yX7_set, cX7_set, 3, (some .int), 3, 2, 49, [(0, .aload_n 0, 1, 0, []), (1, .invokevirtual 91, 3, 126, [648, 650, 19, 65, 651]), (4, .aload_n 0, 1, 0, []), (5, .aload_n 0, 1, 0, []), (6, .iload_n 1, 1, 0, []), (7, .iload_n 2, 1, 0, []), (8, .invokevirtual 118, 3, 129, [652, 654, 20, 65, 655]), (11, .invokevirtual 93, 3, 132, [664, 666, 21, 65, 667]), (14, .ireturn, 1, 0, [])])
/-- LeaningTreesModel.putIn(II)I -/
def s_m120 : sM := (yX7_putIn, cX7_putIn, 3, (some .int), 3, 7, 157, [(0, .aload_n 0, 1, 0, []), (1, .invokevirtual 91, 3, 126, [648, 650, 19, 65, 651]), (4, .aload_n 0, 1, 0, []), (5, .aload_n 0, 1, 0, []), (6, .iload_n 1, 1, 0, []), (7, .iload_n 2, 1, 0, []), (8, .invokevirtual 113, 3, 135, [672, 674, 22, 65, 675]), (11, .invokevirtual 93, 3, 132, [664, 666, 21, 65, 667]), (14, .ireturn, 1, 0, [])])
/-- LeaningTreesModel.remove(I)I -/
def s_m121 : sM := (yX7_remove, cX7_remove, 2, (some .int), 2, 5, 109, [(0, .aload_n 0, 1, 0, []), (1, .invokevirtual 91, 3, 126, [648, 650, 19, 65, 651]), (4, .aload_n 0, 1, 0, []), (5, .aload_n 0, 1, 0, []), (6, .iload_n 1, 1, 0, []), (7, .invokevirtual 116, 3, 138, [752, 754, 40, 65, 755]), (10, .invokevirtual 93, 3, 132, [664, 666, 21, 65, 667]), (13, .ireturn, 1, 0, [])])
/-- LeaningTreesModel.rebuild(I)I -/
def s_m122 : sM := (yX7_rebuild, cX7_rebuild, 2, (some .int), 2, 4, 92, [(0, .aload_n 0, 1, 0, []), (1, .invokevirtual 91, 3, 126, [648, 650, 19, 65, 651]), (4, .aload_n 0, 1, 0, []), (5, .aload_n 0, 1, 0, []), (6, .iload_n 1, 1, 0, []), (7, .invokevirtual 117, 3, 141, [768, 770, 43, 65, 771]), (10, .invokevirtual 93, 3, 132, [664, 666, 21, 65, 667]), (13, .ireturn, 1, 0, [])])
/-- LeaningTreesModel.value(I)I -/
def s_m123 : sM := (yX7_value, cX7_value, 3, (some .int), 2, 2, 45, [(0, .iload_n 1, 1, 0, []), (1, .invokestatic 94, 3, 90, [676, 677, 65, 678]), (4, .ifCond .ne 10, 3, 0, []), (7, .bipush (-2), 2, 0, []), (9, .ireturn, 1, 0, []), (10, .aload_n 0, 1, 0, []), (11, .iload_n 1, 1, 0, []), (12, .invokevirtual 96, 3, 93, [680, 682, 23, 65, 683]), (15, .istore_n 2, 1, 0, []), (16, .iload_n 2, 1, 0, []), (17, .bipush (-6), 2, 0, []), (19, .if_icmp .eq 35, 3, 0, []), (22, .aload_n 0, 1, 0, []), (23, .getfield 7170, 3, 7, [595]), (26, .sipush 188, 3, 0, []), (29, .iload_n 2, 1, 0, []), (30, .iadd, 1, 0, []), (31, .iaload, 1, 0, []), (32, .ifCond .ne 40, 3, 0, []), (35, .bipush (-6), 2, 0, []), (37, .goto 49, 3, 0, []), (40, .aload_n 0, 1, 0, []), (41, .getfield 7170, 3, 7, [595]), (44, .bipush 68, 2, 0, []), (46, .iload_n 2, 1, 0, []), (47, .iadd, 1, 0, []), (48, .iaload, 1, 0, []), (49, .ireturn, 1, 0, [])])
/-- LeaningTreesModel.keyOf(I)I -/
def s_m124 : sM := (yX7_keyOf, cX7_keyOf, 2, (some .int), 2, 0, 0, [(0, .iload_n 1, 1, 0, []), (1, .bipush (-6), 2, 0, []), (3, .if_icmp .ne 11, 3, 0, []), (6, .bipush (-6), 2, 0, []), (8, .goto 20, 3, 0, []), (11, .aload_n 0, 1, 0, []), (12, .getfield 7170, 3, 7, [595]), (15, .bipush 8, 2, 0, []), (17, .iload_n 1, 1, 0, []), (18, .iadd, 1, 0, []), (19, .iaload, 1, 0, []), (20, .ireturn, 1, 0, [])])
/-- LeaningTreesModel.deepest(II)I -/
def s_m125 : sM := (yX7_deepest, cX7_deepest, 5, (some .int), 3, 1, 21, [(0, .bipush (-6), 2, 0, []), (2, .istore_n 3, 1, 0, []), (3, .iload_n 1, 1, 0, []), (4, .istore 4, 2, 0, []), (6, .iload 4, 2, 0, []), (8, .iload_n 2, 1, 0, []), (9, .if_icmp .gt 39, 3, 0, []), (12, .aload_n 0, 1, 0, []), (13, .iload 4, 2, 0, []), (15, .invokevirtual 95, 3, 47, [696, 698, 27, 65, 699]), (18, .iload_n 3, 1, 0, []), (19, .if_icmp .le 31, 3, 0, []), (22, .aload_n 0, 1, 0, []), (23, .iload 4, 2, 0, []), (25, .invokevirtual 95, 3, 47, [696, 698, 27, 65, 699]), (28, .goto 32, 3, 0, []), (31, .iload_n 3, 1, 0, []), (32, .istore_n 3, 1, 0, []), (33, .iinc 4 1, 3, 0, []), (36, .goto 6, 3, 0, []), (39, .iload_n 3, 1, 0, []), (40, .ireturn, 1, 0, [])])
/-- LeaningTreesModel.nodeValue(II)I -/
def s_m126 : sM := (yX7_nodeValue, cX7_nodeValue, 3, (some .int), 3, 5, 109, [(0, .iload_n 2, 1, 0, []), (1, .tableswitch 125 0 7 #[48, 48, 59, 65, 71, 82, 93, 111], 47, 0, []), (48, .aload_n 0, 1, 0, []), (49, .aload_n 0, 1, 0, []), (50, .iload_n 1, 1, 0, []), (51, .iload_n 2, 1, 0, []), (52, .invokevirtual 101, 3, 144, [785, 787, 45, 65, 788]), (55, .invokevirtual 124, 3, 147, [789, 791, 46, 65, 792]), (58, .ireturn, 1, 0, []), (59, .aload_n 0, 1, 0, []), (60, .iload_n 1, 1, 0, []), (61, .invokevirtual 99, 3, 64, [728, 730, 35, 65, 731]), (64, .ireturn, 1, 0, []), (65, .aload_n 0, 1, 0, []), (66, .iload_n 1, 1, 0, []), (67, .invokevirtual 95, 3, 47, [696, 698, 27, 65, 699]), (70, .ireturn, 1, 0, []), (71, .aload_n 0, 1, 0, []), (72, .getfield 7170, 3, 7, [595]), (75, .sipush 128, 3, 0, []), (78, .iload_n 1, 1, 0, []), (79, .iadd, 1, 0, []), (80, .iaload, 1, 0, []), (81, .ireturn, 1, 0, []), (82, .aload_n 0, 1, 0, []), (83, .getfield 7170, 3, 7, [595]), (86, .sipush 188, 3, 0, []), (89, .iload_n 1, 1, 0, []), (90, .iadd, 1, 0, []), (91, .iaload, 1, 0, []), (92, .ireturn, 1, 0, []), (93, .aload_n 0, 1, 0, []), (94, .sipush 188, 3, 0, []), (97, .aload_n 0, 1, 0, []), (98, .iload_n 1, 1, 0, []), (99, .invokevirtual 97, 3, 54, [692, 694, 26, 65, 695]), (102, .aload_n 0, 1, 0, []), (103, .iload_n 1, 1, 0, []), (104, .invokevirtual 98, 3, 51, [700, 702, 28, 65, 703]), (107, .invokevirtual 105, 3, 67, [736, 738, 37, 65, 739]), (110, .ireturn, 1, 0, []), (111, .aload_n 0, 1, 0, []), (112, .iload_n 1, 1, 0, []), (113, .invokevirtual 104, 3, 86, [716, 718, 32, 65, 719]), (116, .ifCond .eq 123, 3, 0, []), (119, .iconst 1, 1, 0, []), (120, .goto 124, 3, 0, []), (123, .iconst 0, 1, 0, []), (124, .ireturn, 1, 0, []), (125, .aload_n 0, 1, 0, []), (126, .aload_n 0, 1, 0, []), (127, .iload_n 1, 1, 0, []), (128, .invokevirtual 97, 3, 54, [692, 694, 26, 65, 695]), (131, .aload_n 0, 1, 0, []), (132, .iload_n 1, 1, 0, []), (133, .invokevirtual 98, 3, 51, [700, 702, 28, 65, 703]), (136, .invokevirtual 125, 3, 150, [793, 795, 47, 65, 796]), (139, .aload_n 0, 1, 0, []), (140, .iload_n 1, 1, 0, []), (141, .invokevirtual 95, 3, 47, [696, 698, 27, 65, 699]), (144, .isub, 1, 0, []), (145, .ireturn, 1, 0, [])])
/-- LeaningTreesModel.node(II)I -/
def s_m127 : sM := (yX7_node, cX7_node, 4, (some .int), 3, 6, 131, [(0, .iload_n 1, 1, 0, []), (1, .invokestatic 94, 3, 90, [676, 677, 65, 678]), (4, .ifCond .eq 19, 3, 0, []), (7, .iload_n 2, 1, 0, []), (8, .i2l, 1, 0, []), (9, .lconst 0, 1, 0, []), (10, .ldc2_w 8, 3, 153, [780]), (13, .invokestatic 90, 3, 43, [658, 659, 65, 660]), (16, .ifCond .ne 22, 3, 0, []), (19, .bipush (-2), 2, 0, []), (21, .ireturn, 1, 0, []), (22, .aload_n 0, 1, 0, []), (23, .iload_n 1, 1, 0, []), (24, .invokevirtual 96, 3, 93, [680, 682, 23, 65, 683]), (27, .istore_n 3, 1, 0, []), (28, .iload_n 3, 1, 0, []), (29, .bipush (-6), 2, 0, []), (31, .if_icmp .ne 38, 3, 0, []), (34, .iconst (-1), 1, 0, []), (35, .goto 44, 3, 0, []), (38, .aload_n 0, 1, 0, []), (39, .iload_n 3, 1, 0, []), (40, .iload_n 2, 1, 0, []), (41, .invokevirtual 126, 3, 155, [781, 783, 44, 65, 784]), (44, .ireturn, 1, 0, [])])
/-- LeaningTreesModel.leaningNodes()I -/
def s_m128 : sM := (yX7_leaningNodes, cX7_leaningNodes, 3, (some .int), 1, 5, 109, [(0, .iconst 0, 1, 0, []), (1, .istore_n 1, 1, 0, []), (2, .iconst 0, 1, 0, []), (3, .istore_n 2, 1, 0, []), (4, .iload_n 2, 1, 0, []), (5, .aload_n 0, 1, 0, []), (6, .getfield 7170, 3, 7, [595]), (9, .iconst 3, 1, 0, []), (10, .iaload, 1, 0, []), (11, .if_icmp .ge 36, 3, 0, []), (14, .iload_n 1, 1, 0, []), (15, .aload_n 0, 1, 0, []), (16, .iload_n 2, 1, 0, []), (17, .invokevirtual 104, 3, 86, [716, 718, 32, 65, 719]), (20, .ifCond .eq 27, 3, 0, []), (23, .iconst 1, 1, 0, []), (24, .goto 28, 3, 0, []), (27, .iconst 0, 1, 0, []), (28, .iadd, 1, 0, []), (29, .istore_n 1, 1, 0, []), (30, .iinc 2 1, 3, 0, []), (33, .goto 4, 3, 0, []), (36, .iload_n 1, 1, 0, []), (37, .ireturn, 1, 0, [])])
/-- LeaningTreesModel.count(I)I -/
def s_m129 : sM := (yX7_count, cX7_count, 2, (some .int), 2, 6, 131, [(0, .iload_n 1, 1, 0, []), (1, .i2l, 1, 0, []), (2, .ldc2_w 10, 3, 120, [661]), (5, .ldc2_w 12, 3, 158, [801]), (8, .invokestatic 90, 3, 43, [658, 659, 65, 660]), (11, .ifCond .eq 24, 3, 0, []), (14, .aload_n 0, 1, 0, []), (15, .getfield 7170, 3, 7, [595]), (18, .iload_n 1, 1, 0, []), (19, .bipush 10, 2, 0, []), (21, .isub, 1, 0, []), (22, .iaload, 1, 0, []), (23, .ireturn, 1, 0, []), (24, .iload_n 1, 1, 0, []), (25, .tableswitch 200 0 14 #[100, 107, 112, 121, 135, 142, 152, 169, 177, 185, 200, 200, 200, 190, 195], 75, 0, []), (100, .aload_n 0, 1, 0, []), (101, .getfield 7170, 3, 7, [595]), (104, .iconst 3, 1, 0, []), (105, .iaload, 1, 0, []), (106, .ireturn, 1, 0, []), (107, .aload_n 0, 1, 0, []), (108, .invokevirtual 115, 3, 109, [756, 758, 41, 65, 759]), (111, .ireturn, 1, 0, []), (112, .aload_n 0, 1, 0, []), (113, .aload_n 0, 1, 0, []), (114, .invokevirtual 114, 3, 113, [760, 762, 42, 65, 763]), (117, .invokevirtual 124, 3, 147, [789, 791, 46, 65, 792]), (120, .ireturn, 1, 0, []), (121, .aload_n 0, 1, 0, []), (122, .iconst 0, 1, 0, []), (123, .aload_n 0, 1, 0, []), (124, .getfield 7170, 3, 7, [595]), (127, .iconst 3, 1, 0, []), (128, .iaload, 1, 0, []), (129, .iconst 1, 1, 0, []), (130, .isub, 1, 0, []), (131, .invokevirtual 125, 3, 150, [793, 795, 47, 65, 796]), (134, .ireturn, 1, 0, []), (135, .aload_n 0, 1, 0, []), (136, .getfield 7170, 3, 7, [595]), (139, .iconst 4, 1, 0, []), (140, .iaload, 1, 0, []), (141, .ireturn, 1, 0, []), (142, .aload_n 0, 1, 0, []), (143, .getfield 7170, 3, 7, [595]), (146, .iconst 5, 1, 0, []), (147, .iaload, 1, 0, []), (148, .ldc 1000000, 2, 160, [802]), (150, .iadd, 1, 0, []), (151, .ireturn, 1, 0, []), (152, .aload_n 0, 1, 0, []), (153, .sipush 128, 3, 0, []), (156, .iconst 0, 1, 0, []), (157, .aload_n 0, 1, 0, []), (158, .getfield 7170, 3, 7, [595]), (161, .iconst 3, 1, 0, []), (162, .iaload, 1, 0, []), (163, .iconst 1, 1, 0, []), (164, .isub, 1, 0, []), (165, .invokevirtual 105, 3, 67, [736, 738, 37, 65, 739]), (168, .ireturn, 1, 0, []), (169, .aload_n 0, 1, 0, []), (170, .getfield 7170, 3, 7, [595]), (173, .bipush 6, 2, 0, []), (175, .iaload, 1, 0, []), (176, .ireturn, 1, 0, []), (177, .aload_n 0, 1, 0, []), (178, .getfield 7170, 3, 7, [595]), (181, .bipush 7, 2, 0, []), (183, .iaload, 1, 0, []), (184, .ireturn, 1, 0, []), (185, .aload_n 0, 1, 0, []), (186, .invokevirtual 128, 3, 161, [803, 805, 48, 65, 806]), (189, .ireturn, 1, 0, []), (190, .aload_n 0, 1, 0, []), (191, .getfield 7248, 3, 164, [605]), (194, .ireturn, 1, 0, []), (195, .aload_n 0, 1, 0, []), (196, .getfield 7192, 3, 37, [598]), (199, .ireturn, 1, 0, []), (200, .bipush (-2), 2, 0, []), (202, .ireturn, 1, 0, [])])
/-- LeaningTreesModel.meanDepth(I)J -/
def s_m130 : sM := (yX7_meanDepth, cX7_meanDepth, 4, (some .long), 2, 2, 47, [(0, .iload_n 1, 1, 0, []), (1, .i2l, 1, 0, []), (2, .lconst 0, 1, 0, []), (3, .lconst 1, 1, 0, []), (4, .invokestatic 90, 3, 43, [658, 659, 65, 660]), (7, .ifCond .ne 14, 3, 0, []), (10, .ldc2_w 18446744073709551614, 3, 167, [811]), (13, .lreturn, 1, 0, []), (14, .aload_n 0, 1, 0, []), (15, .getfield 7170, 3, 7, [595]), (18, .iconst 3, 1, 0, []), (19, .iaload, 1, 0, []), (20, .ifCond .ne 25, 3, 0, []), (23, .lconst 0, 1, 0, []), (24, .lreturn, 1, 0, []), (25, .aload_n 0, 1, 0, []), (26, .sipush 248, 3, 0, []), (29, .iconst 0, 1, 0, []), (30, .aload_n 0, 1, 0, []), (31, .getfield 7170, 3, 7, [595]), (34, .iconst 3, 1, 0, []), (35, .iaload, 1, 0, []), (36, .iconst 1, 1, 0, []), (37, .isub, 1, 0, []), (38, .invokevirtual 105, 3, 67, [736, 738, 37, 65, 739]), (41, .i2d, 1, 0, []), (42, .aload_n 0, 1, 0, []), (43, .getfield 7170, 3, 7, [595]), (46, .iconst 3, 1, 0, []), (47, .iaload, 1, 0, []), (48, .i2d, 1, 0, []), (49, .ddiv, 1, 0, []), (50, .dstore_n 2, 1, 0, []), (51, .iload_n 1, 1, 0, []), (52, .ifCond .ne 59, 3, 0, []), (55, .dload_n 2, 1, 0, []), (56, .goto 62, 3, 0, []), (59, .dload_n 2, 1, 0, []), (60, .dconst 1, 1, 0, []), (61, .drem, 1, 0, []), (62, .invokestatic 153, 3, 169, [812, 813, 68, 814]), (65, .lreturn, 1, 0, [])])
/-- LeaningTreesModel.leaning(I)I -/
def s_m131 : sM := (yX7_leaning, cX7_leaning, 3, (some .int), 2, 4, 88, [(0, .iload_n 1, 1, 0, []), (1, .invokestatic 94, 3, 90, [676, 677, 65, 678]), (4, .ifCond .ne 10, 3, 0, []), (7, .bipush (-2), 2, 0, []), (9, .ireturn, 1, 0, []), (10, .aload_n 0, 1, 0, []), (11, .iload_n 1, 1, 0, []), (12, .invokevirtual 96, 3, 93, [680, 682, 23, 65, 683]), (15, .istore_n 2, 1, 0, []), (16, .iload_n 2, 1, 0, []), (17, .bipush (-6), 2, 0, []), (19, .if_icmp .ne 26, 3, 0, []), (22, .iconst (-1), 1, 0, []), (23, .goto 42, 3, 0, []), (26, .aload_n 0, 1, 0, []), (27, .iload_n 2, 1, 0, []), (28, .invokevirtual 103, 3, 61, [720, 722, 33, 65, 723]), (31, .i2f, 1, 0, []), (32, .aload_n 0, 1, 0, []), (33, .iload_n 2, 1, 0, []), (34, .invokevirtual 99, 3, 64, [728, 730, 35, 65, 731]), (37, .i2f, 1, 0, []), (38, .fdiv, 1, 0, []), (39, .invokestatic 155, 3, 175, [826, 827, 69, 828]), (42, .ireturn, 1, 0, [])])
/-- LeaningTreesModel.below(I)I -/
def s_m132 : sM := (yX7_below, cX7_below, 4, (some .int), 2, 0, 0, [(0, .iconst 0, 1, 0, []), (1, .istore_n 2, 1, 0, []), (2, .iconst 0, 1, 0, []), (3, .istore_n 3, 1, 0, []), (4, .iload_n 3, 1, 0, []), (5, .aload_n 0, 1, 0, []), (6, .getfield 7170, 3, 7, [595]), (9, .iconst 3, 1, 0, []), (10, .iaload, 1, 0, []), (11, .if_icmp .ge 50, 3, 0, []), (14, .iload_n 2, 1, 0, []), (15, .aload_n 0, 1, 0, []), (16, .getfield 7170, 3, 7, [595]), (19, .bipush 8, 2, 0, []), (21, .iload_n 3, 1, 0, []), (22, .iadd, 1, 0, []), (23, .iaload, 1, 0, []), (24, .iload_n 1, 1, 0, []), (25, .if_icmp .ge 41, 3, 0, []), (28, .aload_n 0, 1, 0, []), (29, .getfield 7170, 3, 7, [595]), (32, .sipush 188, 3, 0, []), (35, .iload_n 3, 1, 0, []), (36, .iadd, 1, 0, []), (37, .iaload, 1, 0, []), (38, .goto 42, 3, 0, []), (41, .iconst 0, 1, 0, []), (42, .iadd, 1, 0, []), (43, .istore_n 2, 1, 0, []), (44, .iinc 3 1, 3, 0, []), (47, .goto 4, 3, 0, []), (50, .iload_n 2, 1, 0, []), (51, .ireturn, 1, 0, [])])
/-- LeaningTreesModel.rank(I)I -/
def s_m133 : sM := (yX7_rank, cX7_rank, 2, (some .int), 2, 2, 45, [(0, .iload_n 1, 1, 0, []), (1, .invokestatic 94, 3, 90, [676, 677, 65, 678]), (4, .ifCond .eq 15, 3, 0, []), (7, .aload_n 0, 1, 0, []), (8, .iload_n 1, 1, 0, []), (9, .invokevirtual 132, 3, 181, [840, 842, 49, 65, 843]), (12, .goto 17, 3, 0, []), (15, .bipush (-2), 2, 0, []), (17, .ireturn, 1, 0, [])])
/-- LeaningTreesModel.keyAt(I)I -/
def s_m134 : sM := (yX7_keyAt, cX7_keyAt, 4, (some .int), 2, 0, 0, [(0, .iload_n 1, 1, 0, []), (1, .istore_n 2, 1, 0, []), (2, .iconst 0, 1, 0, []), (3, .istore_n 3, 1, 0, []), (4, .iload_n 3, 1, 0, []), (5, .aload_n 0, 1, 0, []), (6, .getfield 7170, 3, 7, [595]), (9, .iconst 3, 1, 0, []), (10, .iaload, 1, 0, []), (11, .if_icmp .ge 51, 3, 0, []), (14, .aload_n 0, 1, 0, []), (15, .getfield 7170, 3, 7, [595]), (18, .sipush 188, 3, 0, []), (21, .iload_n 3, 1, 0, []), (22, .iadd, 1, 0, []), (23, .iaload, 1, 0, []), (24, .iconst 1, 1, 0, []), (25, .if_icmp .ne 45, 3, 0, []), (28, .iload_n 2, 1, 0, []), (29, .ifCond .ne 42, 3, 0, []), (32, .aload_n 0, 1, 0, []), (33, .getfield 7170, 3, 7, [595]), (36, .bipush 8, 2, 0, []), (38, .iload_n 3, 1, 0, []), (39, .iadd, 1, 0, []), (40, .iaload, 1, 0, []), (41, .ireturn, 1, 0, []), (42, .iinc 2 (-1), 3, 0, []), (45, .iinc 3 1, 3, 0, []), (48, .goto 4, 3, 0, []), (51, .bipush (-6), 2, 0, []), (53, .ireturn, 1, 0, [])])
/-- LeaningTreesModel.kth(I)I -/
def s_m135 : sM := (yX7_kth, cX7_kth, 2, (some .int), 2, 2, 45, [(0, .iload_n 1, 1, 0, []), (1, .i2l, 1, 0, []), (2, .lconst 0, 1, 0, []), (3, .aload_n 0, 1, 0, []), (4, .invokevirtual 115, 3, 109, [756, 758, 41, 65, 759]), (7, .i2l, 1, 0, []), (8, .lconst 1, 1, 0, []), (9, .lsub, 1, 0, []), (10, .invokestatic 90, 3, 43, [658, 659, 65, 660]), (13, .ifCond .eq 24, 3, 0, []), (16, .aload_n 0, 1, 0, []), (17, .iload_n 1, 1, 0, []), (18, .invokevirtual 134, 3, 184, [848, 850, 50, 65, 851]), (21, .goto 25, 3, 0, []), (24, .iconst (-1), 1, 0, []), (25, .ireturn, 1, 0, [])])
/-- LeaningTreesModel.neighbour(II)I -/
def s_m136 : sM := (yX7_neighbour, cX7_neighbour, 4, (some .int), 3, 2, 45, [(0, .iload_n 1, 1, 0, []), (1, .invokestatic 94, 3, 90, [676, 677, 65, 678]), (4, .ifCond .eq 17, 3, 0, []), (7, .iload_n 2, 1, 0, []), (8, .i2l, 1, 0, []), (9, .lconst 0, 1, 0, []), (10, .lconst 1, 1, 0, []), (11, .invokestatic 90, 3, 43, [658, 659, 65, 660]), (14, .ifCond .ne 20, 3, 0, []), (17, .bipush (-2), 2, 0, []), (19, .ireturn, 1, 0, []), (20, .aload_n 0, 1, 0, []), (21, .iload_n 1, 1, 0, []), (22, .invokevirtual 132, 3, 181, [840, 842, 49, 65, 843]), (25, .istore_n 3, 1, 0, []), (26, .iload_n 2, 1, 0, []), (27, .ifCond .ne 47, 3, 0, []), (30, .iload_n 3, 1, 0, []), (31, .ifCond .ne 39, 3, 0, []), (34, .bipush (-6), 2, 0, []), (36, .goto 46, 3, 0, []), (39, .aload_n 0, 1, 0, []), (40, .iload_n 3, 1, 0, []), (41, .iconst 1, 1, 0, []), (42, .isub, 1, 0, []), (43, .invokevirtual 134, 3, 184, [848, 850, 50, 65, 851]), (46, .ireturn, 1, 0, []), (47, .aload_n 0, 1, 0, []), (48, .aload_n 0, 1, 0, []), (49, .iload_n 3, 1, 0, []), (50, .invokevirtual 134, 3, 184, [848, 850, 50, 65, 851]), (53, .iload_n 1, 1, 0, []), (54, .if_icmp .ne 63, 3, 0, []), (57, .iload_n 3, 1, 0, []), (58, .iconst 1, 1, 0, []), (59, .iadd, 1, 0, []), (60, .goto 64, 3, 0, []), (63, .iload_n 3, 1, 0, []), (64, .invokevirtual 134, 3, 184, [848, 850, 50, 65, 851]), (67, .ireturn, 1, 0, [])])
/-- LeaningTreesModel.sum(II)I -/
def s_m137 : sM := (yX7_sum, cX7_sum, 5, (some .int), 3, 2, 45, [(0, .iload_n 1, 1, 0, []), (1, .invokestatic 94, 3, 90, [676, 677, 65, 678]), (4, .ifCond .eq 20, 3, 0, []), (7, .iload_n 2, 1, 0, []), (8, .i2l, 1, 0, []), (9, .iload_n 1, 1, 0, []), (10, .i2l, 1, 0, []), (11, .ldc2_w 999, 3, 41, [679]), (14, .invokestatic 90, 3, 43, [658, 659, 65, 660]), (17, .ifCond .ne 23, 3, 0, []), (20, .bipush (-2), 2, 0, []), (22, .ireturn, 1, 0, []), (23, .iconst 0, 1, 0, []), (24, .istore_n 3, 1, 0, []), (25, .iconst 0, 1, 0, []), (26, .istore 4, 2, 0, []), (28, .iload 4, 2, 0, []), (30, .aload_n 0, 1, 0, []), (31, .getfield 7170, 3, 7, [595]), (34, .iconst 3, 1, 0, []), (35, .iaload, 1, 0, []), (36, .if_icmp .ge 98, 3, 0, []), (39, .iload_n 3, 1, 0, []), (40, .aload_n 0, 1, 0, []), (41, .getfield 7170, 3, 7, [595]), (44, .sipush 188, 3, 0, []), (47, .iload 4, 2, 0, []), (49, .iadd, 1, 0, []), (50, .iaload, 1, 0, []), (51, .iconst 1, 1, 0, []), (52, .if_icmp .ne 89, 3, 0, []), (55, .aload_n 0, 1, 0, []), (56, .getfield 7170, 3, 7, [595]), (59, .bipush 8, 2, 0, []), (61, .iload 4, 2, 0, []), (63, .iadd, 1, 0, []), (64, .iaload, 1, 0, []), (65, .i2l, 1, 0, []), (66, .iload_n 1, 1, 0, []), (67, .i2l, 1, 0, []), (68, .iload_n 2, 1, 0, []), (69, .i2l, 1, 0, []), (70, .invokestatic 90, 3, 43, [658, 659, 65, 660]), (73, .ifCond .eq 89, 3, 0, []), (76, .aload_n 0, 1, 0, []), (77, .getfield 7170, 3, 7, [595]), (80, .bipush 68, 2, 0, []), (82, .iload 4, 2, 0, []), (84, .iadd, 1, 0, []), (85, .iaload, 1, 0, []), (86, .goto 90, 3, 0, []), (89, .iconst 0, 1, 0, []), (90, .iadd, 1, 0, []), (91, .istore_n 3, 1, 0, []), (92, .iinc 4 1, 3, 0, []), (95, .goto 28, 3, 0, []), (98, .iload_n 3, 1, 0, []), (99, .ireturn, 1, 0, [])])
/-- LeaningTreesModel.wouldCost(I)I -/
def s_m138 : sM := (yX7_wouldCost, cX7_wouldCost, 3, (some .int), 2, 7, 157, [(0, .aload_n 0, 1, 0, []), (1, .invokevirtual 91, 3, 126, [648, 650, 19, 65, 651]), (4, .aload_n 0, 1, 0, []), (5, .iload_n 1, 1, 0, []), (6, .iconst 0, 1, 0, []), (7, .invokevirtual 113, 3, 135, [672, 674, 22, 65, 675]), (10, .istore_n 2, 1, 0, []), (11, .aload_n 0, 1, 0, []), (12, .invokevirtual 92, 3, 187, [864, 866, 51, 65, 867]), (15, .iload_n 2, 1, 0, []), (16, .ireturn, 1, 0, [])])
/-- LeaningTreesModel.worst(I)I -/
def s_m139 : sM := (yX7_worst, cX7_worst, 6, (some .int), 2, 8, 179, [(0, .iload_n 1, 1, 0, []), (1, .i2l, 1, 0, []), (2, .lconst 0, 1, 0, []), (3, .lconst 1, 1, 0, []), (4, .invokestatic 90, 3, 43, [658, 659, 65, 660]), (7, .ifCond .ne 13, 3, 0, []), (10, .bipush (-2), 2, 0, []), (12, .ireturn, 1, 0, []), (13, .aload_n 0, 1, 0, []), (14, .getfield 7170, 3, 7, [595]), (17, .iconst 3, 1, 0, []), (18, .iaload, 1, 0, []), (19, .bipush 60, 2, 0, []), (21, .if_icmp .ne 27, 3, 0, []), (24, .bipush (-4), 2, 0, []), (26, .ireturn, 1, 0, []), (27, .iconst 0, 1, 0, []), (28, .istore_n 2, 1, 0, []), (29, .iconst 0, 1, 0, []), (30, .istore_n 3, 1, 0, []), (31, .iconst 0, 1, 0, []), (32, .istore 4, 2, 0, []), (34, .iload 4, 2, 0, []), (36, .sipush 999, 3, 0, []), (39, .if_icmp .gt 82, 3, 0, []), (42, .aload_n 0, 1, 0, []), (43, .iload 4, 2, 0, []), (45, .invokevirtual 138, 3, 190, [872, 861, 862, 65, 863]), (48, .istore 5, 2, 0, []), (50, .iload 5, 2, 0, []), (52, .iload_n 3, 1, 0, []), (53, .if_icmp .le 61, 3, 0, []), (56, .iload 4, 2, 0, []), (58, .goto 62, 3, 0, []), (61, .iload_n 2, 1, 0, []), (62, .istore_n 2, 1, 0, []), (63, .iload 5, 2, 0, []), (65, .iload_n 3, 1, 0, []), (66, .if_icmp .le 74, 3, 0, []), (69, .iload 5, 2, 0, []), (71, .goto 75, 3, 0, []), (74, .iload_n 3, 1, 0, []), (75, .istore_n 3, 1, 0, []), (76, .iinc 4 1, 3, 0, []), (79, .goto 34, 3, 0, []), (82, .iload_n 1, 1, 0, []), (83, .ifCond .ne 90, 3, 0, []), (86, .iload_n 2, 1, 0, []), (87, .goto 91, 3, 0, []), (90, .iload_n 3, 1, 0, []), (91, .ireturn, 1, 0, [])])
/-- LeaningTreesModel.put(J)I -/
def s_m140 : sM := (yX7_put, cX7_put, 8, (some .int), 2, 1, 25, [(0, .iconst 0, 1, 0, []), (1, .istore_n 3, 1, 0, []), (2, .iconst 1, 1, 0, []), (3, .istore 4, 2, 0, []), (5, .lload_n 1, 1, 0, []), (6, .lstore 5, 2, 0, []), (8, .iload_n 3, 1, 0, []), (9, .bipush 8, 2, 0, []), (11, .if_icmp .ge 68, 3, 0, []), (14, .lload 5, 2, 0, []), (16, .ldc2_w 255, 3, 193, [877]), (19, .land, 1, 0, []), (20, .lconst 0, 1, 0, []), (21, .lcmp, 1, 0, []), (22, .ifCond .eq 68, 3, 0, []), (25, .iload 4, 2, 0, []), (27, .ifCond .eq 52, 3, 0, []), (30, .lload 5, 2, 0, []), (32, .ldc2_w 255, 3, 193, [877]), (35, .land, 1, 0, []), (36, .ldc2_w 33, 3, 195, [878]), (39, .ldc2_w 126, 3, 197, [879]), (42, .invokestatic 90, 3, 43, [658, 659, 65, 660]), (45, .ifCond .eq 52, 3, 0, []), (48, .iconst 1, 1, 0, []), (49, .goto 53, 3, 0, []), (52, .iconst 0, 1, 0, []), (53, .istore 4, 2, 0, []), (55, .lload 5, 2, 0, []), (57, .bipush 8, 2, 0, []), (59, .lushr, 1, 0, []), (60, .lstore 5, 2, 0, []), (62, .iinc 3 1, 3, 0, []), (65, .goto 8, 3, 0, []), (68, .iload_n 3, 1, 0, []), (69, .ifCond .eq 84, 3, 0, []), (72, .lload 5, 2, 0, []), (74, .lconst 0, 1, 0, []), (75, .lcmp, 1, 0, []), (76, .ifCond .ne 84, 3, 0, []), (79, .iload 4, 2, 0, []), (81, .ifCond .ne 87, 3, 0, []), (84, .bipush (-2), 2, 0, []), (86, .ireturn, 1, 0, []), (87, .aload_n 0, 1, 0, []), (88, .getfield 7248, 3, 164, [605]), (91, .iload_n 3, 1, 0, []), (92, .iadd, 1, 0, []), (93, .bipush 80, 2, 0, []), (95, .if_icmp .le 101, 3, 0, []), (98, .bipush (-4), 2, 0, []), (100, .ireturn, 1, 0, []), (101, .iload_n 3, 1, 0, []), (102, .iconst 1, 1, 0, []), (103, .isub, 1, 0, []), (104, .istore 7, 2, 0, []), (106, .iload 7, 2, 0, []), (108, .ifCond .lt 148, 3, 0, []), (111, .aload_n 0, 1, 0, []), (112, .getfield 7242, 3, 34, [604]), (115, .aload_n 0, 1, 0, []), (116, .getfield 7248, 3, 164, [605]), (119, .lload_n 1, 1, 0, []), (120, .bipush 8, 2, 0, []), (122, .iload 7, 2, 0, []), (124, .imul, 1, 0, []), (125, .lushr, 1, 0, []), (126, .ldc2_w 255, 3, 193, [877]), (129, .land, 1, 0, []), (130, .l2i, 1, 0, []), (131, .iastore, 1, 0, []), (132, .aload_n 0, 1, 0, []), (133, .dup, 1, 0, []), (134, .getfield 7248, 3, 164, [605]), (137, .iconst 1, 1, 0, []), (138, .iadd, 1, 0, []), (139, .putfield 7248, 3, 164, [605]), (142, .iinc 7 (-1), 3, 0, []), (145, .goto 106, 3, 0, []), (148, .aload_n 0, 1, 0, []), (149, .getfield 7248, 3, 164, [605]), (152, .ireturn, 1, 0, [])])
/-- LeaningTreesModel.wipe()I -/
def s_m141 : sM := (yX7_wipe, cX7_wipe, 2, (some .int), 1, 0, 0, [(0, .aload_n 0, 1, 0, []), (1, .getfield 7248, 3, 164, [605]), (4, .istore_n 1, 1, 0, []), (5, .aload_n 0, 1, 0, []), (6, .iconst 0, 1, 0, []), (7, .putfield 7248, 3, 164, [605]), (10, .iload_n 1, 1, 0, []), (11, .ireturn, 1, 0, [])])
/-- LeaningTreesModel.isHere(II)Z -/
def s_m142 : sM := (yX7_isHere, cX7_isHere, 3, (some .boolean), 3, 1, 25, [(0, .aload_n 0, 1, 0, []), (1, .getfield 7256, 3, 199, [606]), (4, .aload_n 0, 1, 0, []), (5, .getfield 7248, 3, 164, [605]), (8, .if_icmp .ge 35, 3, 0, []), (11, .aload_n 0, 1, 0, []), (12, .getfield 7242, 3, 34, [604]), (15, .aload_n 0, 1, 0, []), (16, .getfield 7256, 3, 199, [606]), (19, .iaload, 1, 0, []), (20, .i2l, 1, 0, []), (21, .iload_n 1, 1, 0, []), (22, .i2l, 1, 0, []), (23, .iload_n 2, 1, 0, []), (24, .i2l, 1, 0, []), (25, .invokestatic 90, 3, 43, [658, 659, 65, 660]), (28, .ifCond .eq 35, 3, 0, []), (31, .iconst 1, 1, 0, []), (32, .goto 36, 3, 0, []), (35, .iconst 0, 1, 0, []), (36, .ireturn, 1, 0, [])])
/-- LeaningTreesModel.takes(I)Z -/
def s_m143 : sM := (yX7_takes, cX7_takes, 3, (some .boolean), 2, 2, 47, [(0, .aload_n 0, 1, 0, []), (1, .iload_n 1, 1, 0, []), (2, .iload_n 1, 1, 0, []), (3, .invokevirtual 142, 3, 202, [896, 898, 54, 65, 899]), (6, .istore_n 2, 1, 0, []), (7, .aload_n 0, 1, 0, []), (8, .dup, 1, 0, []), (9, .getfield 7256, 3, 199, [606]), (12, .iload_n 2, 1, 0, []), (13, .ifCond .eq 20, 3, 0, []), (16, .iconst 1, 1, 0, []), (17, .goto 21, 3, 0, []), (20, .iconst 0, 1, 0, []), (21, .iadd, 1, 0, []), (22, .putfield 7256, 3, 199, [606]), (25, .iload_n 2, 1, 0, []), (26, .ireturn, 1, 0, [])])
/-- LeaningTreesModel.readsNumber()Z -/
def s_m144 : sM := (yX7_readsNumber, cX7_readsNumber, 1, (some .boolean), 1, 2, 47, [(0, .aload_n 0, 1, 0, []), (1, .bipush 48, 2, 0, []), (3, .bipush 57, 2, 0, []), (5, .invokevirtual 142, 3, 202, [896, 898, 54, 65, 899]), (8, .ifCond .ne 13, 3, 0, []), (11, .iconst 0, 1, 0, []), (12, .ireturn, 1, 0, []), (13, .aload_n 0, 1, 0, []), (14, .aload_n 0, 1, 0, []), (15, .getfield 7242, 3, 34, [604]), (18, .aload_n 0, 1, 0, []), (19, .getfield 7256, 3, 199, [606]), (22, .iaload, 1, 0, []), (23, .bipush 48, 2, 0, []), (25, .isub, 1, 0, []), (26, .putfield 7288, 3, 205, [610]), (29, .aload_n 0, 1, 0, []), (30, .dup, 1, 0, []), (31, .getfield 7256, 3, 199, [606]), (34, .iconst 1, 1, 0, []), (35, .iadd, 1, 0, []), (36, .putfield 7256, 3, 199, [606]), (39, .aload_n 0, 1, 0, []), (40, .getfield 7288, 3, 205, [610]), (43, .ifCond .le 103, 3, 0, []), (46, .aload_n 0, 1, 0, []), (47, .getfield 7288, 3, 205, [610]), (50, .bipush 100, 2, 0, []), (52, .if_icmp .ge 103, 3, 0, []), (55, .aload_n 0, 1, 0, []), (56, .bipush 48, 2, 0, []), (58, .bipush 57, 2, 0, []), (60, .invokevirtual 142, 3, 202, [896, 898, 54, 65, 899]), (63, .ifCond .eq 103, 3, 0, []), (66, .aload_n 0, 1, 0, []), (67, .bipush 10, 2, 0, []), (69, .aload_n 0, 1, 0, []), (70, .getfield 7288, 3, 205, [610]), (73, .imul, 1, 0, []), (74, .aload_n 0, 1, 0, []), (75, .getfield 7242, 3, 34, [604]), (78, .aload_n 0, 1, 0, []), (79, .getfield 7256, 3, 199, [606]), (82, .iaload, 1, 0, []), (83, .iadd, 1, 0, []), (84, .bipush 48, 2, 0, []), (86, .isub, 1, 0, []), (87, .putfield 7288, 3, 205, [610]), (90, .aload_n 0, 1, 0, []), (91, .dup, 1, 0, []), (92, .getfield 7256, 3, 199, [606]), (95, .iconst 1, 1, 0, []), (96, .iadd, 1, 0, []), (97, .putfield 7256, 3, 199, [606]), (100, .goto 39, 3, 0, []), (103, .iconst 1, 1, 0, []), (104, .ireturn, 1, 0, [])])
/-- LeaningTreesModel.readsOrder()Z -/
def s_m145 : sM := (yX7_readsOrder, cX7_readsOrder, 2, (some .boolean), 1, 3, 69, [(0, .aload_n 0, 1, 0, []), (1, .aload_n 0, 1, 0, []), (2, .getfield 7256, 3, 199, [606]), (5, .aload_n 0, 1, 0, []), (6, .getfield 7248, 3, 164, [605]), (9, .if_icmp .ge 24, 3, 0, []), (12, .aload_n 0, 1, 0, []), (13, .getfield 7242, 3, 34, [604]), (16, .aload_n 0, 1, 0, []), (17, .getfield 7256, 3, 199, [606]), (20, .iaload, 1, 0, []), (21, .goto 25, 3, 0, []), (24, .iconst 0, 1, 0, []), (25, .putfield 7264, 3, 208, [607]), (28, .aload_n 0, 1, 0, []), (29, .getfield 7264, 3, 208, [607]), (32, .bipush 43, 2, 0, []), (34, .if_icmp .eq 57, 3, 0, []), (37, .aload_n 0, 1, 0, []), (38, .getfield 7264, 3, 208, [607]), (41, .bipush 45, 2, 0, []), (43, .if_icmp .eq 57, 3, 0, []), (46, .aload_n 0, 1, 0, []), (47, .getfield 7264, 3, 208, [607]), (50, .bipush 33, 2, 0, []), (52, .if_icmp .eq 57, 3, 0, []), (55, .iconst 0, 1, 0, []), (56, .ireturn, 1, 0, []), (57, .aload_n 0, 1, 0, []), (58, .dup, 1, 0, []), (59, .getfield 7256, 3, 199, [606]), (62, .iconst 1, 1, 0, []), (63, .iadd, 1, 0, []), (64, .putfield 7256, 3, 199, [606]), (67, .aload_n 0, 1, 0, []), (68, .invokevirtual 144, 3, 211, [892, 894, 53, 65, 895]), (71, .ifCond .ne 76, 3, 0, []), (74, .iconst 0, 1, 0, []), (75, .ireturn, 1, 0, []), (76, .aload_n 0, 1, 0, []), (77, .aload_n 0, 1, 0, []), (78, .getfield 7288, 3, 205, [610]), (81, .putfield 7272, 3, 215, [608]), (84, .aload_n 0, 1, 0, []), (85, .aload_n 0, 1, 0, []), (86, .getfield 7288, 3, 205, [610]), (89, .putfield 7280, 3, 218, [609]), (92, .aload_n 0, 1, 0, []), (93, .getfield 7264, 3, 208, [607]), (96, .bipush 43, 2, 0, []), (98, .if_icmp .ne 110, 3, 0, []), (101, .aload_n 0, 1, 0, []), (102, .bipush 61, 2, 0, []), (104, .invokevirtual 143, 3, 221, [900, 902, 55, 65, 903]), (107, .ifCond .ne 112, 3, 0, []), (110, .iconst 1, 1, 0, []), (111, .ireturn, 1, 0, []), (112, .aload_n 0, 1, 0, []), (113, .invokevirtual 144, 3, 211, [892, 894, 53, 65, 895]), (116, .istore_n 1, 1, 0, []), (117, .aload_n 0, 1, 0, []), (118, .aload_n 0, 1, 0, []), (119, .getfield 7288, 3, 205, [610]), (122, .putfield 7280, 3, 218, [609]), (125, .iload_n 1, 1, 0, []), (126, .ireturn, 1, 0, [])])
/-- LeaningTreesModel.fault()I -/
def s_m146 : sM := (yX7_fault, cX7_fault, 2, (some .int), 1, 4, 90, [(0, .aload_n 0, 1, 0, []), (1, .iconst 0, 1, 0, []), (2, .putfield 7256, 3, 199, [606]), (5, .iconst 1, 1, 0, []), (6, .istore_n 1, 1, 0, []), (7, .iload_n 1, 1, 0, []), (8, .ifCond .eq 33, 3, 0, []), (11, .aload_n 0, 1, 0, []), (12, .invokevirtual 145, 3, 224, [888, 890, 52, 65, 891]), (15, .ifCond .ne 23, 3, 0, []), (18, .aload_n 0, 1, 0, []), (19, .getfield 7256, 3, 199, [606]), (22, .ireturn, 1, 0, []), (23, .aload_n 0, 1, 0, []), (24, .bipush 59, 2, 0, []), (26, .invokevirtual 143, 3, 221, [900, 902, 55, 65, 903]), (29, .istore_n 1, 1, 0, []), (30, .goto 7, 3, 0, []), (33, .aload_n 0, 1, 0, []), (34, .getfield 7256, 3, 199, [606]), (37, .aload_n 0, 1, 0, []), (38, .getfield 7248, 3, 164, [605]), (41, .if_icmp .ne 49, 3, 0, []), (44, .bipush (-6), 2, 0, []), (46, .goto 53, 3, 0, []), (49, .aload_n 0, 1, 0, []), (50, .getfield 7256, 3, 199, [606]), (53, .ireturn, 1, 0, [])])
/-- LeaningTreesModel.doOrder()I -/
def s_m147 : sM := (yX7_doOrder, cX7_doOrder, 1, (some .int), 1, 7, 157, [(0, .aload_n 0, 1, 0, []), (1, .getfield 7264, 3, 208, [607]), (4, .bipush 43, 2, 0, []), (6, .if_icmp .ne 24, 3, 0, []), (9, .aload_n 0, 1, 0, []), (10, .aload_n 0, 1, 0, []), (11, .getfield 7272, 3, 215, [608]), (14, .aload_n 0, 1, 0, []), (15, .getfield 7280, 3, 218, [609]), (18, .invokevirtual 113, 3, 135, [672, 674, 22, 65, 675]), (21, .goto 52, 3, 0, []), (24, .aload_n 0, 1, 0, []), (25, .getfield 7264, 3, 208, [607]), (28, .bipush 45, 2, 0, []), (30, .if_icmp .ne 44, 3, 0, []), (33, .aload_n 0, 1, 0, []), (34, .aload_n 0, 1, 0, []), (35, .getfield 7272, 3, 215, [608]), (38, .invokevirtual 116, 3, 138, [752, 754, 40, 65, 755]), (41, .goto 52, 3, 0, []), (44, .aload_n 0, 1, 0, []), (45, .aload_n 0, 1, 0, []), (46, .getfield 7272, 3, 215, [608]), (49, .invokevirtual 117, 3, 141, [768, 770, 43, 65, 771]), (52, .ireturn, 1, 0, [])])
/-- LeaningTreesModel.carryOut()I -/
def s_m148 : sM := (yX7_carryOut, cX7_carryOut, 3, (some .int), 1, 8, 177, [(0, .aload_n 0, 1, 0, []), (1, .invokevirtual 146, 3, 227, [908, 885, 886, 65, 887]), (4, .bipush (-6), 2, 0, []), (6, .if_icmp .eq 12, 3, 0, []), (9, .bipush (-3), 2, 0, []), (11, .ireturn, 1, 0, []), (12, .aload_n 0, 1, 0, []), (13, .invokevirtual 91, 3, 126, [648, 650, 19, 65, 651]), (16, .aload_n 0, 1, 0, []), (17, .iconst 0, 1, 0, []), (18, .putfield 7256, 3, 199, [606]), (21, .iconst 0, 1, 0, []), (22, .istore_n 1, 1, 0, []), (23, .iconst 1, 1, 0, []), (24, .istore_n 2, 1, 0, []), (25, .iload_n 2, 1, 0, []), (26, .ifCond .eq 83, 3, 0, []), (29, .aload_n 0, 1, 0, []), (30, .invokevirtual 145, 3, 224, [888, 890, 52, 65, 891]), (33, .ifCond .eq 83, 3, 0, []), (36, .aload_n 0, 1, 0, []), (37, .invokevirtual 147, 3, 230, [909, 911, 56, 65, 912]), (40, .ifCond .lt 47, 3, 0, []), (43, .iconst 1, 1, 0, []), (44, .goto 48, 3, 0, []), (47, .iconst 0, 1, 0, []), (48, .istore_n 2, 1, 0, []), (49, .iload_n 1, 1, 0, []), (50, .iload_n 2, 1, 0, []), (51, .ifCond .eq 58, 3, 0, []), (54, .iconst 1, 1, 0, []), (55, .goto 59, 3, 0, []), (58, .iconst 0, 1, 0, []), (59, .iadd, 1, 0, []), (60, .istore_n 1, 1, 0, []), (61, .iload_n 2, 1, 0, []), (62, .ifCond .eq 78, 3, 0, []), (65, .aload_n 0, 1, 0, []), (66, .bipush 59, 2, 0, []), (68, .invokevirtual 143, 3, 221, [900, 902, 55, 65, 903]), (71, .ifCond .eq 78, 3, 0, []), (74, .iconst 1, 1, 0, []), (75, .goto 79, 3, 0, []), (78, .iconst 0, 1, 0, []), (79, .istore_n 2, 1, 0, []), (80, .goto 25, 3, 0, []), (83, .aload_n 0, 1, 0, []), (84, .iconst 0, 1, 0, []), (85, .putfield 7248, 3, 164, [605]), (88, .aload_n 0, 1, 0, []), (89, .iload_n 1, 1, 0, []), (90, .invokevirtual 93, 3, 132, [664, 666, 21, 65, 667]), (93, .ireturn, 1, 0, [])])
/-- LeaningTreesModel.undo()I -/
def s_m149 : sM := (yX7_undo, cX7_undo, 2, (some .int), 1, 0, 0, [(0, .aload_n 0, 1, 0, []), (1, .getfield 7192, 3, 37, [598]), (4, .ifCond .ne 10, 3, 0, []), (7, .bipush (-5), 2, 0, []), (9, .ireturn, 1, 0, []), (10, .aload_n 0, 1, 0, []), (11, .dup, 1, 0, []), (12, .getfield 7192, 3, 37, [598]), (15, .iconst 1, 1, 0, []), (16, .isub, 1, 0, []), (17, .putfield 7192, 3, 37, [598]), (20, .iconst 0, 1, 0, []), (21, .istore_n 1, 1, 0, []), (22, .iload_n 1, 1, 0, []), (23, .sipush 308, 3, 0, []), (26, .if_icmp .ge 56, 3, 0, []), (29, .aload_n 0, 1, 0, []), (30, .getfield 7170, 3, 7, [595]), (33, .iload_n 1, 1, 0, []), (34, .aload_n 0, 1, 0, []), (35, .getfield 7186, 3, 16, [597]), (38, .sipush 308, 3, 0, []), (41, .aload_n 0, 1, 0, []), (42, .getfield 7192, 3, 37, [598]), (45, .imul, 1, 0, []), (46, .iload_n 1, 1, 0, []), (47, .iadd, 1, 0, []), (48, .iaload, 1, 0, []), (49, .iastore, 1, 0, []), (50, .iinc 1 1, 3, 0, []), (53, .goto 22, 3, 0, []), (56, .aload_n 0, 1, 0, []), (57, .getfield 7192, 3, 37, [598]), (60, .ireturn, 1, 0, [])])
/-- LeaningTreesModel.save(I)I -/
def s_m150 : sM := (yX7_save, cX7_save, 3, (some .int), 2, 2, 45, [(0, .iload_n 1, 1, 0, []), (1, .i2l, 1, 0, []), (2, .lconst 0, 1, 0, []), (3, .lconst 1, 1, 0, []), (4, .invokestatic 90, 3, 43, [658, 659, 65, 660]), (7, .ifCond .ne 13, 3, 0, []), (10, .bipush (-2), 2, 0, []), (12, .ireturn, 1, 0, []), (13, .iconst 0, 1, 0, []), (14, .istore_n 2, 1, 0, []), (15, .iload_n 2, 1, 0, []), (16, .sipush 308, 3, 0, []), (19, .if_icmp .ge 46, 3, 0, []), (22, .aload_n 0, 1, 0, []), (23, .getfield 7202, 3, 19, [599]), (26, .sipush 308, 3, 0, []), (29, .iload_n 1, 1, 0, []), (30, .imul, 1, 0, []), (31, .iload_n 2, 1, 0, []), (32, .iadd, 1, 0, []), (33, .aload_n 0, 1, 0, []), (34, .getfield 7170, 3, 7, [595]), (37, .iload_n 2, 1, 0, []), (38, .iaload, 1, 0, []), (39, .iastore, 1, 0, []), (40, .iinc 2 1, 3, 0, []), (43, .goto 15, 3, 0, []), (46, .aload_n 0, 1, 0, []), (47, .getfield 7210, 3, 22, [600]), (50, .iload_n 1, 1, 0, []), (51, .iconst 1, 1, 0, []), (52, .iastore, 1, 0, []), (53, .aload_n 0, 1, 0, []), (54, .invokevirtual 115, 3, 109, [756, 758, 41, 65, 759]), (57, .ireturn, 1, 0, [])])
/-- LeaningTreesModel.restore(I)I -/
def s_m151 : sM := (yX7_restore, cX7_restore, 3, (some .int), 2, 2, 45, [(0, .iload_n 1, 1, 0, []), (1, .i2l, 1, 0, []), (2, .lconst 0, 1, 0, []), (3, .lconst 1, 1, 0, []), (4, .invokestatic 90, 3, 43, [658, 659, 65, 660]), (7, .ifCond .ne 13, 3, 0, []), (10, .bipush (-2), 2, 0, []), (12, .ireturn, 1, 0, []), (13, .aload_n 0, 1, 0, []), (14, .getfield 7210, 3, 22, [600]), (17, .iload_n 1, 1, 0, []), (18, .iaload, 1, 0, []), (19, .ifCond .ne 25, 3, 0, []), (22, .bipush (-5), 2, 0, []), (24, .ireturn, 1, 0, []), (25, .aload_n 0, 1, 0, []), (26, .invokevirtual 91, 3, 126, [648, 650, 19, 65, 651]), (29, .iconst 0, 1, 0, []), (30, .istore_n 2, 1, 0, []), (31, .iload_n 2, 1, 0, []), (32, .sipush 308, 3, 0, []), (35, .if_icmp .ge 62, 3, 0, []), (38, .aload_n 0, 1, 0, []), (39, .getfield 7170, 3, 7, [595]), (42, .iload_n 2, 1, 0, []), (43, .aload_n 0, 1, 0, []), (44, .getfield 7202, 3, 19, [599]), (47, .sipush 308, 3, 0, []), (50, .iload_n 1, 1, 0, []), (51, .imul, 1, 0, []), (52, .iload_n 2, 1, 0, []), (53, .iadd, 1, 0, []), (54, .iaload, 1, 0, []), (55, .iastore, 1, 0, []), (56, .iinc 2 1, 3, 0, []), (59, .goto 31, 3, 0, []), (62, .aload_n 0, 1, 0, []), (63, .aload_n 0, 1, 0, []), (64, .invokevirtual 115, 3, 109, [756, 758, 41, 65, 759]), (67, .invokevirtual 93, 3, 132, [664, 666, 21, 65, 667]), (70, .ireturn, 1, 0, [])])
/-- LeaningTreesLaw.law([I)Z -/
def s_r152_0 : List sE := [(0, .new 6, 3, 7, [70, 71, 58]), (3, .dup, 1, 0, []), (4, .invokespecial 56, 3, 9, [72, 73, 58, 74]), (7, .astore_n 1, 1, 0, []), (8, .new 7, 3, 10, [589, 590, 65]), (11, .dup, 1, 0, []), (12, .invokespecial 89, 3, 12, [591, 592, 65, 593]), (15, .astore_n 2, 1, 0, []), (16, .iconst 0, 1, 0, []), (17, .istore_n 3, 1, 0, []), (18, .iload_n 3, 1, 0, []), (19, .aload_n 0, 1, 0, []), (20, .arraylength, 1, 0, []), (21, .iconst 3, 1, 0, []), (22, .isub, 1, 0, []), (23, .if_icmp .gt 689, 3, 0, []), (26, .aload_n 0, 1, 0, []), (27, .iload_n 3, 1, 0, []), (28, .iaload, 1, 0, []), (29, .bipush 31, 2, 0, []), (31, .iand, 1, 0, []), (32, .tableswitch 683 0 21 #[136, 169, 202, 225, 248, 271, 304, 327, 351, 374, 397, 420, 453, 486, 509, 532, 585, 598, 611, 624, 637, 660], 104, 0, []), (136, .aload_n 1, 1, 0, []), (137, .aload_n 0, 1, 0, []), (138, .iload_n 3, 1, 0, []), (139, .iconst 1, 1, 0, []), (140, .iadd, 1, 0, []), (141, .iaload, 1, 0, []), (142, .aload_n 0, 1, 0, []), (143, .iload_n 3, 1, 0, []), (144, .iconst 2, 1, 0, []), (145, .iadd, 1, 0, []), (146, .iaload, 1, 0, []), (147, .invokevirtual 57, 3, 13, [236, 237, 238, 58, 239]), (150, .aload_n 2, 1, 0, []), (151, .aload_n 0, 1, 0, []), (152, .iload_n 3, 1, 0, []), (153, .iconst 1, 1, 0, []), (154, .iadd, 1, 0, []), (155, .iaload, 1, 0, []), (156, .aload_n 0, 1, 0, []), (157, .iload_n 3, 1, 0, []), (158, .iconst 2, 1, 0, []), (159, .iadd, 1, 0, []), (160, .iaload, 1, 0, []), (161, .invokevirtual 119, 3, 17, [644, 645, 646, 65, 647]), (164, .if_icmp .eq 683, 3, 0, []), (167, .iconst 0, 1, 0, []), (168, .ireturn, 1, 0, []), (169, .aload_n 1, 1, 0, []), (170, .aload_n 0, 1, 0, []), (171, .iload_n 3, 1, 0, []), (172, .iconst 1, 1, 0, []), (173, .iadd, 1, 0, []), (174, .iaload, 1, 0, []), (175, .aload_n 0, 1, 0, []), (176, .iload_n 3, 1, 0, []), (177, .iconst 2, 1, 0, []), (178, .iadd, 1, 0, []), (179, .iaload, 1, 0, [])]
def s_r152_1 : List sE := [(180, .invokevirtual 58, 3, 18, [278, 279, 280, 58, 281]), (183, .aload_n 2, 1, 0, []), (184, .aload_n 0, 1, 0, []), (185, .iload_n 3, 1, 0, []), (186, .iconst 1, 1, 0, []), (187, .iadd, 1, 0, []), (188, .iaload, 1, 0, []), (189, .aload_n 0, 1, 0, []), (190, .iload_n 3, 1, 0, []), (191, .iconst 2, 1, 0, []), (192, .iadd, 1, 0, []), (193, .iaload, 1, 0, []), (194, .invokevirtual 120, 3, 21, [668, 669, 670, 65, 671]), (197, .if_icmp .eq 683, 3, 0, []), (200, .iconst 0, 1, 0, []), (201, .ireturn, 1, 0, []), (202, .aload_n 1, 1, 0, []), (203, .aload_n 0, 1, 0, []), (204, .iload_n 3, 1, 0, []), (205, .iconst 1, 1, 0, []), (206, .iadd, 1, 0, []), (207, .iaload, 1, 0, []), (208, .invokevirtual 59, 3, 22, [362, 363, 364, 58, 365]), (211, .aload_n 2, 1, 0, []), (212, .aload_n 0, 1, 0, []), (213, .iload_n 3, 1, 0, []), (214, .iconst 1, 1, 0, []), (215, .iadd, 1, 0, []), (216, .iaload, 1, 0, []), (217, .invokevirtual 121, 3, 26, [748, 749, 750, 65, 751]), (220, .if_icmp .eq 683, 3, 0, []), (223, .iconst 0, 1, 0, []), (224, .ireturn, 1, 0, []), (225, .aload_n 1, 1, 0, []), (226, .aload_n 0, 1, 0, []), (227, .iload_n 3, 1, 0, []), (228, .iconst 1, 1, 0, []), (229, .iadd, 1, 0, []), (230, .iaload, 1, 0, []), (231, .invokevirtual 60, 3, 27, [379, 380, 381, 58, 382]), (234, .aload_n 2, 1, 0, []), (235, .aload_n 0, 1, 0, []), (236, .iload_n 3, 1, 0, []), (237, .iconst 1, 1, 0, []), (238, .iadd, 1, 0, []), (239, .iaload, 1, 0, []), (240, .invokevirtual 122, 3, 30, [764, 765, 766, 65, 767]), (243, .if_icmp .eq 683, 3, 0, []), (246, .iconst 0, 1, 0, []), (247, .ireturn, 1, 0, []), (248, .aload_n 1, 1, 0, []), (249, .aload_n 0, 1, 0, []), (250, .iload_n 3, 1, 0, []), (251, .iconst 1, 1, 0, []), (252, .iadd, 1, 0, []), (253, .iaload, 1, 0, []), (254, .invokevirtual 61, 3, 31, [388, 389, 390, 58, 391]), (257, .aload_n 2, 1, 0, []), (258, .aload_n 0, 1, 0, []), (259, .iload_n 3, 1, 0, [])]
def s_r152_2 : List sE := [(260, .iconst 1, 1, 0, []), (261, .iadd, 1, 0, []), (262, .iaload, 1, 0, []), (263, .invokevirtual 123, 3, 34, [772, 773, 774, 65, 775]), (266, .if_icmp .eq 683, 3, 0, []), (269, .iconst 0, 1, 0, []), (270, .ireturn, 1, 0, []), (271, .aload_n 1, 1, 0, []), (272, .aload_n 0, 1, 0, []), (273, .iload_n 3, 1, 0, []), (274, .iconst 1, 1, 0, []), (275, .iadd, 1, 0, []), (276, .iaload, 1, 0, []), (277, .aload_n 0, 1, 0, []), (278, .iload_n 3, 1, 0, []), (279, .iconst 2, 1, 0, []), (280, .iadd, 1, 0, []), (281, .iaload, 1, 0, []), (282, .invokevirtual 62, 3, 35, [392, 393, 394, 58, 395]), (285, .aload_n 2, 1, 0, []), (286, .aload_n 0, 1, 0, []), (287, .iload_n 3, 1, 0, []), (288, .iconst 1, 1, 0, []), (289, .iadd, 1, 0, []), (290, .iaload, 1, 0, []), (291, .aload_n 0, 1, 0, []), (292, .iload_n 3, 1, 0, []), (293, .iconst 2, 1, 0, []), (294, .iadd, 1, 0, []), (295, .iaload, 1, 0, []), (296, .invokevirtual 127, 3, 38, [776, 777, 778, 65, 779]), (299, .if_icmp .eq 683, 3, 0, []), (302, .iconst 0, 1, 0, []), (303, .ireturn, 1, 0, []), (304, .aload_n 1, 1, 0, []), (305, .aload_n 0, 1, 0, []), (306, .iload_n 3, 1, 0, []), (307, .iconst 1, 1, 0, []), (308, .iadd, 1, 0, []), (309, .iaload, 1, 0, []), (310, .invokevirtual 63, 3, 39, [418, 419, 420, 58, 421]), (313, .aload_n 2, 1, 0, []), (314, .aload_n 0, 1, 0, []), (315, .iload_n 3, 1, 0, []), (316, .iconst 1, 1, 0, []), (317, .iadd, 1, 0, []), (318, .iaload, 1, 0, []), (319, .invokevirtual 129, 3, 42, [797, 798, 799, 65, 800]), (322, .if_icmp .eq 683, 3, 0, []), (325, .iconst 0, 1, 0, []), (326, .ireturn, 1, 0, []), (327, .aload_n 1, 1, 0, []), (328, .aload_n 0, 1, 0, []), (329, .iload_n 3, 1, 0, []), (330, .iconst 1, 1, 0, []), (331, .iadd, 1, 0, []), (332, .iaload, 1, 0, []), (333, .invokevirtual 64, 3, 43, [437, 438, 439, 58, 440]), (336, .aload_n 2, 1, 0, []), (337, .aload_n 0, 1, 0, [])]
def s_r152_3 : List sE := [(338, .iload_n 3, 1, 0, []), (339, .iconst 1, 1, 0, []), (340, .iadd, 1, 0, []), (341, .iaload, 1, 0, []), (342, .invokevirtual 130, 3, 47, [807, 808, 809, 65, 810]), (345, .lcmp, 1, 0, []), (346, .ifCond .eq 683, 3, 0, []), (349, .iconst 0, 1, 0, []), (350, .ireturn, 1, 0, []), (351, .aload_n 1, 1, 0, []), (352, .aload_n 0, 1, 0, []), (353, .iload_n 3, 1, 0, []), (354, .iconst 1, 1, 0, []), (355, .iadd, 1, 0, []), (356, .iaload, 1, 0, []), (357, .invokevirtual 65, 3, 48, [447, 448, 449, 58, 450]), (360, .aload_n 2, 1, 0, []), (361, .aload_n 0, 1, 0, []), (362, .iload_n 3, 1, 0, []), (363, .iconst 1, 1, 0, []), (364, .iadd, 1, 0, []), (365, .iaload, 1, 0, []), (366, .invokevirtual 131, 3, 51, [822, 823, 824, 65, 825]), (369, .if_icmp .eq 683, 3, 0, []), (372, .iconst 0, 1, 0, []), (373, .ireturn, 1, 0, []), (374, .aload_n 1, 1, 0, []), (375, .aload_n 0, 1, 0, []), (376, .iload_n 3, 1, 0, []), (377, .iconst 1, 1, 0, []), (378, .iadd, 1, 0, []), (379, .iaload, 1, 0, []), (380, .invokevirtual 66, 3, 52, [456, 457, 458, 58, 459]), (383, .aload_n 2, 1, 0, []), (384, .aload_n 0, 1, 0, []), (385, .iload_n 3, 1, 0, []), (386, .iconst 1, 1, 0, []), (387, .iadd, 1, 0, []), (388, .iaload, 1, 0, []), (389, .invokevirtual 133, 3, 55, [836, 837, 838, 65, 839]), (392, .if_icmp .eq 683, 3, 0, []), (395, .iconst 0, 1, 0, []), (396, .ireturn, 1, 0, []), (397, .aload_n 1, 1, 0, []), (398, .aload_n 0, 1, 0, []), (399, .iload_n 3, 1, 0, []), (400, .iconst 1, 1, 0, []), (401, .iadd, 1, 0, []), (402, .iaload, 1, 0, []), (403, .invokevirtual 67, 3, 56, [464, 465, 466, 58, 467]), (406, .aload_n 2, 1, 0, []), (407, .aload_n 0, 1, 0, []), (408, .iload_n 3, 1, 0, []), (409, .iconst 1, 1, 0, []), (410, .iadd, 1, 0, []), (411, .iaload, 1, 0, []), (412, .invokevirtual 135, 3, 59, [844, 845, 846, 65, 847]), (415, .if_icmp .eq 683, 3, 0, []), (418, .iconst 0, 1, 0, []), (419, .ireturn, 1, 0, [])]
def s_r152_4 : List sE := [(420, .aload_n 1, 1, 0, []), (421, .aload_n 0, 1, 0, []), (422, .iload_n 3, 1, 0, []), (423, .iconst 1, 1, 0, []), (424, .iadd, 1, 0, []), (425, .iaload, 1, 0, []), (426, .aload_n 0, 1, 0, []), (427, .iload_n 3, 1, 0, []), (428, .iconst 2, 1, 0, []), (429, .iadd, 1, 0, []), (430, .iaload, 1, 0, []), (431, .invokevirtual 68, 3, 60, [472, 473, 474, 58, 475]), (434, .aload_n 2, 1, 0, []), (435, .aload_n 0, 1, 0, []), (436, .iload_n 3, 1, 0, []), (437, .iconst 1, 1, 0, []), (438, .iadd, 1, 0, []), (439, .iaload, 1, 0, []), (440, .aload_n 0, 1, 0, []), (441, .iload_n 3, 1, 0, []), (442, .iconst 2, 1, 0, []), (443, .iadd, 1, 0, []), (444, .iaload, 1, 0, []), (445, .invokevirtual 136, 3, 63, [852, 853, 854, 65, 855]), (448, .if_icmp .eq 683, 3, 0, []), (451, .iconst 0, 1, 0, []), (452, .ireturn, 1, 0, []), (453, .aload_n 1, 1, 0, []), (454, .aload_n 0, 1, 0, []), (455, .iload_n 3, 1, 0, []), (456, .iconst 1, 1, 0, []), (457, .iadd, 1, 0, []), (458, .iaload, 1, 0, []), (459, .aload_n 0, 1, 0, []), (460, .iload_n 3, 1, 0, []), (461, .iconst 2, 1, 0, []), (462, .iadd, 1, 0, []), (463, .iaload, 1, 0, []), (464, .invokevirtual 69, 3, 64, [476, 477, 478, 58, 479]), (467, .aload_n 2, 1, 0, []), (468, .aload_n 0, 1, 0, []), (469, .iload_n 3, 1, 0, []), (470, .iconst 1, 1, 0, []), (471, .iadd, 1, 0, []), (472, .iaload, 1, 0, []), (473, .aload_n 0, 1, 0, []), (474, .iload_n 3, 1, 0, []), (475, .iconst 2, 1, 0, []), (476, .iadd, 1, 0, []), (477, .iaload, 1, 0, []), (478, .invokevirtual 137, 3, 67, [856, 857, 858, 65, 859]), (481, .if_icmp .eq 683, 3, 0, []), (484, .iconst 0, 1, 0, []), (485, .ireturn, 1, 0, []), (486, .aload_n 1, 1, 0, []), (487, .aload_n 0, 1, 0, []), (488, .iload_n 3, 1, 0, []), (489, .iconst 1, 1, 0, []), (490, .iadd, 1, 0, []), (491, .iaload, 1, 0, [])]
def s_r152_5 : List sE := [(492, .invokevirtual 70, 3, 68, [481, 482, 483, 58, 484]), (495, .aload_n 2, 1, 0, []), (496, .aload_n 0, 1, 0, []), (497, .iload_n 3, 1, 0, []), (498, .iconst 1, 1, 0, []), (499, .iadd, 1, 0, []), (500, .iaload, 1, 0, []), (501, .invokevirtual 138, 3, 71, [860, 861, 862, 65, 863]), (504, .if_icmp .eq 683, 3, 0, []), (507, .iconst 0, 1, 0, []), (508, .ireturn, 1, 0, []), (509, .aload_n 1, 1, 0, []), (510, .aload_n 0, 1, 0, []), (511, .iload_n 3, 1, 0, []), (512, .iconst 1, 1, 0, []), (513, .iadd, 1, 0, []), (514, .iaload, 1, 0, []), (515, .invokevirtual 71, 3, 72, [489, 490, 491, 58, 492]), (518, .aload_n 2, 1, 0, []), (519, .aload_n 0, 1, 0, []), (520, .iload_n 3, 1, 0, []), (521, .iconst 1, 1, 0, []), (522, .iadd, 1, 0, []), (523, .iaload, 1, 0, []), (524, .invokevirtual 139, 3, 75, [868, 869, 870, 65, 871]), (527, .if_icmp .eq 683, 3, 0, []), (530, .iconst 0, 1, 0, []), (531, .ireturn, 1, 0, []), (532, .aload_n 1, 1, 0, []), (533, .aload_n 0, 1, 0, []), (534, .iload_n 3, 1, 0, []), (535, .iconst 1, 1, 0, []), (536, .iadd, 1, 0, []), (537, .iaload, 1, 0, []), (538, .i2l, 1, 0, []), (539, .bipush 32, 2, 0, []), (541, .lshl, 1, 0, []), (542, .aload_n 0, 1, 0, []), (543, .iload_n 3, 1, 0, []), (544, .iconst 2, 1, 0, []), (545, .iadd, 1, 0, []), (546, .iaload, 1, 0, []), (547, .i2l, 1, 0, []), (548, .ldc2_w 4294967295, 3, 76, [925]), (551, .land, 1, 0, []), (552, .lor, 1, 0, []), (553, .invokevirtual 72, 3, 78, [493, 494, 495, 58, 496]), (556, .aload_n 2, 1, 0, []), (557, .aload_n 0, 1, 0, []), (558, .iload_n 3, 1, 0, []), (559, .iconst 1, 1, 0, []), (560, .iadd, 1, 0, []), (561, .iaload, 1, 0, []), (562, .i2l, 1, 0, []), (563, .bipush 32, 2, 0, []), (565, .lshl, 1, 0, []), (566, .aload_n 0, 1, 0, []), (567, .iload_n 3, 1, 0, []), (568, .iconst 2, 1, 0, []), (569, .iadd, 1, 0, [])]
def s_r152_6 : List sE := [(570, .iaload, 1, 0, []), (571, .i2l, 1, 0, []), (572, .ldc2_w 4294967295, 3, 76, [925]), (575, .land, 1, 0, []), (576, .lor, 1, 0, []), (577, .invokevirtual 140, 3, 82, [873, 874, 875, 65, 876]), (580, .if_icmp .eq 683, 3, 0, []), (583, .iconst 0, 1, 0, []), (584, .ireturn, 1, 0, []), (585, .aload_n 1, 1, 0, []), (586, .invokevirtual 73, 3, 83, [508, 509, 510, 58, 511]), (589, .aload_n 2, 1, 0, []), (590, .invokevirtual 141, 3, 87, [880, 881, 882, 65, 883]), (593, .if_icmp .eq 683, 3, 0, []), (596, .iconst 0, 1, 0, []), (597, .ireturn, 1, 0, []), (598, .aload_n 1, 1, 0, []), (599, .invokevirtual 74, 3, 88, [512, 513, 514, 58, 515]), (602, .aload_n 2, 1, 0, []), (603, .invokevirtual 146, 3, 91, [884, 885, 886, 65, 887]), (606, .if_icmp .eq 683, 3, 0, []), (609, .iconst 0, 1, 0, []), (610, .ireturn, 1, 0, []), (611, .aload_n 1, 1, 0, []), (612, .invokevirtual 75, 3, 92, [551, 552, 553, 58, 554]), (615, .aload_n 2, 1, 0, []), (616, .invokevirtual 148, 3, 95, [904, 905, 906, 65, 907]), (619, .if_icmp .eq 683, 3, 0, []), (622, .iconst 0, 1, 0, []), (623, .ireturn, 1, 0, []), (624, .aload_n 1, 1, 0, []), (625, .invokevirtual 76, 3, 96, [568, 569, 570, 58, 571]), (628, .aload_n 2, 1, 0, []), (629, .invokevirtual 149, 3, 99, [913, 914, 915, 65, 916]), (632, .if_icmp .eq 683, 3, 0, []), (635, .iconst 0, 1, 0, []), (636, .ireturn, 1, 0, []), (637, .aload_n 1, 1, 0, []), (638, .aload_n 0, 1, 0, []), (639, .iload_n 3, 1, 0, []), (640, .iconst 1, 1, 0, []), (641, .iadd, 1, 0, []), (642, .iaload, 1, 0, []), (643, .invokevirtual 77, 3, 100, [576, 577, 578, 58, 579]), (646, .aload_n 2, 1, 0, []), (647, .aload_n 0, 1, 0, []), (648, .iload_n 3, 1, 0, []), (649, .iconst 1, 1, 0, []), (650, .iadd, 1, 0, []), (651, .iaload, 1, 0, []), (652, .invokevirtual 150, 3, 103, [917, 918, 919, 65, 920]), (655, .if_icmp .eq 683, 3, 0, []), (658, .iconst 0, 1, 0, []), (659, .ireturn, 1, 0, []), (660, .aload_n 1, 1, 0, []), (661, .aload_n 0, 1, 0, []), (662, .iload_n 3, 1, 0, []), (663, .iconst 1, 1, 0, []), (664, .iadd, 1, 0, []), (665, .iaload, 1, 0, [])]
def s_r152_7 : List sE := [(666, .invokevirtual 78, 3, 104, [585, 586, 587, 58, 588]), (669, .aload_n 2, 1, 0, []), (670, .aload_n 0, 1, 0, []), (671, .iload_n 3, 1, 0, []), (672, .iconst 1, 1, 0, []), (673, .iadd, 1, 0, []), (674, .iaload, 1, 0, []), (675, .invokevirtual 151, 3, 107, [921, 922, 923, 65, 924]), (678, .if_icmp .eq 683, 3, 0, []), (681, .iconst 0, 1, 0, []), (682, .ireturn, 1, 0, []), (683, .iinc 3 3, 3, 0, []), (686, .goto 18, 3, 0, []), (689, .iconst 1, 1, 0, []), (690, .ireturn, 1, 0, [])]
def s_m152 : sM := (x, code, 4, (some .boolean), 1, 9, 204, s_r152_0 ++ (s_r152_1 ++ (s_r152_2 ++ (s_r152_3 ++ (s_r152_4 ++ (s_r152_5 ++ (s_r152_6 ++ (s_r152_7))))))))
/-- java/lang/Double.doubleToLongBits(D)J -/
def s_m153 : sM := (s_j0, prog_10_method_23_code, 2, (some .long), 1, 1, 26, [(0, .dload_n 0, 1, 0, []), (1, .invokestatic 154, 3, 122, [815, 816, 68, 817]), (4, .ifCond .ne 12, 3, 0, []), (7, .dload_n 0, 1, 0, []), (8, .nop, 3, 134, [818, 820, 819, 68]), (11, .lreturn, 1, 0, []), (12, .ldc2_w 9221120237041090560, 3, 137, [821]), (15, .lreturn, 1, 0, [])])
/-- java/lang/Double.isNaN(D)Z -/
def s_m154 : sM := (s_j1, prog_10_method_6_code, 2, (some .boolean), 1, 0, 0, [(0, .dload_n 0, 1, 0, []), (1, .dload_n 0, 1, 0, []), (2, .dcmp .l, 1, 0, []), (3, .ifCond .eq 10, 3, 0, []), (6, .iconst 1, 1, 0, []), (7, .goto 11, 3, 0, []), (10, .iconst 0, 1, 0, []), (11, .ireturn, 1, 0, [])])
/-- java/lang/Float.floatToIntBits(F)I -/
def s_m155 : sM := (s_j2, prog_11_method_24_code, 1, (some .int), 1, 1, 26, [(0, .fload_n 0, 1, 0, []), (1, .invokestatic 156, 3, 59, [829, 830, 69, 831]), (4, .ifCond .ne 12, 3, 0, []), (7, .fload_n 0, 1, 0, []), (8, .swap, 3, 74, [832, 834, 833, 69]), (11, .ireturn, 1, 0, []), (12, .ldc 2143289344, 2, 77, [835]), (14, .ireturn, 1, 0, [])])
/-- java/lang/Float.isNaN(F)Z -/
def s_m156 : sM := (s_j3, prog_11_method_6_code, 1, (some .boolean), 1, 0, 0, [(0, .fload_n 0, 1, 0, []), (1, .fload_n 0, 1, 0, []), (2, .fcmp .l, 1, 0, []), (3, .ifCond .eq 10, 3, 0, []), (6, .iconst 1, 1, 0, []), (7, .goto 11, 3, 0, []), (10, .iconst 0, 1, 0, []), (11, .ireturn, 1, 0, [])])
def s_l0 : List (sM × Option Nat) := [(s_m0, some 0), (s_m1, some 0), (s_m2, some 0), (s_m3, some 0), (s_m4, some 0), (s_m5, some 1), (s_m6, some 1), (s_m7, some 1), (s_m8, some 1), (s_m9, some 1), (s_m10, some 1), (s_m11, some 1), (s_m12, some 1), (s_m13, some 1), (s_m14, some 1), (s_m15, some 1), (s_m16, none), (s_m17, some 2), (s_m18, none), (s_m19, some 2)]
def s_l1 : List (sM × Option Nat) := [(s_m20, none), (s_m21, some 3), (s_m22, some 3), (s_m23, some 3), (s_m24, some 3), (s_m25, some 3), (s_m26, some 3), (s_m27, some 4), (s_m28, some 5), (s_m29, some 5), (s_m30, some 5), (s_m31, some 5), (s_m32, some 5), (s_m33, some 5), (s_m34, some 5), (s_m35, some 5), (s_m36, some 5), (s_m37, some 5), (s_m38, some 5), (s_m39, some 5)]
def s_l2 : List (sM × Option Nat) := [(s_m40, some 5), (s_m41, some 5), (s_m42, some 5), (s_m43, some 5), (s_m44, some 5), (s_m45, some 5), (s_m46, some 5), (s_m47, some 5), (s_m48, some 5), (s_m49, some 5), (s_m50, some 5), (s_m51, some 5), (s_m52, some 5), (s_m53, some 5), (s_m54, some 5), (s_m55, none), (s_m56, some 6), (s_m57, some 6), (s_m58, some 6), (s_m59, some 6)]
def s_l3 : List (sM × Option Nat) := [(s_m60, some 6), (s_m61, some 6), (s_m62, some 6), (s_m63, some 6), (s_m64, some 6), (s_m65, some 6), (s_m66, some 6), (s_m67, some 6), (s_m68, some 6), (s_m69, some 6), (s_m70, some 6), (s_m71, some 6), (s_m72, some 6), (s_m73, some 6), (s_m74, some 6), (s_m75, some 6), (s_m76, some 6), (s_m77, some 6), (s_m78, some 6), (s_m79, none)]
def s_l4 : List (sM × Option Nat) := [(s_m80, none), (s_m81, some 6), (s_m82, some 6), (s_m83, some 6), (s_m84, some 6), (s_m85, some 6), (s_m86, some 6), (s_m87, none), (s_m88, none), (s_m89, some 7), (s_m90, none), (s_m91, some 7), (s_m92, some 7), (s_m93, some 7), (s_m94, none), (s_m95, some 7), (s_m96, some 7), (s_m97, some 7), (s_m98, some 7), (s_m99, some 7)]
def s_l5 : List (sM × Option Nat) := [(s_m100, some 7), (s_m101, some 7), (s_m102, some 7), (s_m103, some 7), (s_m104, some 7), (s_m105, some 7), (s_m106, some 7), (s_m107, some 7), (s_m108, some 7), (s_m109, some 7), (s_m110, some 7), (s_m111, some 7), (s_m112, some 7), (s_m113, some 7), (s_m114, some 7), (s_m115, some 7), (s_m116, some 7), (s_m117, some 7), (s_m118, some 7), (s_m119, some 7)]
def s_l6 : List (sM × Option Nat) := [(s_m120, some 7), (s_m121, some 7), (s_m122, some 7), (s_m123, some 7), (s_m124, some 7), (s_m125, some 7), (s_m126, some 7), (s_m127, some 7), (s_m128, some 7), (s_m129, some 7), (s_m130, some 7), (s_m131, some 7), (s_m132, some 7), (s_m133, some 7), (s_m134, some 7), (s_m135, some 7), (s_m136, some 7), (s_m137, some 7), (s_m138, some 7), (s_m139, some 7)]
def s_l7 : List (sM × Option Nat) := [(s_m140, some 7), (s_m141, some 7), (s_m142, some 7), (s_m143, some 7), (s_m144, some 7), (s_m145, some 7), (s_m146, some 7), (s_m147, some 7), (s_m148, some 7), (s_m149, some 7), (s_m150, some 7), (s_m151, some 7), (s_m152, none), (s_m153, none), (s_m154, none), (s_m155, none), (s_m156, none)]
def s_ml : List (sM × Option Nat) := s_l0 ++ (s_l1 ++ (s_l2 ++ (s_l3 ++ (s_l4 ++ (s_l5 ++ (s_l6 ++ (s_l7)))))))
def s_T : sMT := fun k => s_nth s_ml k
end
section
def s_ckm (q : sM × Option Nat) : Bool := (s_cd q.1).all (fun e => s_chk s_S s_T lw_tbl s_host q.1 e) && (plainFor (s_y q.1) && (match q.2 with
  | some c => decide (s_cn s_S c = (s_y q.1).cls) && decide (0 < s_N s_S c)
  | none => true))
theorem s_all2 {f : sE → Bool} {a b : List sE} (ha : a.all f = true) (hb : b.all f = true) : (a ++ b).all f = true := by rw [List.all_append, ha, hb]; rfl
theorem s_ck3 {q : sM × Option Nat} {c : List sE} (hc : s_cd q.1 = c) (h1 : c.all (fun e => s_chk s_S s_T lw_tbl s_host q.1 e) = true) (h2 : (plainFor (s_y q.1) && (match q.2 with | some c => decide (s_cn s_S c = (s_y q.1).cls) && decide (0 < s_N s_S c) | none => true)) = true) : s_ckm q = true := by
  unfold s_ckm
  rw [hc, h1, Bool.true_and]
  exact h2
theorem s_k0 : s_ckm (s_m0, some 0) = true := by decide +kernel
theorem s_k1 : s_ckm (s_m1, some 0) = true := by decide +kernel
theorem s_k2 : s_ckm (s_m2, some 0) = true := by decide +kernel
theorem s_k3 : s_ckm (s_m3, some 0) = true := by decide +kernel
theorem s_k4 : s_ckm (s_m4, some 0) = true := by decide +kernel
theorem s_k5 : s_ckm (s_m5, some 1) = true := by decide +kernel
theorem s_k6 : s_ckm (s_m6, some 1) = true := by decide +kernel
theorem s_k7 : s_ckm (s_m7, some 1) = true := by decide +kernel
theorem s_k8 : s_ckm (s_m8, some 1) = true := by decide +kernel
theorem s_k9 : s_ckm (s_m9, some 1) = true := by decide +kernel
theorem s_k10 : s_ckm (s_m10, some 1) = true := by decide +kernel
theorem s_k11 : s_ckm (s_m11, some 1) = true := by decide +kernel
theorem s_k12 : s_ckm (s_m12, some 1) = true := by decide +kernel
theorem s_k13 : s_ckm (s_m13, some 1) = true := by decide +kernel
theorem s_k14 : s_ckm (s_m14, some 1) = true := by decide +kernel
theorem s_k15 : s_ckm (s_m15, some 1) = true := by decide +kernel
theorem s_k16 : s_ckm (s_m16, none) = true := by decide +kernel
theorem s_k17 : s_ckm (s_m17, some 2) = true := by decide +kernel
theorem s_k18 : s_ckm (s_m18, none) = true := by decide +kernel
theorem s_k19 : s_ckm (s_m19, some 2) = true := by decide +kernel
theorem s_kl0 : ∀ q ∈ s_l0, s_ckm q = true := List.forall_mem_cons.mpr ⟨s_k0, List.forall_mem_cons.mpr ⟨s_k1, List.forall_mem_cons.mpr ⟨s_k2, List.forall_mem_cons.mpr ⟨s_k3, List.forall_mem_cons.mpr ⟨s_k4, List.forall_mem_cons.mpr ⟨s_k5, List.forall_mem_cons.mpr ⟨s_k6, List.forall_mem_cons.mpr ⟨s_k7, List.forall_mem_cons.mpr ⟨s_k8, List.forall_mem_cons.mpr ⟨s_k9, List.forall_mem_cons.mpr ⟨s_k10, List.forall_mem_cons.mpr ⟨s_k11, List.forall_mem_cons.mpr ⟨s_k12, List.forall_mem_cons.mpr ⟨s_k13, List.forall_mem_cons.mpr ⟨s_k14, List.forall_mem_cons.mpr ⟨s_k15, List.forall_mem_cons.mpr ⟨s_k16, List.forall_mem_cons.mpr ⟨s_k17, List.forall_mem_cons.mpr ⟨s_k18, List.forall_mem_cons.mpr ⟨s_k19, fun _ h => absurd h List.not_mem_nil⟩⟩⟩⟩⟩⟩⟩⟩⟩⟩⟩⟩⟩⟩⟩⟩⟩⟩⟩⟩
theorem s_k20 : s_ckm (s_m20, none) = true := by decide +kernel
theorem s_k21 : s_ckm (s_m21, some 3) = true := by decide +kernel
theorem s_k22 : s_ckm (s_m22, some 3) = true := by decide +kernel
theorem s_k23 : s_ckm (s_m23, some 3) = true := by decide +kernel
theorem s_k24 : s_ckm (s_m24, some 3) = true := by decide +kernel
theorem s_k25 : s_ckm (s_m25, some 3) = true := by decide +kernel
theorem s_k26 : s_ckm (s_m26, some 3) = true := by decide +kernel
theorem s_k27 : s_ckm (s_m27, some 4) = true := by decide +kernel
theorem s_k28 : s_ckm (s_m28, some 5) = true := by decide +kernel
theorem s_k29 : s_ckm (s_m29, some 5) = true := by decide +kernel
theorem s_k30 : s_ckm (s_m30, some 5) = true := by decide +kernel
theorem s_k31 : s_ckm (s_m31, some 5) = true := by decide +kernel
theorem s_k32 : s_ckm (s_m32, some 5) = true := by decide +kernel
theorem s_k33 : s_ckm (s_m33, some 5) = true := by decide +kernel
theorem s_k34 : s_ckm (s_m34, some 5) = true := by decide +kernel
theorem s_k35 : s_ckm (s_m35, some 5) = true := by decide +kernel
theorem s_k36 : s_ckm (s_m36, some 5) = true := by decide +kernel
theorem s_k37 : s_ckm (s_m37, some 5) = true := by decide +kernel
theorem s_k38 : s_ckm (s_m38, some 5) = true := by decide +kernel
theorem s_k39 : s_ckm (s_m39, some 5) = true := by decide +kernel
theorem s_kl1 : ∀ q ∈ s_l1, s_ckm q = true := List.forall_mem_cons.mpr ⟨s_k20, List.forall_mem_cons.mpr ⟨s_k21, List.forall_mem_cons.mpr ⟨s_k22, List.forall_mem_cons.mpr ⟨s_k23, List.forall_mem_cons.mpr ⟨s_k24, List.forall_mem_cons.mpr ⟨s_k25, List.forall_mem_cons.mpr ⟨s_k26, List.forall_mem_cons.mpr ⟨s_k27, List.forall_mem_cons.mpr ⟨s_k28, List.forall_mem_cons.mpr ⟨s_k29, List.forall_mem_cons.mpr ⟨s_k30, List.forall_mem_cons.mpr ⟨s_k31, List.forall_mem_cons.mpr ⟨s_k32, List.forall_mem_cons.mpr ⟨s_k33, List.forall_mem_cons.mpr ⟨s_k34, List.forall_mem_cons.mpr ⟨s_k35, List.forall_mem_cons.mpr ⟨s_k36, List.forall_mem_cons.mpr ⟨s_k37, List.forall_mem_cons.mpr ⟨s_k38, List.forall_mem_cons.mpr ⟨s_k39, fun _ h => absurd h List.not_mem_nil⟩⟩⟩⟩⟩⟩⟩⟩⟩⟩⟩⟩⟩⟩⟩⟩⟩⟩⟩⟩
theorem s_k40 : s_ckm (s_m40, some 5) = true := by decide +kernel
theorem s_k41 : s_ckm (s_m41, some 5) = true := by decide +kernel
theorem s_k42 : s_ckm (s_m42, some 5) = true := by decide +kernel
theorem s_k43 : s_ckm (s_m43, some 5) = true := by decide +kernel
theorem s_k44 : s_ckm (s_m44, some 5) = true := by decide +kernel
theorem s_k45 : s_ckm (s_m45, some 5) = true := by decide +kernel
theorem s_k46 : s_ckm (s_m46, some 5) = true := by decide +kernel
theorem s_k47 : s_ckm (s_m47, some 5) = true := by decide +kernel
theorem s_k48 : s_ckm (s_m48, some 5) = true := by decide +kernel
theorem s_k49 : s_ckm (s_m49, some 5) = true := by decide +kernel
theorem s_k50 : s_ckm (s_m50, some 5) = true := by decide +kernel
theorem s_k51 : s_ckm (s_m51, some 5) = true := by decide +kernel
theorem s_k52 : s_ckm (s_m52, some 5) = true := by decide +kernel
theorem s_k53 : s_ckm (s_m53, some 5) = true := by decide +kernel
theorem s_k54 : s_ckm (s_m54, some 5) = true := by decide +kernel
theorem s_k55 : s_ckm (s_m55, none) = true := by decide +kernel
theorem s_k56 : s_ckm (s_m56, some 6) = true := by decide +kernel
theorem s_k57 : s_ckm (s_m57, some 6) = true := by decide +kernel
theorem s_k58 : s_ckm (s_m58, some 6) = true := by decide +kernel
theorem s_k59 : s_ckm (s_m59, some 6) = true := by decide +kernel
theorem s_kl2 : ∀ q ∈ s_l2, s_ckm q = true := List.forall_mem_cons.mpr ⟨s_k40, List.forall_mem_cons.mpr ⟨s_k41, List.forall_mem_cons.mpr ⟨s_k42, List.forall_mem_cons.mpr ⟨s_k43, List.forall_mem_cons.mpr ⟨s_k44, List.forall_mem_cons.mpr ⟨s_k45, List.forall_mem_cons.mpr ⟨s_k46, List.forall_mem_cons.mpr ⟨s_k47, List.forall_mem_cons.mpr ⟨s_k48, List.forall_mem_cons.mpr ⟨s_k49, List.forall_mem_cons.mpr ⟨s_k50, List.forall_mem_cons.mpr ⟨s_k51, List.forall_mem_cons.mpr ⟨s_k52, List.forall_mem_cons.mpr ⟨s_k53, List.forall_mem_cons.mpr ⟨s_k54, List.forall_mem_cons.mpr ⟨s_k55, List.forall_mem_cons.mpr ⟨s_k56, List.forall_mem_cons.mpr ⟨s_k57, List.forall_mem_cons.mpr ⟨s_k58, List.forall_mem_cons.mpr ⟨s_k59, fun _ h => absurd h List.not_mem_nil⟩⟩⟩⟩⟩⟩⟩⟩⟩⟩⟩⟩⟩⟩⟩⟩⟩⟩⟩⟩
theorem s_k60 : s_ckm (s_m60, some 6) = true := by decide +kernel
theorem s_k61 : s_ckm (s_m61, some 6) = true := by decide +kernel
theorem s_k62 : s_ckm (s_m62, some 6) = true := by decide +kernel
theorem s_k63 : s_ckm (s_m63, some 6) = true := by decide +kernel
theorem s_k64 : s_ckm (s_m64, some 6) = true := by decide +kernel
theorem s_k65 : s_ckm (s_m65, some 6) = true := by decide +kernel
theorem s_k66 : s_ckm (s_m66, some 6) = true := by decide +kernel
theorem s_k67 : s_ckm (s_m67, some 6) = true := by decide +kernel
theorem s_k68 : s_ckm (s_m68, some 6) = true := by decide +kernel
theorem s_k69 : s_ckm (s_m69, some 6) = true := by decide +kernel
theorem s_k70 : s_ckm (s_m70, some 6) = true := by decide +kernel
theorem s_k71 : s_ckm (s_m71, some 6) = true := by decide +kernel
theorem s_k72 : s_ckm (s_m72, some 6) = true := by decide +kernel
theorem s_k73 : s_ckm (s_m73, some 6) = true := by decide +kernel
theorem s_k74 : s_ckm (s_m74, some 6) = true := by decide +kernel
theorem s_k75 : s_ckm (s_m75, some 6) = true := by decide +kernel
theorem s_k76 : s_ckm (s_m76, some 6) = true := by decide +kernel
theorem s_k77 : s_ckm (s_m77, some 6) = true := by decide +kernel
theorem s_k78 : s_ckm (s_m78, some 6) = true := by decide +kernel
theorem s_k79 : s_ckm (s_m79, none) = true := by decide +kernel
theorem s_kl3 : ∀ q ∈ s_l3, s_ckm q = true := List.forall_mem_cons.mpr ⟨s_k60, List.forall_mem_cons.mpr ⟨s_k61, List.forall_mem_cons.mpr ⟨s_k62, List.forall_mem_cons.mpr ⟨s_k63, List.forall_mem_cons.mpr ⟨s_k64, List.forall_mem_cons.mpr ⟨s_k65, List.forall_mem_cons.mpr ⟨s_k66, List.forall_mem_cons.mpr ⟨s_k67, List.forall_mem_cons.mpr ⟨s_k68, List.forall_mem_cons.mpr ⟨s_k69, List.forall_mem_cons.mpr ⟨s_k70, List.forall_mem_cons.mpr ⟨s_k71, List.forall_mem_cons.mpr ⟨s_k72, List.forall_mem_cons.mpr ⟨s_k73, List.forall_mem_cons.mpr ⟨s_k74, List.forall_mem_cons.mpr ⟨s_k75, List.forall_mem_cons.mpr ⟨s_k76, List.forall_mem_cons.mpr ⟨s_k77, List.forall_mem_cons.mpr ⟨s_k78, List.forall_mem_cons.mpr ⟨s_k79, fun _ h => absurd h List.not_mem_nil⟩⟩⟩⟩⟩⟩⟩⟩⟩⟩⟩⟩⟩⟩⟩⟩⟩⟩⟩⟩
theorem s_k80 : s_ckm (s_m80, none) = true := by decide +kernel
theorem s_k81 : s_ckm (s_m81, some 6) = true := by decide +kernel
theorem s_k82 : s_ckm (s_m82, some 6) = true := by decide +kernel
theorem s_k83 : s_ckm (s_m83, some 6) = true := by decide +kernel
theorem s_k84 : s_ckm (s_m84, some 6) = true := by decide +kernel
theorem s_k85 : s_ckm (s_m85, some 6) = true := by decide +kernel
theorem s_k86 : s_ckm (s_m86, some 6) = true := by decide +kernel
theorem s_k87 : s_ckm (s_m87, none) = true := by decide +kernel
theorem s_k88 : s_ckm (s_m88, none) = true := by decide +kernel
theorem s_k89 : s_ckm (s_m89, some 7) = true := by decide +kernel
theorem s_k90 : s_ckm (s_m90, none) = true := by decide +kernel
theorem s_k91 : s_ckm (s_m91, some 7) = true := by decide +kernel
theorem s_k92 : s_ckm (s_m92, some 7) = true := by decide +kernel
theorem s_k93 : s_ckm (s_m93, some 7) = true := by decide +kernel
theorem s_k94 : s_ckm (s_m94, none) = true := by decide +kernel
theorem s_k95 : s_ckm (s_m95, some 7) = true := by decide +kernel
theorem s_k96 : s_ckm (s_m96, some 7) = true := by decide +kernel
theorem s_k97 : s_ckm (s_m97, some 7) = true := by decide +kernel
theorem s_k98 : s_ckm (s_m98, some 7) = true := by decide +kernel
theorem s_k99 : s_ckm (s_m99, some 7) = true := by decide +kernel
theorem s_kl4 : ∀ q ∈ s_l4, s_ckm q = true := List.forall_mem_cons.mpr ⟨s_k80, List.forall_mem_cons.mpr ⟨s_k81, List.forall_mem_cons.mpr ⟨s_k82, List.forall_mem_cons.mpr ⟨s_k83, List.forall_mem_cons.mpr ⟨s_k84, List.forall_mem_cons.mpr ⟨s_k85, List.forall_mem_cons.mpr ⟨s_k86, List.forall_mem_cons.mpr ⟨s_k87, List.forall_mem_cons.mpr ⟨s_k88, List.forall_mem_cons.mpr ⟨s_k89, List.forall_mem_cons.mpr ⟨s_k90, List.forall_mem_cons.mpr ⟨s_k91, List.forall_mem_cons.mpr ⟨s_k92, List.forall_mem_cons.mpr ⟨s_k93, List.forall_mem_cons.mpr ⟨s_k94, List.forall_mem_cons.mpr ⟨s_k95, List.forall_mem_cons.mpr ⟨s_k96, List.forall_mem_cons.mpr ⟨s_k97, List.forall_mem_cons.mpr ⟨s_k98, List.forall_mem_cons.mpr ⟨s_k99, fun _ h => absurd h List.not_mem_nil⟩⟩⟩⟩⟩⟩⟩⟩⟩⟩⟩⟩⟩⟩⟩⟩⟩⟩⟩⟩
theorem s_k100 : s_ckm (s_m100, some 7) = true := by decide +kernel
theorem s_k101 : s_ckm (s_m101, some 7) = true := by decide +kernel
theorem s_k102 : s_ckm (s_m102, some 7) = true := by decide +kernel
theorem s_k103 : s_ckm (s_m103, some 7) = true := by decide +kernel
theorem s_k104 : s_ckm (s_m104, some 7) = true := by decide +kernel
theorem s_k105 : s_ckm (s_m105, some 7) = true := by decide +kernel
theorem s_k106 : s_ckm (s_m106, some 7) = true := by decide +kernel
theorem s_k107 : s_ckm (s_m107, some 7) = true := by decide +kernel
theorem s_k108 : s_ckm (s_m108, some 7) = true := by decide +kernel
theorem s_k109 : s_ckm (s_m109, some 7) = true := by decide +kernel
theorem s_k110 : s_ckm (s_m110, some 7) = true := by decide +kernel
theorem s_k111 : s_ckm (s_m111, some 7) = true := by decide +kernel
theorem s_k112 : s_ckm (s_m112, some 7) = true := by decide +kernel
theorem s_k113 : s_ckm (s_m113, some 7) = true := by decide +kernel
theorem s_k114 : s_ckm (s_m114, some 7) = true := by decide +kernel
theorem s_k115 : s_ckm (s_m115, some 7) = true := by decide +kernel
theorem s_k116 : s_ckm (s_m116, some 7) = true := by decide +kernel
theorem s_k117 : s_ckm (s_m117, some 7) = true := by decide +kernel
theorem s_k118 : s_ckm (s_m118, some 7) = true := by decide +kernel
theorem s_k119 : s_ckm (s_m119, some 7) = true := by decide +kernel
theorem s_kl5 : ∀ q ∈ s_l5, s_ckm q = true := List.forall_mem_cons.mpr ⟨s_k100, List.forall_mem_cons.mpr ⟨s_k101, List.forall_mem_cons.mpr ⟨s_k102, List.forall_mem_cons.mpr ⟨s_k103, List.forall_mem_cons.mpr ⟨s_k104, List.forall_mem_cons.mpr ⟨s_k105, List.forall_mem_cons.mpr ⟨s_k106, List.forall_mem_cons.mpr ⟨s_k107, List.forall_mem_cons.mpr ⟨s_k108, List.forall_mem_cons.mpr ⟨s_k109, List.forall_mem_cons.mpr ⟨s_k110, List.forall_mem_cons.mpr ⟨s_k111, List.forall_mem_cons.mpr ⟨s_k112, List.forall_mem_cons.mpr ⟨s_k113, List.forall_mem_cons.mpr ⟨s_k114, List.forall_mem_cons.mpr ⟨s_k115, List.forall_mem_cons.mpr ⟨s_k116, List.forall_mem_cons.mpr ⟨s_k117, List.forall_mem_cons.mpr ⟨s_k118, List.forall_mem_cons.mpr ⟨s_k119, fun _ h => absurd h List.not_mem_nil⟩⟩⟩⟩⟩⟩⟩⟩⟩⟩⟩⟩⟩⟩⟩⟩⟩⟩⟩⟩
theorem s_k120 : s_ckm (s_m120, some 7) = true := by decide +kernel
theorem s_k121 : s_ckm (s_m121, some 7) = true := by decide +kernel
theorem s_k122 : s_ckm (s_m122, some 7) = true := by decide +kernel
theorem s_k123 : s_ckm (s_m123, some 7) = true := by decide +kernel
theorem s_k124 : s_ckm (s_m124, some 7) = true := by decide +kernel
theorem s_k125 : s_ckm (s_m125, some 7) = true := by decide +kernel
theorem s_k126 : s_ckm (s_m126, some 7) = true := by decide +kernel
theorem s_k127 : s_ckm (s_m127, some 7) = true := by decide +kernel
theorem s_k128 : s_ckm (s_m128, some 7) = true := by decide +kernel
theorem s_k129 : s_ckm (s_m129, some 7) = true := by decide +kernel
theorem s_k130 : s_ckm (s_m130, some 7) = true := by decide +kernel
theorem s_k131 : s_ckm (s_m131, some 7) = true := by decide +kernel
theorem s_k132 : s_ckm (s_m132, some 7) = true := by decide +kernel
theorem s_k133 : s_ckm (s_m133, some 7) = true := by decide +kernel
theorem s_k134 : s_ckm (s_m134, some 7) = true := by decide +kernel
theorem s_k135 : s_ckm (s_m135, some 7) = true := by decide +kernel
theorem s_k136 : s_ckm (s_m136, some 7) = true := by decide +kernel
theorem s_k137 : s_ckm (s_m137, some 7) = true := by decide +kernel
theorem s_k138 : s_ckm (s_m138, some 7) = true := by decide +kernel
theorem s_k139 : s_ckm (s_m139, some 7) = true := by decide +kernel
theorem s_kl6 : ∀ q ∈ s_l6, s_ckm q = true := List.forall_mem_cons.mpr ⟨s_k120, List.forall_mem_cons.mpr ⟨s_k121, List.forall_mem_cons.mpr ⟨s_k122, List.forall_mem_cons.mpr ⟨s_k123, List.forall_mem_cons.mpr ⟨s_k124, List.forall_mem_cons.mpr ⟨s_k125, List.forall_mem_cons.mpr ⟨s_k126, List.forall_mem_cons.mpr ⟨s_k127, List.forall_mem_cons.mpr ⟨s_k128, List.forall_mem_cons.mpr ⟨s_k129, List.forall_mem_cons.mpr ⟨s_k130, List.forall_mem_cons.mpr ⟨s_k131, List.forall_mem_cons.mpr ⟨s_k132, List.forall_mem_cons.mpr ⟨s_k133, List.forall_mem_cons.mpr ⟨s_k134, List.forall_mem_cons.mpr ⟨s_k135, List.forall_mem_cons.mpr ⟨s_k136, List.forall_mem_cons.mpr ⟨s_k137, List.forall_mem_cons.mpr ⟨s_k138, List.forall_mem_cons.mpr ⟨s_k139, fun _ h => absurd h List.not_mem_nil⟩⟩⟩⟩⟩⟩⟩⟩⟩⟩⟩⟩⟩⟩⟩⟩⟩⟩⟩⟩
theorem s_k140 : s_ckm (s_m140, some 7) = true := by decide +kernel
theorem s_k141 : s_ckm (s_m141, some 7) = true := by decide +kernel
theorem s_k142 : s_ckm (s_m142, some 7) = true := by decide +kernel
theorem s_k143 : s_ckm (s_m143, some 7) = true := by decide +kernel
theorem s_k144 : s_ckm (s_m144, some 7) = true := by decide +kernel
theorem s_k145 : s_ckm (s_m145, some 7) = true := by decide +kernel
theorem s_k146 : s_ckm (s_m146, some 7) = true := by decide +kernel
theorem s_k147 : s_ckm (s_m147, some 7) = true := by decide +kernel
theorem s_k148 : s_ckm (s_m148, some 7) = true := by decide +kernel
theorem s_k149 : s_ckm (s_m149, some 7) = true := by decide +kernel
theorem s_k150 : s_ckm (s_m150, some 7) = true := by decide +kernel
theorem s_k151 : s_ckm (s_m151, some 7) = true := by decide +kernel
theorem s_k152_0 : (s_r152_0).all (fun e => s_chk s_S s_T lw_tbl s_host s_m152 e) = true := by decide +kernel
theorem s_k152_1 : (s_r152_1).all (fun e => s_chk s_S s_T lw_tbl s_host s_m152 e) = true := by decide +kernel
theorem s_k152_2 : (s_r152_2).all (fun e => s_chk s_S s_T lw_tbl s_host s_m152 e) = true := by decide +kernel
theorem s_k152_3 : (s_r152_3).all (fun e => s_chk s_S s_T lw_tbl s_host s_m152 e) = true := by decide +kernel
theorem s_k152_4 : (s_r152_4).all (fun e => s_chk s_S s_T lw_tbl s_host s_m152 e) = true := by decide +kernel
theorem s_k152_5 : (s_r152_5).all (fun e => s_chk s_S s_T lw_tbl s_host s_m152 e) = true := by decide +kernel
theorem s_k152_6 : (s_r152_6).all (fun e => s_chk s_S s_T lw_tbl s_host s_m152 e) = true := by decide +kernel
theorem s_k152_7 : (s_r152_7).all (fun e => s_chk s_S s_T lw_tbl s_host s_m152 e) = true := by decide +kernel
theorem s_k152_x : (plainFor (s_y s_m152) && (match ((s_m152, none) : sM × Option Nat).2 with | some c => decide (s_cn s_S c = (s_y s_m152).cls) && decide (0 < s_N s_S c) | none => true)) = true := by decide +kernel
theorem s_k152 : s_ckm (s_m152, none) = true := s_ck3 (c := s_cd s_m152) rfl (s_all2 s_k152_0 (s_all2 s_k152_1 (s_all2 s_k152_2 (s_all2 s_k152_3 (s_all2 s_k152_4 (s_all2 s_k152_5 (s_all2 s_k152_6 s_k152_7))))))) s_k152_x
theorem s_k153 : s_ckm (s_m153, none) = true := by decide +kernel
theorem s_k154 : s_ckm (s_m154, none) = true := by decide +kernel
theorem s_k155 : s_ckm (s_m155, none) = true := by decide +kernel
theorem s_k156 : s_ckm (s_m156, none) = true := by decide +kernel
theorem s_kl7 : ∀ q ∈ s_l7, s_ckm q = true := List.forall_mem_cons.mpr ⟨s_k140, List.forall_mem_cons.mpr ⟨s_k141, List.forall_mem_cons.mpr ⟨s_k142, List.forall_mem_cons.mpr ⟨s_k143, List.forall_mem_cons.mpr ⟨s_k144, List.forall_mem_cons.mpr ⟨s_k145, List.forall_mem_cons.mpr ⟨s_k146, List.forall_mem_cons.mpr ⟨s_k147, List.forall_mem_cons.mpr ⟨s_k148, List.forall_mem_cons.mpr ⟨s_k149, List.forall_mem_cons.mpr ⟨s_k150, List.forall_mem_cons.mpr ⟨s_k151, List.forall_mem_cons.mpr ⟨s_k152, List.forall_mem_cons.mpr ⟨s_k153, List.forall_mem_cons.mpr ⟨s_k154, List.forall_mem_cons.mpr ⟨s_k155, List.forall_mem_cons.mpr ⟨s_k156, fun _ h => absurd h List.not_mem_nil⟩⟩⟩⟩⟩⟩⟩⟩⟩⟩⟩⟩⟩⟩⟩⟩⟩
theorem s_kml : ∀ q ∈ s_ml, s_ckm q = true := List.forall_mem_append.mpr ⟨s_kl0, List.forall_mem_append.mpr ⟨s_kl1, List.forall_mem_append.mpr ⟨s_kl2, List.forall_mem_append.mpr ⟨s_kl3, List.forall_mem_append.mpr ⟨s_kl4, List.forall_mem_append.mpr ⟨s_kl5, List.forall_mem_append.mpr ⟨s_kl6, s_kl7⟩⟩⟩⟩⟩⟩⟩
theorem s_CK : s_Chk s_S s_T lw_tbl s_host := by
  intro k r cn hk
  have hk : s_nth s_ml k = some (r, cn) := hk
  rw [s_nth_eq] at hk
  have h := s_kml _ (List.mem_of_getElem? hk)
  unfold s_ckm at h
  simp only [Bool.and_eq_true, List.all_eq_true] at h
  refine ⟨h.1, h.2.1, fun c hc => ?_⟩
  subst hc
  have h2 := h.2.2
  simp only [Bool.and_eq_true, decide_eq_true_eq] at h2
  exact h2
end
section
/-! THE CLAIM OUT OF ONE WALK OF THE LAW'S BODY. Your part is whole_start (and what it stands on); all else here is the same for every law, but numbers. -/
def R_law : String := "LeaningTreesLaw"
def lw_P (b : Addr) (xs : List Int32) (args : Array Value) (s : State) : Prop := args = #[.ref b] ∧ s.IntsAt b xs ∧ xs.length ≤ 1536 ∧ (Jvm.Cond.and given_1 narrow_1).before args s = true
/-- what a walk over the start with the record d0 says of its end, said of the start itself -/
theorem lw_closed {s t : State} {o : Outcome} {d0 : Drawn} {L : List Loc} {k n : Nat} (hd0 : s.drawn.sameBut d0 lw_cs) (hv : ∃ v, o = .returned v) (hW : (s.setDrawn d0).WarmedH t.vm) (hs : (s.setDrawn d0).sameButNew ({ t with vm := s.vm } : State) L k n) : State.butDraws s t lw_cs (fun t1 => Framed s o t1 L k n) := by
  have h2 : t.drawn = d0 := congrArg State.drawn hs.1
  refine ⟨⟨hv, hW, State.sameButNew.setDrawn hs s.drawn⟩, ?_, by decide⟩
  rw [h2]
  exact hd0
def lw_Q (_ : Array Value) (s : State) (o : Outcome) (t : State) : Prop := o = .returned (some (.int 1)) ∧ State.butDraws s t lw_cs (fun t1 => Framed s o t1 [] 600000 7302250)
def lw_Z (below : List Frame) (a : Array Value) (s : State) : State → Prop := fun t => ∃ o, t.status = .running ∧ Ended t below o ∧ lw_Q a s o t
/-- the law's own end, with 1 on the stack, nothing written that was there before, its room as the claim has it; d0: the record of draws at this point (at the entry s.drawn: begin with 'refine W.base ?_' and 'have hd0 := Drawn.sameBut.refl s.drawn lw_cs') -/
theorem lw_ret {p : Program} {l : Launch} {e : Env} {s : State} {m : MethodId} {below : List Frame} {meth : Method} {c : Code} {b : Nat} {d0 : Drawn} (hd0 : s.drawn.sameBut d0 lw_cs) (hx : p.tables.exec = Jvm.exec) (hb : c.code = code) (hr : meth.sig.returnType = ret) (hlocks : meth.locks = false) {pc : Nat} {H : Heap} {ls : Array Slot} (hdg : decode code pc = .ok (.ireturn, 1)) : W p l e room_1 (s.setDrawn d0) m #[Value.ref b] below meth c H [] 600000 7302250 (lw_Z below #[Value.ref b] s) (F0 m pc ls [.int 1]) := by
  intro T hT X
  obtain ⟨fs, hret, hrun, hended, hW, hframe⟩ := X.leave (v := some (.int 1)) (hlocks := hlocks) (fun h => by rw [hr] at h; cases h)
  have hmeth' : T.vm.method? m = some meth := X.method'
  refine ⟨T.setFrames fs, ?_, .returned (some (.int 1)), hrun, hended, rfl, lw_closed hd0 ⟨_, rfl⟩ hW hframe⟩
  jvm_step X.here [X.here.top, hx, hb, hdg, hmeth', hr, ret, narrow_b1]
  (try refine ⟨rfl, ?_⟩); (try refine ⟨rfl, ?_⟩)
  first | (intro acts; rw [hret _ acts rfl rfl rfl]) | rw [hret _ _ rfl rfl rfl]
  exact Steps.refl _
/-- what holds at the law's entry: the machine, the code, the tables' words (any of lw_tbl by 'hts w (by decide +kernel)'), the script of L ints xs at the cell b, what the Statement gives of the start (any of its parts by flat_of_before) -/
def lw_At (p : Program) (s : State) (m : MethodId) (meth : Method) (c : Code) (b L : Nat) (xs : Nat → Int32) : Prop :=
  p.tables.exec = Jvm.exec ∧ c.code = code ∧ meth.sig.returnType = ret ∧ c.maxLocals = 4 ∧ s.vm.findClass R_law = some m.cls ∧ (∀ w ∈ lw_tbl, w.before #[Value.ref b] s = true) ∧ va_X b L xs s s.heap ∧ b < s.heap.size ∧ meth.locks = false ∧ (Jvm.Cond.and given_1 narrow_1).before #[Value.ref b] s = true
/-! THE LAW'S START: the real walk out of the small machine's run -/
def s_3 (a b c : Int32) : Nat → Int32 := fun j => if j = 0 then a else if j = 1 then b else c
def s_Z0 (xs : Nat → Int32) : Nat → Nat → Int32 := fun i => if i = 0 then s_3 70 40 2 else if i = 1 then s_3 55 10 0 else if i = 2 then s_3 95 90 9 else if i = 3 then xs else fun _ => 0
def s_h0 (L : Nat) (xs : Nat → Int32) : sHp := (s_Z0 xs, fun _ _ => none, [(1, 3), (1, 3), (1, 3), (1, L)])
/-- WHAT IS LEFT: on every script the small machine comes to its end with 1, in its room -/
def s_Goal : Prop := ∀ (L : Nat) (xs : Nat → Int32), L ≤ 1536 → ∃ (f : Nat) (h : sHp), s_run s_T f 152 0 [.ref 3, s_no, s_no, s_no] [] (s_h0 L xs) = some (some (.int 1), h) ∧ h.2.2.length ≤ 600000 ∧ s_sz s_S h.2.2 ≤ 7302250
theorem s_TWhas {w : Jvm.Cond} {i : Nat} (h : lw_tbl[i]? = some w) (hg : goodWord w = true) : w ∈ s_TW lw_tbl := List.mem_filter.mpr ⟨List.mem_of_getElem? h, hg⟩
theorem s_uw {ws : List Jvm.Cond} {pl : List Nat} (h : ws.map some = pl.map (fun i => lw_tbl[i]?)) (hg : ws.all goodWord = true) : ∀ w ∈ ws, w ∈ s_TW lw_tbl := by
  intro w hw
  refine List.mem_filter.mpr ⟨?_, List.all_eq_true.mp hg w hw⟩
  have : some w ∈ pl.map (fun i => lw_tbl[i]?) := by
    rw [← h]
    exact List.mem_map.mpr ⟨w, hw, rfl⟩
  obtain ⟨j, -, hj⟩ := List.mem_map.mp this
  exact List.mem_of_getElem? hj
theorem s_u0 : ∀ w ∈ u_ws RX0 TX0 2, w ∈ s_TW lw_tbl := s_uw (pl := [158, 160]) (by decide +kernel) (by decide +kernel)
theorem s_u1 : ∀ w ∈ u_ws RX1 TX1 5, w ∈ s_TW lw_tbl := s_uw (pl := [194, 196, 198, 200, 202]) (by decide +kernel) (by decide +kernel)
theorem s_u2 : ∀ w ∈ u_ws RX2 TX2 2, w ∈ s_TW lw_tbl := s_uw (pl := [177, 179]) (by decide +kernel) (by decide +kernel)
theorem s_u3 : ∀ w ∈ u_ws RX3 TX3 1, w ∈ s_TW lw_tbl := s_uw (pl := [93]) (by decide +kernel) (by decide +kernel)
theorem s_u4 : ∀ w ∈ u_ws RX4 TX4 2, w ∈ s_TW lw_tbl := s_uw (pl := [215, 217]) (by decide +kernel) (by decide +kernel)
theorem s_u5 : ∀ w ∈ u_ws RX5 TX5 11, w ∈ s_TW lw_tbl := s_uw (pl := [123, 125, 127, 129, 131, 133, 135, 137, 139, 141, 143]) (by decide +kernel) (by decide +kernel)
theorem s_u6 : ∀ w ∈ u_ws RX6 TX6 5, w ∈ s_TW lw_tbl := s_uw (pl := [225, 227, 229, 231, 233]) (by decide +kernel) (by decide +kernel)
theorem s_u7 : ∀ w ∈ u_ws RX7 TX7 16, w ∈ s_TW lw_tbl := s_uw (pl := [611, 613, 615, 617, 619, 621, 623, 625, 627, 629, 631, 633, 635, 637, 639, 641]) (by decide +kernel) (by decide +kernel)
theorem s_SOKs : s_SOK s_S (s_TW lw_tbl) := by
  intro c q hq
  have hq : s_vw[c]? = some q := hq
  match c, hq with
  | 0, hq => cases hq; exact ⟨s_u0, tyX0_ok, nmX0⟩
  | 1, hq => cases hq; exact ⟨s_u1, tyX1_ok, nmX1⟩
  | 2, hq => cases hq; exact ⟨s_u2, tyX2_ok, nmX2⟩
  | 3, hq => cases hq; exact ⟨s_u3, tyX3_ok, nmX3⟩
  | 4, hq => cases hq; exact ⟨s_u4, tyX4_ok, nmX4⟩
  | 5, hq => cases hq; exact ⟨s_u5, tyX5_ok, nmX5⟩
  | 6, hq => cases hq; exact ⟨s_u6, tyX6_ok, nmX6⟩
  | 7, hq => cases hq; exact ⟨s_u7, tyX7_ok, nmX7⟩
  | k + 8, hq => exact absurd (List.getElem?_eq_some_iff.mp hq).1 (by show ¬ k + 8 < 8; omega)
theorem s_insts : ∀ q ∈ s_vw, Jvm.Cond.instantiable q.1 q.2.2 ∈ lw_tbl := by
  intro q hq
  have hq2 : q ∈ s_vw := hq
  unfold s_vw at hq2
  simp only [List.mem_cons, List.not_mem_nil, or_false] at hq2
  rcases hq2 with rfl | rfl | rfl | rfl | rfl | rfl | rfl | rfl
  · exact List.mem_of_getElem? (i := 147) (by decide +kernel)
  · exact List.mem_of_getElem? (i := 183) (by decide +kernel)
  · exact List.mem_of_getElem? (i := 166) (by decide +kernel)
  · exact List.mem_of_getElem? (i := 85) (by decide +kernel)
  · exact List.mem_of_getElem? (i := 205) (by decide +kernel)
  · exact List.mem_of_getElem? (i := 79) (by decide +kernel)
  · exact List.mem_of_getElem? (i := 71) (by decide +kernel)
  · exact List.mem_of_getElem? (i := 590) (by decide +kernel)
theorem s_SDs : s_SD s_S := by
  refine ⟨by decide +kernel, fun c k hk => ?_⟩
  rcases Nat.lt_or_ge c 8 with hc | hc
  · have h1 : ∀ c, c < 8 → ∀ k, k < s_N s_S c → defaultValue (s_ty s_S c k) = if s_kd (s_ty s_S c k) = 2 then .null else .int 0 := by decide +kernel
    exact h1 c hc k hk
  · have : s_vw[c]? = none := List.getElem?_eq_none (by exact hc)
    unfold s_N at hk
    rw [show (s_cl s_S)[c]? = none from this] at hk
    exact absurd hk (Nat.not_lt_zero _)
theorem s_FX : s_Fix s_S s_T lw_tbl s_host := ⟨s_SOKs, s_SDs, s_CK, by decide +kernel⟩
theorem s_static {args : Array Value} {s : State} {C n : String} {v0 v1 v2 : Int32} (hl : (Jvm.Cond.laysStatic C n "[I").before args s = true) (hini : (Jvm.Cond.initialized C).before args s = true) (harr : (Jvm.Cond.arrayOf (.static C n "[I") .int).before args s = true) (hlen : (Jvm.Cond.eq (.length (.static C n "[I")) (.int 3)).before args s = true)
    (h0 : (Jvm.Cond.eq (.elem (.static C n "[I") (.int 0)) (.int v0)).before args s = true) (h1 : (Jvm.Cond.eq (.elem (.static C n "[I") (.int 1)) (.int v1)).before args s = true) (h2 : (Jvm.Cond.eq (.elem (.static C n "[I") (.int 2)) (.int v2)).before args s = true) :
    ∃ t : Nat, va_Z C n "[I" (.ref t) (fun q => s.heap.size ≤ q) s s.heap ∧ va_T .int t 3 (fun j => .int (s_3 v0 v1 v2 j)) (fun q => s.heap.size ≤ q) s s.heap := by
  have hA : ∀ a : Nat, a < s.heap.size → ¬ (fun q => s.heap.size ≤ q) a := fun a h => Nat.not_le.mpr h
  obtain ⟨t, ht, hT⟩ := va_Tof (tm := .static C n "[I") (ty := .int) (N := 3) (f := fun j => .int (s_3 v0 v1 v2 j)) (by decide) harr (va_eqt hlen) (fun j hj => by
    match j, hj with
    | 0, _ => exact va_eqt h0
    | 1, _ => exact va_eqt h1
    | 2, _ => exact va_eqt h2) hA
  exact ⟨t, va_Zof hl hini ht hA, hT⟩
theorem s_nwTrue {args : Array Value} {s : State} (hts : ∀ w ∈ lw_tbl, w.before args s = true) : ∀ w ∈ s_nwl, va_Nw w s := by
  intro w hw
  unfold s_nwl at hw
  simp only [List.mem_cons, List.not_mem_nil, or_false] at hw
  rcases hw with rfl | rfl | rfl | rfl | rfl | rfl
  · exact va_tabs rfl rfl (hts _ (List.mem_of_getElem? (i := 167) (by decide +kernel)))
  · exact va_tabs rfl rfl (hts _ (List.mem_of_getElem? (i := 184) (by decide +kernel)))
  · exact va_tabs rfl rfl (hts _ (List.mem_of_getElem? (i := 206) (by decide +kernel)))
  · exact va_tabs rfl rfl (hts _ (List.mem_of_getElem? (i := 86) (by decide +kernel)))
  · exact va_AO.of (hts _ (List.mem_of_getElem? (i := 164) (by decide +kernel)))
  · exact va_AO.of (hts _ (List.mem_of_getElem? (i := 153) (by decide +kernel)))
/-- the small machine's run gives the walk -/
theorem s_whole (HG : s_Goal) {p : Program} {e : Env} {s : State} {m : MethodId} {below : List Frame} {meth : Method} {c : Code} (l : Launch) {b L : Nat} {xs : Nat → Int32} (hL : L ≤ 1536) (C0 : lw_At p s m meth c b L xs) : W p l e room_1 s m #[Value.ref b] below meth c s.heap [] 0 0 (lw_Z below #[Value.ref b] s) (entryFrame m ([Value.ref b] : List Value).toArray 4) := by
  obtain ⟨hx, hb, hr, hml, hown, hts, hX, hbl, hlocks, hgv⟩ := C0
  have hs := flat_of_before _ hgv
  obtain ⟨f, h1, hrun, hroom1, hroom2⟩ := HG L xs hL
  obtain ⟨t0, hZ0, hT0⟩ := s_static (C := "LeaningTrees") (n := "FIRST_SETTINGS") (v0 := 70) (v1 := 40) (v2 := 2) (hts _ (List.mem_of_getElem? (i := 87) (by decide +kernel))) (hts _ (List.mem_of_getElem? (i := 58) (by decide +kernel))) (hs _ (by decide +kernel)) (hs _ (by decide +kernel)) (hs _ (by decide +kernel)) (hs _ (by decide +kernel)) (hs _ (by decide +kernel))
  obtain ⟨t1, hZ1, hT1⟩ := s_static (C := "LeaningTrees") (n := "LEAST_SETTINGS") (v0 := 55) (v1 := 10) (v2 := 0) (hts _ (List.mem_of_getElem? (i := 244) (by decide +kernel))) (hts _ (List.mem_of_getElem? (i := 58) (by decide +kernel))) (hs _ (by decide +kernel)) (hs _ (by decide +kernel)) (hs _ (by decide +kernel)) (hs _ (by decide +kernel)) (hs _ (by decide +kernel))
  obtain ⟨t2, hZ2, hT2⟩ := s_static (C := "LeaningTrees") (n := "GREATEST_SETTINGS") (v0 := 95) (v1 := 90) (v2 := 9) (hts _ (List.mem_of_getElem? (i := 246) (by decide +kernel))) (hts _ (List.mem_of_getElem? (i := 58) (by decide +kernel))) (hs _ (by decide +kernel)) (hs _ (by decide +kernel)) (hs _ (by decide +kernel)) (hs _ (by decide +kernel)) (hs _ (by decide +kernel))
  have hcls : ∀ k : Nat, ∃ (cC : ClassId) (iS : Nat → Nat), ∀ q : vw_C, s_vw[k]? = some q → u_Kn s q.1 q.2.1 q.2.2 cC iS := by
    intro k
    cases hk : s_vw[k]? with
    | none => exact ⟨0, fun _ => 0, fun q h => by cases h⟩
    | some q0 =>
      obtain ⟨c0, i0, hK0⟩ := u_known (C := q0.1) (T := q0.2.1) (N := q0.2.2) (n := q0.2.2) (ws := s_TW lw_tbl) (fun w hw => hts w (List.mem_filter.mp hw).1) (s_SOKs k q0 hk).1 (hts _ (s_insts q0 (List.mem_of_getElem? hk)))
      exact ⟨c0, i0, fun q h => by cases h; exact hK0⟩
  obtain ⟨dC, hdC⟩ : ∃ dC : Nat → ClassId, ∀ k : Nat, ∃ iS : Nat → Nat, ∀ q : vw_C, s_vw[k]? = some q → u_Kn s q.1 q.2.1 q.2.2 (dC k) iS := ⟨fun k => Classical.choose (hcls k), fun k => Classical.choose_spec (hcls k)⟩
  obtain ⟨dI, hdI⟩ : ∃ dI : Nat → Nat → Nat, ∀ (k : Nat) (q : vw_C), s_vw[k]? = some q → u_Kn s q.1 q.2.1 q.2.2 (dC k) (dI k) := ⟨fun k => Classical.choose (hdC k), fun k => Classical.choose_spec (hdC k)⟩
  obtain ⟨cI, kI, cmI, hI1, hI2, hI3⟩ := Cond.arrayClass_spec (type := .int) (hts _ (List.mem_of_getElem? (i := 96) (by decide +kernel)))
  have harr : ∀ t : Nat, ∃ cA : ClassId, t ∈ s_rkl → ArrOfT s cA (.object (s_cn s_S t)) ∧ va_RA s cA (.object (s_cn s_S t)) := by
    intro t
    by_cases ht : t ∈ s_rkl
    · have hw : Jvm.Cond.arrayOver (.object (s_cn s_S t)) ∈ lw_tbl := by
        simp only [s_rkl, List.mem_cons, List.not_mem_nil, or_false] at ht
        rcases ht with rfl | rfl
        · exact List.mem_of_getElem? (i := 164) (by decide +kernel)
        · exact List.mem_of_getElem? (i := 153) (by decide +kernel)
      obtain ⟨comp, cA, kA, g1, g2, g3, g4, g5⟩ := Cond.arrayOver_spec (hts _ hw)
      exact ⟨cA, fun _ => ⟨fun n z => ⟨(fun k h => by cases h), kA, g3, comp, g4⟩, kA, comp, g3, g4, g1, g5⟩⟩
    · exact ⟨0, fun h => absurd h ht⟩
  obtain ⟨cA, hcA⟩ : ∃ cA : Nat → ClassId, ∀ t : Nat, t ∈ s_rkl → ArrOfT s (cA t) (.object (s_cn s_S t)) ∧ va_RA s (cA t) (.object (s_cn s_S t)) := ⟨fun t => Classical.choose (harr t), fun t => Classical.choose_spec (harr t)⟩
  let G : s_DG := ((dC, dI), (fun t => if t = 1 then cI else cA (t - 2)), (fun i => if i = 0 then t0 else if i = 1 then t1 else if i = 2 then t2 else if i = 3 then b else s.heap.size + (i - 4)), s.heap.size, (fun i => if i = 3 then L else 3), s_Z0 xs)
  have hA : ∀ a : Nat, a < s.heap.size → ¬ s_A G a := fun a h => Nat.not_le.mpr h
  have hlt : ∀ {t : Nat} {f : Nat → Value} {n : Nat}, va_T .int t n f (fun q => s.heap.size ≤ q) s s.heap → t < s.heap.size := fun hT => by
    obtain ⟨cell, g1, -⟩ := hT
    exact (Array.getElem?_eq_some_iff.mp g1).1
  have hT3 : va_T .int b L (fun j => .int (xs j)) (fun q => s.heap.size ≤ q) s s.heap := by
    obtain ⟨scr, g1, g2, g3, g4, g5⟩ := hX
    exact ⟨scr, g1, g2, g3, Nat.le_of_eq g4.symm, by rw [g4], g5, Nat.not_le.mpr hbl⟩
  have hIn : s_In s_S G s := by
    refine ⟨⟨fun k q h => hdI k q h, fun k q h => ?_⟩, fun i hi => ?_, fun j hj => ?_, fun j => ?_, s_nwTrue hts⟩
    · have hm := List.mem_of_getElem? h
      rcases List.mem_cons.mp hm with rfl | hm
      · exact ⟨fun n z => ⟨(fun k h => by cases h), kI, hI2, cmI, hI3⟩, hI1⟩
      · obtain ⟨t, ht, rfl⟩ := List.mem_map.mp hm
        have hz : s_cA G (t + 2) = cA t := by
          show (if t + 2 = 1 then cI else cA (t + 2 - 2)) = cA t
          rw [if_neg (by omega), Nat.add_sub_cancel]
        rw [hz]
        exact hcA t ht
    · match i, hi with
      | 0, _ => exact ⟨hT0, hlt hT0⟩
      | 1, _ => exact ⟨hT1, hlt hT1⟩
      | 2, _ => exact ⟨hT2, hlt hT2⟩
      | 3, _ => exact ⟨hT3, hlt hT3⟩
    · match j, hj with
      | 0, _ => exact ⟨by decide, hZ0⟩
      | 1, _ => exact ⟨by decide, hZ1⟩
      | 2, _ => exact ⟨by decide, hZ2⟩
    · show (if j + 4 = 0 then t0 else if j + 4 = 1 then t1 else if j + 4 = 2 then t2 else if j + 4 = 3 then b else s.heap.size + (j + 4 - 4)) = s.heap.size + j
      rw [if_neg (by omega), if_neg (by omega), if_neg (by omega), if_neg (by omega), Nat.add_sub_cancel]
  have hW0 : s_Wd s_S G (s_h0 L xs) s.heap := by
    refine ⟨Nat.le_refl 4, fun k q h => ?_, fun i hi => ?_, fun i t n h => ?_⟩
    · have h0 : (s_ws s_S G (s_h0 L xs)) = [] := rfl
      rw [h0] at h
      cases h
    · match i, hi with
      | 0, _ => exact ⟨rfl, rfl⟩
      | 1, _ => exact ⟨rfl, rfl⟩
      | 2, _ => exact ⟨rfl, rfl⟩
      | 3, _ => exact ⟨rfl, rfl⟩
    · match i, h with
      | 0, h => cases h
      | 1, h => cases h
      | 2, h => cases h
      | 3, h => cases h
      | i + 4, h => cases h
  have hd0 := Drawn.sameBut.refl s.drawn lw_cs
  have C : s_Cx s_S G (s_TW lw_tbl) p s m #[Value.ref b] meth c s_m152 := ⟨hx, hb, hml, hown, fun w hw => hts w (List.mem_filter.mp hw).1, hIn, fun z => absurd z (by decide +kernel)⟩
  have hl := lv_entry ([.ref b]) (n := 4) (Nat.le_of_ble_eq_true rfl)
  rw [lg_entry_eq]
  generalize (lg_sl ([.ref b]) ++ List.replicate (4 - (lg_sl ([.ref b])).length) Slot.unset).toArray = ls at hl ⊢
  have hLR : s_LR G ls [.ref 3, s_no, s_no, s_no] := s_LR_ent (G := G) (vs := [.ref 3]) (n := 4) (Nat.le_of_ble_eq_true rfl) hl
  have key := s_body (G := G) (l := l) s_FX f p e room_1 s m #[Value.ref b] below meth c (lw_Z below #[Value.ref b] s) 152 s_m152 none 4 (s_sz s_S (s_h0 L xs).2.2) 0 [.ref 3, s_no, s_no, s_no] [] (s_h0 L xs) (some (.int 1), h1) (by rfl) C hrun (Nat.le_of_ble_eq_true rfl) (Nat.le_of_ble_eq_true rfl) rfl (Nat.le_refl 4) (Nat.le_refl 4) (Nat.le_refl _) ⟨by show _ - 4 ≤ 600000; dsimp only; omega, by show _ ≤ 7302250; dsimp only; omega⟩ ?_ hml.symm s.heap [] ls hW0 va_S.rf hLR
  · rw [show (s_h0 L xs).2.2.length - 4 = 0 from rfl, Nat.sub_self] at key
    exact key
  · intro ri pc2 L2 st2 hdg hrx hlen2 H locs ls2 hW2 hS2 hL2
    have hst : ri = .ireturn ∧ st2 = [.int 1] := by
      unfold s_rx at hrx
      split at hrx
      next heq => cases heq
      next heq => cases heq
      next v heq =>
        split at hrx
        · cases hrx; exact ⟨rfl, rfl⟩
        · cases hrx
      next heq => cases heq
      next heq => cases heq
      next heq => cases heq
      · cases hrx
    obtain ⟨rfl, rfl⟩ := hst
    refine va_forget (fun q hq => hS2.2.2 q hq) ?_
    refine W.widen (k := 600000) (n := 7302250) (by show _ - 4 ≤ _; dsimp only; omega) (by dsimp only; omega) ?_
    exact lw_ret (d0 := s.drawn) hd0 hx hb hr hlocks hdg
end
section
/-! THE LOGIC OF THE SMALL MACHINE -/
theorem s_run_more {MT : sMT} : ∀ (f k pc : Nat) (L st : List Value) (h : sHp) (o : Option Value × sHp), s_run MT f k pc L st h = some o → s_run MT (f + 1) k pc L st h = some o
  | 0, _, _, _, _, _, _, hr => by cases hr
  | f + 1, k, pc, L, st, h, o, hr => by
    unfold s_run at hr ⊢
    split at hr
    · cases hr
    next r hk =>
    try rw [hk]
    try dsimp only
    split at hr
    · cases hr
    next e he =>
    try rw [he]
    try dsimp only
    split at hr
    next q hq =>
      try rw [hq]
      try dsimp only
      split at hr
      · cases hr
      next r2 hk2 =>
      try rw [hk2]
      try dsimp only
      split at hr
      · cases hr
      next hc =>
      try rw [if_neg hc]
      split at hr
      · cases hr
      next o1 h1 =>
      rw [s_run_more f _ _ _ _ _ _ h1]
      try dsimp only
      exact s_run_more f _ _ _ _ _ _ hr
    next hq =>
      try rw [hq]
      try dsimp only
      split at hr
      next v hv =>
        try rw [hv]
        exact hr
      next hv =>
        try rw [hv]
        try dsimp only
        split at hr
        · cases hr
        next c hc =>
          try rw [hc]
          try dsimp only
          exact s_run_more f _ _ _ _ _ _ hr
theorem s_run_le {MT : sMT} {f k pc : Nat} {L st : List Value} {h : sHp} {o : Option Value × sHp} (hr : s_run MT f k pc L st h = some o) : ∀ g : Nat, s_run MT (f + g) k pc L st h = some o
  | 0 => hr
  | g + 1 => s_run_more _ _ _ _ _ _ _ (s_run_le hr g)
/-- from this point of method k the run comes to its end with v and the heap h2 -/
def e_r (k pc : Nat) (ls st : List Value) (h : sHp) (v : Option Value) (h2 : sHp) : Prop := ∃ f : Nat, s_run s_T f k pc ls st h = some (v, h2)
/-- method k at these arguments answers v and leaves h2 -/
def m_r (k : Nat) (as : List Value) (h : sHp) (v : Option Value) (h2 : sHp) : Prop := ∃ (r : sM) (cn : Option Nat), s_T k = some (r, cn) ∧ s_cat as ≤ s_mL r ∧ as.length = s_na r ∧ e_r k 0 (s_ent as (s_mL r)) [] h v h2
def s_go (r : sM) : Nat → Nat → List Value → List Value → sHp → Option sC
  | 0, pc, ls, st, h => some (pc, ls, st, h)
  | n + 1, pc, ls, st, h => match s_at (s_cd r) pc with
    | none => none
    | some e => match s_ci e.2.1 with
      | some _ => none
      | none => match s_rx e.2.1 (s_rt r) st with
        | some _ => none
        | none => match s_x e.2.1 pc e.2.2.1 ls st h with
          | none => none
          | some c => s_go r n c.1 c.2.1 c.2.2.1 c.2.2.2
section LOG
variable {k pc : Nat} {r : sM} {cn : Option Nat} {ls st : List Value} {h h2 : sHp} {v : Option Value}
theorem e_step (hk : s_T k = some (r, cn)) {e : sE} {c : sC} (hat : s_at (s_cd r) pc = some e) (hci : s_ci e.2.1 = none) (hrx : s_rx e.2.1 (s_rt r) st = none) (hx : s_x e.2.1 pc e.2.2.1 ls st h = some c) (kk : e_r k c.1 c.2.1 c.2.2.1 c.2.2.2 v h2) : e_r k pc ls st h v h2 := by
  obtain ⟨f, hf⟩ := kk
  refine ⟨f + 1, ?_⟩
  unfold s_run
  rw [hk]
  dsimp only
  rw [hat]
  dsimp only
  rw [hci]
  dsimp only
  rw [hrx]
  dsimp only
  rw [hx]
  exact hf
theorem e_go (hk : s_T k = some (r, cn)) : ∀ (n : Nat) {pc : Nat} {ls st : List Value} {h : sHp} {c : sC}, s_go r n pc ls st h = some c → e_r k c.1 c.2.1 c.2.2.1 c.2.2.2 v h2 → e_r k pc ls st h v h2
  | 0, pc, ls, st, h, c, hg, kk => by cases hg; exact kk
  | n + 1, pc, ls, st, h, c, hg, kk => by
    unfold s_go at hg
    split at hg
    · cases hg
    next e hat =>
    split at hg
    · cases hg
    next hci =>
    split at hg
    · cases hg
    next hrx =>
    split at hg
    · cases hg
    next c1 hx =>
    exact e_step hk hat hci hrx hx (e_go hk n hg kk)
theorem e_ret (hk : s_T k = some (r, cn)) {e : sE} {w : Option Value} (hat : s_at (s_cd r) pc = some e) (hci : s_ci e.2.1 = none) (hrx : s_rx e.2.1 (s_rt r) st = some w) (hv : w = v) (hh : h = h2) : e_r k pc ls st h v h2 := by
  subst hv; subst hh
  refine ⟨1, ?_⟩
  unfold s_run
  rw [hk]
  dsimp only
  rw [hat]
  dsimp only
  rw [hci]
  dsimp only
  rw [hrx]
theorem e_call (hk : s_T k = some (r, cn)) {e : sE} {q : Nat × Nat} {r2 : sM} {cn2 : Option Nat} {as rest : List Value} {v1 : Option Value} {h1 : sHp} (hat : s_at (s_cd r) pc = some e) (hci : s_ci e.2.1 = some q) (hk2 : s_T q.2 = some (r2, cn2)) (hst : st = as.reverse ++ rest) (hcat : s_cat rest ≤ 8) (hrc : s_rc q.1 cn2 h as = true) (hm : m_r q.2 as h v1 h1) (kk : e_r k (pc + 3) ls (v1.toList ++ rest) h1 v h2) : e_r k pc ls st h v h2 := by
  obtain ⟨r3, cn3, hk3, hc3, hl3, f1, hf1⟩ := hm
  rw [hk2] at hk3
  cases hk3
  obtain ⟨f2, hf2⟩ := kk
  refine ⟨f1 + f2 + 1, ?_⟩
  have e1 : st.take (s_na r2) = as.reverse := by rw [hst, ← hl3, ← List.length_reverse, List.take_left']; rfl
  have e2 : st.drop (s_na r2) = rest := by rw [hst, ← hl3, ← List.length_reverse, List.drop_left']; rfl
  unfold s_run
  rw [hk]
  dsimp only
  rw [hat]
  dsimp only
  rw [hci]
  dsimp only
  rw [hk2]
  dsimp only
  rw [e1, e2, List.reverse_reverse, if_neg (by
    rw [hrc]
    have hlen : st.length = s_na r2 + rest.length := by rw [hst, List.length_append, List.length_reverse, hl3]
    simp only [not_or, Nat.not_lt, Bool.true_eq_false, not_false_eq_true, and_true]
    exact ⟨by omega, hc3, hcat⟩), s_run_le hf1 f2]
  dsimp only
  rw [Nat.add_comm f1 f2]
  exact s_run_le hf2 f1
/-! branches -/
section BRS
variable {a b : Nat} {x y : Int32}
theorem e_eq (kt : x = y → e_r k a ls st h v h2) (kf : ¬ x = y → e_r k b ls st h v h2) : e_r k (if s_cnd .eq x y = true then a else b) ls st h v h2 := by
  by_cases hc : x = y
  · rw [if_pos (by simp [s_cnd, hc])]; exact kt hc
  · rw [if_neg (by simp [s_cnd, hc])]; exact kf hc
theorem e_ne (kt : ¬ x = y → e_r k a ls st h v h2) (kf : x = y → e_r k b ls st h v h2) : e_r k (if s_cnd .ne x y = true then a else b) ls st h v h2 := by
  by_cases hc : x = y
  · rw [if_neg (by simp [s_cnd, hc])]; exact kf hc
  · rw [if_pos (by simp [s_cnd, hc])]; exact kt hc
theorem e_lt (kt : x < y → e_r k a ls st h v h2) (kf : ¬ x < y → e_r k b ls st h v h2) : e_r k (if s_cnd .lt x y = true then a else b) ls st h v h2 := by
  by_cases hc : x < y
  · rw [if_pos (by simp only [s_cnd, decide_eq_true_eq]; exact hc)]; exact kt hc
  · rw [if_neg (by simp only [s_cnd, decide_eq_true_eq]; exact hc)]; exact kf hc
theorem e_ge (kt : y ≤ x → e_r k a ls st h v h2) (kf : ¬ y ≤ x → e_r k b ls st h v h2) : e_r k (if s_cnd .ge x y = true then a else b) ls st h v h2 := by
  by_cases hc : y ≤ x
  · rw [if_pos (by simp only [s_cnd, decide_eq_true_eq]; exact hc)]; exact kt hc
  · rw [if_neg (by simp only [s_cnd, decide_eq_true_eq]; exact hc)]; exact kf hc
theorem e_gt (kt : y < x → e_r k a ls st h v h2) (kf : ¬ y < x → e_r k b ls st h v h2) : e_r k (if s_cnd .gt x y = true then a else b) ls st h v h2 := by
  by_cases hc : y < x
  · rw [if_pos (by simp only [s_cnd, decide_eq_true_eq]; exact hc)]; exact kt hc
  · rw [if_neg (by simp only [s_cnd, decide_eq_true_eq]; exact hc)]; exact kf hc
theorem e_le (kt : x ≤ y → e_r k a ls st h v h2) (kf : ¬ x ≤ y → e_r k b ls st h v h2) : e_r k (if s_cnd .le x y = true then a else b) ls st h v h2 := by
  by_cases hc : x ≤ y
  · rw [if_pos (by simp only [s_cnd, decide_eq_true_eq]; exact hc)]; exact kt hc
  · rw [if_neg (by simp only [s_cnd, decide_eq_true_eq]; exact hc)]; exact kf hc
end BRS
/-! an array's place, named by a number -/
theorem s_outb_nI {j n : Nat} (hj : j < n) (hn : n < 2 ^ 31) : ¬ s_outb (nI j) n = true := by
  unfold s_outb
  have h1 := nI_pos (n := j) (by omega)
  have h2 := nI_clamp (n := j) (by omega)
  simp only [Bool.or_eq_true, decide_eq_true_eq, Nat.ble_eq, not_or]
  exact ⟨h1, by rw [h2]; omega⟩
theorem e_ald (hk : s_T k = some (r, cn)) {e : sE} {rest : List Value} {a j n : Nat} (hat : s_at (s_cd r) pc = some e) (hi : e.2.1 = .iaload) (hs : s_nth h.2.2 a = some (1, n)) (hj : j < n) (hn : n < 2 ^ 31) (kk : e_r k (pc + e.2.2.1) ls (.int (h.1 a j) :: rest) h v h2) : e_r k pc ls (.int (nI j) :: .ref a :: rest) h v h2 := by
  refine e_step (c := (pc + e.2.2.1, ls, .int (h.1 a j) :: rest, h)) hk hat (by rw [hi]; rfl) (by rw [hi]; rfl) ?_ kk
  rw [hi]
  dsimp only [s_x]
  rw [hs]
  show (if s_outb (nI j) n = true then none else some (pc + e.2.2.1, ls, Value.int (h.1 a (nI j).toNatClampNeg) :: rest, h)) = _
  rw [if_neg (s_outb_nI hj hn), nI_clamp (by omega)]
theorem e_ast (hk : s_T k = some (r, cn)) {e : sE} {rest : List Value} {a j n : Nat} {x : Int32} (hat : s_at (s_cd r) pc = some e) (hi : e.2.1 = .iastore) (hs : s_nth h.2.2 a = some (1, n)) (ha : 4 ≤ a) (hj : j < n) (hn : n < 2 ^ 31) (kk : e_r k (pc + e.2.2.1) ls rest (s_upd h.1 a j x, h.2) v h2) : e_r k pc ls (.int x :: .int (nI j) :: .ref a :: rest) h v h2 := by
  refine e_step (c := (pc + e.2.2.1, ls, rest, (s_upd h.1 a j x, h.2))) hk hat (by rw [hi]; rfl) (by rw [hi]; rfl) ?_ kk
  rw [hi]
  dsimp only [s_x]
  rw [hs]
  show (if s_outb (nI j) n = true ∨ a < 4 then none else some (pc + e.2.2.1, ls, rest, (s_upd h.1 a (nI j).toNatClampNeg x, h.2))) = _
  rw [if_neg (by rw [not_or]; exact ⟨s_outb_nI hj hn, by omega⟩), nI_clamp (by omega)]
theorem e_getr (hk : s_T k = some (r, cn)) {e : sE} {rest : List Value} {ev a b : Nat} (hat : s_at (s_cd r) pc = some e) (hi : e.2.1 = .getfield ev) (hs : s_nth h.2.2 a = some (0, ev / 1024)) (hkd : ev % 8 = 2) (hr : h.2.1 a (ev % 1024 / 8) = some b) (kk : e_r k (pc + e.2.2.1) ls (.ref b :: rest) h v h2) : e_r k pc ls (.ref a :: rest) h v h2 := by
  refine e_step (c := (pc + e.2.2.1, ls, .ref b :: rest, h)) hk hat (by rw [hi]; rfl) (by rw [hi]; rfl) ?_ kk
  rw [hi]
  dsimp only [s_x]
  rw [hs]
  show (if ev / 1024 = ev / 1024 then (if ev % 8 = 2 then (match h.2.1 a (ev % 1024 / 8) with | some b => some (pc + e.2.2.1, ls, Value.ref b :: rest, h) | none => some (pc + e.2.2.1, ls, Value.null :: rest, h)) else some (pc + e.2.2.1, ls, Value.int (h.1 a (ev % 1024 / 8)) :: rest, h)) else none) = _
  rw [if_pos rfl, if_pos hkd, hr]
theorem e_geti (hk : s_T k = some (r, cn)) {e : sE} {rest : List Value} {ev a : Nat} (hat : s_at (s_cd r) pc = some e) (hi : e.2.1 = .getfield ev) (hs : s_nth h.2.2 a = some (0, ev / 1024)) (hkd : ¬ ev % 8 = 2) (kk : e_r k (pc + e.2.2.1) ls (.int (h.1 a (ev % 1024 / 8)) :: rest) h v h2) : e_r k pc ls (.ref a :: rest) h v h2 := by
  refine e_step (c := (pc + e.2.2.1, ls, .int (h.1 a (ev % 1024 / 8)) :: rest, h)) hk hat (by rw [hi]; rfl) (by rw [hi]; rfl) ?_ kk
  rw [hi]
  dsimp only [s_x]
  rw [hs]
  show (if ev / 1024 = ev / 1024 then (if ev % 8 = 2 then (match h.2.1 a (ev % 1024 / 8) with | some b => some (pc + e.2.2.1, ls, Value.ref b :: rest, h) | none => some (pc + e.2.2.1, ls, Value.null :: rest, h)) else some (pc + e.2.2.1, ls, Value.int (h.1 a (ev % 1024 / 8)) :: rest, h)) else none) = _
  rw [if_pos rfl, if_neg hkd]
theorem e_puti (hk : s_T k = some (r, cn)) {e : sE} {rest : List Value} {ev a : Nat} {x : Int32} (hat : s_at (s_cd r) pc = some e) (hi : e.2.1 = .putfield ev) (hs : s_nth h.2.2 a = some (0, ev / 1024)) (hkd : ev % 8 = 0) (kk : e_r k (pc + e.2.2.1) ls rest (s_upd h.1 a (ev % 1024 / 8) x, h.2) v h2) : e_r k pc ls (.int x :: .ref a :: rest) h v h2 := by
  refine e_step (c := (pc + e.2.2.1, ls, rest, (s_upd h.1 a (ev % 1024 / 8) x, h.2))) hk hat (by rw [hi]; rfl) (by rw [hi]; rfl) ?_ kk
  rw [hi]
  dsimp only [s_x]
  rw [hs]
  show (if ev / 1024 = ev / 1024 then (if ev % 8 = 0 then some (pc + e.2.2.1, ls, rest, (s_upd h.1 a (ev % 1024 / 8) x, h.2)) else if ev % 8 = 1 then (if x = 0 ∨ x = 1 then some (pc + e.2.2.1, ls, rest, (s_upd h.1 a (ev % 1024 / 8) x, h.2)) else none) else none) else none) = _
  rw [if_pos rfl, if_pos hkd]
theorem e_alen (hk : s_T k = some (r, cn)) {e : sE} {rest : List Value} {a t n : Nat} (hat : s_at (s_cd r) pc = some e) (hi : e.2.1 = .arraylength) (hs : s_nth h.2.2 a = some (t + 1, n)) (kk : e_r k (pc + e.2.2.1) ls (.int (nI n) :: rest) h v h2) : e_r k pc ls (.ref a :: rest) h v h2 := by
  refine e_step (c := (pc + e.2.2.1, ls, .int (nI n) :: rest, h)) hk hat (by rw [hi]; rfl) (by rw [hi]; rfl) ?_ kk
  rw [hi]
  dsimp only [s_x]
  rw [hs]
  rfl
end LOG
theorem m_of {k : Nat} {as : List Value} {h h2 : sHp} {v : Option Value} {r : sM} {cn : Option Nat} {ls : List Value} (hk : s_T k = some (r, cn)) (h1 : Nat.ble (s_cat as) (s_mL r) = true) (h3 : Nat.beq as.length (s_na r) = true) (he : s_ent as (s_mL r) = ls) (kk : e_r k 0 ls [] h v h2) : m_r k as h v h2 := by
  subst he
  exact ⟨r, cn, hk, Nat.le_of_ble_eq_true h1, Nat.eq_of_beq_eq_true h3, kk⟩
end
section
/-! THE HEAP BEHIND THE CONSTRUCTORS, printed by wip/whole/gen/heap.py -/
def s_SH (L : Nat) : List (Nat × Nat) := [(1, 3), (1, 3), (1, 3), (1, L), (0, 6), (0, 5), (0, 3), (1, 3), (0, 3), (1, 60), (0, 3), (1, 60), (0, 3), (1, 60), (0, 3), (1, 60), (0, 3), (1, 60), (0, 0), (7, 6), (0, 5), (0, 3), (1, 3), (0, 3), (1, 60), (0, 3), (1, 60), (0, 3), (1, 60), (0, 3), (1, 60), (0, 3), (1, 60), (0, 5), (0, 3), (1, 3), (0, 3), (1, 60), (0, 3), (1, 60), (0, 3), (1, 60), (0, 3), (1, 60), (0, 3), (1, 60), (0, 5), (0, 3), (1, 3), (0, 3), (1, 60), (0, 3), (1, 60), (0, 3), (1, 60), (0, 3), (1, 60), (0, 3), (1, 60), (0, 5), (0, 3), (1, 3), (0, 3), (1, 60), (0, 3), (1, 60), (0, 3), (1, 60), (0, 3), (1, 60), (0, 3), (1, 60), (0, 5), (0, 3), (1, 3), (0, 3), (1, 60), (0, 3), (1, 60), (0, 3), (1, 60), (0, 3), (1, 60), (0, 3), (1, 60), (0, 5), (0, 3), (1, 3), (0, 3), (1, 60), (0, 3), (1, 60), (0, 3), (1, 60), (0, 3), (1, 60), (0, 3), (1, 60), (6, 2), (0, 2), (0, 3), (1, 80), (0, 1), (0, 4), (0, 5), (0, 3), (1, 3), (0, 3), (1, 60), (0, 3), (1, 60), (0, 3), (1, 60), (0, 3), (1, 60), (0, 3), (1, 60), (0, 4), (0, 5), (0, 3), (1, 3), (0, 3), (1, 60), (0, 3), (1, 60), (0, 3), (1, 60), (0, 3), (1, 60), (0, 3), (1, 60), (0, 7), (1, 308), (1, 308), (1, 1848), (1, 616), (1, 2), (1, 64), (1, 64), (1, 64), (1, 80)]
/-- references that never change -/
def s_RF : List (List Nat) := [[], [], [], [], [5, 18, 98, 99, 102], [6, 8, 10, 12, 14, 16], [7], [], [9], [], [11], [], [13], [], [15], [], [17], [], [19], [], [21, 23, 25, 27, 29, 31], [22], [], [24], [], [26], [], [28], [], [30], [], [32], [], [34, 36, 38, 40, 42, 44], [35], [], [37], [], [39], [], [41], [], [43], [], [45], [], [47, 49, 51, 53, 55, 57], [48], [], [50], [], [52], [], [54], [], [56], [], [58], [], [60, 62, 64, 66, 68, 70], [61], [], [63], [], [65], [], [67], [], [69], [], [71], [], [73, 75, 77, 79, 81, 83], [74], [], [76], [], [78], [], [80], [], [82], [], [84], [], [86, 88, 90, 92, 94, 96], [87], [], [89], [], [91], [], [93], [], [95], [], [97], [], [103, 117], [100], [101], [], [], [104], [105, 107, 109, 111, 113, 115], [106], [], [108], [], [110], [], [112], [], [114], [], [116], [], [118], [119, 121, 123, 125, 127, 129], [120], [], [122], [], [124], [], [126], [], [128], [], [130], [], [132, 133, 134, 0, 135, 136, 137, 138, 139, 140], [], [], [], [], [], [], [], [], []]
/-- all references; P: the trees that the history's states are -/
def s_RR (P : Nat → Nat) : Nat → Nat → Option Nat := fun i j => match Nat.beq i 19 with
  | true => (match Nat.blt j 6 with
    | true => some (P j)
    | false => none)
  | false => (match s_nth s_RF i with
    | some l => (match s_nth l j with
      | some 0 => none
      | x => x)
    | none => none)
abbrev hp (Z : Nat → Nat → Int32) (P : Nat → Nat) (L : Nat) : sHp := (Z, s_RR P, s_SH L)
end
section
/-! Row: at, write, total, greatest, become; printed by wip/whole/gen/row.py -/
theorem hk_0 : s_T 0 = some (s_m0, some 0) := rfl
theorem hk_1 : s_T 1 = some (s_m1, some 0) := rfl
theorem hk_2 : s_T 2 = some (s_m2, some 0) := rfl
theorem hk_3 : s_T 3 = some (s_m3, some 0) := rfl
theorem hk_4 : s_T 4 = some (s_m4, some 0) := rfl
theorem hk_5 : s_T 5 = some (s_m5, some 1) := rfl
theorem hk_6 : s_T 6 = some (s_m6, some 1) := rfl
theorem hk_7 : s_T 7 = some (s_m7, some 1) := rfl
theorem hk_8 : s_T 8 = some (s_m8, some 1) := rfl
theorem hk_9 : s_T 9 = some (s_m9, some 1) := rfl
theorem hk_10 : s_T 10 = some (s_m10, some 1) := rfl
theorem hk_11 : s_T 11 = some (s_m11, some 1) := rfl
theorem hk_12 : s_T 12 = some (s_m12, some 1) := rfl
theorem hk_13 : s_T 13 = some (s_m13, some 1) := rfl
theorem hk_14 : s_T 14 = some (s_m14, some 1) := rfl
theorem hk_15 : s_T 15 = some (s_m15, some 1) := rfl
theorem hk_16 : s_T 16 = some (s_m16, none) := rfl
theorem hk_17 : s_T 17 = some (s_m17, some 2) := rfl
theorem hk_18 : s_T 18 = some (s_m18, none) := rfl
theorem hk_19 : s_T 19 = some (s_m19, some 2) := rfl
theorem hk_20 : s_T 20 = some (s_m20, none) := rfl
theorem hk_21 : s_T 21 = some (s_m21, some 3) := rfl
theorem hk_22 : s_T 22 = some (s_m22, some 3) := rfl
theorem hk_23 : s_T 23 = some (s_m23, some 3) := rfl
theorem hk_24 : s_T 24 = some (s_m24, some 3) := rfl
theorem hk_25 : s_T 25 = some (s_m25, some 3) := rfl
theorem hk_26 : s_T 26 = some (s_m26, some 3) := rfl
theorem hk_27 : s_T 27 = some (s_m27, some 4) := rfl
theorem hk_28 : s_T 28 = some (s_m28, some 5) := rfl
theorem hk_29 : s_T 29 = some (s_m29, some 5) := rfl
theorem hk_30 : s_T 30 = some (s_m30, some 5) := rfl
theorem hk_31 : s_T 31 = some (s_m31, some 5) := rfl
theorem hk_32 : s_T 32 = some (s_m32, some 5) := rfl
theorem hk_33 : s_T 33 = some (s_m33, some 5) := rfl
theorem hk_34 : s_T 34 = some (s_m34, some 5) := rfl
theorem hk_35 : s_T 35 = some (s_m35, some 5) := rfl
theorem hk_36 : s_T 36 = some (s_m36, some 5) := rfl
theorem hk_37 : s_T 37 = some (s_m37, some 5) := rfl
theorem hk_38 : s_T 38 = some (s_m38, some 5) := rfl
theorem hk_39 : s_T 39 = some (s_m39, some 5) := rfl
theorem hk_40 : s_T 40 = some (s_m40, some 5) := rfl
theorem hk_41 : s_T 41 = some (s_m41, some 5) := rfl
theorem hk_42 : s_T 42 = some (s_m42, some 5) := rfl
theorem hk_43 : s_T 43 = some (s_m43, some 5) := rfl
theorem hk_44 : s_T 44 = some (s_m44, some 5) := rfl
theorem hk_45 : s_T 45 = some (s_m45, some 5) := rfl
theorem hk_46 : s_T 46 = some (s_m46, some 5) := rfl
theorem hk_47 : s_T 47 = some (s_m47, some 5) := rfl
theorem hk_48 : s_T 48 = some (s_m48, some 5) := rfl
theorem hk_49 : s_T 49 = some (s_m49, some 5) := rfl
theorem hk_50 : s_T 50 = some (s_m50, some 5) := rfl
theorem hk_51 : s_T 51 = some (s_m51, some 5) := rfl
theorem hk_52 : s_T 52 = some (s_m52, some 5) := rfl
theorem hk_53 : s_T 53 = some (s_m53, some 5) := rfl
theorem hk_54 : s_T 54 = some (s_m54, some 5) := rfl
theorem hk_55 : s_T 55 = some (s_m55, none) := rfl
theorem hk_56 : s_T 56 = some (s_m56, some 6) := rfl
theorem hk_57 : s_T 57 = some (s_m57, some 6) := rfl
theorem hk_58 : s_T 58 = some (s_m58, some 6) := rfl
theorem hk_59 : s_T 59 = some (s_m59, some 6) := rfl
theorem hk_60 : s_T 60 = some (s_m60, some 6) := rfl
theorem hk_61 : s_T 61 = some (s_m61, some 6) := rfl
theorem hk_62 : s_T 62 = some (s_m62, some 6) := rfl
theorem hk_63 : s_T 63 = some (s_m63, some 6) := rfl
theorem hk_64 : s_T 64 = some (s_m64, some 6) := rfl
theorem hk_65 : s_T 65 = some (s_m65, some 6) := rfl
theorem hk_66 : s_T 66 = some (s_m66, some 6) := rfl
theorem hk_67 : s_T 67 = some (s_m67, some 6) := rfl
theorem hk_68 : s_T 68 = some (s_m68, some 6) := rfl
theorem hk_69 : s_T 69 = some (s_m69, some 6) := rfl
theorem hk_70 : s_T 70 = some (s_m70, some 6) := rfl
theorem hk_71 : s_T 71 = some (s_m71, some 6) := rfl
theorem hk_72 : s_T 72 = some (s_m72, some 6) := rfl
theorem hk_73 : s_T 73 = some (s_m73, some 6) := rfl
theorem hk_74 : s_T 74 = some (s_m74, some 6) := rfl
theorem hk_75 : s_T 75 = some (s_m75, some 6) := rfl
theorem hk_76 : s_T 76 = some (s_m76, some 6) := rfl
theorem hk_77 : s_T 77 = some (s_m77, some 6) := rfl
theorem hk_78 : s_T 78 = some (s_m78, some 6) := rfl
theorem hk_79 : s_T 79 = some (s_m79, none) := rfl
theorem hk_80 : s_T 80 = some (s_m80, none) := rfl
theorem hk_81 : s_T 81 = some (s_m81, some 6) := rfl
theorem hk_82 : s_T 82 = some (s_m82, some 6) := rfl
theorem hk_83 : s_T 83 = some (s_m83, some 6) := rfl
theorem hk_84 : s_T 84 = some (s_m84, some 6) := rfl
theorem hk_85 : s_T 85 = some (s_m85, some 6) := rfl
theorem hk_86 : s_T 86 = some (s_m86, some 6) := rfl
theorem hk_87 : s_T 87 = some (s_m87, none) := rfl
theorem hk_88 : s_T 88 = some (s_m88, none) := rfl
theorem hk_89 : s_T 89 = some (s_m89, some 7) := rfl
theorem hk_90 : s_T 90 = some (s_m90, none) := rfl
theorem hk_91 : s_T 91 = some (s_m91, some 7) := rfl
theorem hk_92 : s_T 92 = some (s_m92, some 7) := rfl
theorem hk_93 : s_T 93 = some (s_m93, some 7) := rfl
theorem hk_94 : s_T 94 = some (s_m94, none) := rfl
theorem hk_95 : s_T 95 = some (s_m95, some 7) := rfl
theorem hk_96 : s_T 96 = some (s_m96, some 7) := rfl
theorem hk_97 : s_T 97 = some (s_m97, some 7) := rfl
theorem hk_98 : s_T 98 = some (s_m98, some 7) := rfl
theorem hk_99 : s_T 99 = some (s_m99, some 7) := rfl
theorem hk_100 : s_T 100 = some (s_m100, some 7) := rfl
theorem hk_101 : s_T 101 = some (s_m101, some 7) := rfl
theorem hk_102 : s_T 102 = some (s_m102, some 7) := rfl
theorem hk_103 : s_T 103 = some (s_m103, some 7) := rfl
theorem hk_104 : s_T 104 = some (s_m104, some 7) := rfl
theorem hk_105 : s_T 105 = some (s_m105, some 7) := rfl
theorem hk_106 : s_T 106 = some (s_m106, some 7) := rfl
theorem hk_107 : s_T 107 = some (s_m107, some 7) := rfl
theorem hk_108 : s_T 108 = some (s_m108, some 7) := rfl
theorem hk_109 : s_T 109 = some (s_m109, some 7) := rfl
theorem hk_110 : s_T 110 = some (s_m110, some 7) := rfl
theorem hk_111 : s_T 111 = some (s_m111, some 7) := rfl
theorem hk_112 : s_T 112 = some (s_m112, some 7) := rfl
theorem hk_113 : s_T 113 = some (s_m113, some 7) := rfl
theorem hk_114 : s_T 114 = some (s_m114, some 7) := rfl
theorem hk_115 : s_T 115 = some (s_m115, some 7) := rfl
theorem hk_116 : s_T 116 = some (s_m116, some 7) := rfl
theorem hk_117 : s_T 117 = some (s_m117, some 7) := rfl
theorem hk_118 : s_T 118 = some (s_m118, some 7) := rfl
theorem hk_119 : s_T 119 = some (s_m119, some 7) := rfl
theorem hk_120 : s_T 120 = some (s_m120, some 7) := rfl
theorem hk_121 : s_T 121 = some (s_m121, some 7) := rfl
theorem hk_122 : s_T 122 = some (s_m122, some 7) := rfl
theorem hk_123 : s_T 123 = some (s_m123, some 7) := rfl
theorem hk_124 : s_T 124 = some (s_m124, some 7) := rfl
theorem hk_125 : s_T 125 = some (s_m125, some 7) := rfl
theorem hk_126 : s_T 126 = some (s_m126, some 7) := rfl
theorem hk_127 : s_T 127 = some (s_m127, some 7) := rfl
theorem hk_128 : s_T 128 = some (s_m128, some 7) := rfl
theorem hk_129 : s_T 129 = some (s_m129, some 7) := rfl
theorem hk_130 : s_T 130 = some (s_m130, some 7) := rfl
theorem hk_131 : s_T 131 = some (s_m131, some 7) := rfl
theorem hk_132 : s_T 132 = some (s_m132, some 7) := rfl
theorem hk_133 : s_T 133 = some (s_m133, some 7) := rfl
theorem hk_134 : s_T 134 = some (s_m134, some 7) := rfl
theorem hk_135 : s_T 135 = some (s_m135, some 7) := rfl
theorem hk_136 : s_T 136 = some (s_m136, some 7) := rfl
theorem hk_137 : s_T 137 = some (s_m137, some 7) := rfl
theorem hk_138 : s_T 138 = some (s_m138, some 7) := rfl
theorem hk_139 : s_T 139 = some (s_m139, some 7) := rfl
theorem hk_140 : s_T 140 = some (s_m140, some 7) := rfl
theorem hk_141 : s_T 141 = some (s_m141, some 7) := rfl
theorem hk_142 : s_T 142 = some (s_m142, some 7) := rfl
theorem hk_143 : s_T 143 = some (s_m143, some 7) := rfl
theorem hk_144 : s_T 144 = some (s_m144, some 7) := rfl
theorem hk_145 : s_T 145 = some (s_m145, some 7) := rfl
theorem hk_146 : s_T 146 = some (s_m146, some 7) := rfl
theorem hk_147 : s_T 147 = some (s_m147, some 7) := rfl
theorem hk_148 : s_T 148 = some (s_m148, some 7) := rfl
theorem hk_149 : s_T 149 = some (s_m149, some 7) := rfl
theorem hk_150 : s_T 150 = some (s_m150, some 7) := rfl
theorem hk_151 : s_T 151 = some (s_m151, some 7) := rfl
theorem hk_152 : s_T 152 = some (s_m152, none) := rfl
theorem hk_153 : s_T 153 = some (s_m153, none) := rfl
theorem hk_154 : s_T 154 = some (s_m154, none) := rfl
theorem hk_155 : s_T 155 = some (s_m155, none) := rfl
theorem hk_156 : s_T 156 = some (s_m156, none) := rfl
theorem s_rc_of {c r : Nat} {h : sHp} {as : List Value} (h1 : s_nth h.2.2 r = some (0, c)) : s_rc 0 (some c) h (.ref r :: as) = true := by
  simp only [s_rc, h1]
  exact Nat.beq_refl c
theorem y_m1 {u : Nat} (hu : u < 2 ^ 31) : (nI u - 1).toInt = (u : Int) - 1 := by
  cases u with
  | zero => decide
  | succ k => rw [nI_pred, nI_toInt (by omega)]; omega
theorem y_m1lt {u i : Nat} (hu : u < 2 ^ 31) (hi : i < 2 ^ 31) : nI u - 1 < nI i ↔ u ≤ i := by
  rw [Int32.lt_iff_toInt_lt, y_m1 hu, nI_toInt hi]
  omega
theorem y_lt {a b : Nat} (ha : a < 2 ^ 31) (hb : b < 2 ^ 31) : nI a < nI b ↔ a < b := nI_ltI ha hb
theorem y_le {a b : Nat} (ha : a < 2 ^ 31) (hb : b < 2 ^ 31) : nI a ≤ nI b ↔ a ≤ b := nI_leI ha hb
def t_sm (f : Nat → Int32) : Nat → Nat → Int32 → Int32
  | _, 0, acc => acc
  | i, k + 1, acc => t_sm f (i + 1) k (acc + f i)
def t_mx (f : Nat → Int32) : Nat → Nat → Int32 → Int32
  | _, 0, acc => acc
  | i, k + 1, acc => t_mx f (i + 1) k (if acc < f i then f i else acc)
theorem x_at {r a n : Nat} {h : sHp} (h1 : s_nth h.2.2 r = some (0, 3)) (h2 : h.2.1 r 0 = some a) (h3 : s_nth h.2.2 a = some (1, n)) (hn : n < 2 ^ 31) {j : Nat} (hj : j < n) : m_r 22 [.ref r, .int (nI j)] h (some (.int (h.1 a j))) h := by
  refine m_of (ls := [.ref r, .int (nI j)]) hk_22 rfl rfl rfl ?_
  refine e_go hk_22 2 (c := (if s_cnd .lt (nI j) 0 = true then 22 else 4, [.ref r, .int (nI j)], [], h)) rfl ?_
  refine e_lt (a := 22) (b := 4) (x := nI j) (y := 0) (fun hc1 => absurd hc1 (nI_pos (by omega))) (fun hc1 => ?_)
  refine e_go hk_22 2 (c := (6, [.ref r, .int (nI j)], [.ref r, .int (nI j)], h)) rfl ?_
  refine e_getr hk_22 (ev := 3074) (b := a) rfl rfl h1 rfl h2 ?_
  show e_r 22 9 [.ref r, .int (nI j)] [.ref a, .int (nI j)] h _ _
  refine e_alen hk_22 rfl rfl h3 ?_
  show e_r 22 10 [.ref r, .int (nI j)] [.int (nI n), .int (nI j)] h _ _
  refine e_go hk_22 1 (c := (if s_cnd .ge (nI j) (nI n) = true then 22 else 13, [.ref r, .int (nI j)], [], h)) rfl ?_
  refine e_ge (a := 22) (b := 13) (x := nI j) (y := nI n) (fun hc10 => absurd hc10 (nI_ge hj hn)) (fun hc10 => ?_)
  refine e_go hk_22 1 (c := (14, [.ref r, .int (nI j)], [.ref r], h)) rfl ?_
  refine e_getr hk_22 (ev := 3074) (b := a) rfl rfl h1 rfl h2 ?_
  show e_r 22 17 [.ref r, .int (nI j)] [.ref a] h _ _
  refine e_go hk_22 1 (c := (18, [.ref r, .int (nI j)], [.int (nI j), .ref a], h)) rfl ?_
  refine e_ald hk_22 (a := a) (j := j) (n := n) rfl rfl h3 hj hn ?_
  show e_r 22 19 [.ref r, .int (nI j)] [.int (h.1 a j)] h _ _
  refine e_go hk_22 1 (c := (23, [.ref r, .int (nI j)], [.int (h.1 a j)], h)) rfl ?_
  exact e_ret hk_22 rfl rfl rfl rfl rfl

theorem x_write {r a n : Nat} {h : sHp} (h1 : s_nth h.2.2 r = some (0, 3)) (h2 : h.2.1 r 0 = some a) (h3 : s_nth h.2.2 a = some (1, n)) (hn : n < 2 ^ 31) {j : Nat} {x : Int32} (h4 : 4 ≤ a) (hj : j < n) : m_r 23 [.ref r, .int (nI j), .int x] h none (s_upd h.1 a j x, h.2) := by
  refine m_of (ls := [.ref r, .int (nI j), .int x]) hk_23 rfl rfl rfl ?_
  refine e_go hk_23 2 (c := (if s_cnd .lt (nI j) 0 = true then 20 else 4, [.ref r, .int (nI j), .int x], [], h)) rfl ?_
  refine e_lt (a := 20) (b := 4) (x := nI j) (y := 0) (fun hc1 => absurd hc1 (nI_pos (by omega))) (fun hc1 => ?_)
  refine e_go hk_23 2 (c := (6, [.ref r, .int (nI j), .int x], [.ref r, .int (nI j)], h)) rfl ?_
  refine e_getr hk_23 (ev := 3074) (b := a) rfl rfl h1 rfl h2 ?_
  show e_r 23 9 [.ref r, .int (nI j), .int x] [.ref a, .int (nI j)] h _ _
  refine e_alen hk_23 rfl rfl h3 ?_
  show e_r 23 10 [.ref r, .int (nI j), .int x] [.int (nI n), .int (nI j)] h _ _
  refine e_go hk_23 1 (c := (if s_cnd .ge (nI j) (nI n) = true then 20 else 13, [.ref r, .int (nI j), .int x], [], h)) rfl ?_
  refine e_ge (a := 20) (b := 13) (x := nI j) (y := nI n) (fun hc10 => absurd hc10 (nI_ge hj hn)) (fun hc10 => ?_)
  refine e_go hk_23 1 (c := (14, [.ref r, .int (nI j), .int x], [.ref r], h)) rfl ?_
  refine e_getr hk_23 (ev := 3074) (b := a) rfl rfl h1 rfl h2 ?_
  show e_r 23 17 [.ref r, .int (nI j), .int x] [.ref a] h _ _
  refine e_go hk_23 2 (c := (19, [.ref r, .int (nI j), .int x], [.int x, .int (nI j), .ref a], h)) rfl ?_
  refine e_ast hk_23 (a := a) (j := j) (n := n) rfl rfl h3 h4 hj hn ?_
  show e_r 23 20 [.ref r, .int (nI j), .int x] [] ((s_upd h.1 a j x, h.2)) _ _
  exact e_ret hk_23 rfl rfl rfl rfl rfl

theorem x_total_l {r a n : Nat} {h : sHp} (h1 : s_nth h.2.2 r = some (0, 3)) (h2 : h.2.1 r 0 = some a) (h3 : s_nth h.2.2 a = some (1, n)) (hn : n < 2 ^ 31) {u : Nat} {low : Int32} (hu : u ≤ n) : ∀ (k i : Nat) (acc : Int32), i + k = u → e_r 25 5 [.ref r, .int low, .int (nI u - 1), .int acc, .int (nI i)] [] h (some (.int (t_sm (h.1 a) i k acc))) h
  | 0, i, acc, hi => by
    refine e_go hk_25 3 (c := (if s_cnd .gt (nI i) (nI u - 1) = true then 36 else 11, [.ref r, .int low, .int (nI u - 1), .int acc, .int (nI i)], [], h)) rfl ?_
    refine e_gt (a := 36) (b := 11) (x := nI i) (y := nI u - 1) (fun hc8 => ?_) (fun hc8 => absurd ((y_m1lt (by omega) (by omega)).mpr (by omega)) hc8)
    refine e_go hk_25 1 (c := (37, [.ref r, .int low, .int (nI u - 1), .int acc, .int (nI i)], [.int acc], h)) rfl ?_
    exact e_ret hk_25 rfl rfl rfl rfl rfl
  | k + 1, i, acc, hi => by
    refine e_go hk_25 3 (c := (if s_cnd .gt (nI i) (nI u - 1) = true then 36 else 11, [.ref r, .int low, .int (nI u - 1), .int acc, .int (nI i)], [], h)) rfl ?_
    refine e_gt (a := 36) (b := 11) (x := nI i) (y := nI u - 1) (fun hc8 => absurd hc8 (fun z => absurd ((y_m1lt (by omega) (by omega)).mp z) (by omega))) (fun hc8 => ?_)
    refine e_go hk_25 2 (c := (14, [.ref r, .int low, .int (nI u - 1), .int acc, .int (nI i)], [.ref r, .int (nI i)], h)) rfl ?_
    refine e_getr hk_25 (ev := 3074) (b := a) rfl rfl h1 rfl h2 ?_
    show e_r 25 17 [.ref r, .int low, .int (nI u - 1), .int acc, .int (nI i)] [.ref a, .int (nI i)] h _ _
    refine e_alen hk_25 rfl rfl h3 ?_
    show e_r 25 18 [.ref r, .int low, .int (nI u - 1), .int acc, .int (nI i)] [.int (nI n), .int (nI i)] h _ _
    refine e_go hk_25 1 (c := (if s_cnd .ge (nI i) (nI n) = true then 36 else 21, [.ref r, .int low, .int (nI u - 1), .int acc, .int (nI i)], [], h)) rfl ?_
    refine e_ge (a := 36) (b := 21) (x := nI i) (y := nI n) (fun hc18 => absurd hc18 (nI_ge (by omega) hn)) (fun hc18 => ?_)
    refine e_go hk_25 3 (c := (25, [.ref r, .int low, .int (nI u - 1), .int acc, .int (nI i)], [.int (nI i), .ref r, .int acc], h)) rfl ?_
    refine e_call hk_25 (as := [.ref r, .int (nI i)]) (rest := [.int acc]) rfl rfl hk_22 rfl (Nat.le_of_ble_eq_true rfl) (s_rc_of h1) (x_at h1 h2 h3 hn (j := i) (by omega)) ?_
    show e_r 25 28 [.ref r, .int low, .int (nI u - 1), .int acc, .int (nI i)] [.int (h.1 a i), .int acc] h _ _
    refine e_go hk_25 4 (c := (5, [.ref r, .int low, .int (nI u - 1), .int (acc + (h.1 a i)), .int ((nI i) + 1)], [], h)) rfl ?_
    rw [nI_1]
    exact x_total_l h1 h2 h3 hn hu k (i + 1) _ (by omega)

theorem x_total {r a n : Nat} {h : sHp} (h1 : s_nth h.2.2 r = some (0, 3)) (h2 : h.2.1 r 0 = some a) (h3 : s_nth h.2.2 a = some (1, n)) (hn : n < 2 ^ 31) {l u : Nat} (hl : l ≤ u) (hu : u ≤ n) : m_r 25 [.ref r, .int (nI l), .int (nI u - 1)] h (some (.int (t_sm (h.1 a) l (u - l) 0))) h := by
  refine m_of (ls := [.ref r, .int (nI l), .int (nI u - 1), s_no, s_no]) hk_25 rfl rfl rfl ?_
  refine e_go hk_25 4 (c := (5, [.ref r, .int (nI l), .int (nI u - 1), .int 0, .int (nI l)], [], h)) rfl ?_
  exact x_total_l h1 h2 h3 hn hu (u - l) l 0 (by omega)

theorem x_great_l {r a n : Nat} {h : sHp} (h1 : s_nth h.2.2 r = some (0, 3)) (h2 : h.2.1 r 0 = some a) (h3 : s_nth h.2.2 a = some (1, n)) (hn : n < 2 ^ 31) {u : Nat} {low : Int32} (hu : u ≤ n) : ∀ (k i : Nat) (acc : Int32), i + k = u → e_r 26 9 [.ref r, .int low, .int (nI u - 1), .int acc, .int (nI i)] [] h (some (.int (t_mx (h.1 a) i k acc))) h
  | 0, i, acc, hi => by
    refine e_go hk_26 3 (c := (if s_cnd .gt (nI i) (nI u - 1) = true then 42 else 15, [.ref r, .int low, .int (nI u - 1), .int acc, .int (nI i)], [], h)) rfl ?_
    refine e_gt (a := 42) (b := 15) (x := nI i) (y := nI u - 1) (fun hc12 => ?_) (fun hc12 => absurd ((y_m1lt (by omega) (by omega)).mpr (by omega)) hc12)
    refine e_go hk_26 1 (c := (43, [.ref r, .int low, .int (nI u - 1), .int acc, .int (nI i)], [.int acc], h)) rfl ?_
    exact e_ret hk_26 rfl rfl rfl rfl rfl
  | k + 1, i, acc, hi => by
    refine e_go hk_26 3 (c := (if s_cnd .gt (nI i) (nI u - 1) = true then 42 else 15, [.ref r, .int low, .int (nI u - 1), .int acc, .int (nI i)], [], h)) rfl ?_
    refine e_gt (a := 42) (b := 15) (x := nI i) (y := nI u - 1) (fun hc12 => absurd hc12 (fun z => absurd ((y_m1lt (by omega) (by omega)).mp z) (by omega))) (fun hc12 => ?_)
    refine e_go hk_26 2 (c := (18, [.ref r, .int low, .int (nI u - 1), .int acc, .int (nI i)], [.ref r, .int (nI i)], h)) rfl ?_
    refine e_getr hk_26 (ev := 3074) (b := a) rfl rfl h1 rfl h2 ?_
    show e_r 26 21 [.ref r, .int low, .int (nI u - 1), .int acc, .int (nI i)] [.ref a, .int (nI i)] h _ _
    refine e_alen hk_26 rfl rfl h3 ?_
    show e_r 26 22 [.ref r, .int low, .int (nI u - 1), .int acc, .int (nI i)] [.int (nI n), .int (nI i)] h _ _
    refine e_go hk_26 1 (c := (if s_cnd .ge (nI i) (nI n) = true then 42 else 25, [.ref r, .int low, .int (nI u - 1), .int acc, .int (nI i)], [], h)) rfl ?_
    refine e_ge (a := 42) (b := 25) (x := nI i) (y := nI n) (fun hc22 => absurd hc22 (nI_ge (by omega) hn)) (fun hc22 => ?_)
    refine e_go hk_26 3 (c := (29, [.ref r, .int low, .int (nI u - 1), .int acc, .int (nI i)], [.int (nI i), .ref r, .int acc], h)) rfl ?_
    refine e_call hk_26 (as := [.ref r, .int (nI i)]) (rest := [.int acc]) rfl rfl hk_22 rfl (Nat.le_of_ble_eq_true rfl) (s_rc_of h1) (x_at h1 h2 h3 hn (j := i) (by omega)) ?_
    show e_r 26 32 [.ref r, .int low, .int (nI u - 1), .int acc, .int (nI i)] [.int (h.1 a i), .int acc] h _ _
    refine e_go hk_26 4 (c := (9, [.ref r, .int low, .int (nI u - 1), .int (if acc < h.1 a i then h.1 a i else acc), .int ((nI i) + 1)], [], h)) rfl ?_
    rw [nI_1]
    exact x_great_l h1 h2 h3 hn hu k (i + 1) _ (by omega)

theorem x_great {r a n : Nat} {h : sHp} (h1 : s_nth h.2.2 r = some (0, 3)) (h2 : h.2.1 r 0 = some a) (h3 : s_nth h.2.2 a = some (1, n)) (hn : n < 2 ^ 31) {l u : Nat} (hl : l < u) (hu : u ≤ n) : m_r 26 [.ref r, .int (nI l), .int (nI u - 1)] h (some (.int (t_mx (h.1 a) l (u - l) (h.1 a l)))) h := by
  refine m_of (ls := [.ref r, .int (nI l), .int (nI u - 1), s_no, s_no]) hk_26 rfl rfl rfl ?_
  refine e_go hk_26 2 (c := (2, [.ref r, .int (nI l), .int (nI u - 1), s_no, s_no], [.int (nI l), .ref r], h)) rfl ?_
  refine e_call hk_26 (as := [.ref r, .int (nI l)]) (rest := []) rfl rfl hk_22 rfl (Nat.le_of_ble_eq_true rfl) (s_rc_of h1) (x_at h1 h2 h3 hn (j := l) (by omega)) ?_
  show e_r 26 5 [.ref r, .int (nI l), .int (nI u - 1), s_no, s_no] [.int (h.1 a l)] h _ _
  refine e_go hk_26 3 (c := (9, [.ref r, .int (nI l), .int (nI u - 1), .int (h.1 a l), .int (nI l)], [], h)) rfl ?_
  exact x_great_l h1 h2 h3 hn hu (u - l) l _ (by omega)
end
section
/-! Tree: what reads it; printed by wip/whole/gen/tree1.py -/
def y_b (c : Bool) : Int32 := if c = true then 1 else 0
theorem y_b0 {c : Bool} : y_b c = 0 ↔ c = false := by cases c <;> decide
theorem y_b1 {c : Bool} : ¬ y_b c = 0 ↔ c = true := by cases c <;> decide
theorem y_bt : y_b true = 1 := rfl
theorem y_bf : y_b false = 0 := rfl
/-- a place, or NONE -/
def y_o : Option Nat → Int32
  | some j => nI j
  | none => -6
theorem y_o_none {q : Option Nat} (h : ∀ j, q = some j → j < 2 ^ 31) : y_o q = -6 ↔ q = none := by
  cases q with
  | none => simp [y_o]
  | some j =>
    have hj := h j rfl
    simp only [y_o, reduceCtorEq, iff_false]
    intro e
    have h2 := congrArg Int32.toInt e
    rw [nI_toInt hj] at h2
    have h3 : (-6 : Int32).toInt = -6 := by decide
    omega
theorem y_m1le {u i : Nat} (hu : u < 2 ^ 31) (hi : i < 2 ^ 31) : nI u - 1 ≤ nI i ↔ u ≤ i + 1 := by
  rw [Int32.le_iff_toInt_le, y_m1 hu, nI_toInt hi]
  omega
theorem y_m1s {u : Nat} (hu : 0 < u) : nI u - 1 = nI (u - 1) := by
  cases u with
  | zero => omega
  | succ k => exact nI_pred k
theorem y_le0 {i : Nat} (hi : i < 2 ^ 31) : nI i ≤ 0 ↔ i = 0 := by
  rw [show (0 : Int32) = nI 0 from rfl, nI_leI hi (by decide)]
  omega
def t_pl (K : Nat → Int32) (key : Int32) : Nat → Nat → Nat
  | i, 0 => i
  | i, k + 1 => if K i < key then t_pl K key (i + 1) k else i
theorem t_pl_le (K : Nat → Int32) (key : Int32) : ∀ k i, i ≤ t_pl K key i k ∧ t_pl K key i k ≤ i + k
  | 0, i => ⟨Nat.le_refl _, Nat.le_refl _⟩
  | k + 1, i => by
    unfold t_pl
    have := t_pl_le K key k (i + 1)
    split <;> omega
def t_nd (K : Nat → Int32) (n : Nat) (key : Int32) : Option Nat := if t_pl K key 0 n < n ∧ K (t_pl K key 0 n) = key then some (t_pl K key 0 n) else none
theorem t_nd_lt {K : Nat → Int32} {n : Nat} {key : Int32} {j : Nat} (h : t_nd K n key = some j) : j < n ∧ K j = key := by
  unfold t_nd at h
  split at h
  next h1 => cases h; exact h1
  · cases h
def t_fn (K F : Nat → Int32) (n : Nat) (key : Int32) : Option Nat := match t_nd K n key with
  | some j => if F j = 1 then some j else none
  | none => none
theorem t_fn_lt {K F : Nat → Int32} {n : Nat} {key : Int32} {j : Nat} (h : t_fn K F n key = some j) : j < n ∧ K j = key ∧ F j = 1 := by
  unfold t_fn at h
  split at h
  next i hi =>
    split at h
    next hf => cases h; exact ⟨(t_nd_lt hi).1, (t_nd_lt hi).2, hf⟩
    · cases h
  · cases h
/-- the place of the k-th full node: from i, m places left, a full ones behind -/
def t_kt (F : Nat → Int32) (k : Int32) : Nat → Nat → Int32 → Option Nat
  | _, 0, _ => none
  | i, m + 1, a => if F i = 1 then (if a = k then some i else t_kt F k (i + 1) m (a + 1)) else t_kt F k (i + 1) m a
def t_lo (D : Nat → Int32) (d : Int32) : Nat → Nat
  | 0 => 0
  | i + 1 => if D i ≤ d then i + 1 else t_lo D d i
theorem t_lo_le (D : Nat → Int32) (d : Int32) : ∀ i, t_lo D d i ≤ i
  | 0 => Nat.le_refl _
  | i + 1 => by
    unfold t_lo
    have := t_lo_le D d i
    split <;> omega
def t_hi (D : Nat → Int32) (d : Int32) : Nat → Nat → Nat
  | i, 0 => i
  | i, k + 1 => if D (i + 1) ≤ d then i else t_hi D d (i + 1) k
theorem t_hi_le (D : Nat → Int32) (d : Int32) : ∀ k i, i ≤ t_hi D d i k ∧ t_hi D d i k ≤ i + k
  | 0, i => ⟨Nat.le_refl _, Nat.le_refl _⟩
  | k + 1, i => by
    unfold t_hi
    have := t_hi_le D d k (i + 1)
    split <;> omega
def t_tp (D : Nat → Int32) (d : Int32) : Nat → Nat → Nat
  | i, 0 => i
  | i, k + 1 => if D i = d then i else t_tp D d (i + 1) k
theorem t_tp_le (D : Nat → Int32) (d : Int32) : ∀ k i, i ≤ t_tp D d i k ∧ t_tp D d i k ≤ i + k
  | 0, i => ⟨Nat.le_refl _, Nat.le_refl _⟩
  | k + 1, i => by
    unfold t_tp
    have := t_tp_le D d k (i + 1)
    split <;> omega
/-- too heavy: with so many to the left and to the right -/
def y_th (lean l r : Int32) : Bool := decide (lean * (l + r + 1) < 100 * (if l < r then r else l))
/-- the first and the last place of what lies from a node downwards -/
abbrev t_L (Z : Nat → Nat → Int32) (j : Nat) : Nat := t_lo (Z 15) (Z 15 j) j
abbrev t_H (Z : Nat → Nat → Int32) (n j : Nat) : Nat := t_hi (Z 15) (Z 15 j) j (n - 1 - j)
def t_ln (Z : Nat → Nat → Int32) (n j : Nat) : Bool := y_th (Z 7 0) (nI j - nI (t_L Z j)) (nI (t_H Z n j) - nI j)
def t_lnc (Z : Nat → Nat → Int32) (n : Nat) : Nat → Nat → Int32 → Int32
  | _, 0, acc => acc
  | i, k + 1, acc => t_lnc Z n (i + 1) k (acc + y_b (t_ln Z n i))
/-- the way of a new node at place p: the first node that would lean -/
def t_wl (D : Nat → Int32) (lean : Int32) (p : Nat) : Nat → Nat → Nat → Nat → Option Nat
  | 0, _, _, _ => none
  | k + 1, d, l, u => if u ≤ l then none else
    let t := t_tp D (nI d) l (u - 1 - l)
    if p ≤ t then (if y_th lean (nI t - nI l + 1) (nI (u - 1) - nI t) = true then some t else t_wl D lean p k (d + 1) l t)
    else (if y_th lean (nI t - nI l) (nI (u - 1) - nI t + 1) = true then some t else t_wl D lean p k (d + 1) (t + 1) u)
theorem t_wl_lt {D : Nat → Int32} {lean : Int32} {p n : Nat} : ∀ {k d l u j : Nat}, u ≤ n → t_wl D lean p k d l u = some j → j < n
  | 0, d, l, u, j, hu, h => by cases h
  | k + 1, d, l, u, j, hu, h => by
    unfold t_wl at h
    split at h
    · cases h
    next hlu =>
    have ht := t_tp_le D (nI d) (u - 1 - l) l
    dsimp only at h
    split at h
    · split at h
      · cases h; omega
      · exact t_wl_lt (by omega) h
    · split at h
      · cases h; omega
      · exact t_wl_lt hu h
def t_cs (Z : Nat → Nat → Int32) (n : Nat) (key : Int32) : Int32 := match t_nd (Z 9) n key with
  | some _ => 0
  | none => match t_wl (Z 15) (Z 7 0) (t_pl (Z 9) key 0 n) 60 0 0 n with
    | none => 0
    | some j => nI (t_H Z n j) - nI (t_L Z j) + 2
def t_rm (Z : Nat → Nat → Int32) (n : Nat) (key : Int32) : Bool := decide (n < 60) || (t_nd (Z 9) n key).isSome
theorem x_place_l {Z : Nat → Nat → Int32} {P : Nat → Nat} {L n : Nat} (hN : Z 5 6 = nI n) (hn : n ≤ 60) {key : Int32} : ∀ (k i : Nat), i + k = n → e_r 30 2 [.ref 5, .int key, .int (nI i)] [] (hp Z P L) (some (.int (nI (t_pl (Z 9) key i k)))) (hp Z P L)
  | 0, i, hi => by
    refine e_go hk_30 4 (c := (if s_cnd .ge (nI i) (Z 5 6) = true then 28 else 10, [.ref 5, .int key, .int (nI i)], [], hp Z P L)) rfl ?_
    refine e_ge (a := 28) (b := 10) (x := nI i) (y := Z 5 6) (fun hc7 => ?_) (fun hc7 => absurd (by rw [hN]; exact (y_le (by omega) (by omega)).mpr (by omega)) hc7)
    refine e_go hk_30 1 (c := (29, [.ref 5, .int key, .int (nI i)], [.int (nI i)], hp Z P L)) rfl ?_
    exact e_ret hk_30 rfl rfl rfl rfl rfl
  | k + 1, i, hi => by
    refine e_go hk_30 4 (c := (if s_cnd .ge (nI i) (Z 5 6) = true then 28 else 10, [.ref 5, .int key, .int (nI i)], [], hp Z P L)) rfl ?_
    refine e_ge (a := 28) (b := 10) (x := nI i) (y := Z 5 6) (fun hc7 => absurd hc7 (by rw [hN]; exact nI_ge (by omega) (by omega))) (fun hc7 => ?_)
    refine e_go hk_30 3 (c := (15, [.ref 5, .int key, .int (nI i)], [.int (nI i), .ref 8], hp Z P L)) rfl ?_
    refine e_call hk_30 (as := [.ref 8, .int (nI i)]) (rest := []) rfl rfl hk_22 rfl (Nat.le_of_ble_eq_true rfl) rfl (x_at (r := 8) (a := 9) (n := 60) rfl rfl rfl (by decide) (j := i) (by omega)) ?_
    show e_r 30 18 [.ref 5, .int key, .int (nI i)] [.int (Z 9 i)] (hp Z P L) _ _
    refine e_go hk_30 2 (c := (if s_cnd .ge (Z 9 i) key = true then 28 else 22, [.ref 5, .int key, .int (nI i)], [], hp Z P L)) rfl ?_
    refine e_ge (a := 28) (b := 22) (x := Z 9 i) (y := key) (fun hc19 => ?_) (fun hc19 => ?_)
    · skip
      refine e_go hk_30 1 (c := (29, [.ref 5, .int key, .int (nI i)], [.int (nI i)], hp Z P L)) rfl ?_
      exact e_ret hk_30 rfl rfl rfl (by rw [t_pl, if_neg (Int32.not_lt.mpr hc19)]) rfl
    · skip
      refine e_go hk_30 2 (c := (2, [.ref 5, .int key, .int ((nI i) + 1)], [], hp Z P L)) rfl ?_
      rw [nI_1, t_pl, if_pos (Int32.not_le.mp hc19)]
      exact x_place_l hN hn k (i + 1) (by omega)
theorem x_place {Z : Nat → Nat → Int32} {P : Nat → Nat} {L n : Nat} (hN : Z 5 6 = nI n) (hn : n ≤ 60) {key : Int32} : m_r 30 [.ref 5, .int key] (hp Z P L) (some (.int (nI (t_pl (Z 9) key 0 n)))) (hp Z P L) := by
  refine m_of (ls := [.ref 5, .int key, s_no]) hk_30 rfl rfl rfl ?_
  refine e_go hk_30 2 (c := (2, [.ref 5, .int key, .int 0], [], hp Z P L)) rfl ?_
  exact x_place_l hN hn n 0 (by omega)
theorem x_node {Z : Nat → Nat → Int32} {P : Nat → Nat} {L n : Nat} (hN : Z 5 6 = nI n) (hn : n ≤ 60) {key : Int32} : m_r 31 [.ref 5, .int key] (hp Z P L) (some (.int (y_o (t_nd (Z 9) n key)))) (hp Z P L) := by
  have hpl := (t_pl_le (Z 9) key n 0).2
  refine m_of (ls := [.ref 5, .int key, s_no]) hk_31 rfl rfl rfl ?_
  refine e_go hk_31 2 (c := (2, [.ref 5, .int key, s_no], [.int key, .ref 5], hp Z P L)) rfl ?_
  refine e_call hk_31 (as := [.ref 5, .int key]) (rest := []) rfl rfl hk_30 rfl (Nat.le_of_ble_eq_true rfl) rfl (x_place hN hn) ?_
  show e_r 31 5 [.ref 5, .int key, s_no] [.int (nI (t_pl (Z 9) key 0 n))] (hp Z P L) _ _
  refine e_go hk_31 5 (c := (if s_cnd .ge (nI (t_pl (Z 9) key 0 n)) (Z 5 6) = true then 30 else 14, [.ref 5, .int key, .int (nI (t_pl (Z 9) key 0 n))], [], hp Z P L)) rfl ?_
  refine e_ge (a := 30) (b := 14) (x := nI (t_pl (Z 9) key 0 n)) (y := Z 5 6) (fun hc11 => ?_) (fun hc11 => ?_)
  · skip
    rw [hN] at hc11
    have hge := (y_le (by omega) (by omega)).mp hc11
    refine e_go hk_31 1 (c := (32, [.ref 5, .int key, .int (nI (t_pl (Z 9) key 0 n))], [.int ((-6))], hp Z P L)) rfl ?_
    exact e_ret hk_31 rfl rfl rfl (by rw [t_nd, if_neg (fun z => absurd z.1 (by omega))]; rfl) rfl
  · skip
    rw [hN] at hc11
    have hlt : t_pl (Z 9) key 0 n < n := by rcases Nat.lt_or_ge (t_pl (Z 9) key 0 n) n with z | z; exact z; exact absurd ((y_le (by omega) (by omega)).mpr z) hc11
    refine e_go hk_31 3 (c := (19, [.ref 5, .int key, .int (nI (t_pl (Z 9) key 0 n))], [.int (nI (t_pl (Z 9) key 0 n)), .ref 8], hp Z P L)) rfl ?_
    refine e_call hk_31 (as := [.ref 8, .int (nI (t_pl (Z 9) key 0 n))]) (rest := []) rfl rfl hk_22 rfl (Nat.le_of_ble_eq_true rfl) rfl (x_at (r := 8) (a := 9) (n := 60) rfl rfl rfl (by decide) (j := t_pl (Z 9) key 0 n) (by omega)) ?_
    show e_r 31 22 [.ref 5, .int key, .int (nI (t_pl (Z 9) key 0 n))] [.int (Z 9 (t_pl (Z 9) key 0 n))] (hp Z P L) _ _
    refine e_go hk_31 2 (c := (if s_cnd .ne (Z 9 (t_pl (Z 9) key 0 n)) key = true then 30 else 26, [.ref 5, .int key, .int (nI (t_pl (Z 9) key 0 n))], [], hp Z P L)) rfl ?_
    refine e_ne (a := 30) (b := 26) (x := Z 9 (t_pl (Z 9) key 0 n)) (y := key) (fun hc23 => ?_) (fun hc23 => ?_)
    · skip
      refine e_go hk_31 1 (c := (32, [.ref 5, .int key, .int (nI (t_pl (Z 9) key 0 n))], [.int ((-6))], hp Z P L)) rfl ?_
      exact e_ret hk_31 rfl rfl rfl (by rw [t_nd, if_neg (fun z => hc23 z.2)]; rfl) rfl
    · skip
      refine e_go hk_31 2 (c := (32, [.ref 5, .int key, .int (nI (t_pl (Z 9) key 0 n))], [.int (nI (t_pl (Z 9) key 0 n))], hp Z P L)) rfl ?_
      exact e_ret hk_31 rfl rfl rfl (by rw [t_nd, if_pos ⟨hlt, hc23⟩]; rfl) rfl
theorem x_isfull {Z : Nat → Nat → Int32} {P : Nat → Nat} {L j : Nat} (hj : j < 60) : m_r 33 [.ref 5, .int (nI j)] (hp Z P L) (some (.int (y_b (decide (Z 17 j = 1))))) (hp Z P L) := by
  refine m_of (ls := [.ref 5, .int (nI j)]) hk_33 rfl rfl rfl ?_
  refine e_go hk_33 3 (c := (5, [.ref 5, .int (nI j)], [.int (nI j), .ref 16], hp Z P L)) rfl ?_
  refine e_call hk_33 (as := [.ref 16, .int (nI j)]) (rest := []) rfl rfl hk_22 rfl (Nat.le_of_ble_eq_true rfl) rfl (x_at (r := 16) (a := 17) (n := 60) rfl rfl rfl (by decide) (j := j) (by omega)) ?_
  show e_r 33 8 [.ref 5, .int (nI j)] [.int (Z 17 j)] (hp Z P L) _ _
  refine e_go hk_33 2 (c := (if s_cnd .ne (Z 17 j) 1 = true then 16 else 12, [.ref 5, .int (nI j)], [], hp Z P L)) rfl ?_
  refine e_ne (a := 16) (b := 12) (x := Z 17 j) (y := 1) (fun hc9 => ?_) (fun hc9 => ?_)
  · skip
    refine e_go hk_33 1 (c := (17, [.ref 5, .int (nI j)], [.int 0], hp Z P L)) rfl ?_
    exact e_ret hk_33 rfl rfl rfl (by rw [decide_eq_false hc9]; rfl) rfl
  · skip
    refine e_go hk_33 2 (c := (17, [.ref 5, .int (nI j)], [.int 1], hp Z P L)) rfl ?_
    exact e_ret hk_33 rfl rfl rfl (by rw [decide_eq_true hc9]; rfl) rfl
theorem x_fnode_none {Z : Nat → Nat → Int32} {P : Nat → Nat} {L n : Nat} (hN : Z 5 6 = nI n) (hn : n ≤ 60) {key : Int32} (hq : t_nd (Z 9) n key = none) : m_r 32 [.ref 5, .int key] (hp Z P L) (some (.int (y_o (t_fn (Z 9) (Z 17) n key)))) (hp Z P L) := by
  refine m_of (ls := [.ref 5, .int key, s_no]) hk_32 rfl rfl rfl ?_
  refine e_go hk_32 2 (c := (2, [.ref 5, .int key, s_no], [.int key, .ref 5], hp Z P L)) rfl ?_
  refine e_call hk_32 (as := [.ref 5, .int key]) (rest := []) rfl rfl hk_31 rfl (Nat.le_of_ble_eq_true rfl) rfl (show m_r 31 [.ref 5, .int key] (hp Z P L) (some (.int (-6))) (hp Z P L) from (by have := x_node (P := P) (L := L) (key := key) hN hn; rw [hq] at this; exact this)) ?_
  show e_r 32 5 [.ref 5, .int key, s_no] [.int ((-6))] (hp Z P L) _ _
  refine e_go hk_32 4 (c := (if s_cnd .eq ((-6)) ((-6)) = true then 24 else 12, [.ref 5, .int key, .int ((-6))], [], hp Z P L)) rfl ?_
  refine e_eq (a := 24) (b := 12) (x := (-6)) (y := (-6)) (fun hc9 => ?_) (fun hc9 => absurd (rfl) hc9)
  refine e_go hk_32 1 (c := (26, [.ref 5, .int key, .int ((-6))], [.int ((-6))], hp Z P L)) rfl ?_
  exact e_ret hk_32 rfl rfl rfl (by rw [t_fn, hq]; rfl) rfl
theorem x_fnode_some {Z : Nat → Nat → Int32} {P : Nat → Nat} {L n : Nat} (hN : Z 5 6 = nI n) (hn : n ≤ 60) {key : Int32} {j : Nat} (hq : t_nd (Z 9) n key = some j) : m_r 32 [.ref 5, .int key] (hp Z P L) (some (.int (y_o (t_fn (Z 9) (Z 17) n key)))) (hp Z P L) := by
  have hjn := (t_nd_lt hq).1
  refine m_of (ls := [.ref 5, .int key, s_no]) hk_32 rfl rfl rfl ?_
  refine e_go hk_32 2 (c := (2, [.ref 5, .int key, s_no], [.int key, .ref 5], hp Z P L)) rfl ?_
  refine e_call hk_32 (as := [.ref 5, .int key]) (rest := []) rfl rfl hk_31 rfl (Nat.le_of_ble_eq_true rfl) rfl (show m_r 31 [.ref 5, .int key] (hp Z P L) (some (.int (nI j))) (hp Z P L) from (by have := x_node (P := P) (L := L) (key := key) hN hn; rw [hq] at this; exact this)) ?_
  show e_r 32 5 [.ref 5, .int key, s_no] [.int (nI j)] (hp Z P L) _ _
  refine e_go hk_32 4 (c := (if s_cnd .eq (nI j) ((-6)) = true then 24 else 12, [.ref 5, .int key, .int (nI j)], [], hp Z P L)) rfl ?_
  refine e_eq (a := 24) (b := 12) (x := nI j) (y := (-6)) (fun hc9 => absurd hc9 (fun z => absurd ((y_o_none (q := some j) (fun i hi => by cases hi; omega)).mp z) (by simp))) (fun hc9 => ?_)
  refine e_go hk_32 2 (c := (14, [.ref 5, .int key, .int (nI j)], [.int (nI j), .ref 5], hp Z P L)) rfl ?_
  refine e_call hk_32 (as := [.ref 5, .int (nI j)]) (rest := []) rfl rfl hk_33 rfl (Nat.le_of_ble_eq_true rfl) rfl (x_isfull (j := j) (by omega)) ?_
  show e_r 32 17 [.ref 5, .int key, .int (nI j)] [.int (y_b (decide (Z 17 j = 1)))] (hp Z P L) _ _
  refine e_go hk_32 1 (c := (if s_cnd .eq (y_b (decide (Z 17 j = 1))) 0 = true then 24 else 20, [.ref 5, .int key, .int (nI j)], [], hp Z P L)) rfl ?_
  refine e_eq (a := 24) (b := 20) (x := y_b (decide (Z 17 j = 1))) (y := 0) (fun hc17 => ?_) (fun hc17 => ?_)
  · skip
    refine e_go hk_32 1 (c := (26, [.ref 5, .int key, .int (nI j)], [.int ((-6))], hp Z P L)) rfl ?_
    exact e_ret hk_32 rfl rfl rfl (by rw [y_b0, decide_eq_false_iff_not] at hc17; rw [t_fn, hq]; dsimp only; rw [if_neg hc17]; rfl) rfl
  · skip
    refine e_go hk_32 2 (c := (26, [.ref 5, .int key, .int (nI j)], [.int (nI j)], hp Z P L)) rfl ?_
    exact e_ret hk_32 rfl rfl rfl (by rw [y_b1, decide_eq_true_eq] at hc17; rw [t_fn, hq]; dsimp only; rw [if_pos hc17]; rfl) rfl
theorem x_fnode {Z : Nat → Nat → Int32} {P : Nat → Nat} {L n : Nat} (hN : Z 5 6 = nI n) (hn : n ≤ 60) {key : Int32} : m_r 32 [.ref 5, .int key] (hp Z P L) (some (.int (y_o (t_fn (Z 9) (Z 17) n key)))) (hp Z P L) := by
  cases hq : t_nd (Z 9) n key with
  | none => exact x_fnode_none hN hn hq
  | some j => exact x_fnode_some hN hn hq
theorem x_all {Z : Nat → Nat → Int32} {P : Nat → Nat} {L n : Nat} (hN : Z 5 6 = nI n) (hn : n ≤ 60) : m_r 34 [.ref 5] (hp Z P L) (some (.int (t_sm (Z 17) 0 n 0))) (hp Z P L) := by
  refine m_of (ls := [.ref 5]) hk_34 rfl rfl rfl ?_
  refine e_go hk_34 7 (c := (11, [.ref 5], [.int ((Z 5 6) - 1), .int 0, .ref 16], hp Z P L)) rfl ?_
  rw [hN]
  refine e_call hk_34 (as := [.ref 16, .int (nI 0), .int (nI n - 1)]) (rest := []) rfl rfl hk_25 rfl (Nat.le_of_ble_eq_true rfl) rfl (x_total (r := 16) (a := 17) (n := 60) rfl rfl rfl (by decide) (l := 0) (u := n) (by omega) (by omega)) ?_
  show e_r 34 14 [.ref 5] [.int (t_sm (Z 17) 0 (n - 0) 0)] (hp Z P L) _ _
  exact e_ret hk_34 rfl rfl rfl rfl rfl
theorem x_ahead {Z : Nat → Nat → Int32} {P : Nat → Nat} {L n : Nat} (hN : Z 5 6 = nI n) (hn : n ≤ 60) {key : Int32} : m_r 35 [.ref 5, .int key] (hp Z P L) (some (.int (t_sm (Z 17) 0 (t_pl (Z 9) key 0 n) 0))) (hp Z P L) := by
  have hpl := (t_pl_le (Z 9) key n 0).2
  refine m_of (ls := [.ref 5, .int key]) hk_35 rfl rfl rfl ?_
  refine e_go hk_35 5 (c := (7, [.ref 5, .int key], [.int key, .ref 5, .int 0, .ref 16], hp Z P L)) rfl ?_
  refine e_call hk_35 (as := [.ref 5, .int key]) (rest := [.int 0, .ref 16]) rfl rfl hk_30 rfl (Nat.le_of_ble_eq_true rfl) rfl (x_place hN hn) ?_
  show e_r 35 10 [.ref 5, .int key] [.int (nI (t_pl (Z 9) key 0 n)), .int 0, .ref 16] (hp Z P L) _ _
  refine e_go hk_35 2 (c := (12, [.ref 5, .int key], [.int ((nI (t_pl (Z 9) key 0 n)) - 1), .int 0, .ref 16], hp Z P L)) rfl ?_
  refine e_call hk_35 (as := [.ref 16, .int (nI 0), .int (nI ((t_pl (Z 9) key 0 n)) - 1)]) (rest := []) rfl rfl hk_25 rfl (Nat.le_of_ble_eq_true rfl) rfl (x_total (r := 16) (a := 17) (n := 60) rfl rfl rfl (by decide) (l := 0) (u := (t_pl (Z 9) key 0 n)) (by omega) (by omega)) ?_
  show e_r 35 15 [.ref 5, .int key] [.int (t_sm (Z 17) 0 ((t_pl (Z 9) key 0 n) - 0) 0)] (hp Z P L) _ _
  exact e_ret hk_35 rfl rfl rfl rfl rfl
theorem x_kth_l {Z : Nat → Nat → Int32} {P : Nat → Nat} {L n : Nat} (hN : Z 5 6 = nI n) (hn : n ≤ 60) {q : Int32} : ∀ (k i : Nat) (a : Int32), i + k = n → e_r 36 4 [.ref 5, .int q, .int a, .int (nI i)] [] (hp Z P L) (some (.int (y_o (t_kt (Z 17) q i k a)))) (hp Z P L)
  | 0, i, a, hi => by
    refine e_go hk_36 4 (c := (if s_cnd .ge (nI i) (Z 5 6) = true then 36 else 12, [.ref 5, .int q, .int a, .int (nI i)], [], hp Z P L)) rfl ?_
    refine e_ge (a := 36) (b := 12) (x := nI i) (y := Z 5 6) (fun hc9 => ?_) (fun hc9 => absurd (by rw [hN]; exact (y_le (by omega) (by omega)).mpr (by omega)) hc9)
    refine e_go hk_36 1 (c := (38, [.ref 5, .int q, .int a, .int (nI i)], [.int ((-6))], hp Z P L)) rfl ?_
    exact e_ret hk_36 rfl rfl rfl rfl rfl
  | k + 1, i, a, hi => by
    refine e_go hk_36 4 (c := (if s_cnd .ge (nI i) (Z 5 6) = true then 36 else 12, [.ref 5, .int q, .int a, .int (nI i)], [], hp Z P L)) rfl ?_
    refine e_ge (a := 36) (b := 12) (x := nI i) (y := Z 5 6) (fun hc9 => absurd hc9 (by rw [hN]; exact nI_ge (by omega) (by omega))) (fun hc9 => ?_)
    refine e_go hk_36 2 (c := (14, [.ref 5, .int q, .int a, .int (nI i)], [.int (nI i), .ref 5], hp Z P L)) rfl ?_
    refine e_call hk_36 (as := [.ref 5, .int (nI i)]) (rest := []) rfl rfl hk_33 rfl (Nat.le_of_ble_eq_true rfl) rfl (x_isfull (j := i) (by omega)) ?_
    show e_r 36 17 [.ref 5, .int q, .int a, .int (nI i)] [.int (y_b (decide (Z 17 i = 1)))] (hp Z P L) _ _
    refine e_go hk_36 1 (c := (if s_cnd .eq (y_b (decide (Z 17 i = 1))) 0 = true then 30 else 20, [.ref 5, .int q, .int a, .int (nI i)], [], hp Z P L)) rfl ?_
    refine e_eq (a := 30) (b := 20) (x := y_b (decide (Z 17 i = 1))) (y := 0) (fun hc17 => ?_) (fun hc17 => ?_)
    · skip
      rw [y_b0, decide_eq_false_iff_not] at hc17
      rw [t_kt, if_neg hc17]
      refine e_go hk_36 2 (c := (4, [.ref 5, .int q, .int a, .int ((nI i) + 1)], [], hp Z P L)) rfl ?_
      rw [nI_1]
      exact x_kth_l hN hn k (i + 1) _ (by omega)
    · skip
      rw [y_b1, decide_eq_true_eq] at hc17
      rw [t_kt, if_pos hc17]
      refine e_go hk_36 3 (c := (if s_cnd .ne a q = true then 27 else 25, [.ref 5, .int q, .int a, .int (nI i)], [], hp Z P L)) rfl ?_
      refine e_ne (a := 27) (b := 25) (x := a) (y := q) (fun hc22 => ?_) (fun hc22 => ?_)
      · skip
        rw [if_neg hc22]
        refine e_go hk_36 3 (c := (4, [.ref 5, .int q, .int (a + 1), .int ((nI i) + 1)], [], hp Z P L)) rfl ?_
        rw [nI_1]
        exact x_kth_l hN hn k (i + 1) _ (by omega)
      · skip
        rw [if_pos hc22]
        refine e_go hk_36 1 (c := (26, [.ref 5, .int q, .int a, .int (nI i)], [.int (nI i)], hp Z P L)) rfl ?_
        exact e_ret hk_36 rfl rfl rfl rfl rfl
theorem x_kth {Z : Nat → Nat → Int32} {P : Nat → Nat} {L n : Nat} (hN : Z 5 6 = nI n) (hn : n ≤ 60) {q : Int32} : m_r 36 [.ref 5, .int q] (hp Z P L) (some (.int (y_o (t_kt (Z 17) q 0 n 0)))) (hp Z P L) := by
  refine m_of (ls := [.ref 5, .int q, s_no, s_no]) hk_36 rfl rfl rfl ?_
  refine e_go hk_36 4 (c := (4, [.ref 5, .int q, .int 0, .int 0], [], hp Z P L)) rfl ?_
  exact x_kth_l hN hn n 0 0 (by omega)
theorem x_low_l {Z : Nat → Nat → Int32} {P : Nat → Nat} {L : Nat} {j : Nat} (hj : j < 60) : ∀ (i : Nat), i ≤ j → e_r 37 2 [.ref 5, .int (nI j), .int (nI i)] [] (hp Z P L) (some (.int (nI (t_lo (Z 15) (Z 15 j) i)))) (hp Z P L)
  | 0, hi => by
    refine e_go hk_37 2 (c := (if s_cnd .le (nI 0) 0 = true then 33 else 6, [.ref 5, .int (nI j), .int (nI 0)], [], hp Z P L)) rfl ?_
    refine e_le (a := 33) (b := 6) (x := nI 0) (y := 0) (fun hc3 => ?_) (fun hc3 => absurd (by decide) hc3)
    refine e_go hk_37 1 (c := (34, [.ref 5, .int (nI j), .int (nI 0)], [.int (nI 0)], hp Z P L)) rfl ?_
    exact e_ret hk_37 rfl rfl rfl rfl rfl
  | i + 1, hi => by
    refine e_go hk_37 2 (c := (if s_cnd .le (nI (i + 1)) 0 = true then 33 else 6, [.ref 5, .int (nI j), .int (nI (i + 1))], [], hp Z P L)) rfl ?_
    refine e_le (a := 33) (b := 6) (x := nI (i + 1)) (y := 0) (fun hc3 => absurd hc3 (nI_nle (by omega) (by omega))) (fun hc3 => ?_)
    refine e_go hk_37 5 (c := (13, [.ref 5, .int (nI j), .int (nI (i + 1))], [.int ((nI (i + 1)) - 1), .ref 14], hp Z P L)) rfl ?_
    rw [nI_pred]
    refine e_call hk_37 (as := [.ref 14, .int (nI i)]) (rest := []) rfl rfl hk_22 rfl (Nat.le_of_ble_eq_true rfl) rfl (x_at (r := 14) (a := 15) (n := 60) rfl rfl rfl (by decide) (j := i) (by omega)) ?_
    show e_r 37 16 [.ref 5, .int (nI j), .int (nI (i + 1))] [.int (Z 15 i)] (hp Z P L) _ _
    refine e_go hk_37 3 (c := (21, [.ref 5, .int (nI j), .int (nI (i + 1))], [.int (nI j), .ref 14, .int (Z 15 i)], hp Z P L)) rfl ?_
    refine e_call hk_37 (as := [.ref 14, .int (nI j)]) (rest := [.int (Z 15 i)]) rfl rfl hk_22 rfl (Nat.le_of_ble_eq_true rfl) rfl (x_at (r := 14) (a := 15) (n := 60) rfl rfl rfl (by decide) (j := j) (by omega)) ?_
    show e_r 37 24 [.ref 5, .int (nI j), .int (nI (i + 1))] [.int (Z 15 j), .int (Z 15 i)] (hp Z P L) _ _
    refine e_go hk_37 1 (c := (if s_cnd .le (Z 15 i) (Z 15 j) = true then 33 else 27, [.ref 5, .int (nI j), .int (nI (i + 1))], [], hp Z P L)) rfl ?_
    refine e_le (a := 33) (b := 27) (x := Z 15 i) (y := Z 15 j) (fun hc24 => ?_) (fun hc24 => ?_)
    · skip
      rw [t_lo, if_pos hc24]
      refine e_go hk_37 1 (c := (34, [.ref 5, .int (nI j), .int (nI (i + 1))], [.int (nI (i + 1))], hp Z P L)) rfl ?_
      exact e_ret hk_37 rfl rfl rfl rfl rfl
    · skip
      rw [t_lo, if_neg hc24]
      refine e_go hk_37 2 (c := (2, [.ref 5, .int (nI j), .int ((nI (i + 1)) + (-1))], [], hp Z P L)) rfl ?_
      rw [pk_m1]
      exact x_low_l hj i (by omega)
theorem x_low {Z : Nat → Nat → Int32} {P : Nat → Nat} {L : Nat} {j : Nat} (hj : j < 60) : m_r 37 [.ref 5, .int (nI j)] (hp Z P L) (some (.int (nI (t_L Z j)))) (hp Z P L) := by
  refine m_of (ls := [.ref 5, .int (nI j), s_no]) hk_37 rfl rfl rfl ?_
  refine e_go hk_37 2 (c := (2, [.ref 5, .int (nI j), .int (nI j)], [], hp Z P L)) rfl ?_
  exact x_low_l hj j (Nat.le_refl _)
theorem x_high_l {Z : Nat → Nat → Int32} {P : Nat → Nat} {L n : Nat} (hN : Z 5 6 = nI n) (hn : n ≤ 60) {j : Nat} (hj : j < n) : ∀ (k i : Nat), i + k + 1 = n → e_r 38 2 [.ref 5, .int (nI j), .int (nI i)] [] (hp Z P L) (some (.int (nI (t_hi (Z 15) (Z 15 j) i k)))) (hp Z P L)
  | 0, i, hi => by
    refine e_go hk_38 6 (c := (if s_cnd .ge (nI i) ((Z 5 6) - 1) = true then 39 else 12, [.ref 5, .int (nI j), .int (nI i)], [], hp Z P L)) rfl ?_
    refine e_ge (a := 39) (b := 12) (x := nI i) (y := (Z 5 6) - 1) (fun hc9 => ?_) (fun hc9 => absurd (by rw [hN]; exact (y_m1le (by omega) (by omega)).mpr (by omega)) hc9)
    refine e_go hk_38 1 (c := (40, [.ref 5, .int (nI j), .int (nI i)], [.int (nI i)], hp Z P L)) rfl ?_
    exact e_ret hk_38 rfl rfl rfl rfl rfl
  | k + 1, i, hi => by
    refine e_go hk_38 6 (c := (if s_cnd .ge (nI i) ((Z 5 6) - 1) = true then 39 else 12, [.ref 5, .int (nI j), .int (nI i)], [], hp Z P L)) rfl ?_
    refine e_ge (a := 39) (b := 12) (x := nI i) (y := (Z 5 6) - 1) (fun hc9 => absurd hc9 (by rw [hN]; exact fun z => absurd ((y_m1le (by omega) (by omega)).mp z) (by omega))) (fun hc9 => ?_)
    refine e_go hk_38 5 (c := (19, [.ref 5, .int (nI j), .int (nI i)], [.int ((nI i) + 1), .ref 14], hp Z P L)) rfl ?_
    rw [nI_1]
    refine e_call hk_38 (as := [.ref 14, .int (nI (i + 1))]) (rest := []) rfl rfl hk_22 rfl (Nat.le_of_ble_eq_true rfl) rfl (x_at (r := 14) (a := 15) (n := 60) rfl rfl rfl (by decide) (j := i + 1) (by omega)) ?_
    show e_r 38 22 [.ref 5, .int (nI j), .int (nI i)] [.int (Z 15 (i + 1))] (hp Z P L) _ _
    refine e_go hk_38 3 (c := (27, [.ref 5, .int (nI j), .int (nI i)], [.int (nI j), .ref 14, .int (Z 15 (i + 1))], hp Z P L)) rfl ?_
    refine e_call hk_38 (as := [.ref 14, .int (nI j)]) (rest := [.int (Z 15 (i + 1))]) rfl rfl hk_22 rfl (Nat.le_of_ble_eq_true rfl) rfl (x_at (r := 14) (a := 15) (n := 60) rfl rfl rfl (by decide) (j := j) (by omega)) ?_
    show e_r 38 30 [.ref 5, .int (nI j), .int (nI i)] [.int (Z 15 j), .int (Z 15 (i + 1))] (hp Z P L) _ _
    refine e_go hk_38 1 (c := (if s_cnd .le (Z 15 (i + 1)) (Z 15 j) = true then 39 else 33, [.ref 5, .int (nI j), .int (nI i)], [], hp Z P L)) rfl ?_
    refine e_le (a := 39) (b := 33) (x := Z 15 (i + 1)) (y := Z 15 j) (fun hc30 => ?_) (fun hc30 => ?_)
    · skip
      rw [t_hi, if_pos hc30]
      refine e_go hk_38 1 (c := (40, [.ref 5, .int (nI j), .int (nI i)], [.int (nI i)], hp Z P L)) rfl ?_
      exact e_ret hk_38 rfl rfl rfl rfl rfl
    · skip
      rw [t_hi, if_neg hc30]
      refine e_go hk_38 2 (c := (2, [.ref 5, .int (nI j), .int ((nI i) + 1)], [], hp Z P L)) rfl ?_
      rw [nI_1]
      exact x_high_l hN hn hj k (i + 1) (by omega)
theorem x_high {Z : Nat → Nat → Int32} {P : Nat → Nat} {L n : Nat} (hN : Z 5 6 = nI n) (hn : n ≤ 60) {j : Nat} (hj : j < n) : m_r 38 [.ref 5, .int (nI j)] (hp Z P L) (some (.int (nI (t_H Z n j)))) (hp Z P L) := by
  refine m_of (ls := [.ref 5, .int (nI j), s_no]) hk_38 rfl rfl rfl ?_
  refine e_go hk_38 2 (c := (2, [.ref 5, .int (nI j), .int (nI j)], [], hp Z P L)) rfl ?_
  exact x_high_l hN hn hj (n - 1 - j) j (by omega)
theorem x_top_l {Z : Nat → Nat → Int32} {P : Nat → Nat} {L : Nat} {u : Nat} {low d : Int32} (hu : u < 60) : ∀ (k i : Nat), i + k = u → e_r 39 3 [.ref 5, .int low, .int (nI u), .int d, .int (nI i)] [] (hp Z P L) (some (.int (nI (t_tp (Z 15) d i k)))) (hp Z P L)
  | 0, i, hi => by
    refine e_go hk_39 3 (c := (if s_cnd .ge (nI i) (nI u) = true then 28 else 9, [.ref 5, .int low, .int (nI u), .int d, .int (nI i)], [], hp Z P L)) rfl ?_
    refine e_ge (a := 28) (b := 9) (x := nI i) (y := nI u) (fun hc6 => ?_) (fun hc6 => absurd ((y_le (by omega) (by omega)).mpr (by omega)) hc6)
    refine e_go hk_39 1 (c := (30, [.ref 5, .int low, .int (nI u), .int d, .int (nI i)], [.int (nI i)], hp Z P L)) rfl ?_
    exact e_ret hk_39 rfl rfl rfl rfl rfl
  | k + 1, i, hi => by
    refine e_go hk_39 3 (c := (if s_cnd .ge (nI i) (nI u) = true then 28 else 9, [.ref 5, .int low, .int (nI u), .int d, .int (nI i)], [], hp Z P L)) rfl ?_
    refine e_ge (a := 28) (b := 9) (x := nI i) (y := nI u) (fun hc6 => absurd hc6 (nI_ge (by omega) (by omega))) (fun hc6 => ?_)
    refine e_go hk_39 3 (c := (15, [.ref 5, .int low, .int (nI u), .int d, .int (nI i)], [.int (nI i), .ref 14], hp Z P L)) rfl ?_
    refine e_call hk_39 (as := [.ref 14, .int (nI i)]) (rest := []) rfl rfl hk_22 rfl (Nat.le_of_ble_eq_true rfl) rfl (x_at (r := 14) (a := 15) (n := 60) rfl rfl rfl (by decide) (j := i) (by omega)) ?_
    show e_r 39 18 [.ref 5, .int low, .int (nI u), .int d, .int (nI i)] [.int (Z 15 i)] (hp Z P L) _ _
    refine e_go hk_39 2 (c := (if s_cnd .eq (Z 15 i) d = true then 28 else 22, [.ref 5, .int low, .int (nI u), .int d, .int (nI i)], [], hp Z P L)) rfl ?_
    refine e_eq (a := 28) (b := 22) (x := Z 15 i) (y := d) (fun hc19 => ?_) (fun hc19 => ?_)
    · skip
      rw [t_tp, if_pos hc19]
      refine e_go hk_39 1 (c := (30, [.ref 5, .int low, .int (nI u), .int d, .int (nI i)], [.int (nI i)], hp Z P L)) rfl ?_
      exact e_ret hk_39 rfl rfl rfl rfl rfl
    · skip
      rw [t_tp, if_neg hc19]
      refine e_go hk_39 2 (c := (3, [.ref 5, .int low, .int (nI u), .int d, .int ((nI i) + 1)], [], hp Z P L)) rfl ?_
      rw [nI_1]
      exact x_top_l hu k (i + 1) (by omega)
theorem x_top {Z : Nat → Nat → Int32} {P : Nat → Nat} {L : Nat} {l u : Nat} {d : Int32} (hl : l ≤ u) (hu : u < 60) : m_r 39 [.ref 5, .int (nI l), .int (nI u), .int d] (hp Z P L) (some (.int (nI (t_tp (Z 15) d l (u - l))))) (hp Z P L) := by
  refine m_of (ls := [.ref 5, .int (nI l), .int (nI u), .int d, s_no]) hk_39 rfl rfl rfl ?_
  refine e_go hk_39 2 (c := (3, [.ref 5, .int (nI l), .int (nI u), .int d, .int (nI l)], [], hp Z P L)) rfl ?_
  exact x_top_l hu (u - l) l (by omega)
theorem x_heavy {Z : Nat → Nat → Int32} {P : Nat → Nat} {L : Nat} {l r : Int32} : m_r 40 [.ref 5, .int l, .int r] (hp Z P L) (some (.int (y_b (y_th (Z 7 0) l r)))) (hp Z P L) := by
  refine m_of (ls := [.ref 5, .int l, .int r]) hk_40 rfl rfl rfl ?_
  refine e_go hk_40 8 (c := (13, [.ref 5, .int l, .int r], [.int 0, .ref 6, .int (100 * (if l < r then r else l))], hp Z P L)) rfl ?_
  refine e_call hk_40 (as := [.ref 6, .int (nI 0)]) (rest := [.int (100 * (if l < r then r else l))]) rfl rfl hk_22 rfl (Nat.le_of_ble_eq_true rfl) rfl (x_at (r := 6) (a := 7) (n := 3) rfl rfl rfl (by decide) (j := 0) (by decide)) ?_
  show e_r 40 16 [.ref 5, .int l, .int r] [.int (Z 7 0), .int (100 * (if l < r then r else l))] (hp Z P L) _ _
  refine e_go hk_40 7 (c := (if s_cnd .le (100 * (if l < r then r else l)) ((Z 7 0) * ((l + r) + 1)) = true then 29 else 25, [.ref 5, .int l, .int r], [], hp Z P L)) rfl ?_
  refine e_le (a := 29) (b := 25) (x := 100 * (if l < r then r else l)) (y := (Z 7 0) * ((l + r) + 1)) (fun hc22 => ?_) (fun hc22 => ?_)
  · skip
    refine e_go hk_40 1 (c := (30, [.ref 5, .int l, .int r], [.int 0], hp Z P L)) rfl ?_
    exact e_ret hk_40 rfl rfl rfl (by rw [y_th, decide_eq_false (Int32.not_lt.mpr hc22)]; rfl) rfl
  · skip
    refine e_go hk_40 2 (c := (30, [.ref 5, .int l, .int r], [.int 1], hp Z P L)) rfl ?_
    exact e_ret hk_40 rfl rfl rfl (by rw [y_th, decide_eq_true (Int32.not_le.mp hc22)]; rfl) rfl
theorem s_rxz {v : Bool} : s_rx .ireturn (some .boolean) [.int (y_b v)] = some (some (.int (y_b v))) := by cases v <;> rfl
theorem x_leans {Z : Nat → Nat → Int32} {P : Nat → Nat} {L n : Nat} (hN : Z 5 6 = nI n) (hn : n ≤ 60) {j : Nat} (hj : j < n) : m_r 41 [.ref 5, .int (nI j)] (hp Z P L) (some (.int (y_b (t_ln Z n j)))) (hp Z P L) := by
  refine m_of (ls := [.ref 5, .int (nI j)]) hk_41 rfl rfl rfl ?_
  refine e_go hk_41 4 (c := (4, [.ref 5, .int (nI j)], [.int (nI j), .ref 5, .int (nI j), .ref 5], hp Z P L)) rfl ?_
  refine e_call hk_41 (as := [.ref 5, .int (nI j)]) (rest := [.int (nI j), .ref 5]) rfl rfl hk_37 rfl (Nat.le_of_ble_eq_true rfl) rfl (x_low (j := j) (by omega)) ?_
  show e_r 41 7 [.ref 5, .int (nI j)] [.int (nI (t_L Z j)), .int (nI j), .ref 5] (hp Z P L) _ _
  refine e_go hk_41 3 (c := (10, [.ref 5, .int (nI j)], [.int (nI j), .ref 5, .int ((nI j) - (nI (t_L Z j))), .ref 5], hp Z P L)) rfl ?_
  refine e_call hk_41 (as := [.ref 5, .int (nI j)]) (rest := [.int ((nI j) - (nI (t_L Z j))), .ref 5]) rfl rfl hk_38 rfl (Nat.le_of_ble_eq_true rfl) rfl (x_high hN hn (j := j) (by omega)) ?_
  show e_r 41 13 [.ref 5, .int (nI j)] [.int (nI (t_H Z n j)), .int ((nI j) - (nI (t_L Z j))), .ref 5] (hp Z P L) _ _
  refine e_go hk_41 2 (c := (15, [.ref 5, .int (nI j)], [.int ((nI (t_H Z n j)) - (nI j)), .int ((nI j) - (nI (t_L Z j))), .ref 5], hp Z P L)) rfl ?_
  refine e_call hk_41 (as := [.ref 5, .int ((nI j) - (nI (t_L Z j))), .int ((nI (t_H Z n j)) - (nI j))]) (rest := []) rfl rfl hk_40 rfl (Nat.le_of_ble_eq_true rfl) rfl x_heavy ?_
  show e_r 41 18 [.ref 5, .int (nI j)] [.int (y_b (y_th (Z 7 0) ((nI j) - (nI (t_L Z j))) ((nI (t_H Z n j)) - (nI j))))] (hp Z P L) _ _
  exact e_ret hk_41 rfl rfl s_rxz rfl rfl
theorem x_lnodes_l {Z : Nat → Nat → Int32} {P : Nat → Nat} {L n : Nat} (hN : Z 5 6 = nI n) (hn : n ≤ 60)  : ∀ (k i : Nat) (a : Int32), i + k = n → e_r 42 4 [.ref 5, .int a, .int (nI i)] [] (hp Z P L) (some (.int (t_lnc Z n i k a))) (hp Z P L)
  | 0, i, a, hi => by
    refine e_go hk_42 4 (c := (if s_cnd .ge (nI i) (Z 5 6) = true then 34 else 12, [.ref 5, .int a, .int (nI i)], [], hp Z P L)) rfl ?_
    refine e_ge (a := 34) (b := 12) (x := nI i) (y := Z 5 6) (fun hc9 => ?_) (fun hc9 => absurd (by rw [hN]; exact (y_le (by omega) (by omega)).mpr (by omega)) hc9)
    refine e_go hk_42 1 (c := (35, [.ref 5, .int a, .int (nI i)], [.int a], hp Z P L)) rfl ?_
    exact e_ret hk_42 rfl rfl rfl rfl rfl
  | k + 1, i, a, hi => by
    refine e_go hk_42 4 (c := (if s_cnd .ge (nI i) (Z 5 6) = true then 34 else 12, [.ref 5, .int a, .int (nI i)], [], hp Z P L)) rfl ?_
    refine e_ge (a := 34) (b := 12) (x := nI i) (y := Z 5 6) (fun hc9 => absurd hc9 (by rw [hN]; exact nI_ge (by omega) (by omega))) (fun hc9 => ?_)
    refine e_go hk_42 3 (c := (15, [.ref 5, .int a, .int (nI i)], [.int (nI i), .ref 5, .int a], hp Z P L)) rfl ?_
    refine e_call hk_42 (as := [.ref 5, .int (nI i)]) (rest := [.int a]) rfl rfl hk_41 rfl (Nat.le_of_ble_eq_true rfl) rfl (x_leans hN hn (j := i) (by omega)) ?_
    show e_r 42 18 [.ref 5, .int a, .int (nI i)] [.int (y_b (t_ln Z n i)), .int a] (hp Z P L) _ _
    refine e_go hk_42 1 (c := (if s_cnd .eq (y_b (t_ln Z n i)) 0 = true then 25 else 21, [.ref 5, .int a, .int (nI i)], [.int a], hp Z P L)) rfl ?_
    refine e_eq (a := 25) (b := 21) (x := y_b (t_ln Z n i)) (y := 0) (fun hc18 => ?_) (fun hc18 => ?_)
    · skip
      rw [y_b0] at hc18
      rw [t_lnc, hc18, y_bf]
      refine e_go hk_42 5 (c := (4, [.ref 5, .int (a + 0), .int ((nI i) + 1)], [], hp Z P L)) rfl ?_
      rw [nI_1]
      exact x_lnodes_l hN hn k (i + 1) _ (by omega)
    · skip
      rw [y_b1] at hc18
      rw [t_lnc, hc18, y_bt]
      refine e_go hk_42 6 (c := (4, [.ref 5, .int (a + 1), .int ((nI i) + 1)], [], hp Z P L)) rfl ?_
      rw [nI_1]
      exact x_lnodes_l hN hn k (i + 1) _ (by omega)
theorem x_lnodes {Z : Nat → Nat → Int32} {P : Nat → Nat} {L n : Nat} (hN : Z 5 6 = nI n) (hn : n ≤ 60) : m_r 42 [.ref 5] (hp Z P L) (some (.int (t_lnc Z n 0 n 0))) (hp Z P L) := by
  refine m_of (ls := [.ref 5, s_no, s_no]) hk_42 rfl rfl rfl ?_
  refine e_go hk_42 4 (c := (4, [.ref 5, .int 0, .int 0], [], hp Z P L)) rfl ?_
  exact x_lnodes_l hN hn n 0 0 (by omega)
end
section
/-! Tree: ways, moves, laying anew; printed by wip/whole/gen/tree2.py -/
theorem t_wl_s {D : Nat → Int32} {lean : Int32} {p k d l u : Nat} (h : ¬ u ≤ l) : t_wl D lean p (k + 1) d l u = if p ≤ t_tp D (nI d) l (u - 1 - l) then (if y_th lean (nI (t_tp D (nI d) l (u - 1 - l)) - nI l + 1) (nI (u - 1) - nI (t_tp D (nI d) l (u - 1 - l))) = true then some (t_tp D (nI d) l (u - 1 - l)) else t_wl D lean p k (d + 1) l (t_tp D (nI d) l (u - 1 - l)))
    else (if y_th lean (nI (t_tp D (nI d) l (u - 1 - l)) - nI l) (nI (u - 1) - nI (t_tp D (nI d) l (u - 1 - l)) + 1) = true then some (t_tp D (nI d) l (u - 1 - l)) else t_wl D lean p k (d + 1) (t_tp D (nI d) l (u - 1 - l) + 1) u) := by
  rw [t_wl, if_neg h]
theorem x_would_l {Z : Nat → Nat → Int32} {P : Nat → Nat} {L : Nat} {p : Nat} (hp0 : p ≤ 60) : ∀ (k d l u : Nat) (y5 y6 y7 : Value), d + k = 60 → u ≤ 60 →  l ≤ 60 → e_r 43 12 [.ref 5, .int (nI p), .int (nI l), .int (nI u - 1), .int (nI d), y5, y6, y7] [] (hp Z P L) (some (.int (y_o (t_wl (Z 15) (Z 7 0) p k d l u)))) (hp Z P L)
  | 0, d, l, u, y5, y6, y7, hd, hu, hl => by
    refine e_go hk_43 3 (c := (if s_cnd .ge (nI d) 60 = true then 91 else 19, [.ref 5, .int (nI p), .int (nI l), .int (nI u - 1), .int (nI d), y5, y6, y7], [], hp Z P L)) rfl ?_
    refine e_ge (a := 91) (b := 19) (x := nI d) (y := 60) (fun hc16 => ?_) (fun hc16 => absurd (by rw [show (60 : Int32) = nI 60 from rfl]; exact (y_le (by omega) (by omega)).mpr (by omega)) hc16)
    refine e_go hk_43 1 (c := (93, [.ref 5, .int (nI p), .int (nI l), .int (nI u - 1), .int (nI d), y5, y6, y7], [.int ((-6))], hp Z P L)) rfl ?_
    exact e_ret hk_43 rfl rfl rfl rfl rfl
  | k + 1, d, l, u, y5, y6, y7, hd, hu, hl => by
    refine e_go hk_43 3 (c := (if s_cnd .ge (nI d) 60 = true then 91 else 19, [.ref 5, .int (nI p), .int (nI l), .int (nI u - 1), .int (nI d), y5, y6, y7], [], hp Z P L)) rfl ?_
    refine e_ge (a := 91) (b := 19) (x := nI d) (y := 60) (fun hc16 => absurd hc16 (by rw [show (60 : Int32) = nI 60 from rfl]; exact nI_ge (by omega) (by omega))) (fun hc16 => ?_)
    refine e_go hk_43 3 (c := (if s_cnd .gt (nI l) (nI u - 1) = true then 91 else 24, [.ref 5, .int (nI p), .int (nI l), .int (nI u - 1), .int (nI d), y5, y6, y7], [], hp Z P L)) rfl ?_
    refine e_gt (a := 91) (b := 24) (x := nI l) (y := nI u - 1) (fun hc21 => ?_) (fun hc21 => ?_)
    · skip
      rw [y_m1lt (by omega) (by omega)] at hc21
      rw [t_wl, if_pos hc21]
      refine e_go hk_43 1 (c := (93, [.ref 5, .int (nI p), .int (nI l), .int (nI u - 1), .int (nI d), y5, y6, y7], [.int ((-6))], hp Z P L)) rfl ?_
      exact e_ret hk_43 rfl rfl rfl rfl rfl
    · skip
      rw [y_m1lt (by omega) (by omega)] at hc21
      rw [t_wl_s hc21]
      rw [y_m1s (u := u) (by omega)]
      refine e_go hk_43 4 (c := (29, [.ref 5, .int (nI p), .int (nI l), .int (nI (u - 1)), .int (nI d), y5, y6, y7], [.int (nI d), .int (nI (u - 1)), .int (nI l), .ref 5], hp Z P L)) rfl ?_
      refine e_call hk_43 (as := [.ref 5, .int (nI l), .int (nI (u - 1)), .int (nI d)]) (rest := []) rfl rfl hk_39 rfl (Nat.le_of_ble_eq_true rfl) rfl (x_top (l := l) (u := u - 1) (by omega) (by omega)) ?_
      show e_r 43 32 [.ref 5, .int (nI p), .int (nI l), .int (nI (u - 1)), .int (nI d), y5, y6, y7] [.int (nI (t_tp (Z 15) (nI d) l (u - 1 - l)))] (hp Z P L) _ _
      have htl := t_tp_le (Z 15) (nI d) (u - 1 - l) l
      generalize ht : t_tp (Z 15) (nI d) l (u - 1 - l) = t at htl ⊢
      refine e_go hk_43 12 (c := (if s_cnd .gt (nI p) (nI (t)) = true then 63 else 52, [.ref 5, .int (nI p), .int (nI l), .int (nI (u - 1)), .int (nI d), .int (nI (t)), .int ((nI (t)) - (nI l)), .int ((nI (u - 1)) - (nI (t)))], [], hp Z P L)) rfl ?_
      refine e_gt (a := 63) (b := 52) (x := nI p) (y := nI (t)) (fun hc49 => ?_) (fun hc49 => ?_)
      · skip
        rw [y_lt (by omega) (by omega)] at hc49
        rw [if_neg (show ¬ p ≤ t by omega)]
        refine e_go hk_43 8 (c := (76, [.ref 5, .int (nI p), .int ((nI (t)) + 1), .int (nI (u - 1)), .int (nI d), .int (nI (t)), .int ((nI (t)) - (nI l)), .int (((nI (u - 1)) - (nI (t))) + 1)], [.int (((nI (u - 1)) - (nI (t))) + 1), .int ((nI (t)) - (nI l)), .ref 5], hp Z P L)) rfl ?_
        refine e_call hk_43 (as := [.ref 5, .int ((nI (t)) - (nI l)), .int (((nI (u - 1)) - (nI (t))) + 1)]) (rest := []) rfl rfl hk_40 rfl (Nat.le_of_ble_eq_true rfl) rfl x_heavy ?_
        show e_r 43 79 [.ref 5, .int (nI p), .int ((nI (t)) + 1), .int (nI (u - 1)), .int (nI d), .int (nI (t)), .int ((nI (t)) - (nI l)), .int (((nI (u - 1)) - (nI (t))) + 1)] [.int (y_b (y_th (Z 7 0) ((nI (t)) - (nI l)) (((nI (u - 1)) - (nI (t))) + 1)))] (hp Z P L) _ _
        refine e_go hk_43 1 (c := (if s_cnd .eq (y_b (y_th (Z 7 0) ((nI (t)) - (nI l)) (((nI (u - 1)) - (nI (t))) + 1))) 0 = true then 85 else 82, [.ref 5, .int (nI p), .int ((nI (t)) + 1), .int (nI (u - 1)), .int (nI d), .int (nI (t)), .int ((nI (t)) - (nI l)), .int (((nI (u - 1)) - (nI (t))) + 1)], [], hp Z P L)) rfl ?_
        refine e_eq (a := 85) (b := 82) (x := y_b (y_th (Z 7 0) ((nI (t)) - (nI l)) (((nI (u - 1)) - (nI (t))) + 1))) (y := 0) (fun hc79 => ?_) (fun hc79 => ?_)
        · skip
          rw [y_b0] at hc79
          rw [hc79, if_neg Bool.false_ne_true]
          refine e_go hk_43 2 (c := (12, [.ref 5, .int (nI p), .int ((nI (t)) + 1), .int (nI (u - 1)), .int ((nI d) + 1), .int (nI (t)), .int ((nI (t)) - (nI l)), .int (((nI (u - 1)) - (nI (t))) + 1)], [], hp Z P L)) rfl ?_
          rw [nI_1 d, nI_1 t, ← y_m1s (u := u) (by omega)]
          exact x_would_l hp0 (P := P) k (d + 1) (t + 1) u _ _ _ (by omega) hu (by omega)
        · skip
          rw [y_b1] at hc79
          rw [if_pos hc79]
          refine e_go hk_43 1 (c := (84, [.ref 5, .int (nI p), .int ((nI (t)) + 1), .int (nI (u - 1)), .int (nI d), .int (nI (t)), .int ((nI (t)) - (nI l)), .int (((nI (u - 1)) - (nI (t))) + 1)], [.int (nI (t))], hp Z P L)) rfl ?_
          exact e_ret hk_43 rfl rfl rfl rfl rfl
      · skip
        rw [y_lt (by omega) (by omega)] at hc49
        rw [if_pos (show p ≤ t by omega)]
        refine e_go hk_43 9 (c := (76, [.ref 5, .int (nI p), .int (nI l), .int ((nI (t)) - 1), .int (nI d), .int (nI (t)), .int (((nI (t)) - (nI l)) + 1), .int ((nI (u - 1)) - (nI (t)))], [.int ((nI (u - 1)) - (nI (t))), .int (((nI (t)) - (nI l)) + 1), .ref 5], hp Z P L)) rfl ?_
        refine e_call hk_43 (as := [.ref 5, .int (((nI (t)) - (nI l)) + 1), .int ((nI (u - 1)) - (nI (t)))]) (rest := []) rfl rfl hk_40 rfl (Nat.le_of_ble_eq_true rfl) rfl x_heavy ?_
        show e_r 43 79 [.ref 5, .int (nI p), .int (nI l), .int ((nI (t)) - 1), .int (nI d), .int (nI (t)), .int (((nI (t)) - (nI l)) + 1), .int ((nI (u - 1)) - (nI (t)))] [.int (y_b (y_th (Z 7 0) (((nI (t)) - (nI l)) + 1) ((nI (u - 1)) - (nI (t)))))] (hp Z P L) _ _
        refine e_go hk_43 1 (c := (if s_cnd .eq (y_b (y_th (Z 7 0) (((nI (t)) - (nI l)) + 1) ((nI (u - 1)) - (nI (t))))) 0 = true then 85 else 82, [.ref 5, .int (nI p), .int (nI l), .int ((nI (t)) - 1), .int (nI d), .int (nI (t)), .int (((nI (t)) - (nI l)) + 1), .int ((nI (u - 1)) - (nI (t)))], [], hp Z P L)) rfl ?_
        refine e_eq (a := 85) (b := 82) (x := y_b (y_th (Z 7 0) (((nI (t)) - (nI l)) + 1) ((nI (u - 1)) - (nI (t))))) (y := 0) (fun hc79 => ?_) (fun hc79 => ?_)
        · skip
          rw [y_b0] at hc79
          rw [hc79, if_neg Bool.false_ne_true]
          refine e_go hk_43 2 (c := (12, [.ref 5, .int (nI p), .int (nI l), .int ((nI (t)) - 1), .int ((nI d) + 1), .int (nI (t)), .int (((nI (t)) - (nI l)) + 1), .int ((nI (u - 1)) - (nI (t)))], [], hp Z P L)) rfl ?_
          rw [nI_1 d]
          exact x_would_l hp0 (P := P) k (d + 1) l t _ _ _ (by omega) (by omega) hl
        · skip
          rw [y_b1] at hc79
          rw [if_pos hc79]
          refine e_go hk_43 1 (c := (84, [.ref 5, .int (nI p), .int (nI l), .int ((nI (t)) - 1), .int (nI d), .int (nI (t)), .int (((nI (t)) - (nI l)) + 1), .int ((nI (u - 1)) - (nI (t)))], [.int (nI (t))], hp Z P L)) rfl ?_
          exact e_ret hk_43 rfl rfl rfl rfl rfl
theorem x_would {Z : Nat → Nat → Int32} {P : Nat → Nat} {L n : Nat} (hN : Z 5 6 = nI n) (hn : n ≤ 60) {p : Nat} (hp0 : p ≤ 60) : m_r 43 [.ref 5, .int (nI p)] (hp Z P L) (some (.int (y_o (t_wl (Z 15) (Z 7 0) p 60 0 0 n)))) (hp Z P L) := by
  refine m_of (ls := [.ref 5, .int (nI p), s_no, s_no, s_no, s_no, s_no, s_no]) hk_43 rfl rfl rfl ?_
  refine e_go hk_43 9 (c := (12, [.ref 5, .int (nI p), .int 0, .int ((Z 5 6) - 1), .int 0, s_no, s_no, s_no], [], hp Z P L)) rfl ?_
  rw [hN]
  exact x_would_l hp0 60 0 0 n _ _ _ (by omega) hn (by omega)
theorem x_room {Z : Nat → Nat → Int32} {P : Nat → Nat} {L n : Nat} (hN : Z 5 6 = nI n) (hn : n ≤ 60) {key : Int32} : m_r 45 [.ref 5, .int key] (hp Z P L) (some (.int (y_b (t_rm Z n key)))) (hp Z P L) := by
  refine m_of (ls := [.ref 5, .int key]) hk_45 rfl rfl rfl ?_
  refine e_go hk_45 4 (c := (if s_cnd .lt (Z 5 6) 60 = true then 19 else 9, [.ref 5, .int key], [], hp Z P L)) rfl ?_
  refine e_lt (a := 19) (b := 9) (x := Z 5 6) (y := 60) (fun hc6 => ?_) (fun hc6 => ?_)
  · skip
    rw [hN, show (60 : Int32) = nI 60 from rfl, y_lt (by omega) (by omega)] at hc6
    refine e_go hk_45 2 (c := (24, [.ref 5, .int key], [.int 1], hp Z P L)) rfl ?_
    exact e_ret hk_45 rfl rfl rfl (by rw [t_rm, decide_eq_true hc6]; rfl) rfl
  · skip
    rw [hN, show (60 : Int32) = nI 60 from rfl, y_lt (by omega) (by omega)] at hc6
    refine e_go hk_45 2 (c := (11, [.ref 5, .int key], [.int key, .ref 5], hp Z P L)) rfl ?_
    refine e_call hk_45 (as := [.ref 5, .int key]) (rest := []) rfl rfl hk_31 rfl (Nat.le_of_ble_eq_true rfl) rfl (x_node hN hn) ?_
    show e_r 45 14 [.ref 5, .int key] [.int (y_o (t_nd (Z 9) n key))] (hp Z P L) _ _
    refine e_go hk_45 2 (c := (if s_cnd .eq (y_o (t_nd (Z 9) n key)) ((-6)) = true then 23 else 19, [.ref 5, .int key], [], hp Z P L)) rfl ?_
    refine e_eq (a := 23) (b := 19) (x := y_o (t_nd (Z 9) n key)) (y := (-6)) (fun hc16 => ?_) (fun hc16 => ?_)
    · skip
      rw [y_o_none (fun j hj => by have := (t_nd_lt hj).1; omega)] at hc16
      refine e_go hk_45 1 (c := (24, [.ref 5, .int key], [.int 0], hp Z P L)) rfl ?_
      exact e_ret hk_45 rfl rfl rfl (by rw [t_rm, decide_eq_false hc6, hc16]; rfl) rfl
    · skip
      rw [y_o_none (fun j hj => by have := (t_nd_lt hj).1; omega)] at hc16
      refine e_go hk_45 2 (c := (24, [.ref 5, .int key], [.int 1], hp Z P L)) rfl ?_
      exact e_ret hk_45 rfl rfl rfl (by rw [t_rm, decide_eq_false hc6]; cases hq : t_nd (Z 9) n key with | none => exact absurd hq hc16 | some j => rfl) rfl
def t_mv (Z : Nat → Nat → Int32) (i j : Nat) : Nat → Nat → Int32 := s_upd (s_upd (s_upd (s_upd (s_upd Z 9 j (Z 9 i)) 11 j (Z 11 i)) 13 j (Z 13 i)) 15 j (Z 15 i)) 17 j (Z 17 i)
theorem x_move {Z : Nat → Nat → Int32} {P : Nat → Nat} {L : Nat} {i j : Nat} (hi : i < 60) (hj : j < 60) : m_r 51 [.ref 5, .int (nI i), .int (nI j)] (hp Z P L) none (hp (t_mv Z i j) P L) := by
  refine m_of (ls := [.ref 5, .int (nI i), .int (nI j)]) hk_51 rfl rfl rfl ?_
  refine e_go hk_51 6 (c := (10, [.ref 5, .int (nI i), .int (nI j)], [.int (nI i), .ref 8, .int (nI j), .ref 8], hp Z P L)) rfl ?_
  refine e_call hk_51 (as := [.ref 8, .int (nI i)]) (rest := [.int (nI j), .ref 8]) rfl rfl hk_22 rfl (Nat.le_of_ble_eq_true rfl) rfl (x_at (r := 8) (a := 9) (n := 60) rfl rfl rfl (by decide) (j := i) (by omega)) ?_
  show e_r 51 13 [.ref 5, .int (nI i), .int (nI j)] [.int (Z 9 i), .int (nI j), .ref 8] (hp Z P L) _ _
  refine e_call hk_51 (as := [.ref 8, .int (nI j), .int (Z 9 i)]) (rest := []) rfl rfl hk_23 rfl (Nat.le_of_ble_eq_true rfl) rfl (x_write (r := 8) (a := 9) (n := 60) rfl rfl rfl (by decide) (by decide) (j := j) (by omega)) ?_
  show e_r 51 16 [.ref 5, .int (nI i), .int (nI j)] [] (hp (s_upd Z 9 j (Z 9 i)) P L) _ _
  refine e_go hk_51 6 (c := (26, [.ref 5, .int (nI i), .int (nI j)], [.int (nI i), .ref 10, .int (nI j), .ref 10], hp (s_upd Z 9 j (Z 9 i)) P L)) rfl ?_
  refine e_call hk_51 (as := [.ref 10, .int (nI i)]) (rest := [.int (nI j), .ref 10]) rfl rfl hk_22 rfl (Nat.le_of_ble_eq_true rfl) rfl (x_at (r := 10) (a := 11) (n := 60) rfl rfl rfl (by decide) (j := i) (by omega)) ?_
  show e_r 51 29 [.ref 5, .int (nI i), .int (nI j)] [.int (Z 11 i), .int (nI j), .ref 10] (hp (s_upd Z 9 j (Z 9 i)) P L) _ _
  refine e_call hk_51 (as := [.ref 10, .int (nI j), .int (Z 11 i)]) (rest := []) rfl rfl hk_23 rfl (Nat.le_of_ble_eq_true rfl) rfl (x_write (r := 10) (a := 11) (n := 60) rfl rfl rfl (by decide) (by decide) (j := j) (by omega)) ?_
  show e_r 51 32 [.ref 5, .int (nI i), .int (nI j)] [] (hp (s_upd (s_upd Z 9 j (Z 9 i)) 11 j (Z 11 i)) P L) _ _
  refine e_go hk_51 6 (c := (42, [.ref 5, .int (nI i), .int (nI j)], [.int (nI i), .ref 12, .int (nI j), .ref 12], hp (s_upd (s_upd Z 9 j (Z 9 i)) 11 j (Z 11 i)) P L)) rfl ?_
  refine e_call hk_51 (as := [.ref 12, .int (nI i)]) (rest := [.int (nI j), .ref 12]) rfl rfl hk_22 rfl (Nat.le_of_ble_eq_true rfl) rfl (x_at (r := 12) (a := 13) (n := 60) rfl rfl rfl (by decide) (j := i) (by omega)) ?_
  show e_r 51 45 [.ref 5, .int (nI i), .int (nI j)] [.int (Z 13 i), .int (nI j), .ref 12] (hp (s_upd (s_upd Z 9 j (Z 9 i)) 11 j (Z 11 i)) P L) _ _
  refine e_call hk_51 (as := [.ref 12, .int (nI j), .int (Z 13 i)]) (rest := []) rfl rfl hk_23 rfl (Nat.le_of_ble_eq_true rfl) rfl (x_write (r := 12) (a := 13) (n := 60) rfl rfl rfl (by decide) (by decide) (j := j) (by omega)) ?_
  show e_r 51 48 [.ref 5, .int (nI i), .int (nI j)] [] (hp (s_upd (s_upd (s_upd Z 9 j (Z 9 i)) 11 j (Z 11 i)) 13 j (Z 13 i)) P L) _ _
  refine e_go hk_51 6 (c := (58, [.ref 5, .int (nI i), .int (nI j)], [.int (nI i), .ref 14, .int (nI j), .ref 14], hp (s_upd (s_upd (s_upd Z 9 j (Z 9 i)) 11 j (Z 11 i)) 13 j (Z 13 i)) P L)) rfl ?_
  refine e_call hk_51 (as := [.ref 14, .int (nI i)]) (rest := [.int (nI j), .ref 14]) rfl rfl hk_22 rfl (Nat.le_of_ble_eq_true rfl) rfl (x_at (r := 14) (a := 15) (n := 60) rfl rfl rfl (by decide) (j := i) (by omega)) ?_
  show e_r 51 61 [.ref 5, .int (nI i), .int (nI j)] [.int (Z 15 i), .int (nI j), .ref 14] (hp (s_upd (s_upd (s_upd Z 9 j (Z 9 i)) 11 j (Z 11 i)) 13 j (Z 13 i)) P L) _ _
  refine e_call hk_51 (as := [.ref 14, .int (nI j), .int (Z 15 i)]) (rest := []) rfl rfl hk_23 rfl (Nat.le_of_ble_eq_true rfl) rfl (x_write (r := 14) (a := 15) (n := 60) rfl rfl rfl (by decide) (by decide) (j := j) (by omega)) ?_
  show e_r 51 64 [.ref 5, .int (nI i), .int (nI j)] [] (hp (s_upd (s_upd (s_upd (s_upd Z 9 j (Z 9 i)) 11 j (Z 11 i)) 13 j (Z 13 i)) 15 j (Z 15 i)) P L) _ _
  refine e_go hk_51 6 (c := (74, [.ref 5, .int (nI i), .int (nI j)], [.int (nI i), .ref 16, .int (nI j), .ref 16], hp (s_upd (s_upd (s_upd (s_upd Z 9 j (Z 9 i)) 11 j (Z 11 i)) 13 j (Z 13 i)) 15 j (Z 15 i)) P L)) rfl ?_
  refine e_call hk_51 (as := [.ref 16, .int (nI i)]) (rest := [.int (nI j), .ref 16]) rfl rfl hk_22 rfl (Nat.le_of_ble_eq_true rfl) rfl (x_at (r := 16) (a := 17) (n := 60) rfl rfl rfl (by decide) (j := i) (by omega)) ?_
  show e_r 51 77 [.ref 5, .int (nI i), .int (nI j)] [.int (Z 17 i), .int (nI j), .ref 16] (hp (s_upd (s_upd (s_upd (s_upd Z 9 j (Z 9 i)) 11 j (Z 11 i)) 13 j (Z 13 i)) 15 j (Z 15 i)) P L) _ _
  refine e_call hk_51 (as := [.ref 16, .int (nI j), .int (Z 17 i)]) (rest := []) rfl rfl hk_23 rfl (Nat.le_of_ble_eq_true rfl) rfl (x_write (r := 16) (a := 17) (n := 60) rfl rfl rfl (by decide) (by decide) (j := j) (by omega)) ?_
  show e_r 51 80 [.ref 5, .int (nI i), .int (nI j)] [] (hp (s_upd (s_upd (s_upd (s_upd (s_upd Z 9 j (Z 9 i)) 11 j (Z 11 i)) 13 j (Z 13 i)) 15 j (Z 15 i)) 17 j (Z 17 i)) P L) _ _
  exact e_ret hk_51 rfl rfl rfl rfl rfl
def t_sp (Z : Nat → Nat → Int32) (pd w : Int32) : Nat → Nat → Int32 := s_upd (s_upd (s_upd (s_upd Z 5 8 (Z 5 8 + (pd - w))) 5 7 (Z 5 7 + w)) 5 9 (Z 5 9 + 1)) 5 10 (if Z 5 10 < w then w else Z 5 10)
theorem x_spend {Z : Nat → Nat → Int32} {P : Nat → Nat} {L : Nat} {pd w : Int32} : m_r 53 [.ref 5, .int pd, .int w] (hp Z P L) none (hp (t_sp Z pd w) P L) := by
  refine m_of (ls := [.ref 5, .int pd, .int w]) hk_53 rfl rfl rfl ?_
  refine e_go hk_53 26 (c := (44, [.ref 5, .int pd, .int w], [], hp (s_upd (s_upd (s_upd (s_upd Z 5 8 ((Z 5 8) + (pd - w))) 5 7 ((Z 5 7) + w)) 5 9 ((Z 5 9) + 1)) 5 10 (if Z 5 10 < w then w else Z 5 10)) P L)) rfl ?_
  exact e_ret hk_53 rfl rfl rfl rfl rfl
/-- paying on the way to place p -/
def t_py (p : Nat) : Nat → Nat → Nat → Nat → (Nat → Nat → Int32) → Nat → Nat → Int32
  | 0, _, _, _, Z => Z
  | k + 1, d, l, u, Z => if u ≤ l then Z else
    if t_tp (Z 15) (nI d) l (u - 1 - l) = p then s_upd Z 13 (t_tp (Z 15) (nI d) l (u - 1 - l)) (Z 13 (t_tp (Z 15) (nI d) l (u - 1 - l)) + Z 7 2)
    else if t_tp (Z 15) (nI d) l (u - 1 - l) < p then t_py p k (d + 1) (t_tp (Z 15) (nI d) l (u - 1 - l) + 1) u (s_upd Z 13 (t_tp (Z 15) (nI d) l (u - 1 - l)) (Z 13 (t_tp (Z 15) (nI d) l (u - 1 - l)) + Z 7 2))
    else t_py p k (d + 1) l (t_tp (Z 15) (nI d) l (u - 1 - l)) (s_upd Z 13 (t_tp (Z 15) (nI d) l (u - 1 - l)) (Z 13 (t_tp (Z 15) (nI d) l (u - 1 - l)) + Z 7 2))
theorem x_pay_l {P : Nat → Nat} {L : Nat} {p : Nat} (hp0 : p ≤ 60) : ∀ (k d l u : Nat) (y5 : Value) (Z : Nat → Nat → Int32), d + k = 60 → u ≤ 60 → l ≤ 60 → e_r 49 12 [.ref 5, .int (nI p), .int (nI l), .int (nI u - 1), .int (nI d), y5] [] (hp Z P L) none (hp (t_py p k d l u Z) P L)
  | 0, d, l, u, y5, Z, hd, hu, hl => by
    refine e_go hk_49 3 (c := (if s_cnd .ge (nI d) 60 = true then 104 else 19, [.ref 5, .int (nI p), .int (nI l), .int (nI u - 1), .int (nI d), y5], [], hp Z P L)) rfl ?_
    refine e_ge (a := 104) (b := 19) (x := nI d) (y := 60) (fun hc16 => ?_) (fun hc16 => absurd (by rw [show (60 : Int32) = nI 60 from rfl]; exact (y_le (by omega) (by omega)).mpr (by omega)) hc16)
    exact e_ret hk_49 rfl rfl rfl rfl rfl
  | k + 1, d, l, u, y5, Z, hd, hu, hl => by
    refine e_go hk_49 3 (c := (if s_cnd .ge (nI d) 60 = true then 104 else 19, [.ref 5, .int (nI p), .int (nI l), .int (nI u - 1), .int (nI d), y5], [], hp Z P L)) rfl ?_
    refine e_ge (a := 104) (b := 19) (x := nI d) (y := 60) (fun hc16 => absurd hc16 (by rw [show (60 : Int32) = nI 60 from rfl]; exact nI_ge (by omega) (by omega))) (fun hc16 => ?_)
    refine e_go hk_49 3 (c := (if s_cnd .gt (nI l) (nI u - 1) = true then 104 else 24, [.ref 5, .int (nI p), .int (nI l), .int (nI u - 1), .int (nI d), y5], [], hp Z P L)) rfl ?_
    refine e_gt (a := 104) (b := 24) (x := nI l) (y := nI u - 1) (fun hc21 => ?_) (fun hc21 => ?_)
    · skip
      rw [y_m1lt (by omega) (by omega)] at hc21
      rw [t_py, if_pos hc21]
      exact e_ret hk_49 rfl rfl rfl rfl rfl
    · skip
      rw [y_m1lt (by omega) (by omega)] at hc21
      rw [t_py, if_neg hc21]
      rw [y_m1s (u := u) (by omega)]
      refine e_go hk_49 4 (c := (29, [.ref 5, .int (nI p), .int (nI l), .int (nI (u - 1)), .int (nI d), y5], [.int (nI d), .int (nI (u - 1)), .int (nI l), .ref 5], hp Z P L)) rfl ?_
      refine e_call hk_49 (as := [.ref 5, .int (nI l), .int (nI (u - 1)), .int (nI d)]) (rest := []) rfl rfl hk_39 rfl (Nat.le_of_ble_eq_true rfl) rfl (x_top (l := l) (u := u - 1) (by omega) (by omega)) ?_
      show e_r 49 32 [.ref 5, .int (nI p), .int (nI l), .int (nI (u - 1)), .int (nI d), y5] [.int (nI (t_tp (Z 15) (nI d) l (u - 1 - l)))] (hp Z P L) _ _
      have htl := t_tp_le (Z 15) (nI d) (u - 1 - l) l
      generalize ht : t_tp (Z 15) (nI d) l (u - 1 - l) = t at htl ⊢
      refine e_go hk_49 7 (c := (46, [.ref 5, .int (nI p), .int (nI l), .int (nI (u - 1)), .int (nI d), .int (nI (t))], [.int (nI (t)), .ref 12, .int (nI (t)), .ref 12], hp Z P L)) rfl ?_
      refine e_call hk_49 (as := [.ref 12, .int (nI t)]) (rest := [.int (nI (t)), .ref 12]) rfl rfl hk_22 rfl (Nat.le_of_ble_eq_true rfl) rfl (x_at (r := 12) (a := 13) (n := 60) rfl rfl rfl (by decide) (j := t) (by omega)) ?_
      show e_r 49 49 [.ref 5, .int (nI p), .int (nI l), .int (nI (u - 1)), .int (nI d), .int (nI (t))] [.int (Z 13 t), .int (nI (t)), .ref 12] (hp Z P L) _ _
      refine e_go hk_49 3 (c := (54, [.ref 5, .int (nI p), .int (nI l), .int (nI (u - 1)), .int (nI d), .int (nI (t))], [.int 2, .ref 6, .int (Z 13 t), .int (nI (t)), .ref 12], hp Z P L)) rfl ?_
      refine e_call hk_49 (as := [.ref 6, .int (nI 2)]) (rest := [.int (Z 13 t), .int (nI (t)), .ref 12]) rfl rfl hk_22 rfl (Nat.le_of_ble_eq_true rfl) rfl (x_at (r := 6) (a := 7) (n := 3) rfl rfl rfl (by decide) (j := 2) (by decide)) ?_
      show e_r 49 57 [.ref 5, .int (nI p), .int (nI l), .int (nI (u - 1)), .int (nI d), .int (nI (t))] [.int (Z 7 2), .int (Z 13 t), .int (nI (t)), .ref 12] (hp Z P L) _ _
      refine e_go hk_49 1 (c := (58, [.ref 5, .int (nI p), .int (nI l), .int (nI (u - 1)), .int (nI d), .int (nI (t))], [.int ((Z 13 t) + (Z 7 2)), .int (nI (t)), .ref 12], hp Z P L)) rfl ?_
      refine e_call hk_49 (as := [.ref 12, .int (nI t), .int ((Z 13 t) + (Z 7 2))]) (rest := []) rfl rfl hk_23 rfl (Nat.le_of_ble_eq_true rfl) rfl (x_write (r := 12) (a := 13) (n := 60) rfl rfl rfl (by decide) (by decide) (j := t) (by omega)) ?_
      show e_r 49 61 [.ref 5, .int (nI p), .int (nI l), .int (nI (u - 1)), .int (nI d), .int (nI (t))] [] (hp (s_upd Z 13 t ((Z 13 t) + (Z 7 2))) P L) _ _
      refine e_go hk_49 3 (c := (if s_cnd .ge (nI (t)) (nI p) = true then 74 else 67, [.ref 5, .int (nI p), .int (nI l), .int (nI (u - 1)), .int (nI d), .int (nI (t))], [], hp (s_upd Z 13 t ((Z 13 t) + (Z 7 2))) P L)) rfl ?_
      refine e_ge (a := 74) (b := 67) (x := nI (t)) (y := nI p) (fun hc64 => ?_) (fun hc64 => ?_)
      · skip
        rw [y_le (by omega) (by omega)] at hc64
        refine e_go hk_49 5 (c := (if s_cnd .le (nI (t)) (nI p) = true then 89 else 82, [.ref 5, .int (nI p), .int (nI l), .int (nI (u - 1)), .int (nI d), .int (nI (t))], [], hp (s_upd Z 13 t ((Z 13 t) + (Z 7 2))) P L)) rfl ?_
        refine e_le (a := 89) (b := 82) (x := nI (t)) (y := nI p) (fun hc79 => ?_) (fun hc79 => ?_)
        · skip
          rw [y_le (by omega) (by omega)] at hc79
          refine e_go hk_49 5 (c := (if s_cnd .ne (nI (t)) (nI p) = true then 98 else 97, [.ref 5, .int (nI p), .int (nI l), .int (nI (u - 1)), .int (nI d), .int (nI (t))], [], hp (s_upd Z 13 t ((Z 13 t) + (Z 7 2))) P L)) rfl ?_
          refine e_ne (a := 98) (b := 97) (x := nI (t)) (y := nI p) (fun hc94 => absurd (by rw [show t = p by omega]) hc94) (fun hc94 => ?_)
          exact e_ret hk_49 rfl rfl rfl rfl (by rw [if_pos (show t = p by omega)])
        · skip
          rw [y_le (by omega) (by omega)] at hc79
          refine e_go hk_49 8 (c := (if s_cnd .ne (nI (t)) (nI p) = true then 98 else 97, [.ref 5, .int (nI p), .int (nI l), .int ((nI (t)) - 1), .int (nI d), .int (nI (t))], [], hp (s_upd Z 13 t ((Z 13 t) + (Z 7 2))) P L)) rfl ?_
          refine e_ne (a := 98) (b := 97) (x := nI (t)) (y := nI p) (fun hc94 => ?_) (fun hc94 => absurd hc94 (fun z => absurd ((nI_eq (by omega) (by omega)).mp z) (by omega)))
          refine e_go hk_49 2 (c := (12, [.ref 5, .int (nI p), .int (nI l), .int ((nI (t)) - 1), .int ((nI d) + 1), .int (nI (t))], [], hp (s_upd Z 13 t ((Z 13 t) + (Z 7 2))) P L)) rfl ?_
          rw [if_neg (show ¬ t = p by omega), if_neg (show ¬ t < p by omega), nI_1 d]
          exact x_pay_l hp0 k (d + 1) l t _ _ (by omega) (by omega) hl
      · skip
        rw [y_le (by omega) (by omega)] at hc64
        refine e_go hk_49 8 (c := (if s_cnd .le (nI (t)) (nI p) = true then 89 else 82, [.ref 5, .int (nI p), .int ((nI (t)) + 1), .int (nI (u - 1)), .int (nI d), .int (nI (t))], [], hp (s_upd Z 13 t ((Z 13 t) + (Z 7 2))) P L)) rfl ?_
        refine e_le (a := 89) (b := 82) (x := nI (t)) (y := nI p) (fun hc79 => ?_) (fun hc79 => absurd ((y_le (by omega) (by omega)).mpr (by omega)) hc79)
        refine e_go hk_49 5 (c := (if s_cnd .ne (nI (t)) (nI p) = true then 98 else 97, [.ref 5, .int (nI p), .int ((nI (t)) + 1), .int (nI (u - 1)), .int (nI d), .int (nI (t))], [], hp (s_upd Z 13 t ((Z 13 t) + (Z 7 2))) P L)) rfl ?_
        refine e_ne (a := 98) (b := 97) (x := nI (t)) (y := nI p) (fun hc94 => ?_) (fun hc94 => absurd hc94 (fun z => absurd ((nI_eq (by omega) (by omega)).mp z) (by omega)))
        refine e_go hk_49 2 (c := (12, [.ref 5, .int (nI p), .int ((nI (t)) + 1), .int (nI (u - 1)), .int ((nI d) + 1), .int (nI (t))], [], hp (s_upd Z 13 t ((Z 13 t) + (Z 7 2))) P L)) rfl ?_
        rw [if_neg (show ¬ t = p by omega), if_pos (show t < p by omega), nI_1 d, nI_1 t, ← y_m1s (u := u) (by omega)]
        exact x_pay_l hp0 k (d + 1) (t + 1) u _ _ (by omega) hu (by omega)
theorem x_pay {Z : Nat → Nat → Int32} {P : Nat → Nat} {L n : Nat} (hN : Z 5 6 = nI n) (hn : n ≤ 60) {p : Nat} (hp0 : p ≤ 60) : m_r 49 [.ref 5, .int (nI p)] (hp Z P L) none (hp (t_py p 60 0 0 n Z) P L) := by
  refine m_of (ls := [.ref 5, .int (nI p), s_no, s_no, s_no, s_no]) hk_49 rfl rfl rfl ?_
  refine e_go hk_49 9 (c := (12, [.ref 5, .int (nI p), .int 0, .int ((Z 5 6) - 1), .int 0, s_no], [], hp Z P L)) rfl ?_
  rw [hN]
  exact x_pay_l hp0 60 0 0 n _ _ (by omega) hn (by omega)
end
section
/-! Tree: new nodes, dropping, laying anew; printed by wip/whole/gen/tree3.py -/
theorem e_idiv {k pc : Nat} {r : sM} {cn : Option Nat} {ls rest : List Value} {h h2 : sHp} {v : Option Value} (hk : s_T k = some (r, cn)) {e : sE} {x y : Int32} (hat : s_at (s_cd r) pc = some e) (hi : e.2.1 = .idiv) (hy : ¬ y = 0) (kk : e_r k (pc + e.2.2.1) ls (.int (x / y) :: rest) h v h2) : e_r k pc ls (.int y :: .int x :: rest) h v h2 := by
  refine e_step (c := (pc + e.2.2.1, ls, .int (x / y) :: rest, h)) hk hat (by rw [hi]; rfl) (by rw [hi]; rfl) ?_ kk
  rw [hi]
  dsimp only [s_x]
  rw [if_neg hy]
/-- the nodes from q - k on move one place up, the last one first -/
def t_sh : Nat → Nat → (Nat → Nat → Int32) → Nat → Nat → Int32
  | 0, _, Z => Z
  | k + 1, q, Z => t_sh k (q - 1) (t_mv Z (q - 1) q)
def t_mt (Z : Nat → Nat → Int32) (p : Nat) (key value dep : Int32) : Nat → Nat → Int32 := s_upd (s_upd (s_upd (s_upd (s_upd (s_upd Z 5 6 (Z 5 6 + 1)) 9 p key) 11 p value) 13 p 0) 15 p dep) 17 p 1
def t_bf (D : Nat → Int32) : Nat → Int32
  | 0 => -1
  | q + 1 => D q
def t_bh (D : Nat → Int32) (n p : Nat) : Int32 := if p < n then D p else -1
def y_mx (a b : Int32) : Int32 := if a < b then b else a
def t_mk (Z : Nat → Nat → Int32) (n p : Nat) (key value : Int32) : Nat → Nat → Int32 := t_mt (t_sh (n - p) n Z) p key value (y_mx (t_bf (Z 15) p) (t_bh (Z 15) n p) + 1)
theorem x_make_l {P : Nat → Nat} {L : Nat} {p : Nat} {key value bf bh : Int32} (hp0 : p < 60) : ∀ (k q : Nat) (Z : Nat → Nat → Int32), q = p + k → q < 60 → e_r 50 48 [.ref 5, .int (nI p), .int key, .int value, .int bf, .int bh, .int (nI q)] [] (hp Z P L) none (hp (t_mt (t_sh k q Z) p key value ((if bf < bh then bh else bf) + 1)) P L)
  | 0, q, Z, hq, hq2 => by
    rw [t_sh, show nI q = nI p from by rw [show q = p by omega]]
    refine e_go hk_50 3 (c := (if s_cnd .le (nI p) (nI p) = true then 70 else 54, [.ref 5, .int (nI p), .int key, .int value, .int bf, .int bh, .int (nI p)], [], hp Z P L)) rfl ?_
    refine e_le (a := 70) (b := 54) (x := nI p) (y := nI p) (fun hc51 => ?_) (fun hc51 => absurd ((y_le (by omega) (by omega)).mpr (by omega)) hc51)
    refine e_go hk_50 10 (c := (86, [.ref 5, .int (nI p), .int key, .int value, .int bf, .int bh, .int (nI p)], [.int key, .int (nI p), .ref 8], hp (s_upd Z 5 6 ((Z 5 6) + 1)) P L)) rfl ?_
    refine e_call hk_50 (as := [.ref 8, .int (nI p), .int key]) (rest := []) rfl rfl hk_23 rfl (Nat.le_of_ble_eq_true rfl) rfl (x_write (r := 8) (a := 9) (n := 60) rfl rfl rfl (by decide) (by decide) (j := p) (by omega)) ?_
    show e_r 50 89 [.ref 5, .int (nI p), .int key, .int value, .int bf, .int bh, .int (nI p)] [] (hp (s_upd (s_upd Z 5 6 ((Z 5 6) + 1)) 9 p key) P L) _ _
    refine e_go hk_50 4 (c := (95, [.ref 5, .int (nI p), .int key, .int value, .int bf, .int bh, .int (nI p)], [.int value, .int (nI p), .ref 10], hp (s_upd (s_upd Z 5 6 ((Z 5 6) + 1)) 9 p key) P L)) rfl ?_
    refine e_call hk_50 (as := [.ref 10, .int (nI p), .int value]) (rest := []) rfl rfl hk_23 rfl (Nat.le_of_ble_eq_true rfl) rfl (x_write (r := 10) (a := 11) (n := 60) rfl rfl rfl (by decide) (by decide) (j := p) (by omega)) ?_
    show e_r 50 98 [.ref 5, .int (nI p), .int key, .int value, .int bf, .int bh, .int (nI p)] [] (hp (s_upd (s_upd (s_upd Z 5 6 ((Z 5 6) + 1)) 9 p key) 11 p value) P L) _ _
    refine e_go hk_50 4 (c := (104, [.ref 5, .int (nI p), .int key, .int value, .int bf, .int bh, .int (nI p)], [.int 0, .int (nI p), .ref 12], hp (s_upd (s_upd (s_upd Z 5 6 ((Z 5 6) + 1)) 9 p key) 11 p value) P L)) rfl ?_
    refine e_call hk_50 (as := [.ref 12, .int (nI p), .int 0]) (rest := []) rfl rfl hk_23 rfl (Nat.le_of_ble_eq_true rfl) rfl (x_write (r := 12) (a := 13) (n := 60) rfl rfl rfl (by decide) (by decide) (j := p) (by omega)) ?_
    show e_r 50 107 [.ref 5, .int (nI p), .int key, .int value, .int bf, .int bh, .int (nI p)] [] (hp (s_upd (s_upd (s_upd (s_upd Z 5 6 ((Z 5 6) + 1)) 9 p key) 11 p value) 13 p 0) P L) _ _
    refine e_go hk_50 8 (c := (121, [.ref 5, .int (nI p), .int key, .int value, .int bf, .int bh, .int (nI p)], [.int ((if bf < bh then bh else bf) + 1), .int (nI p), .ref 14], hp (s_upd (s_upd (s_upd (s_upd Z 5 6 ((Z 5 6) + 1)) 9 p key) 11 p value) 13 p 0) P L)) rfl ?_
    refine e_call hk_50 (as := [.ref 14, .int (nI p), .int ((if bf < bh then bh else bf) + 1)]) (rest := []) rfl rfl hk_23 rfl (Nat.le_of_ble_eq_true rfl) rfl (x_write (r := 14) (a := 15) (n := 60) rfl rfl rfl (by decide) (by decide) (j := p) (by omega)) ?_
    show e_r 50 124 [.ref 5, .int (nI p), .int key, .int value, .int bf, .int bh, .int (nI p)] [] (hp (s_upd (s_upd (s_upd (s_upd (s_upd Z 5 6 ((Z 5 6) + 1)) 9 p key) 11 p value) 13 p 0) 15 p ((if bf < bh then bh else bf) + 1)) P L) _ _
    refine e_go hk_50 4 (c := (130, [.ref 5, .int (nI p), .int key, .int value, .int bf, .int bh, .int (nI p)], [.int 1, .int (nI p), .ref 16], hp (s_upd (s_upd (s_upd (s_upd (s_upd Z 5 6 ((Z 5 6) + 1)) 9 p key) 11 p value) 13 p 0) 15 p ((if bf < bh then bh else bf) + 1)) P L)) rfl ?_
    refine e_call hk_50 (as := [.ref 16, .int (nI p), .int 1]) (rest := []) rfl rfl hk_23 rfl (Nat.le_of_ble_eq_true rfl) rfl (x_write (r := 16) (a := 17) (n := 60) rfl rfl rfl (by decide) (by decide) (j := p) (by omega)) ?_
    show e_r 50 133 [.ref 5, .int (nI p), .int key, .int value, .int bf, .int bh, .int (nI p)] [] (hp (s_upd (s_upd (s_upd (s_upd (s_upd (s_upd Z 5 6 ((Z 5 6) + 1)) 9 p key) 11 p value) 13 p 0) 15 p ((if bf < bh then bh else bf) + 1)) 17 p 1) P L) _ _
    exact e_ret hk_50 rfl rfl rfl rfl rfl
  | k + 1, q0, Z, hq, hq2 => by
    obtain ⟨q, rfl⟩ : ∃ z, q0 = z + 1 := ⟨p + k, by omega⟩
    rw [t_sh, Nat.add_sub_cancel]
    refine e_go hk_50 3 (c := (if s_cnd .le (nI (q + 1)) (nI p) = true then 70 else 54, [.ref 5, .int (nI p), .int key, .int value, .int bf, .int bh, .int (nI (q + 1))], [], hp Z P L)) rfl ?_
    refine e_le (a := 70) (b := 54) (x := nI (q + 1)) (y := nI p) (fun hc51 => absurd hc51 (nI_ge (by omega) (by omega))) (fun hc51 => ?_)
    refine e_go hk_50 5 (c := (61, [.ref 5, .int (nI p), .int key, .int value, .int bf, .int bh, .int (nI (q + 1))], [.int (nI (q + 1)), .int ((nI (q + 1)) - 1), .ref 5], hp Z P L)) rfl ?_
    rw [nI_pred]
    refine e_call hk_50 (as := [.ref 5, .int (nI q), .int (nI (q + 1))]) (rest := []) rfl rfl hk_51 rfl (Nat.le_of_ble_eq_true rfl) rfl (x_move (i := q) (j := q + 1) (by omega) (by omega)) ?_
    show e_r 50 64 [.ref 5, .int (nI p), .int key, .int value, .int bf, .int bh, .int (nI (q + 1))] [] (hp ((t_mv Z q (q + 1))) P L) _ _
    refine e_go hk_50 2 (c := (48, [.ref 5, .int (nI p), .int key, .int value, .int bf, .int bh, .int ((nI (q + 1)) + (-1))], [], hp ((t_mv Z q (q + 1))) P L)) rfl ?_
    rw [pk_m1]
    exact x_make_l hp0 k q _ (by omega) (by omega)
theorem x_make_0 {Z : Nat → Nat → Int32} {P : Nat → Nat} {L n : Nat} (hN : Z 5 6 = nI n) (hn : n ≤ 60)  {key value : Int32} (hn2 : n < 60) : m_r 50 [.ref 5, .int (nI 0), .int key, .int value] (hp Z P L) none (hp (t_mk Z n 0 key value) P L) := by
  refine m_of (ls := [.ref 5, .int (nI 0), .int key, .int value, s_no, s_no, s_no]) hk_50 rfl rfl rfl ?_
  refine e_go hk_50 2 (c := (if s_cnd .le (nI 0) 0 = true then 17 else 4, [.ref 5, .int (nI 0), .int key, .int value, s_no, s_no, s_no], [], hp Z P L)) rfl ?_
  refine e_le (a := 17) (b := 4) (x := nI 0) (y := 0) (fun hc1 => ?_) (fun hc1 => absurd (by decide) hc1)
  refine e_go hk_50 6 (c := (if s_cnd .ge (nI 0) (Z 5 6) = true then 39 else 28, [.ref 5, .int (nI 0), .int key, .int value, .int ((-1)), s_no, s_no], [], hp Z P L)) rfl ?_
  refine e_ge (a := 39) (b := 28) (x := nI 0) (y := Z 5 6) (fun hc25 => ?_) (fun hc25 => ?_)
  · skip
    rw [hN, y_le (by omega) (by omega)] at hc25
    rw [t_mk, t_bh, if_neg (show ¬ 0 < n by omega)]
    refine e_go hk_50 5 (c := (48, [.ref 5, .int (nI 0), .int key, .int value, .int ((-1)), .int ((-1)), .int (Z 5 6)], [], hp Z P L)) rfl ?_
    rw [hN]
    exact x_make_l (by omega) (n - 0) n _ (by omega) (by omega)
  · skip
    rw [hN, y_le (by omega) (by omega)] at hc25
    rw [t_mk, t_bh, if_pos (show 0 < n by omega)]
    refine e_go hk_50 3 (c := (33, [.ref 5, .int (nI 0), .int key, .int value, .int ((-1)), s_no, s_no], [.int (nI 0), .ref 14], hp Z P L)) rfl ?_
    refine e_call hk_50 (as := [.ref 14, .int (nI 0)]) (rest := []) rfl rfl hk_22 rfl (Nat.le_of_ble_eq_true rfl) rfl (x_at (r := 14) (a := 15) (n := 60) rfl rfl rfl (by decide) (j := 0) (by decide)) ?_
    show e_r 50 36 [.ref 5, .int (nI 0), .int key, .int value, .int ((-1)), s_no, s_no] [.int (Z 15 0)] (hp Z P L) _ _
    refine e_go hk_50 5 (c := (48, [.ref 5, .int (nI 0), .int key, .int value, .int ((-1)), .int (Z 15 0), .int (Z 5 6)], [], hp Z P L)) rfl ?_
    rw [hN]
    exact x_make_l (by omega) (n - 0) n _ (by omega) (by omega)
theorem x_make_s {Z : Nat → Nat → Int32} {P : Nat → Nat} {L n : Nat} (hN : Z 5 6 = nI n) (hn : n ≤ 60) {q : Nat} (hp0 : q + 1 ≤ n) {key value : Int32} (hn2 : n < 60) : m_r 50 [.ref 5, .int (nI ((q + 1))), .int key, .int value] (hp Z P L) none (hp (t_mk Z n ((q + 1)) key value) P L) := by
  refine m_of (ls := [.ref 5, .int (nI ((q + 1))), .int key, .int value, s_no, s_no, s_no]) hk_50 rfl rfl rfl ?_
  refine e_go hk_50 2 (c := (if s_cnd .le (nI ((q + 1))) 0 = true then 17 else 4, [.ref 5, .int (nI ((q + 1))), .int key, .int value, s_no, s_no, s_no], [], hp Z P L)) rfl ?_
  refine e_le (a := 17) (b := 4) (x := nI ((q + 1))) (y := 0) (fun hc1 => absurd hc1 (nI_nle (by omega) (by omega))) (fun hc1 => ?_)
  refine e_go hk_50 5 (c := (11, [.ref 5, .int (nI ((q + 1))), .int key, .int value, s_no, s_no, s_no], [.int ((nI ((q + 1))) - 1), .ref 14], hp Z P L)) rfl ?_
  rw [nI_pred]
  refine e_call hk_50 (as := [.ref 14, .int (nI q)]) (rest := []) rfl rfl hk_22 rfl (Nat.le_of_ble_eq_true rfl) rfl (x_at (r := 14) (a := 15) (n := 60) rfl rfl rfl (by decide) (j := q) (by omega)) ?_
  show e_r 50 14 [.ref 5, .int (nI ((q + 1))), .int key, .int value, s_no, s_no, s_no] [.int (Z 15 q)] (hp Z P L) _ _
  refine e_go hk_50 6 (c := (if s_cnd .ge (nI ((q + 1))) (Z 5 6) = true then 39 else 28, [.ref 5, .int (nI ((q + 1))), .int key, .int value, .int (Z 15 q), s_no, s_no], [], hp Z P L)) rfl ?_
  refine e_ge (a := 39) (b := 28) (x := nI ((q + 1))) (y := Z 5 6) (fun hc25 => ?_) (fun hc25 => ?_)
  · skip
    rw [hN, y_le (by omega) (by omega)] at hc25
    rw [t_mk, t_bh, if_neg (show ¬ (q + 1) < n by omega)]
    refine e_go hk_50 5 (c := (48, [.ref 5, .int (nI ((q + 1))), .int key, .int value, .int (Z 15 q), .int ((-1)), .int (Z 5 6)], [], hp Z P L)) rfl ?_
    rw [hN]
    exact x_make_l (by omega) (n - ((q + 1))) n _ (by omega) (by omega)
  · skip
    rw [hN, y_le (by omega) (by omega)] at hc25
    rw [t_mk, t_bh, if_pos (show (q + 1) < n by omega)]
    refine e_go hk_50 3 (c := (33, [.ref 5, .int (nI ((q + 1))), .int key, .int value, .int (Z 15 q), s_no, s_no], [.int (nI ((q + 1))), .ref 14], hp Z P L)) rfl ?_
    refine e_call hk_50 (as := [.ref 14, .int (nI ((q + 1)))]) (rest := []) rfl rfl hk_22 rfl (Nat.le_of_ble_eq_true rfl) rfl (x_at (r := 14) (a := 15) (n := 60) rfl rfl rfl (by decide) (j := (q + 1)) (by omega)) ?_
    show e_r 50 36 [.ref 5, .int (nI ((q + 1))), .int key, .int value, .int (Z 15 q), s_no, s_no] [.int (Z 15 ((q + 1)))] (hp Z P L) _ _
    refine e_go hk_50 5 (c := (48, [.ref 5, .int (nI ((q + 1))), .int key, .int value, .int (Z 15 q), .int (Z 15 ((q + 1))), .int (Z 5 6)], [], hp Z P L)) rfl ?_
    rw [hN]
    exact x_make_l (by omega) (n - ((q + 1))) n _ (by omega) (by omega)
theorem x_make {Z : Nat → Nat → Int32} {P : Nat → Nat} {L n : Nat} (hN : Z 5 6 = nI n) (hn : n ≤ 60) {p : Nat} (hp0 : p ≤ n) {key value : Int32} (hn2 : n < 60) : m_r 50 [.ref 5, .int (nI p), .int key, .int value] (hp Z P L) none (hp (t_mk Z n p key value) P L) := by
  cases p with
  | zero => exact x_make_0 hN hn hn2
  | succ q => exact x_make_s hN hn hp0 hn2
/-- the hollow ones of the places up to hi are dropped: from place i on, to place q -/
def t_dh (hi : Nat) : Nat → Nat → Nat → (Nat → Nat → Int32) → Nat → Nat → Int32
  | 0, _, q, Z => s_upd Z 5 6 (nI q)
  | k + 1, i, q, Z => if hi < i ∨ Z 17 i = 1 then t_dh hi k (i + 1) (q + 1) (t_mv Z i q) else t_dh hi k (i + 1) q Z
theorem x_drop_l {P : Nat → Nat} {L n : Nat} (hn : n ≤ 60) {hi : Nat} {low : Int32} (hh : hi < 60) : ∀ (k i q : Nat) (Z : Nat → Nat → Int32), Z 5 6 = nI n → i + k = n → q ≤ i → e_r 54 5 [.ref 5, .int low, .int (nI hi), .int (nI q), .int (nI i)] [] (hp Z P L) none (hp (t_dh hi k i q Z) P L)
  | 0, i, q, Z, hZ, hi2, hqi => by
    refine e_go hk_54 4 (c := (if s_cnd .ge (nI i) (Z 5 6) = true then 45 else 14, [.ref 5, .int low, .int (nI hi), .int (nI q), .int (nI i)], [], hp Z P L)) rfl ?_
    refine e_ge (a := 45) (b := 14) (x := nI i) (y := Z 5 6) (fun hc11 => ?_) (fun hc11 => absurd (by rw [hZ]; exact (y_le (by omega) (by omega)).mpr (by omega)) hc11)
    refine e_go hk_54 3 (c := (50, [.ref 5, .int low, .int (nI hi), .int (nI q), .int (nI i)], [], hp (s_upd Z 5 6 (nI q)) P L)) rfl ?_
    exact e_ret hk_54 rfl rfl rfl rfl rfl
  | k + 1, i, q, Z, hZ, hi2, hqi => by
    refine e_go hk_54 4 (c := (if s_cnd .ge (nI i) (Z 5 6) = true then 45 else 14, [.ref 5, .int low, .int (nI hi), .int (nI q), .int (nI i)], [], hp Z P L)) rfl ?_
    refine e_ge (a := 45) (b := 14) (x := nI i) (y := Z 5 6) (fun hc11 => absurd hc11 (by rw [hZ]; exact nI_ge (by omega) (by omega))) (fun hc11 => ?_)
    refine e_go hk_54 3 (c := (if s_cnd .gt (nI i) (nI hi) = true then 29 else 20, [.ref 5, .int low, .int (nI hi), .int (nI q), .int (nI i)], [], hp Z P L)) rfl ?_
    refine e_gt (a := 29) (b := 20) (x := nI i) (y := nI hi) (fun hc17 => ?_) (fun hc17 => ?_)
    · skip
      rw [y_lt (by omega) (by omega)] at hc17
      refine e_go hk_54 3 (c := (33, [.ref 5, .int low, .int (nI hi), .int (nI q), .int (nI i)], [.int (nI q), .int (nI i), .ref 5], hp Z P L)) rfl ?_
      refine e_call hk_54 (as := [.ref 5, .int (nI i), .int (nI q)]) (rest := []) rfl rfl hk_51 rfl (Nat.le_of_ble_eq_true rfl) rfl (x_move (i := i) (j := q) (by omega) (by omega)) ?_
      show e_r 54 36 [.ref 5, .int low, .int (nI hi), .int (nI q), .int (nI i)] [] (hp ((t_mv Z i q)) P L) _ _
      refine e_go hk_54 3 (c := (5, [.ref 5, .int low, .int (nI hi), .int ((nI q) + 1), .int ((nI i) + 1)], [], hp ((t_mv Z i q)) P L)) rfl ?_
      rw [t_dh, if_pos (Or.inl (show hi < i by omega)), nI_1 q, nI_1 i]
      exact x_drop_l hn hh k (i + 1) (q + 1) _ hZ (by omega) (by omega)
    · skip
      rw [y_lt (by omega) (by omega)] at hc17
      refine e_go hk_54 2 (c := (23, [.ref 5, .int low, .int (nI hi), .int (nI q), .int (nI i)], [.int (nI i), .ref 5], hp Z P L)) rfl ?_
      refine e_call hk_54 (as := [.ref 5, .int (nI i)]) (rest := []) rfl rfl hk_33 rfl (Nat.le_of_ble_eq_true rfl) rfl (x_isfull (j := i) (by omega)) ?_
      show e_r 54 26 [.ref 5, .int low, .int (nI hi), .int (nI q), .int (nI i)] [.int (y_b (decide (Z 17 i = 1)))] (hp Z P L) _ _
      refine e_go hk_54 1 (c := (if s_cnd .eq (y_b (decide (Z 17 i = 1))) 0 = true then 39 else 29, [.ref 5, .int low, .int (nI hi), .int (nI q), .int (nI i)], [], hp Z P L)) rfl ?_
      refine e_eq (a := 39) (b := 29) (x := y_b (decide (Z 17 i = 1))) (y := 0) (fun hc26 => ?_) (fun hc26 => ?_)
      · skip
        rw [y_b0, decide_eq_false_iff_not] at hc26
        refine e_go hk_54 2 (c := (5, [.ref 5, .int low, .int (nI hi), .int (nI q), .int ((nI i) + 1)], [], hp Z P L)) rfl ?_
        rw [t_dh, if_neg (show ¬ (hi < i ∨ Z 17 i = 1) from fun z => z.elim (by omega) hc26), nI_1 i]
        exact x_drop_l hn hh k (i + 1) q _ hZ (by omega) (by omega)
      · skip
        rw [y_b1, decide_eq_true_eq] at hc26
        refine e_go hk_54 3 (c := (33, [.ref 5, .int low, .int (nI hi), .int (nI q), .int (nI i)], [.int (nI q), .int (nI i), .ref 5], hp Z P L)) rfl ?_
        refine e_call hk_54 (as := [.ref 5, .int (nI i), .int (nI q)]) (rest := []) rfl rfl hk_51 rfl (Nat.le_of_ble_eq_true rfl) rfl (x_move (i := i) (j := q) (by omega) (by omega)) ?_
        show e_r 54 36 [.ref 5, .int low, .int (nI hi), .int (nI q), .int (nI i)] [] (hp ((t_mv Z i q)) P L) _ _
        refine e_go hk_54 3 (c := (5, [.ref 5, .int low, .int (nI hi), .int ((nI q) + 1), .int ((nI i) + 1)], [], hp ((t_mv Z i q)) P L)) rfl ?_
        rw [t_dh, if_pos (Or.inr hc26), nI_1 q, nI_1 i]
        exact x_drop_l hn hh k (i + 1) (q + 1) _ hZ (by omega) (by omega)
theorem x_drop {Z : Nat → Nat → Int32} {P : Nat → Nat} {L n : Nat} (hN : Z 5 6 = nI n) (hn : n ≤ 60) {l hi : Nat} (hl : l ≤ n) (hh : hi < 60) : m_r 54 [.ref 5, .int (nI l), .int (nI hi)] (hp Z P L) none (hp (t_dh hi (n - l) l l Z) P L) := by
  refine m_of (ls := [.ref 5, .int (nI l), .int (nI hi), s_no, s_no]) hk_54 rfl rfl rfl ?_
  refine e_go hk_54 4 (c := (5, [.ref 5, .int (nI l), .int (nI hi), .int (nI l), .int (nI l)], [], hp Z P L)) rfl ?_
  exact x_drop_l hn hh (n - l) l l _ hN (by omega) (Nat.le_refl _)
def t_dl (x : Nat) : Nat → Nat → Nat → Nat → Nat
  | 0, _, _, d => d
  | k + 1, l, u, d => if u ≤ l + 1 then d else if x = l + (u - 1 - l) / 2 then d else if l + (u - 1 - l) / 2 < x then t_dl x k (l + (u - 1 - l) / 2 + 1) u (d + 1) else t_dl x k l (l + (u - 1 - l) / 2) (d + 1)
def t_de (x c : Nat) : Nat := t_dl x c 0 c 0
theorem y_mid {l v : Nat} (h : l ≤ v) (hv : v < 2 ^ 30) : nI l + (nI v - nI l) / 2 = nI (l + (v - l) / 2) := by
  rw [pk_sub h, show (2 : Int32) = nI 2 from rfl, pk_div (by omega) (by omega) (by omega), nI_add]
theorem y_eqI {a b : Nat} (ha : a < 2 ^ 31) (hb : b < 2 ^ 31) : nI a = nI b ↔ a = b := nI_eq ha hb
theorem x_even_l {Z : Nat → Nat → Int32} {P : Nat → Nat} {L : Nat} {x c : Nat} (hc : c ≤ 60) (hx : x ≤ 60) : ∀ (k l u d : Nat) (y5 : Value), d + k = c → u ≤ 60 → l ≤ 60 → e_r 55 9 [.int (nI x), .int (nI c), .int (nI l), .int (nI u - 1), .int (nI d), y5] [] (hp Z P L) (some (.int (nI (t_dl x k l u d)))) (hp Z P L)
  | 0, l, u, d, y5, hd, hu, hl => by
    refine e_go hk_55 3 (c := (if s_cnd .ge (nI l) (nI u - 1) = true then 74 else 14, [.int (nI x), .int (nI c), .int (nI l), .int (nI u - 1), .int (nI d), y5], [], hp Z P L)) rfl ?_
    refine e_ge (a := 74) (b := 14) (x := nI l) (y := nI u - 1) (fun hc11 => ?_) (fun hc11 => ?_)
    · skip
      refine e_go hk_55 1 (c := (76, [.int (nI x), .int (nI c), .int (nI l), .int (nI u - 1), .int (nI d), y5], [.int (nI d)], hp Z P L)) rfl ?_
      exact e_ret hk_55 rfl rfl rfl rfl rfl
    · skip
      refine e_go hk_55 3 (c := (if s_cnd .ge (nI d) (nI c) = true then 74 else 20, [.int (nI x), .int (nI c), .int (nI l), .int (nI u - 1), .int (nI d), y5], [], hp Z P L)) rfl ?_
      refine e_ge (a := 74) (b := 20) (x := nI d) (y := nI c) (fun hc17 => ?_) (fun hc17 => absurd ((y_le (by omega) (by omega)).mpr (by omega)) hc17)
      refine e_go hk_55 1 (c := (76, [.int (nI x), .int (nI c), .int (nI l), .int (nI u - 1), .int (nI d), y5], [.int (nI d)], hp Z P L)) rfl ?_
      exact e_ret hk_55 rfl rfl rfl rfl rfl
  | k + 1, l, u, d, y5, hd, hu, hl => by
    refine e_go hk_55 3 (c := (if s_cnd .ge (nI l) (nI u - 1) = true then 74 else 14, [.int (nI x), .int (nI c), .int (nI l), .int (nI u - 1), .int (nI d), y5], [], hp Z P L)) rfl ?_
    refine e_ge (a := 74) (b := 14) (x := nI l) (y := nI u - 1) (fun hc11 => ?_) (fun hc11 => ?_)
    · skip
      have hul : u ≤ l + 1 := (y_m1le (by omega) (by omega)).mp hc11
      rw [t_dl, if_pos hul]
      refine e_go hk_55 1 (c := (76, [.int (nI x), .int (nI c), .int (nI l), .int (nI u - 1), .int (nI d), y5], [.int (nI d)], hp Z P L)) rfl ?_
      exact e_ret hk_55 rfl rfl rfl rfl rfl
    · skip
      have hul : ¬ u ≤ l + 1 := fun z => hc11 ((y_m1le (by omega) (by omega)).mpr z)
      rw [t_dl, if_neg hul]
      refine e_go hk_55 3 (c := (if s_cnd .ge (nI d) (nI c) = true then 74 else 20, [.int (nI x), .int (nI c), .int (nI l), .int (nI u - 1), .int (nI d), y5], [], hp Z P L)) rfl ?_
      refine e_ge (a := 74) (b := 20) (x := nI d) (y := nI c) (fun hc17 => absurd hc17 (nI_ge (by omega) (by omega))) (fun hc17 => ?_)
      rw [y_m1s (u := u) (by omega)]
      refine e_go hk_55 5 (c := (25, [.int (nI x), .int (nI c), .int (nI l), .int (nI (u - 1)), .int (nI d), y5], [.int 2, .int ((nI (u - 1)) - (nI l)), .int (nI l)], hp Z P L)) rfl ?_
      refine e_idiv hk_55 (x := (nI (u - 1)) - (nI l)) (y := 2) rfl rfl (by decide) ?_
      show e_r 55 26 [.int (nI x), .int (nI c), .int (nI l), .int (nI (u - 1)), .int (nI d), y5] [.int (((nI (u - 1)) - (nI l)) / 2), .int (nI l)] (hp Z P L) _ _
      refine e_go hk_55 1 (c := (27, [.int (nI x), .int (nI c), .int (nI l), .int (nI (u - 1)), .int (nI d), y5], [.int ((nI l) + (((nI (u - 1)) - (nI l)) / 2))], hp Z P L)) rfl ?_
      rw [y_mid (by omega) (by omega)]
      generalize hm : l + (u - 1 - l) / 2 = g
      refine e_go hk_55 4 (c := (if s_cnd .ne (nI x) (nI g) = true then 38 else 35, [.int (nI x), .int (nI c), .int (nI l), .int (nI (u - 1)), .int (nI d), .int (nI g)], [], hp Z P L)) rfl ?_
      refine e_ne (a := 38) (b := 35) (x := nI x) (y := nI g) (fun hc32 => ?_) (fun hc32 => ?_)
      · skip
        have hc32 : ¬ x = g := fun z => hc32 (by rw [z])
        refine e_go hk_55 3 (c := (if s_cnd .le (nI x) (nI g) = true then 51 else 44, [.int (nI x), .int (nI c), .int (nI l), .int (nI (u - 1)), .int (nI d), .int (nI g)], [], hp Z P L)) rfl ?_
        refine e_le (a := 51) (b := 44) (x := nI x) (y := nI g) (fun hc41 => ?_) (fun hc41 => ?_)
        · skip
          rw [y_le (by omega) (by omega)] at hc41
          refine e_go hk_55 5 (c := (if s_cnd .ge (nI x) (nI g) = true then 66 else 59, [.int (nI x), .int (nI c), .int (nI l), .int (nI (u - 1)), .int (nI d), .int (nI g)], [], hp Z P L)) rfl ?_
          refine e_ge (a := 66) (b := 59) (x := nI x) (y := nI g) (fun hc56 => absurd hc56 (nI_ge (by omega) (by omega))) (fun hc56 => ?_)
          refine e_go hk_55 7 (c := (9, [.int (nI x), .int (nI c), .int (nI l), .int ((nI g) - 1), .int ((nI d) + 1), .int (nI g)], [], hp Z P L)) rfl ?_
          rw [if_neg (show ¬ x = g by omega), if_neg (show ¬ g < x by omega), nI_1 d]
          exact x_even_l hc hx k l g (d + 1) _ (by omega) (by omega) (by omega)
        · skip
          rw [y_le (by omega) (by omega)] at hc41
          refine e_go hk_55 8 (c := (if s_cnd .ge (nI x) (nI g) = true then 66 else 59, [.int (nI x), .int (nI c), .int ((nI g) + 1), .int (nI (u - 1)), .int (nI d), .int (nI g)], [], hp Z P L)) rfl ?_
          refine e_ge (a := 66) (b := 59) (x := nI x) (y := nI g) (fun hc56 => ?_) (fun hc56 => absurd ((y_le (by omega) (by omega)).mpr (by omega)) hc56)
          refine e_go hk_55 4 (c := (9, [.int (nI x), .int (nI c), .int ((nI g) + 1), .int (nI (u - 1)), .int ((nI d) + 1), .int (nI g)], [], hp Z P L)) rfl ?_
          rw [if_neg (show ¬ x = g by omega), if_pos (show g < x by omega), nI_1 d, nI_1 g, ← y_m1s (u := u) (by omega)]
          exact x_even_l hc hx k (g + 1) u (d + 1) _ (by omega) (by omega) (by omega)
      · skip
        rw [y_eqI (by omega) (by omega)] at hc32
        refine e_go hk_55 1 (c := (37, [.int (nI x), .int (nI c), .int (nI l), .int (nI (u - 1)), .int (nI d), .int (nI g)], [.int (nI d)], hp Z P L)) rfl ?_
        exact e_ret hk_55 rfl rfl rfl (by rw [if_pos hc32]) rfl
theorem x_even {Z : Nat → Nat → Int32} {P : Nat → Nat} {L : Nat} {x c : Nat} (hc : c ≤ 60) (hx : x ≤ 60) : m_r 55 [.int (nI x), .int (nI c)] (hp Z P L) (some (.int (nI (t_de x c)))) (hp Z P L) := by
  refine m_of (ls := [.int (nI x), .int (nI c), s_no, s_no, s_no, s_no]) hk_55 rfl rfl rfl ?_
  refine e_go hk_55 8 (c := (9, [.int (nI x), .int (nI c), .int 0, .int ((nI c) - 1), .int 0, s_no], [], hp Z P L)) rfl ?_
  exact x_even_l hc hx c 0 c 0 _ (by omega) hc (by omega)
end
section
/-! Tree: laying anew, entering, hollowing out; printed by wip/whole/gen/tree4.py -/
def t_ct (F : Nat → Int32) : Nat → Nat → Nat
  | _, 0 => 0
  | i, k + 1 => (if F i = 1 then 1 else 0) + t_ct F (i + 1) k
theorem t_ct_le (F : Nat → Int32) : ∀ k i, t_ct F i k ≤ k
  | 0, i => Nat.le_refl _
  | k + 1, i => by
    unfold t_ct
    have := t_ct_le F k (i + 1)
    split <;> omega
theorem t_sm_ct {F : Nat → Int32} : ∀ (k i m : Nat), (∀ j, i ≤ j → j < i + k → F j = 0 ∨ F j = 1) → t_sm F i k (nI m) = nI (m + t_ct F i k)
  | 0, i, m, h => rfl
  | k + 1, i, m, h => by
    rw [t_sm, t_ct]
    rcases h i (Nat.le_refl _) (by omega) with z | z
    · rw [z, if_neg (by decide), show nI m + 0 = nI m from Int32.add_zero _, t_sm_ct k (i + 1) m (fun j a b => h j (by omega) (by omega)), Nat.zero_add]
    · rw [z, if_pos rfl, nI_1, t_sm_ct k (i + 1) (m + 1) (fun j a b => h j (by omega) (by omega)), Nat.add_assoc]
theorem t_sm_c0 {F : Nat → Int32} {k i : Nat} (h : ∀ j, i ≤ j → j < i + k → F j = 0 ∨ F j = 1) : t_sm F i k 0 = nI (t_ct F i k) := by
  have := t_sm_ct k i 0 h
  rwa [Nat.zero_add] at this
/-- depths laid evenly, nothing paid: from the i-th on -/
def t_ly (lo c : Nat) (dep : Int32) : Nat → Nat → (Nat → Nat → Int32) → Nat → Nat → Int32
  | 0, _, Z => Z
  | k + 1, i, Z => t_ly lo c dep k (i + 1) (s_upd (s_upd Z 15 (lo + i) (dep + nI (t_de i c))) 13 (lo + i) 0)
def t_wt (Z : Nat → Nat → Int32) (n j : Nat) : Int32 := nI (t_H Z n j) - nI (t_L Z j) + 1
def t_la (Z : Nat → Nat → Int32) (n j : Nat) : Nat → Nat → Int32 := t_ly (t_L Z j) (t_ct (Z 17) (t_L Z j) (t_H Z n j + 1 - t_L Z j)) (Z 15 j) (t_ct (Z 17) (t_L Z j) (t_H Z n j + 1 - t_L Z j)) 0 (t_dh (t_H Z n j) (n - t_L Z j) (t_L Z j) (t_L Z j) (t_sp Z (t_sm (Z 13) (t_L Z j) (t_H Z n j + 1 - t_L Z j) 0) (t_wt Z n j)))
theorem x_total2 {r a n : Nat} {h : sHp} (h1 : s_nth h.2.2 r = some (0, 3)) (h2 : h.2.1 r 0 = some a) (h3 : s_nth h.2.2 a = some (1, n)) (hn : n < 2 ^ 31) {l u : Nat} (hl : l ≤ u + 1) (hu : u < n) : m_r 25 [.ref r, .int (nI l), .int (nI u)] h (some (.int (t_sm (h.1 a) l (u + 1 - l) 0))) h := by
  rw [show nI u = nI (u + 1) - 1 from (nI_pred u).symm]
  exact x_total h1 h2 h3 hn hl hu
theorem x_lay_l {P : Nat → Nat} {L : Nat} {lo c : Nat} {j hi dep wt : Int32} (hlc : lo + c ≤ 60) : ∀ (k i : Nat) (Z : Nat → Nat → Int32), i + k = c → e_r 52 64 [.ref 5, .int j, .int (nI lo), .int hi, .int dep, .int wt, .int (nI c), .int (nI i)] [] (hp Z P L) (some (.int wt)) (hp (t_ly lo c dep k i Z) P L)
  | 0, i, Z, hi2 => by
    refine e_go hk_52 3 (c := (if s_cnd .ge (nI i) (nI c) = true then 110 else 71, [.ref 5, .int j, .int (nI lo), .int hi, .int dep, .int wt, .int (nI c), .int (nI i)], [], hp Z P L)) rfl ?_
    refine e_ge (a := 110) (b := 71) (x := nI i) (y := nI c) (fun hc68 => ?_) (fun hc68 => absurd ((y_le (by omega) (by omega)).mpr (by omega)) hc68)
    refine e_go hk_52 1 (c := (112, [.ref 5, .int j, .int (nI lo), .int hi, .int dep, .int wt, .int (nI c), .int (nI i)], [.int wt], hp Z P L)) rfl ?_
    exact e_ret hk_52 rfl rfl rfl rfl rfl
  | k + 1, i, Z, hi2 => by
    refine e_go hk_52 3 (c := (if s_cnd .ge (nI i) (nI c) = true then 110 else 71, [.ref 5, .int j, .int (nI lo), .int hi, .int dep, .int wt, .int (nI c), .int (nI i)], [], hp Z P L)) rfl ?_
    refine e_ge (a := 110) (b := 71) (x := nI i) (y := nI c) (fun hc68 => absurd hc68 (nI_ge (by omega) (by omega))) (fun hc68 => ?_)
    refine e_go hk_52 8 (c := (85, [.ref 5, .int j, .int (nI lo), .int hi, .int dep, .int wt, .int (nI c), .int (nI i)], [.int (nI c), .int (nI i), .int dep, .int ((nI lo) + (nI i)), .ref 14], hp Z P L)) rfl ?_
    refine e_call hk_52 (as := [.int (nI i), .int (nI c)]) (rest := [.int dep, .int ((nI lo) + (nI i)), .ref 14]) rfl rfl hk_55 rfl (Nat.le_of_ble_eq_true rfl) rfl (x_even (x := i) (c := c) (by omega) (by omega)) ?_
    show e_r 52 88 [.ref 5, .int j, .int (nI lo), .int hi, .int dep, .int wt, .int (nI c), .int (nI i)] [.int (nI (t_de i c)), .int dep, .int ((nI lo) + (nI i)), .ref 14] (hp Z P L) _ _
    refine e_go hk_52 1 (c := (89, [.ref 5, .int j, .int (nI lo), .int hi, .int dep, .int wt, .int (nI c), .int (nI i)], [.int (dep + (nI (t_de i c))), .int ((nI lo) + (nI i)), .ref 14], hp Z P L)) rfl ?_
    rw [nI_add lo i]
    refine e_call hk_52 (as := [.ref 14, .int (nI (lo + i)), .int (dep + (nI (t_de i c)))]) (rest := []) rfl rfl hk_23 rfl (Nat.le_of_ble_eq_true rfl) rfl (x_write (r := 14) (a := 15) (n := 60) rfl rfl rfl (by decide) (by decide) (j := lo + i) (by omega)) ?_
    show e_r 52 92 [.ref 5, .int j, .int (nI lo), .int hi, .int dep, .int wt, .int (nI c), .int (nI i)] [] (hp (s_upd Z 15 ((lo + i)) (dep + (nI (t_de i c)))) P L) _ _
    refine e_go hk_52 6 (c := (101, [.ref 5, .int j, .int (nI lo), .int hi, .int dep, .int wt, .int (nI c), .int (nI i)], [.int 0, .int ((nI lo) + (nI i)), .ref 12], hp (s_upd Z 15 ((lo + i)) (dep + (nI (t_de i c)))) P L)) rfl ?_
    rw [nI_add lo i]
    refine e_call hk_52 (as := [.ref 12, .int (nI (lo + i)), .int 0]) (rest := []) rfl rfl hk_23 rfl (Nat.le_of_ble_eq_true rfl) rfl (x_write (r := 12) (a := 13) (n := 60) rfl rfl rfl (by decide) (by decide) (j := lo + i) (by omega)) ?_
    show e_r 52 104 [.ref 5, .int j, .int (nI lo), .int hi, .int dep, .int wt, .int (nI c), .int (nI i)] [] (hp (s_upd (s_upd Z 15 ((lo + i)) (dep + (nI (t_de i c)))) 13 ((lo + i)) 0) P L) _ _
    refine e_go hk_52 2 (c := (64, [.ref 5, .int j, .int (nI lo), .int hi, .int dep, .int wt, .int (nI c), .int ((nI i) + 1)], [], hp (s_upd (s_upd Z 15 ((lo + i)) (dep + (nI (t_de i c)))) 13 ((lo + i)) 0) P L)) rfl ?_
    rw [nI_1 i]
    exact x_lay_l hlc k (i + 1) _ (by omega)
theorem x_lay {Z : Nat → Nat → Int32} {P : Nat → Nat} {L n : Nat} (hN : Z 5 6 = nI n) (hn : n ≤ 60) (hF : ∀ i, i < n → Z 17 i = 0 ∨ Z 17 i = 1) {j : Nat} (hj : j < n) : m_r 52 [.ref 5, .int (nI j)] (hp Z P L) (some (.int (t_wt Z n j))) (hp (t_la Z n j) P L) := by
  have hlo : t_L Z j ≤ j := t_lo_le (Z 15) (Z 15 j) j
  have hhi : j ≤ t_H Z n j ∧ t_H Z n j ≤ j + (n - 1 - j) := t_hi_le (Z 15) (Z 15 j) (n - 1 - j) j
  have hct := t_ct_le (Z 17) (t_H Z n j + 1 - t_L Z j) (t_L Z j)
  have hsm : t_sm (Z 17) (t_L Z j) (t_H Z n j + 1 - t_L Z j) 0 = nI (t_ct (Z 17) (t_L Z j) (t_H Z n j + 1 - t_L Z j)) := t_sm_c0 (fun i a b => hF i (by omega))
  unfold t_la t_wt
  generalize hE : t_ct (Z 17) (t_L Z j) (t_H Z n j + 1 - t_L Z j) = c at *
  generalize hA : t_L Z j = lo at *
  generalize hB : t_H Z n j = hi at *
  refine m_of (ls := [.ref 5, .int (nI j), s_no, s_no, s_no, s_no, s_no, s_no]) hk_52 rfl rfl rfl ?_
  refine e_go hk_52 2 (c := (2, [.ref 5, .int (nI j), s_no, s_no, s_no, s_no, s_no, s_no], [.int (nI j), .ref 5], hp Z P L)) rfl ?_
  refine e_call hk_52 (as := [.ref 5, .int (nI j)]) (rest := []) rfl rfl hk_37 rfl (Nat.le_of_ble_eq_true rfl) rfl (show m_r 37 [.ref 5, .int (nI j)] (hp Z P L) (some (.int (nI lo))) (hp Z P L) from (by rw [← hA]; exact x_low (by omega))) ?_
  show e_r 52 5 [.ref 5, .int (nI j), s_no, s_no, s_no, s_no, s_no, s_no] [.int (nI lo)] (hp Z P L) _ _
  refine e_go hk_52 3 (c := (8, [.ref 5, .int (nI j), .int (nI lo), s_no, s_no, s_no, s_no, s_no], [.int (nI j), .ref 5], hp Z P L)) rfl ?_
  refine e_call hk_52 (as := [.ref 5, .int (nI j)]) (rest := []) rfl rfl hk_38 rfl (Nat.le_of_ble_eq_true rfl) rfl (show m_r 38 [.ref 5, .int (nI j)] (hp Z P L) (some (.int (nI hi))) (hp Z P L) from (by rw [← hB]; exact x_high hN hn hj)) ?_
  show e_r 52 11 [.ref 5, .int (nI j), .int (nI lo), s_no, s_no, s_no, s_no, s_no] [.int (nI hi)] (hp Z P L) _ _
  refine e_go hk_52 4 (c := (17, [.ref 5, .int (nI j), .int (nI lo), .int (nI hi), s_no, s_no, s_no, s_no], [.int (nI j), .ref 14], hp Z P L)) rfl ?_
  refine e_call hk_52 (as := [.ref 14, .int (nI j)]) (rest := []) rfl rfl hk_22 rfl (Nat.le_of_ble_eq_true rfl) rfl (x_at (r := 14) (a := 15) (n := 60) rfl rfl rfl (by decide) (j := j) (by omega)) ?_
  show e_r 52 20 [.ref 5, .int (nI j), .int (nI lo), .int (nI hi), s_no, s_no, s_no, s_no] [.int (Z 15 j)] (hp Z P L) _ _
  refine e_go hk_52 12 (c := (36, [.ref 5, .int (nI j), .int (nI lo), .int (nI hi), .int (Z 15 j), .int (((nI hi) - (nI lo)) + 1), s_no, s_no], [.int (nI hi), .int (nI lo), .ref 12, .ref 5], hp Z P L)) rfl ?_
  refine e_call hk_52 (as := [.ref 12, .int (nI lo), .int (nI hi)]) (rest := [.ref 5]) rfl rfl hk_25 rfl (Nat.le_of_ble_eq_true rfl) rfl (x_total2 (r := 12) (a := 13) (n := 60) rfl rfl rfl (by decide) (l := lo) (u := hi) (by omega) (by omega)) ?_
  show e_r 52 39 [.ref 5, .int (nI j), .int (nI lo), .int (nI hi), .int (Z 15 j), .int (((nI hi) - (nI lo)) + 1), s_no, s_no] [.int (t_sm (Z 13) lo (hi + 1 - lo) 0), .ref 5] (hp Z P L) _ _
  refine e_go hk_52 1 (c := (41, [.ref 5, .int (nI j), .int (nI lo), .int (nI hi), .int (Z 15 j), .int (((nI hi) - (nI lo)) + 1), s_no, s_no], [.int (((nI hi) - (nI lo)) + 1), .int (t_sm (Z 13) lo (hi + 1 - lo) 0), .ref 5], hp Z P L)) rfl ?_
  refine e_call hk_52 (as := [.ref 5, .int (t_sm (Z 13) lo (hi + 1 - lo) 0), .int (((nI hi) - (nI lo)) + 1)]) (rest := []) rfl rfl hk_53 rfl (Nat.le_of_ble_eq_true rfl) rfl x_spend ?_
  show e_r 52 44 [.ref 5, .int (nI j), .int (nI lo), .int (nI hi), .int (Z 15 j), .int (((nI hi) - (nI lo)) + 1), s_no, s_no] [] (hp ((t_sp Z (t_sm (Z 13) lo (hi + 1 - lo) 0) (((nI hi) - (nI lo)) + 1))) P L) _ _
  refine e_go hk_52 4 (c := (50, [.ref 5, .int (nI j), .int (nI lo), .int (nI hi), .int (Z 15 j), .int (((nI hi) - (nI lo)) + 1), s_no, s_no], [.int (nI hi), .int (nI lo), .ref 16], hp ((t_sp Z (t_sm (Z 13) lo (hi + 1 - lo) 0) (((nI hi) - (nI lo)) + 1))) P L)) rfl ?_
  refine e_call hk_52 (as := [.ref 16, .int (nI lo), .int (nI hi)]) (rest := []) rfl rfl hk_25 rfl (Nat.le_of_ble_eq_true rfl) rfl (show m_r 25 [.ref 16, .int (nI lo), .int (nI hi)] (hp ((t_sp Z (t_sm (Z 13) lo (hi + 1 - lo) 0) (((nI hi) - (nI lo)) + 1))) P L) (some (.int (nI c))) (hp ((t_sp Z (t_sm (Z 13) lo (hi + 1 - lo) 0) (((nI hi) - (nI lo)) + 1))) P L) from (by rw [← hsm]; exact x_total2 (r := 16) (a := 17) (n := 60) rfl rfl rfl (by decide) (by omega) (by omega))) ?_
  show e_r 52 53 [.ref 5, .int (nI j), .int (nI lo), .int (nI hi), .int (Z 15 j), .int (((nI hi) - (nI lo)) + 1), s_no, s_no] [.int (nI c)] (hp ((t_sp Z (t_sm (Z 13) lo (hi + 1 - lo) 0) (((nI hi) - (nI lo)) + 1))) P L) _ _
  refine e_go hk_52 4 (c := (58, [.ref 5, .int (nI j), .int (nI lo), .int (nI hi), .int (Z 15 j), .int (((nI hi) - (nI lo)) + 1), .int (nI c), s_no], [.int (nI hi), .int (nI lo), .ref 5], hp ((t_sp Z (t_sm (Z 13) lo (hi + 1 - lo) 0) (((nI hi) - (nI lo)) + 1))) P L)) rfl ?_
  refine e_call hk_52 (as := [.ref 5, .int (nI lo), .int (nI hi)]) (rest := []) rfl rfl hk_54 rfl (Nat.le_of_ble_eq_true rfl) rfl (x_drop (Z := (t_sp Z (t_sm (Z 13) lo (hi + 1 - lo) 0) (((nI hi) - (nI lo)) + 1))) (n := n) (l := lo) (hi := hi) hN hn (by omega) (by omega)) ?_
  show e_r 52 61 [.ref 5, .int (nI j), .int (nI lo), .int (nI hi), .int (Z 15 j), .int (((nI hi) - (nI lo)) + 1), .int (nI c), s_no] [] (hp ((t_dh hi (n - lo) lo lo ((t_sp Z (t_sm (Z 13) lo (hi + 1 - lo) 0) (((nI hi) - (nI lo)) + 1))))) P L) _ _
  refine e_go hk_52 2 (c := (64, [.ref 5, .int (nI j), .int (nI lo), .int (nI hi), .int (Z 15 j), .int (((nI hi) - (nI lo)) + 1), .int (nI c), .int 0], [], hp ((t_dh hi (n - lo) lo lo ((t_sp Z (t_sm (Z 13) lo (hi + 1 - lo) 0) (((nI hi) - (nI lo)) + 1))))) P L)) rfl ?_
  exact x_lay_l (by omega) c 0 _ (by omega)
def t_lk (Z : Nat → Nat → Int32) (n : Nat) (key : Int32) : Int32 × (Nat → Nat → Int32) := match t_nd (Z 9) n key with
  | none => (-1, Z)
  | some j => (t_wt Z n j, t_la Z n j)
theorem x_lk_none {Z : Nat → Nat → Int32} {P : Nat → Nat} {L n : Nat} (hN : Z 5 6 = nI n) (hn : n ≤ 60) (hF : ∀ i, i < n → Z 17 i = 0 ∨ Z 17 i = 1) {key : Int32} (hq : t_nd (Z 9) n key = none) : m_r 48 [.ref 5, .int key] (hp Z P L) (some (.int (t_lk Z n key).1)) (hp (t_lk Z n key).2 P L) := by
  refine m_of (ls := [.ref 5, .int key, s_no]) hk_48 rfl rfl rfl ?_
  refine e_go hk_48 2 (c := (2, [.ref 5, .int key, s_no], [.int key, .ref 5], hp Z P L)) rfl ?_
  refine e_call hk_48 (as := [.ref 5, .int key]) (rest := []) rfl rfl hk_31 rfl (Nat.le_of_ble_eq_true rfl) rfl (show m_r 31 [.ref 5, .int key] (hp Z P L) (some (.int (-6))) (hp Z P L) from (by have := x_node (P := P) (L := L) (key := key) hN hn; rw [hq] at this; exact this)) ?_
  show e_r 48 5 [.ref 5, .int key, s_no] [.int ((-6))] (hp Z P L) _ _
  refine e_go hk_48 4 (c := (if s_cnd .ne ((-6)) ((-6)) = true then 16 else 12, [.ref 5, .int key, .int ((-6))], [], hp Z P L)) rfl ?_
  refine e_ne (a := 16) (b := 12) (x := (-6)) (y := (-6)) (fun hc9 => absurd (rfl) hc9) (fun hc9 => ?_)
  refine e_go hk_48 2 (c := (21, [.ref 5, .int key, .int ((-6))], [.int ((-1))], hp Z P L)) rfl ?_
  exact e_ret hk_48 rfl rfl rfl (by rw [t_lk, hq]) (by rw [t_lk, hq])
theorem x_lk_some {Z : Nat → Nat → Int32} {P : Nat → Nat} {L n : Nat} (hN : Z 5 6 = nI n) (hn : n ≤ 60) (hF : ∀ i, i < n → Z 17 i = 0 ∨ Z 17 i = 1) {key : Int32} {j : Nat} (hq : t_nd (Z 9) n key = some j) : m_r 48 [.ref 5, .int key] (hp Z P L) (some (.int (t_lk Z n key).1)) (hp (t_lk Z n key).2 P L) := by
  have hjn := (t_nd_lt hq).1
  refine m_of (ls := [.ref 5, .int key, s_no]) hk_48 rfl rfl rfl ?_
  refine e_go hk_48 2 (c := (2, [.ref 5, .int key, s_no], [.int key, .ref 5], hp Z P L)) rfl ?_
  refine e_call hk_48 (as := [.ref 5, .int key]) (rest := []) rfl rfl hk_31 rfl (Nat.le_of_ble_eq_true rfl) rfl (show m_r 31 [.ref 5, .int key] (hp Z P L) (some (.int (nI j))) (hp Z P L) from (by have := x_node (P := P) (L := L) (key := key) hN hn; rw [hq] at this; exact this)) ?_
  show e_r 48 5 [.ref 5, .int key, s_no] [.int (nI j)] (hp Z P L) _ _
  refine e_go hk_48 4 (c := (if s_cnd .ne (nI j) ((-6)) = true then 16 else 12, [.ref 5, .int key, .int (nI j)], [], hp Z P L)) rfl ?_
  refine e_ne (a := 16) (b := 12) (x := nI j) (y := (-6)) (fun hc9 => ?_) (fun hc9 => absurd hc9 (fun z => absurd ((y_o_none (q := some j) (fun i hi => by cases hi; omega)).mp z) (by simp)))
  refine e_go hk_48 2 (c := (18, [.ref 5, .int key, .int (nI j)], [.int (nI j), .ref 5], hp Z P L)) rfl ?_
  refine e_call hk_48 (as := [.ref 5, .int (nI j)]) (rest := []) rfl rfl hk_52 rfl (Nat.le_of_ble_eq_true rfl) rfl (x_lay (Z := Z) hN hn hF (j := j) (by omega)) ?_
  show e_r 48 21 [.ref 5, .int key, .int (nI j)] [.int (t_wt Z n j)] (hp ((t_la Z n j)) P L) _ _
  exact e_ret hk_48 rfl rfl rfl (by rw [t_lk, hq]) (by rw [t_lk, hq])
theorem x_lk {Z : Nat → Nat → Int32} {P : Nat → Nat} {L n : Nat} (hN : Z 5 6 = nI n) (hn : n ≤ 60) (hF : ∀ i, i < n → Z 17 i = 0 ∨ Z 17 i = 1) {key : Int32} : m_r 48 [.ref 5, .int key] (hp Z P L) (some (.int (t_lk Z n key).1)) (hp (t_lk Z n key).2 P L) := by
  cases hq : t_nd (Z 9) n key with
  | none => exact x_lk_none hN hn hF hq
  | some j => exact x_lk_some hN hn hF hq
theorem x_cost_some {Z : Nat → Nat → Int32} {P : Nat → Nat} {L n : Nat} (hN : Z 5 6 = nI n) (hn : n ≤ 60) {key : Int32} {j : Nat} (hq : t_nd (Z 9) n key = some j) : m_r 44 [.ref 5, .int key] (hp Z P L) (some (.int (t_cs Z n key))) (hp Z P L) := by
  have hjn := (t_nd_lt hq).1
  refine m_of (ls := [.ref 5, .int key, s_no]) hk_44 rfl rfl rfl ?_
  refine e_go hk_44 2 (c := (2, [.ref 5, .int key, s_no], [.int key, .ref 5], hp Z P L)) rfl ?_
  refine e_call hk_44 (as := [.ref 5, .int key]) (rest := []) rfl rfl hk_31 rfl (Nat.le_of_ble_eq_true rfl) rfl (show m_r 31 [.ref 5, .int key] (hp Z P L) (some (.int (nI j))) (hp Z P L) from (by have := x_node (P := P) (L := L) (key := key) hN hn; rw [hq] at this; exact this)) ?_
  show e_r 44 5 [.ref 5, .int key, s_no] [.int (nI j)] (hp Z P L) _ _
  refine e_go hk_44 2 (c := (if s_cnd .eq (nI j) ((-6)) = true then 12 else 10, [.ref 5, .int key, s_no], [], hp Z P L)) rfl ?_
  refine e_eq (a := 12) (b := 10) (x := nI j) (y := (-6)) (fun hc7 => absurd hc7 (fun z => absurd ((y_o_none (q := some j) (fun i hi => by cases hi; omega)).mp z) (by simp))) (fun hc7 => ?_)
  refine e_go hk_44 1 (c := (11, [.ref 5, .int key, s_no], [.int 0], hp Z P L)) rfl ?_
  exact e_ret hk_44 rfl rfl rfl (by rw [t_cs, hq]) rfl
theorem x_cost_none {Z : Nat → Nat → Int32} {P : Nat → Nat} {L n : Nat} (hN : Z 5 6 = nI n) (hn : n ≤ 60) {key : Int32} (hq : t_nd (Z 9) n key = none) (hw : t_wl (Z 15) (Z 7 0) (t_pl (Z 9) key 0 n) 60 0 0 n = none) : m_r 44 [.ref 5, .int key] (hp Z P L) (some (.int (t_cs Z n key))) (hp Z P L) := by
  have hpl := (t_pl_le (Z 9) key n 0).2
  refine m_of (ls := [.ref 5, .int key, s_no]) hk_44 rfl rfl rfl ?_
  refine e_go hk_44 2 (c := (2, [.ref 5, .int key, s_no], [.int key, .ref 5], hp Z P L)) rfl ?_
  refine e_call hk_44 (as := [.ref 5, .int key]) (rest := []) rfl rfl hk_31 rfl (Nat.le_of_ble_eq_true rfl) rfl (show m_r 31 [.ref 5, .int key] (hp Z P L) (some (.int (-6))) (hp Z P L) from (by have := x_node (P := P) (L := L) (key := key) hN hn; rw [hq] at this; exact this)) ?_
  show e_r 44 5 [.ref 5, .int key, s_no] [.int ((-6))] (hp Z P L) _ _
  refine e_go hk_44 2 (c := (if s_cnd .eq ((-6)) ((-6)) = true then 12 else 10, [.ref 5, .int key, s_no], [], hp Z P L)) rfl ?_
  refine e_eq (a := 12) (b := 10) (x := (-6)) (y := (-6)) (fun hc7 => ?_) (fun hc7 => absurd (rfl) hc7)
  refine e_go hk_44 3 (c := (15, [.ref 5, .int key, s_no], [.int key, .ref 5, .ref 5], hp Z P L)) rfl ?_
  refine e_call hk_44 (as := [.ref 5, .int key]) (rest := [.ref 5]) rfl rfl hk_30 rfl (Nat.le_of_ble_eq_true rfl) rfl (x_place hN hn) ?_
  show e_r 44 18 [.ref 5, .int key, s_no] [.int (nI (t_pl (Z 9) key 0 n)), .ref 5] (hp Z P L) _ _
  refine e_call hk_44 (as := [.ref 5, .int (nI (t_pl (Z 9) key 0 n))]) (rest := []) rfl rfl hk_43 rfl (Nat.le_of_ble_eq_true rfl) rfl (show m_r 43 [.ref 5, .int (nI (t_pl (Z 9) key 0 n))] (hp Z P L) (some (.int (-6))) (hp Z P L) from (by have := x_would (P := P) (L := L) (p := t_pl (Z 9) key 0 n) hN hn (by omega); rw [hw] at this; exact this)) ?_
  show e_r 44 21 [.ref 5, .int key, s_no] [.int ((-6))] (hp Z P L) _ _
  refine e_go hk_44 4 (c := (if s_cnd .ne ((-6)) ((-6)) = true then 32 else 28, [.ref 5, .int key, .int ((-6))], [], hp Z P L)) rfl ?_
  refine e_ne (a := 32) (b := 28) (x := (-6)) (y := (-6)) (fun hc25 => absurd (rfl) hc25) (fun hc25 => ?_)
  refine e_go hk_44 2 (c := (45, [.ref 5, .int key, .int ((-6))], [.int 0], hp Z P L)) rfl ?_
  exact e_ret hk_44 rfl rfl rfl (by rw [t_cs, hq]; dsimp only; rw [hw]) rfl
theorem x_cost_lean {Z : Nat → Nat → Int32} {P : Nat → Nat} {L n : Nat} (hN : Z 5 6 = nI n) (hn : n ≤ 60) {key : Int32} {j : Nat} (hq : t_nd (Z 9) n key = none) (hw : t_wl (Z 15) (Z 7 0) (t_pl (Z 9) key 0 n) 60 0 0 n = some j) : m_r 44 [.ref 5, .int key] (hp Z P L) (some (.int (t_cs Z n key))) (hp Z P L) := by
  have hpl := (t_pl_le (Z 9) key n 0).2
  have hjn := t_wl_lt (Nat.le_refl n) hw
  refine m_of (ls := [.ref 5, .int key, s_no]) hk_44 rfl rfl rfl ?_
  refine e_go hk_44 2 (c := (2, [.ref 5, .int key, s_no], [.int key, .ref 5], hp Z P L)) rfl ?_
  refine e_call hk_44 (as := [.ref 5, .int key]) (rest := []) rfl rfl hk_31 rfl (Nat.le_of_ble_eq_true rfl) rfl (show m_r 31 [.ref 5, .int key] (hp Z P L) (some (.int (-6))) (hp Z P L) from (by have := x_node (P := P) (L := L) (key := key) hN hn; rw [hq] at this; exact this)) ?_
  show e_r 44 5 [.ref 5, .int key, s_no] [.int ((-6))] (hp Z P L) _ _
  refine e_go hk_44 2 (c := (if s_cnd .eq ((-6)) ((-6)) = true then 12 else 10, [.ref 5, .int key, s_no], [], hp Z P L)) rfl ?_
  refine e_eq (a := 12) (b := 10) (x := (-6)) (y := (-6)) (fun hc7 => ?_) (fun hc7 => absurd (rfl) hc7)
  refine e_go hk_44 3 (c := (15, [.ref 5, .int key, s_no], [.int key, .ref 5, .ref 5], hp Z P L)) rfl ?_
  refine e_call hk_44 (as := [.ref 5, .int key]) (rest := [.ref 5]) rfl rfl hk_30 rfl (Nat.le_of_ble_eq_true rfl) rfl (x_place hN hn) ?_
  show e_r 44 18 [.ref 5, .int key, s_no] [.int (nI (t_pl (Z 9) key 0 n)), .ref 5] (hp Z P L) _ _
  refine e_call hk_44 (as := [.ref 5, .int (nI (t_pl (Z 9) key 0 n))]) (rest := []) rfl rfl hk_43 rfl (Nat.le_of_ble_eq_true rfl) rfl (show m_r 43 [.ref 5, .int (nI (t_pl (Z 9) key 0 n))] (hp Z P L) (some (.int (nI j))) (hp Z P L) from (by have := x_would (P := P) (L := L) (p := t_pl (Z 9) key 0 n) hN hn (by omega); rw [hw] at this; exact this)) ?_
  show e_r 44 21 [.ref 5, .int key, s_no] [.int (nI j)] (hp Z P L) _ _
  refine e_go hk_44 4 (c := (if s_cnd .ne (nI j) ((-6)) = true then 32 else 28, [.ref 5, .int key, .int (nI j)], [], hp Z P L)) rfl ?_
  refine e_ne (a := 32) (b := 28) (x := nI j) (y := (-6)) (fun hc25 => ?_) (fun hc25 => absurd hc25 (fun z => absurd ((y_o_none (q := some j) (fun i hi => by cases hi; omega)).mp z) (by simp)))
  refine e_go hk_44 2 (c := (34, [.ref 5, .int key, .int (nI j)], [.int (nI j), .ref 5], hp Z P L)) rfl ?_
  refine e_call hk_44 (as := [.ref 5, .int (nI j)]) (rest := []) rfl rfl hk_38 rfl (Nat.le_of_ble_eq_true rfl) rfl (x_high hN hn (j := j) (by omega)) ?_
  show e_r 44 37 [.ref 5, .int key, .int (nI j)] [.int (nI (t_H Z n j))] (hp Z P L) _ _
  refine e_go hk_44 2 (c := (39, [.ref 5, .int key, .int (nI j)], [.int (nI j), .ref 5, .int (nI (t_H Z n j))], hp Z P L)) rfl ?_
  refine e_call hk_44 (as := [.ref 5, .int (nI j)]) (rest := [.int (nI (t_H Z n j))]) rfl rfl hk_37 rfl (Nat.le_of_ble_eq_true rfl) rfl (x_low (j := j) (by omega)) ?_
  show e_r 44 42 [.ref 5, .int key, .int (nI j)] [.int (nI (t_L Z j)), .int (nI (t_H Z n j))] (hp Z P L) _ _
  refine e_go hk_44 3 (c := (45, [.ref 5, .int key, .int (nI j)], [.int (((nI (t_H Z n j)) - (nI (t_L Z j))) + 2)], hp Z P L)) rfl ?_
  exact e_ret hk_44 rfl rfl rfl (by rw [t_cs, hq]; dsimp only; rw [hw]) rfl
theorem x_cost {Z : Nat → Nat → Int32} {P : Nat → Nat} {L n : Nat} (hN : Z 5 6 = nI n) (hn : n ≤ 60) {key : Int32} : m_r 44 [.ref 5, .int key] (hp Z P L) (some (.int (t_cs Z n key))) (hp Z P L) := by
  cases hq : t_nd (Z 9) n key with
  | some j => exact x_cost_some hN hn hq
  | none =>
    cases hw : t_wl (Z 15) (Z 7 0) (t_pl (Z 9) key 0 n) 60 0 0 n with
    | none => exact x_cost_none hN hn hq hw
    | some j => exact x_cost_lean hN hn hq hw
end
section
/-! Tree: enter, hollowOut; printed by wip/whole/gen/tree5.py -/
def t_cl (c : Nat) : Prop := c = 9 ∨ c = 11 ∨ c = 13 ∨ c = 15 ∨ c = 17
theorem s_upd_c {Z : Nat → Nat → Int32} {a k c i : Nat} {x : Int32} : s_upd Z a k x c i = if c = a ∧ i = k then x else Z c i := by
  unfold s_upd upd
  by_cases h1 : c = a
  · by_cases h2 : i = k
    · simp [h1, h2]
    · simp [h1, h2]
  · simp [h1]
theorem s_upd_o {Z : Nat → Nat → Int32} {a k c : Nat} {x : Int32} (h : c ≠ a) : s_upd Z a k x c = Z c := if_neg h
theorem t_mv_get {Z : Nat → Nat → Int32} {i j c x : Nat} (hc : t_cl c) : t_mv Z i j c x = if x = j then Z c i else Z c x := by
  unfold t_mv
  rcases hc with rfl | rfl | rfl | rfl | rfl <;> simp [s_upd_c]
theorem t_mv_o {Z : Nat → Nat → Int32} {i j c : Nat} (hc : ¬ t_cl c) : t_mv Z i j c = Z c := by
  unfold t_cl at hc
  simp only [not_or] at hc
  obtain ⟨h1, h2, h3, h4, h5⟩ := hc
  unfold t_mv
  rw [s_upd_o h5, s_upd_o h4, s_upd_o h3, s_upd_o h2, s_upd_o h1]
theorem t_sh_get {c : Nat} (hc : t_cl c) : ∀ (k q : Nat) (Z : Nat → Nat → Int32) (i : Nat), k ≤ q → t_sh k q Z c i = if q - k < i ∧ i ≤ q then Z c (i - 1) else Z c i
  | 0, q, Z, i, h => by
    rw [t_sh, if_neg (by omega)]
  | k + 1, q, Z, i, h => by
    rw [t_sh, t_sh_get hc k (q - 1) _ i (by omega), t_mv_get hc, t_mv_get hc]
    by_cases h1 : i = q
    · rw [if_neg (show ¬ (q - 1 - k < i ∧ i ≤ q - 1) by omega), if_pos h1, if_pos (by omega), h1]
    · by_cases h2 : q - 1 - k < i ∧ i ≤ q - 1
      · rw [if_pos h2, if_neg (by omega), if_pos (by omega)]
      · rw [if_neg h2, if_neg h1, if_neg (by omega)]
theorem t_sh_o {c : Nat} (hc : ¬ t_cl c) : ∀ (k q : Nat) (Z : Nat → Nat → Int32), t_sh k q Z c = Z c
  | 0, q, Z => rfl
  | k + 1, q, Z => by rw [t_sh, t_sh_o hc k (q - 1), t_mv_o hc]
theorem t_cl5 : ¬ t_cl 5 := by unfold t_cl; omega
theorem t_mk_N {Z : Nat → Nat → Int32} {n p : Nat} {key value : Int32} (hN : Z 5 6 = nI n) : t_mk Z n p key value 5 6 = nI (n + 1) := by
  show (t_sh (n - p) n Z) 5 6 + 1 = _
  rw [t_sh_o t_cl5, hN, nI_1]
theorem t_mk_o {Z : Nat → Nat → Int32} {n p c : Nat} {key value : Int32} (hc : ¬ t_cl c) (h5 : c ≠ 5) : t_mk Z n p key value c = Z c := by
  have h := hc
  unfold t_cl at h
  simp only [not_or] at h
  obtain ⟨h1, h2, h3, h4, h6⟩ := h
  unfold t_mk t_mt
  rw [s_upd_o h6, s_upd_o h4, s_upd_o h3, s_upd_o h2, s_upd_o h1, s_upd_o h5, t_sh_o hc]
/-- a new node at p: the columns -/
theorem t_mk_get {Z : Nat → Nat → Int32} {n p i : Nat} {key value : Int32} (hp : p ≤ n) (hi : i ≤ n) (c : Nat) (hc : t_cl c) : t_mk Z n p key value c i = if i < p then Z c i else if i = p then (if c = 9 then key else if c = 11 then value else if c = 13 then 0 else if c = 15 then y_mx (t_bf (Z 15) p) (t_bh (Z 15) n p) + 1 else 1) else Z c (i - 1) := by
  have hg1 : i < p → t_sh (n - p) n Z c i = Z c i := fun h => by rw [t_sh_get hc (n - p) n Z i (by omega), if_neg (by omega)]
  have hg2 : p < i → t_sh (n - p) n Z c i = Z c (i - 1) := fun h => by rw [t_sh_get hc (n - p) n Z i (by omega), if_pos (by omega)]
  unfold t_mk t_mt
  by_cases h1 : i < p
  · rw [if_pos h1, ← hg1 h1]
    have h2 : ¬ i = p := by omega
    rcases hc with rfl | rfl | rfl | rfl | rfl <;> simp [s_upd_c, h2]
  · rw [if_neg h1]
    by_cases h2 : i = p
    · rw [if_pos h2]
      subst h2
      rcases hc with rfl | rfl | rfl | rfl | rfl <;> simp [s_upd_c]
    · rw [if_neg h2, ← hg2 (by omega)]
      rcases hc with rfl | rfl | rfl | rfl | rfl <;> simp [s_upd_c, h2]
theorem t_py_o {p c : Nat} (hc : c ≠ 13) : ∀ (k d l u : Nat) (Z : Nat → Nat → Int32), t_py p k d l u Z c = Z c
  | 0, d, l, u, Z => rfl
  | k + 1, d, l, u, Z => by
    rw [t_py]
    split
    · rfl
    split
    · exact s_upd_o hc
    split
    · rw [t_py_o hc k, s_upd_o hc]
    · rw [t_py_o hc k, s_upd_o hc]
def t_en (Z : Nat → Nat → Int32) (n : Nat) (key value : Int32) : Int32 × (Nat → Nat → Int32) := if t_rm Z n key = false then (-4, Z) else match t_nd (Z 9) n key with
  | some j => (0, t_py j 60 0 0 n (s_upd (s_upd Z 11 j value) 17 j 1))
  | none => match t_wl (Z 15) (Z 7 0) (t_pl (Z 9) key 0 n) 60 0 0 n with
    | none => (0, t_py (t_pl (Z 9) key 0 n) 60 0 0 (n + 1) (t_mk Z n (t_pl (Z 9) key 0 n) key value))
    | some j => (t_wt (t_py (t_pl (Z 9) key 0 n) 60 0 0 (n + 1) (t_mk Z n (t_pl (Z 9) key 0 n) key value)) (n + 1) (if j < t_pl (Z 9) key 0 n then j else j + 1), t_la (t_py (t_pl (Z 9) key 0 n) 60 0 0 (n + 1) (t_mk Z n (t_pl (Z 9) key 0 n) key value)) (n + 1) (if j < t_pl (Z 9) key 0 n then j else j + 1))
theorem t_nd_pl {K : Nat → Int32} {n j : Nat} {key : Int32} (h : t_nd K n key = some j) : t_pl K key 0 n = j := by
  unfold t_nd at h
  split at h
  · exact Option.some.inj h
  · cases h
theorem x_en_no {Z : Nat → Nat → Int32} {P : Nat → Nat} {L n : Nat} (hN : Z 5 6 = nI n) (hn : n ≤ 60) (hF : ∀ i, i < n → Z 17 i = 0 ∨ Z 17 i = 1) {key value : Int32} (hr : t_rm Z n key = false) : m_r 46 [.ref 5, .int key, .int value] (hp Z P L) (some (.int (t_en Z n key value).1)) (hp (t_en Z n key value).2 P L) := by
  refine m_of (ls := [.ref 5, .int key, .int value, s_no, s_no]) hk_46 rfl rfl rfl ?_
  refine e_go hk_46 2 (c := (2, [.ref 5, .int key, .int value, s_no, s_no], [.int key, .ref 5], hp Z P L)) rfl ?_
  refine e_call hk_46 (as := [.ref 5, .int key]) (rest := []) rfl rfl hk_45 rfl (Nat.le_of_ble_eq_true rfl) rfl (show m_r 45 [.ref 5, .int key] (hp Z P L) (some (.int 0)) (hp Z P L) from (by have := x_room (P := P) (L := L) (key := key) hN hn; rw [hr] at this; exact this)) ?_
  show e_r 46 5 [.ref 5, .int key, .int value, s_no, s_no] [.int 0] (hp Z P L) _ _
  refine e_go hk_46 1 (c := (if s_cnd .ne 0 0 = true then 11 else 8, [.ref 5, .int key, .int value, s_no, s_no], [], hp Z P L)) rfl ?_
  refine e_ne (a := 11) (b := 8) (x := 0) (y := 0) (fun hc5 => absurd (rfl) hc5) (fun hc5 => ?_)
  refine e_go hk_46 1 (c := (10, [.ref 5, .int key, .int value, s_no, s_no], [.int ((-4))], hp Z P L)) rfl ?_
  exact e_ret hk_46 rfl rfl rfl (by rw [t_en, if_pos hr]) (by rw [t_en, if_pos hr])
theorem x_en_old {Z : Nat → Nat → Int32} {P : Nat → Nat} {L n : Nat} (hN : Z 5 6 = nI n) (hn : n ≤ 60) (hF : ∀ i, i < n → Z 17 i = 0 ∨ Z 17 i = 1) {key value : Int32} {j : Nat} (hr : t_rm Z n key = true) (hq : t_nd (Z 9) n key = some j) : m_r 46 [.ref 5, .int key, .int value] (hp Z P L) (some (.int (t_en Z n key value).1)) (hp (t_en Z n key value).2 P L) := by
  have hjn := (t_nd_lt hq).1
  refine m_of (ls := [.ref 5, .int key, .int value, s_no, s_no]) hk_46 rfl rfl rfl ?_
  refine e_go hk_46 2 (c := (2, [.ref 5, .int key, .int value, s_no, s_no], [.int key, .ref 5], hp Z P L)) rfl ?_
  refine e_call hk_46 (as := [.ref 5, .int key]) (rest := []) rfl rfl hk_45 rfl (Nat.le_of_ble_eq_true rfl) rfl (show m_r 45 [.ref 5, .int key] (hp Z P L) (some (.int 1)) (hp Z P L) from (by have := x_room (P := P) (L := L) (key := key) hN hn; rw [hr] at this; exact this)) ?_
  show e_r 46 5 [.ref 5, .int key, .int value, s_no, s_no] [.int 1] (hp Z P L) _ _
  refine e_go hk_46 1 (c := (if s_cnd .ne 1 0 = true then 11 else 8, [.ref 5, .int key, .int value, s_no, s_no], [], hp Z P L)) rfl ?_
  refine e_ne (a := 11) (b := 8) (x := 1) (y := 0) (fun hc5 => ?_) (fun hc5 => absurd hc5 (by decide))
  refine e_go hk_46 2 (c := (13, [.ref 5, .int key, .int value, s_no, s_no], [.int key, .ref 5], hp Z P L)) rfl ?_
  refine e_call hk_46 (as := [.ref 5, .int key]) (rest := []) rfl rfl hk_30 rfl (Nat.le_of_ble_eq_true rfl) rfl (show m_r 30 [.ref 5, .int key] (hp Z P L) (some (.int (nI j))) (hp Z P L) from (by have := x_place (P := P) (L := L) (key := key) hN hn; rw [t_nd_pl hq] at this; exact this)) ?_
  show e_r 46 16 [.ref 5, .int key, .int value, s_no, s_no] [.int (nI j)] (hp Z P L) _ _
  refine e_go hk_46 3 (c := (19, [.ref 5, .int key, .int value, .int (nI j), s_no], [.int key, .ref 5], hp Z P L)) rfl ?_
  refine e_call hk_46 (as := [.ref 5, .int key]) (rest := []) rfl rfl hk_31 rfl (Nat.le_of_ble_eq_true rfl) rfl (show m_r 31 [.ref 5, .int key] (hp Z P L) (some (.int (nI j))) (hp Z P L) from (by have := x_node (P := P) (L := L) (key := key) hN hn; rw [hq] at this; exact this)) ?_
  show e_r 46 22 [.ref 5, .int key, .int value, .int (nI j), s_no] [.int (nI j)] (hp Z P L) _ _
  refine e_go hk_46 2 (c := (if s_cnd .eq (nI j) ((-6)) = true then 52 else 27, [.ref 5, .int key, .int value, .int (nI j), s_no], [], hp Z P L)) rfl ?_
  refine e_eq (a := 52) (b := 27) (x := nI j) (y := (-6)) (fun hc24 => absurd hc24 (fun z => absurd ((y_o_none (q := some j) (fun i hi => by cases hi; omega)).mp z) (by simp))) (fun hc24 => ?_)
  refine e_go hk_46 4 (c := (33, [.ref 5, .int key, .int value, .int (nI j), s_no], [.int value, .int (nI j), .ref 10], hp Z P L)) rfl ?_
  refine e_call hk_46 (as := [.ref 10, .int (nI j), .int value]) (rest := []) rfl rfl hk_23 rfl (Nat.le_of_ble_eq_true rfl) rfl (x_write (r := 10) (a := 11) (n := 60) rfl rfl rfl (by decide) (by decide) (j := j) (by omega)) ?_
  show e_r 46 36 [.ref 5, .int key, .int value, .int (nI j), s_no] [] (hp (s_upd Z 11 j value) P L) _ _
  refine e_go hk_46 4 (c := (42, [.ref 5, .int key, .int value, .int (nI j), s_no], [.int 1, .int (nI j), .ref 16], hp (s_upd Z 11 j value) P L)) rfl ?_
  refine e_call hk_46 (as := [.ref 16, .int (nI j), .int 1]) (rest := []) rfl rfl hk_23 rfl (Nat.le_of_ble_eq_true rfl) rfl (x_write (r := 16) (a := 17) (n := 60) rfl rfl rfl (by decide) (by decide) (j := j) (by omega)) ?_
  show e_r 46 45 [.ref 5, .int key, .int value, .int (nI j), s_no] [] (hp (s_upd (s_upd Z 11 j value) 17 j 1) P L) _ _
  refine e_go hk_46 2 (c := (47, [.ref 5, .int key, .int value, .int (nI j), s_no], [.int (nI j), .ref 5], hp (s_upd (s_upd Z 11 j value) 17 j 1) P L)) rfl ?_
  refine e_call hk_46 (as := [.ref 5, .int (nI j)]) (rest := []) rfl rfl hk_49 rfl (Nat.le_of_ble_eq_true rfl) rfl (x_pay (Z := s_upd (s_upd Z 11 j value) 17 j 1) (n := n) hN hn (p := j) (by omega)) ?_
  show e_r 46 50 [.ref 5, .int key, .int value, .int (nI j), s_no] [] (hp ((t_py j 60 0 0 n (s_upd (s_upd Z 11 j value) 17 j 1))) P L) _ _
  refine e_go hk_46 1 (c := (51, [.ref 5, .int key, .int value, .int (nI j), s_no], [.int 0], hp ((t_py j 60 0 0 n (s_upd (s_upd Z 11 j value) 17 j 1))) P L)) rfl ?_
  exact e_ret hk_46 rfl rfl rfl (by rw [t_en, if_neg (by rw [hr]; decide), hq]) (by rw [t_en, if_neg (by rw [hr]; decide), hq])
theorem x_en_none {Z : Nat → Nat → Int32} {P : Nat → Nat} {L n : Nat} (hN : Z 5 6 = nI n) (hn : n ≤ 60) (hF : ∀ i, i < n → Z 17 i = 0 ∨ Z 17 i = 1) {key value : Int32} (hr : t_rm Z n key = true) (hq : t_nd (Z 9) n key = none) (hw : t_wl (Z 15) (Z 7 0) (t_pl (Z 9) key 0 n) 60 0 0 n = none) : m_r 46 [.ref 5, .int key, .int value] (hp Z P L) (some (.int (t_en Z n key value).1)) (hp (t_en Z n key value).2 P L) := by
  have hpl := (t_pl_le (Z 9) key n 0).2
  have hlt : n < 60 := by
    rcases Nat.lt_or_ge n 60 with z | z
    · exact z
    · rw [t_rm, hq, decide_eq_false (by omega)] at hr; cases hr
  refine m_of (ls := [.ref 5, .int key, .int value, s_no, s_no]) hk_46 rfl rfl rfl ?_
  refine e_go hk_46 2 (c := (2, [.ref 5, .int key, .int value, s_no, s_no], [.int key, .ref 5], hp Z P L)) rfl ?_
  refine e_call hk_46 (as := [.ref 5, .int key]) (rest := []) rfl rfl hk_45 rfl (Nat.le_of_ble_eq_true rfl) rfl (show m_r 45 [.ref 5, .int key] (hp Z P L) (some (.int 1)) (hp Z P L) from (by have := x_room (P := P) (L := L) (key := key) hN hn; rw [hr] at this; exact this)) ?_
  show e_r 46 5 [.ref 5, .int key, .int value, s_no, s_no] [.int 1] (hp Z P L) _ _
  refine e_go hk_46 1 (c := (if s_cnd .ne 1 0 = true then 11 else 8, [.ref 5, .int key, .int value, s_no, s_no], [], hp Z P L)) rfl ?_
  refine e_ne (a := 11) (b := 8) (x := 1) (y := 0) (fun hc5 => ?_) (fun hc5 => absurd hc5 (by decide))
  refine e_go hk_46 2 (c := (13, [.ref 5, .int key, .int value, s_no, s_no], [.int key, .ref 5], hp Z P L)) rfl ?_
  refine e_call hk_46 (as := [.ref 5, .int key]) (rest := []) rfl rfl hk_30 rfl (Nat.le_of_ble_eq_true rfl) rfl (x_place hN hn) ?_
  show e_r 46 16 [.ref 5, .int key, .int value, s_no, s_no] [.int (nI (t_pl (Z 9) key 0 n))] (hp Z P L) _ _
  refine e_go hk_46 3 (c := (19, [.ref 5, .int key, .int value, .int (nI (t_pl (Z 9) key 0 n)), s_no], [.int key, .ref 5], hp Z P L)) rfl ?_
  refine e_call hk_46 (as := [.ref 5, .int key]) (rest := []) rfl rfl hk_31 rfl (Nat.le_of_ble_eq_true rfl) rfl (show m_r 31 [.ref 5, .int key] (hp Z P L) (some (.int (-6))) (hp Z P L) from (by have := x_node (P := P) (L := L) (key := key) hN hn; rw [hq] at this; exact this)) ?_
  show e_r 46 22 [.ref 5, .int key, .int value, .int (nI (t_pl (Z 9) key 0 n)), s_no] [.int ((-6))] (hp Z P L) _ _
  refine e_go hk_46 2 (c := (if s_cnd .eq ((-6)) ((-6)) = true then 52 else 27, [.ref 5, .int key, .int value, .int (nI (t_pl (Z 9) key 0 n)), s_no], [], hp Z P L)) rfl ?_
  refine e_eq (a := 52) (b := 27) (x := (-6)) (y := (-6)) (fun hc24 => ?_) (fun hc24 => absurd (rfl) hc24)
  refine e_go hk_46 2 (c := (54, [.ref 5, .int key, .int value, .int (nI (t_pl (Z 9) key 0 n)), s_no], [.int (nI (t_pl (Z 9) key 0 n)), .ref 5], hp Z P L)) rfl ?_
  refine e_call hk_46 (as := [.ref 5, .int (nI (t_pl (Z 9) key 0 n))]) (rest := []) rfl rfl hk_43 rfl (Nat.le_of_ble_eq_true rfl) rfl (show m_r 43 [.ref 5, .int (nI (t_pl (Z 9) key 0 n))] (hp Z P L) (some (.int (-6))) (hp Z P L) from (by have := x_would (P := P) (L := L) (p := t_pl (Z 9) key 0 n) hN hn (by omega); rw [hw] at this; exact this)) ?_
  show e_r 46 57 [.ref 5, .int key, .int value, .int (nI (t_pl (Z 9) key 0 n)), s_no] [.int ((-6))] (hp Z P L) _ _
  refine e_go hk_46 5 (c := (63, [.ref 5, .int key, .int value, .int (nI (t_pl (Z 9) key 0 n)), .int ((-6))], [.int value, .int key, .int (nI (t_pl (Z 9) key 0 n)), .ref 5], hp Z P L)) rfl ?_
  refine e_call hk_46 (as := [.ref 5, .int (nI (t_pl (Z 9) key 0 n)), .int key, .int value]) (rest := []) rfl rfl hk_50 rfl (Nat.le_of_ble_eq_true rfl) rfl (x_make hN hn (p := t_pl (Z 9) key 0 n) (by omega) hlt) ?_
  show e_r 46 66 [.ref 5, .int key, .int value, .int (nI (t_pl (Z 9) key 0 n)), .int ((-6))] [] (hp ((t_mk Z n (t_pl (Z 9) key 0 n) key value)) P L) _ _
  refine e_go hk_46 2 (c := (68, [.ref 5, .int key, .int value, .int (nI (t_pl (Z 9) key 0 n)), .int ((-6))], [.int (nI (t_pl (Z 9) key 0 n)), .ref 5], hp ((t_mk Z n (t_pl (Z 9) key 0 n) key value)) P L)) rfl ?_
  refine e_call hk_46 (as := [.ref 5, .int (nI (t_pl (Z 9) key 0 n))]) (rest := []) rfl rfl hk_49 rfl (Nat.le_of_ble_eq_true rfl) rfl (x_pay (Z := (t_mk Z n (t_pl (Z 9) key 0 n) key value)) (n := n + 1) (t_mk_N hN) (by omega) (p := t_pl (Z 9) key 0 n) (by omega)) ?_
  show e_r 46 71 [.ref 5, .int key, .int value, .int (nI (t_pl (Z 9) key 0 n)), .int ((-6))] [] (hp ((t_py (t_pl (Z 9) key 0 n) 60 0 0 (n + 1) (t_mk Z n (t_pl (Z 9) key 0 n) key value))) P L) _ _
  refine e_go hk_46 3 (c := (if s_cnd .ne ((-6)) ((-6)) = true then 80 else 78, [.ref 5, .int key, .int value, .int (nI (t_pl (Z 9) key 0 n)), .int ((-6))], [], hp ((t_py (t_pl (Z 9) key 0 n) 60 0 0 (n + 1) (t_mk Z n (t_pl (Z 9) key 0 n) key value))) P L)) rfl ?_
  refine e_ne (a := 80) (b := 78) (x := (-6)) (y := (-6)) (fun hc75 => absurd (rfl) hc75) (fun hc75 => ?_)
  refine e_go hk_46 1 (c := (79, [.ref 5, .int key, .int value, .int (nI (t_pl (Z 9) key 0 n)), .int ((-6))], [.int 0], hp ((t_py (t_pl (Z 9) key 0 n) 60 0 0 (n + 1) (t_mk Z n (t_pl (Z 9) key 0 n) key value))) P L)) rfl ?_
  exact e_ret hk_46 rfl rfl rfl (by rw [t_en, if_neg (by rw [hr]; decide), hq]; dsimp only; rw [hw]) (by rw [t_en, if_neg (by rw [hr]; decide), hq]; dsimp only; rw [hw])
theorem x_en_lean {Z : Nat → Nat → Int32} {P : Nat → Nat} {L n : Nat} (hN : Z 5 6 = nI n) (hn : n ≤ 60) (hF : ∀ i, i < n → Z 17 i = 0 ∨ Z 17 i = 1) {key value : Int32} (hr : t_rm Z n key = true) (hq : t_nd (Z 9) n key = none) {j : Nat} (hw : t_wl (Z 15) (Z 7 0) (t_pl (Z 9) key 0 n) 60 0 0 n = some j) : m_r 46 [.ref 5, .int key, .int value] (hp Z P L) (some (.int (t_en Z n key value).1)) (hp (t_en Z n key value).2 P L) := by
  have hpl := (t_pl_le (Z 9) key n 0).2
  have hlt : n < 60 := by
    rcases Nat.lt_or_ge n 60 with z | z
    · exact z
    · rw [t_rm, hq, decide_eq_false (by omega)] at hr; cases hr
  have hjn := t_wl_lt (Nat.le_refl n) hw
  have hN2 : (t_py (t_pl (Z 9) key 0 n) 60 0 0 (n + 1) (t_mk Z n (t_pl (Z 9) key 0 n) key value)) 5 6 = nI (n + 1) := by rw [t_py_o (by decide)]; exact t_mk_N hN
  have hF2 : ∀ i, i < n + 1 → (t_py (t_pl (Z 9) key 0 n) 60 0 0 (n + 1) (t_mk Z n (t_pl (Z 9) key 0 n) key value)) 17 i = 0 ∨ (t_py (t_pl (Z 9) key 0 n) 60 0 0 (n + 1) (t_mk Z n (t_pl (Z 9) key 0 n) key value)) 17 i = 1 := by
    intro i hi
    rw [t_py_o (by decide), t_mk_get (by omega) (by omega) 17 (by unfold t_cl; omega)]
    split
    · exact hF i (by omega)
    · split
      · exact Or.inr rfl
      · exact hF (i - 1) (by omega)
  refine m_of (ls := [.ref 5, .int key, .int value, s_no, s_no]) hk_46 rfl rfl rfl ?_
  refine e_go hk_46 2 (c := (2, [.ref 5, .int key, .int value, s_no, s_no], [.int key, .ref 5], hp Z P L)) rfl ?_
  refine e_call hk_46 (as := [.ref 5, .int key]) (rest := []) rfl rfl hk_45 rfl (Nat.le_of_ble_eq_true rfl) rfl (show m_r 45 [.ref 5, .int key] (hp Z P L) (some (.int 1)) (hp Z P L) from (by have := x_room (P := P) (L := L) (key := key) hN hn; rw [hr] at this; exact this)) ?_
  show e_r 46 5 [.ref 5, .int key, .int value, s_no, s_no] [.int 1] (hp Z P L) _ _
  refine e_go hk_46 1 (c := (if s_cnd .ne 1 0 = true then 11 else 8, [.ref 5, .int key, .int value, s_no, s_no], [], hp Z P L)) rfl ?_
  refine e_ne (a := 11) (b := 8) (x := 1) (y := 0) (fun hc5 => ?_) (fun hc5 => absurd hc5 (by decide))
  refine e_go hk_46 2 (c := (13, [.ref 5, .int key, .int value, s_no, s_no], [.int key, .ref 5], hp Z P L)) rfl ?_
  refine e_call hk_46 (as := [.ref 5, .int key]) (rest := []) rfl rfl hk_30 rfl (Nat.le_of_ble_eq_true rfl) rfl (x_place hN hn) ?_
  show e_r 46 16 [.ref 5, .int key, .int value, s_no, s_no] [.int (nI (t_pl (Z 9) key 0 n))] (hp Z P L) _ _
  refine e_go hk_46 3 (c := (19, [.ref 5, .int key, .int value, .int (nI (t_pl (Z 9) key 0 n)), s_no], [.int key, .ref 5], hp Z P L)) rfl ?_
  refine e_call hk_46 (as := [.ref 5, .int key]) (rest := []) rfl rfl hk_31 rfl (Nat.le_of_ble_eq_true rfl) rfl (show m_r 31 [.ref 5, .int key] (hp Z P L) (some (.int (-6))) (hp Z P L) from (by have := x_node (P := P) (L := L) (key := key) hN hn; rw [hq] at this; exact this)) ?_
  show e_r 46 22 [.ref 5, .int key, .int value, .int (nI (t_pl (Z 9) key 0 n)), s_no] [.int ((-6))] (hp Z P L) _ _
  refine e_go hk_46 2 (c := (if s_cnd .eq ((-6)) ((-6)) = true then 52 else 27, [.ref 5, .int key, .int value, .int (nI (t_pl (Z 9) key 0 n)), s_no], [], hp Z P L)) rfl ?_
  refine e_eq (a := 52) (b := 27) (x := (-6)) (y := (-6)) (fun hc24 => ?_) (fun hc24 => absurd (rfl) hc24)
  refine e_go hk_46 2 (c := (54, [.ref 5, .int key, .int value, .int (nI (t_pl (Z 9) key 0 n)), s_no], [.int (nI (t_pl (Z 9) key 0 n)), .ref 5], hp Z P L)) rfl ?_
  refine e_call hk_46 (as := [.ref 5, .int (nI (t_pl (Z 9) key 0 n))]) (rest := []) rfl rfl hk_43 rfl (Nat.le_of_ble_eq_true rfl) rfl (show m_r 43 [.ref 5, .int (nI (t_pl (Z 9) key 0 n))] (hp Z P L) (some (.int (nI j))) (hp Z P L) from (by have := x_would (P := P) (L := L) (p := t_pl (Z 9) key 0 n) hN hn (by omega); rw [hw] at this; exact this)) ?_
  show e_r 46 57 [.ref 5, .int key, .int value, .int (nI (t_pl (Z 9) key 0 n)), s_no] [.int (nI j)] (hp Z P L) _ _
  refine e_go hk_46 5 (c := (63, [.ref 5, .int key, .int value, .int (nI (t_pl (Z 9) key 0 n)), .int (nI j)], [.int value, .int key, .int (nI (t_pl (Z 9) key 0 n)), .ref 5], hp Z P L)) rfl ?_
  refine e_call hk_46 (as := [.ref 5, .int (nI (t_pl (Z 9) key 0 n)), .int key, .int value]) (rest := []) rfl rfl hk_50 rfl (Nat.le_of_ble_eq_true rfl) rfl (x_make hN hn (p := t_pl (Z 9) key 0 n) (by omega) hlt) ?_
  show e_r 46 66 [.ref 5, .int key, .int value, .int (nI (t_pl (Z 9) key 0 n)), .int (nI j)] [] (hp ((t_mk Z n (t_pl (Z 9) key 0 n) key value)) P L) _ _
  refine e_go hk_46 2 (c := (68, [.ref 5, .int key, .int value, .int (nI (t_pl (Z 9) key 0 n)), .int (nI j)], [.int (nI (t_pl (Z 9) key 0 n)), .ref 5], hp ((t_mk Z n (t_pl (Z 9) key 0 n) key value)) P L)) rfl ?_
  refine e_call hk_46 (as := [.ref 5, .int (nI (t_pl (Z 9) key 0 n))]) (rest := []) rfl rfl hk_49 rfl (Nat.le_of_ble_eq_true rfl) rfl (x_pay (Z := (t_mk Z n (t_pl (Z 9) key 0 n) key value)) (n := n + 1) (t_mk_N hN) (by omega) (p := t_pl (Z 9) key 0 n) (by omega)) ?_
  show e_r 46 71 [.ref 5, .int key, .int value, .int (nI (t_pl (Z 9) key 0 n)), .int (nI j)] [] (hp ((t_py (t_pl (Z 9) key 0 n) 60 0 0 (n + 1) (t_mk Z n (t_pl (Z 9) key 0 n) key value))) P L) _ _
  refine e_go hk_46 3 (c := (if s_cnd .ne (nI j) ((-6)) = true then 80 else 78, [.ref 5, .int key, .int value, .int (nI (t_pl (Z 9) key 0 n)), .int (nI j)], [], hp ((t_py (t_pl (Z 9) key 0 n) 60 0 0 (n + 1) (t_mk Z n (t_pl (Z 9) key 0 n) key value))) P L)) rfl ?_
  refine e_ne (a := 80) (b := 78) (x := nI j) (y := (-6)) (fun hc75 => ?_) (fun hc75 => absurd hc75 (fun z => absurd ((y_o_none (q := some j) (fun i hi => by cases hi; omega)).mp z) (by simp)))
  refine e_go hk_46 4 (c := (if s_cnd .ge (nI j) (nI (t_pl (Z 9) key 0 n)) = true then 92 else 87, [.ref 5, .int key, .int value, .int (nI (t_pl (Z 9) key 0 n)), .int (nI j)], [.ref 5], hp ((t_py (t_pl (Z 9) key 0 n) 60 0 0 (n + 1) (t_mk Z n (t_pl (Z 9) key 0 n) key value))) P L)) rfl ?_
  refine e_ge (a := 92) (b := 87) (x := nI j) (y := nI (t_pl (Z 9) key 0 n)) (fun hc84 => ?_) (fun hc84 => ?_)
  · skip
    rw [y_le (by omega) (by omega)] at hc84
    refine e_go hk_46 3 (c := (96, [.ref 5, .int key, .int value, .int (nI (t_pl (Z 9) key 0 n)), .int (nI j)], [.int ((nI j) + 1), .ref 5], hp ((t_py (t_pl (Z 9) key 0 n) 60 0 0 (n + 1) (t_mk Z n (t_pl (Z 9) key 0 n) key value))) P L)) rfl ?_
    rw [nI_1]
    refine e_call hk_46 (as := [.ref 5, .int (nI (j + 1))]) (rest := []) rfl rfl hk_52 rfl (Nat.le_of_ble_eq_true rfl) rfl (x_lay (Z := (t_py (t_pl (Z 9) key 0 n) 60 0 0 (n + 1) (t_mk Z n (t_pl (Z 9) key 0 n) key value))) (n := n + 1) hN2 (by omega) hF2 (j := (j + 1)) (by omega)) ?_
    show e_r 46 99 [.ref 5, .int key, .int value, .int (nI (t_pl (Z 9) key 0 n)), .int (nI j)] [.int (t_wt (t_py (t_pl (Z 9) key 0 n) 60 0 0 (n + 1) (t_mk Z n (t_pl (Z 9) key 0 n) key value)) (n + 1) (j + 1))] (hp ((t_la (t_py (t_pl (Z 9) key 0 n) 60 0 0 (n + 1) (t_mk Z n (t_pl (Z 9) key 0 n) key value)) (n + 1) (j + 1))) P L) _ _
    exact e_ret hk_46 rfl rfl rfl (by rw [t_en, if_neg (by rw [hr]; decide), hq]; dsimp only; rw [hw]; dsimp only; rw [if_neg (show ¬ j < t_pl (Z 9) key 0 n by omega)]) (by rw [t_en, if_neg (by rw [hr]; decide), hq]; dsimp only; rw [hw]; dsimp only; rw [if_neg (show ¬ j < t_pl (Z 9) key 0 n by omega)])
  · skip
    rw [y_le (by omega) (by omega)] at hc84
    refine e_go hk_46 2 (c := (96, [.ref 5, .int key, .int value, .int (nI (t_pl (Z 9) key 0 n)), .int (nI j)], [.int (nI j), .ref 5], hp ((t_py (t_pl (Z 9) key 0 n) 60 0 0 (n + 1) (t_mk Z n (t_pl (Z 9) key 0 n) key value))) P L)) rfl ?_
    refine e_call hk_46 (as := [.ref 5, .int (nI j)]) (rest := []) rfl rfl hk_52 rfl (Nat.le_of_ble_eq_true rfl) rfl (x_lay (Z := (t_py (t_pl (Z 9) key 0 n) 60 0 0 (n + 1) (t_mk Z n (t_pl (Z 9) key 0 n) key value))) (n := n + 1) hN2 (by omega) hF2 (j := j) (by omega)) ?_
    show e_r 46 99 [.ref 5, .int key, .int value, .int (nI (t_pl (Z 9) key 0 n)), .int (nI j)] [.int (t_wt (t_py (t_pl (Z 9) key 0 n) 60 0 0 (n + 1) (t_mk Z n (t_pl (Z 9) key 0 n) key value)) (n + 1) j)] (hp ((t_la (t_py (t_pl (Z 9) key 0 n) 60 0 0 (n + 1) (t_mk Z n (t_pl (Z 9) key 0 n) key value)) (n + 1) j)) P L) _ _
    exact e_ret hk_46 rfl rfl rfl (by rw [t_en, if_neg (by rw [hr]; decide), hq]; dsimp only; rw [hw]; dsimp only; rw [if_pos (show j < t_pl (Z 9) key 0 n by omega)]) (by rw [t_en, if_neg (by rw [hr]; decide), hq]; dsimp only; rw [hw]; dsimp only; rw [if_pos (show j < t_pl (Z 9) key 0 n by omega)])
theorem x_enter {Z : Nat → Nat → Int32} {P : Nat → Nat} {L n : Nat} (hN : Z 5 6 = nI n) (hn : n ≤ 60) (hF : ∀ i, i < n → Z 17 i = 0 ∨ Z 17 i = 1) {key value : Int32}  : m_r 46 [.ref 5, .int key, .int value] (hp Z P L) (some (.int (t_en Z n key value).1)) (hp (t_en Z n key value).2 P L) := by
  cases hr : t_rm Z n key with
  | false => exact x_en_no hN hn hF hr
  | true =>
    cases hq : t_nd (Z 9) n key with
    | some j => exact x_en_old hN hn hF hr hq
    | none =>
      cases hw : t_wl (Z 15) (Z 7 0) (t_pl (Z 9) key 0 n) 60 0 0 n with
      | none => exact x_en_none hN hn hF hr hq hw
      | some j => exact x_en_lean hN hn hF hr hq hw
end
section
/-! Tree: hollowOut; become; printed by wip/whole/gen/tree6.py -/
def t_h2 (Z : Nat → Nat → Int32) (n : Nat) : Int32 × (Nat → Nat → Int32) := if Z 7 1 * nI n < 100 * (nI n - t_sm (Z 17) 0 n 0) then (t_wt Z n (t_tp (Z 15) 0 0 (n - 1 - 0)), t_la Z n (t_tp (Z 15) 0 0 (n - 1 - 0))) else (0, Z)
def t_hl (Z : Nat → Nat → Int32) (n : Nat) (key : Int32) : Int32 × (Nat → Nat → Int32) := match t_fn (Z 9) (Z 17) n key with
  | none => (-1, Z)
  | some j => t_h2 (t_py j 60 0 0 n (s_upd Z 17 j 0)) n
theorem x_hl_2 {Z : Nat → Nat → Int32} {P : Nat → Nat} {L n : Nat} (hN : Z 5 6 = nI n) (hn : n ≤ 60) (hF : ∀ i, i < n → Z 17 i = 0 ∨ Z 17 i = 1) (h0 : 0 < n) {j : Nat} {key : Int32} : e_r 47 28 [.ref 5, .int key, .int (nI j), s_no] [] (hp Z P L) (some (.int (t_h2 Z n).1)) (hp (t_h2 Z n).2 P L) := by
  refine e_go hk_47 3 (c := (33, [.ref 5, .int key, .int (nI j), s_no], [.ref 5, .int (Z 5 6)], hp Z P L)) rfl ?_
  refine e_call hk_47 (as := [.ref 5]) (rest := [.int (Z 5 6)]) rfl rfl hk_34 rfl (Nat.le_of_ble_eq_true rfl) rfl (x_all hN hn) ?_
  show e_r 47 36 [.ref 5, .int key, .int (nI j), s_no] [.int (t_sm (Z 17) 0 n 0), .int (Z 5 6)] (hp Z P L) _ _
  refine e_go hk_47 8 (c := (47, [.ref 5, .int key, .int (nI j), .int ((Z 5 6) - (t_sm (Z 17) 0 n 0))], [.int 1, .ref 6, .int (100 * ((Z 5 6) - (t_sm (Z 17) 0 n 0)))], hp Z P L)) rfl ?_
  refine e_call hk_47 (as := [.ref 6, .int (nI 1)]) (rest := [.int (100 * ((Z 5 6) - (t_sm (Z 17) 0 n 0)))]) rfl rfl hk_22 rfl (Nat.le_of_ble_eq_true rfl) rfl (x_at (r := 6) (a := 7) (n := 3) rfl rfl rfl (by decide) (j := 1) (by decide)) ?_
  show e_r 47 50 [.ref 5, .int key, .int (nI j), .int ((Z 5 6) - (t_sm (Z 17) 0 n 0))] [.int (Z 7 1), .int (100 * ((Z 5 6) - (t_sm (Z 17) 0 n 0)))] (hp Z P L) _ _
  refine e_go hk_47 4 (c := (if s_cnd .le (100 * ((Z 5 6) - (t_sm (Z 17) 0 n 0))) ((Z 7 1) * (Z 5 6)) = true then 77 else 58, [.ref 5, .int key, .int (nI j), .int ((Z 5 6) - (t_sm (Z 17) 0 n 0))], [], hp Z P L)) rfl ?_
  refine e_le (a := 77) (b := 58) (x := 100 * ((Z 5 6) - (t_sm (Z 17) 0 n 0))) (y := (Z 7 1) * (Z 5 6)) (fun hc55 => ?_) (fun hc55 => ?_)
  · skip
    rw [hN] at hc55
    refine e_go hk_47 1 (c := (78, [.ref 5, .int key, .int (nI j), .int ((Z 5 6) - (t_sm (Z 17) 0 n 0))], [.int 0], hp Z P L)) rfl ?_
    exact e_ret hk_47 rfl rfl rfl (by rw [t_h2, if_neg (Int32.not_lt.mpr hc55)]) (by rw [t_h2, if_neg (Int32.not_lt.mpr hc55)])
  · skip
    rw [hN] at hc55
    refine e_go hk_47 8 (c := (68, [.ref 5, .int key, .int (nI j), .int ((Z 5 6) - (t_sm (Z 17) 0 n 0))], [.int 0, .int ((Z 5 6) - 1), .int 0, .ref 5, .ref 5], hp Z P L)) rfl ?_
    rw [hN, y_m1s h0]
    refine e_call hk_47 (as := [.ref 5, .int (nI 0), .int (nI (n - 1)), .int 0]) (rest := [.ref 5]) rfl rfl hk_39 rfl (Nat.le_of_ble_eq_true rfl) rfl (x_top (l := 0) (u := n - 1) (by omega) (by omega)) ?_
    show e_r 47 71 [.ref 5, .int key, .int (nI j), .int (nI n - (t_sm (Z 17) 0 n 0))] [.int (nI (t_tp (Z 15) 0 0 (n - 1 - 0))), .ref 5] (hp Z P L) _ _
    have htp := t_tp_le (Z 15) 0 (n - 1 - 0) 0
    refine e_call hk_47 (as := [.ref 5, .int (nI (t_tp (Z 15) 0 0 (n - 1 - 0)))]) (rest := []) rfl rfl hk_52 rfl (Nat.le_of_ble_eq_true rfl) rfl (x_lay (Z := Z) hN hn hF (j := t_tp (Z 15) 0 0 (n - 1 - 0)) (by omega)) ?_
    show e_r 47 74 [.ref 5, .int key, .int (nI j), .int (nI n - (t_sm (Z 17) 0 n 0))] [.int (t_wt Z n (t_tp (Z 15) 0 0 (n - 1 - 0)))] (hp ((t_la Z n (t_tp (Z 15) 0 0 (n - 1 - 0)))) P L) _ _
    refine e_go hk_47 1 (c := (78, [.ref 5, .int key, .int (nI j), .int (nI n - (t_sm (Z 17) 0 n 0))], [.int (t_wt Z n (t_tp (Z 15) 0 0 (n - 1 - 0)))], hp ((t_la Z n (t_tp (Z 15) 0 0 (n - 1 - 0)))) P L)) rfl ?_
    exact e_ret hk_47 rfl rfl rfl (by rw [t_h2, if_pos (Int32.not_le.mp hc55)]) (by rw [t_h2, if_pos (Int32.not_le.mp hc55)])
theorem x_hl_none {Z : Nat → Nat → Int32} {P : Nat → Nat} {L n : Nat} (hN : Z 5 6 = nI n) (hn : n ≤ 60) (hF : ∀ i, i < n → Z 17 i = 0 ∨ Z 17 i = 1) {key : Int32} (hq : t_fn (Z 9) (Z 17) n key = none) : m_r 47 [.ref 5, .int key] (hp Z P L) (some (.int (t_hl Z n key).1)) (hp (t_hl Z n key).2 P L) := by
  refine m_of (ls := [.ref 5, .int key, s_no, s_no]) hk_47 rfl rfl rfl ?_
  refine e_go hk_47 2 (c := (2, [.ref 5, .int key, s_no, s_no], [.int key, .ref 5], hp Z P L)) rfl ?_
  refine e_call hk_47 (as := [.ref 5, .int key]) (rest := []) rfl rfl hk_32 rfl (Nat.le_of_ble_eq_true rfl) rfl (show m_r 32 [.ref 5, .int key] (hp Z P L) (some (.int (-6))) (hp Z P L) from (by have := x_fnode (P := P) (L := L) (key := key) hN hn; rw [hq] at this; exact this)) ?_
  show e_r 47 5 [.ref 5, .int key, s_no, s_no] [.int ((-6))] (hp Z P L) _ _
  refine e_go hk_47 4 (c := (if s_cnd .ne ((-6)) ((-6)) = true then 14 else 12, [.ref 5, .int key, .int ((-6)), s_no], [], hp Z P L)) rfl ?_
  refine e_ne (a := 14) (b := 12) (x := (-6)) (y := (-6)) (fun hc9 => absurd (rfl) hc9) (fun hc9 => ?_)
  refine e_go hk_47 1 (c := (13, [.ref 5, .int key, .int ((-6)), s_no], [.int ((-1))], hp Z P L)) rfl ?_
  exact e_ret hk_47 rfl rfl rfl (by rw [t_hl, hq]) (by rw [t_hl, hq])
theorem x_hl_some {Z : Nat → Nat → Int32} {P : Nat → Nat} {L n : Nat} (hN : Z 5 6 = nI n) (hn : n ≤ 60) (hF : ∀ i, i < n → Z 17 i = 0 ∨ Z 17 i = 1) {key : Int32} {j : Nat} (hq : t_fn (Z 9) (Z 17) n key = some j) : m_r 47 [.ref 5, .int key] (hp Z P L) (some (.int (t_hl Z n key).1)) (hp (t_hl Z n key).2 P L) := by
  have hjn := (t_fn_lt hq).1
  refine m_of (ls := [.ref 5, .int key, s_no, s_no]) hk_47 rfl rfl rfl ?_
  refine e_go hk_47 2 (c := (2, [.ref 5, .int key, s_no, s_no], [.int key, .ref 5], hp Z P L)) rfl ?_
  refine e_call hk_47 (as := [.ref 5, .int key]) (rest := []) rfl rfl hk_32 rfl (Nat.le_of_ble_eq_true rfl) rfl (show m_r 32 [.ref 5, .int key] (hp Z P L) (some (.int (nI j))) (hp Z P L) from (by have := x_fnode (P := P) (L := L) (key := key) hN hn; rw [hq] at this; exact this)) ?_
  show e_r 47 5 [.ref 5, .int key, s_no, s_no] [.int (nI j)] (hp Z P L) _ _
  refine e_go hk_47 4 (c := (if s_cnd .ne (nI j) ((-6)) = true then 14 else 12, [.ref 5, .int key, .int (nI j), s_no], [], hp Z P L)) rfl ?_
  refine e_ne (a := 14) (b := 12) (x := nI j) (y := (-6)) (fun hc9 => ?_) (fun hc9 => absurd hc9 (fun z => absurd ((y_o_none (q := some j) (fun i hi => by cases hi; omega)).mp z) (by simp)))
  refine e_go hk_47 4 (c := (20, [.ref 5, .int key, .int (nI j), s_no], [.int 0, .int (nI j), .ref 16], hp Z P L)) rfl ?_
  refine e_call hk_47 (as := [.ref 16, .int (nI j), .int 0]) (rest := []) rfl rfl hk_23 rfl (Nat.le_of_ble_eq_true rfl) rfl (x_write (r := 16) (a := 17) (n := 60) rfl rfl rfl (by decide) (by decide) (j := j) (by omega)) ?_
  show e_r 47 23 [.ref 5, .int key, .int (nI j), s_no] [] (hp (s_upd Z 17 j 0) P L) _ _
  refine e_go hk_47 2 (c := (25, [.ref 5, .int key, .int (nI j), s_no], [.int (nI j), .ref 5], hp (s_upd Z 17 j 0) P L)) rfl ?_
  refine e_call hk_47 (as := [.ref 5, .int (nI j)]) (rest := []) rfl rfl hk_49 rfl (Nat.le_of_ble_eq_true rfl) rfl (x_pay (Z := s_upd Z 17 j 0) (n := n) hN hn (p := j) (by omega)) ?_
  show e_r 47 28 [.ref 5, .int key, .int (nI j), s_no] [] (hp ((t_py j 60 0 0 n (s_upd Z 17 j 0))) P L) _ _
  rw [t_hl, hq]
  refine x_hl_2 (Z := t_py j 60 0 0 n (s_upd Z 17 j 0)) ?_ hn ?_ (by omega)
  · rw [t_py_o (by decide)]; exact hN
  · intro i hi
    rw [t_py_o (by decide), s_upd_c]
    split
    · exact Or.inl rfl
    · exact hF i hi
theorem x_hollow {Z : Nat → Nat → Int32} {P : Nat → Nat} {L n : Nat} (hN : Z 5 6 = nI n) (hn : n ≤ 60) (hF : ∀ i, i < n → Z 17 i = 0 ∨ Z 17 i = 1) {key : Int32} : m_r 47 [.ref 5, .int key] (hp Z P L) (some (.int (t_hl Z n key).1)) (hp (t_hl Z n key).2 P L) := by
  cases hq : t_fn (Z 9) (Z 17) n key with
  | none => exact x_hl_none hN hn hF hq
  | some j => exact x_hl_some hN hn hF hq
def t_cp (Z : Nat → Nat → Int32) (a b n : Nat) : Nat → Nat → Int32 := fun i => if i = b then va_cpy (Z a) (Z b) 0 0 n else Z i
theorem e_acpy {k pc : Nat} {r : sM} {cn : Option Nat} {ls rest : List Value} {h h2 : sHp} {v : Option Value} (hk : s_T k = some (r, cn)) {e : sE} {a b n : Nat} (hat : s_at (s_cd r) pc = some e) (hi : e.2.1 = .monitorexit) (hsa : s_nth h.2.2 a = some (1, n)) (hsb : s_nth h.2.2 b = some (1, n)) (ha : 4 ≤ a) (hb : 4 ≤ b) (hn : n < 2 ^ 31) (hcat : s_cat rest ≤ 8) (kk : e_r k (pc + e.2.2.1) ls rest (t_cp h.1 a b n, h.2) v h2) : e_r k pc ls (.int (nI n) :: .int 0 :: .ref b :: .int 0 :: .ref a :: rest) h v h2 := by
  refine e_step (c := (pc + e.2.2.1, ls, rest, (t_cp h.1 a b n, h.2))) hk hat (by rw [hi]; rfl) (by rw [hi]; rfl) ?_ kk
  rw [hi]
  dsimp only [s_x]
  rw [hsa, hsb]
  have hz : (0 : Int32).toNatClampNeg = 0 := rfl
  show (if 8 < s_cat rest ∨ (0 : Int32) < 0 ∨ (0 : Int32) < 0 ∨ nI n < 0 ∨ n < (0 : Int32).toNatClampNeg + (nI n).toNatClampNeg ∨ n < (0 : Int32).toNatClampNeg + (nI n).toNatClampNeg ∨ a < 4 ∨ b < 4 then none else some (pc + e.2.2.1, ls, rest, ((fun i => if i = b then va_cpy (h.1 a) (h.1 b) (0 : Int32).toNatClampNeg (0 : Int32).toNatClampNeg (nI n).toNatClampNeg else h.1 i : Nat → Nat → Int32), h.2))) = _
  rw [hz, nI_clamp hn, if_neg]
  · rfl
  · simp only [not_or, Nat.zero_add, Nat.lt_irrefl, Nat.not_lt, not_false_eq_true, true_and]
    exact ⟨hcat, by decide, by decide, nI_pos hn, ha, hb⟩
theorem x_rbec {r r2 a b n : Nat} {h : sHp} (h1 : s_nth h.2.2 r = some (0, 3)) (h2 : h.2.1 r 0 = some b) (h3 : s_nth h.2.2 b = some (1, n)) (g1 : s_nth h.2.2 r2 = some (0, 3)) (g2 : h.2.1 r2 0 = some a) (g3 : s_nth h.2.2 a = some (1, n)) (ha : 4 ≤ a) (hb : 4 ≤ b) (hn : n < 2 ^ 31) : m_r 24 [.ref r, .ref r2] h none (t_cp h.1 a b n, h.2) := by
  refine m_of (ls := [.ref r, .ref r2]) hk_24 rfl rfl rfl ?_
  refine e_go hk_24 1 (c := (1, [.ref r, .ref r2], [.ref r2], h)) rfl ?_
  refine e_getr hk_24 (ev := 3074) (b := a) rfl rfl g1 rfl g2 ?_
  refine e_go hk_24 2 (c := (6, [.ref r, .ref r2], [.ref r, .int 0, .ref a], h)) rfl ?_
  refine e_getr hk_24 (ev := 3074) (b := b) rfl rfl h1 rfl h2 ?_
  refine e_go hk_24 2 (c := (11, [.ref r, .ref r2], [.ref r, .int 0, .ref b, .int 0, .ref a], h)) rfl ?_
  refine e_getr hk_24 (ev := 3074) (b := b) rfl rfl h1 rfl h2 ?_
  refine e_alen hk_24 (a := b) rfl rfl h3 ?_
  refine e_go hk_24 1 (c := (16, [.ref r, .ref r2], [.ref r2, .int (nI n), .int 0, .ref b, .int 0, .ref a], h)) rfl ?_
  refine e_getr hk_24 (ev := 3074) (b := a) rfl rfl g1 rfl g2 ?_
  refine e_alen hk_24 (a := a) rfl rfl g3 ?_
  refine e_go hk_24 1 (c := (23, [.ref r, .ref r2], [.int (if nI n < nI n then nI n else nI n), .int 0, .ref b, .int 0, .ref a], h)) rfl ?_
  rw [ite_self]
  refine e_acpy hk_24 (a := a) (b := b) (n := n) rfl rfl g3 h3 ha hb hn (by decide) ?_
  exact e_ret hk_24 rfl rfl rfl rfl rfl
/-- at cell x of this heap stands a tree with its rows -/
def t_is (h : sHp) (x : Nat) : Prop := s_nth h.2.2 x = some (0, 5) ∧ (s_nth h.2.2 (x + 1) = some (0, 3) ∧ s_nth h.2.2 (x + 3) = some (0, 3) ∧ s_nth h.2.2 (x + 5) = some (0, 3) ∧ s_nth h.2.2 (x + 7) = some (0, 3) ∧ s_nth h.2.2 (x + 9) = some (0, 3) ∧ s_nth h.2.2 (x + 11) = some (0, 3)) ∧ (s_nth h.2.2 (x + 2) = some (1, 3) ∧ s_nth h.2.2 (x + 4) = some (1, 60) ∧ s_nth h.2.2 (x + 6) = some (1, 60) ∧ s_nth h.2.2 (x + 8) = some (1, 60) ∧ s_nth h.2.2 (x + 10) = some (1, 60) ∧ s_nth h.2.2 (x + 12) = some (1, 60)) ∧ (h.2.1 x 0 = some (x + 1) ∧ h.2.1 x 1 = some (x + 3) ∧ h.2.1 x 2 = some (x + 5) ∧ h.2.1 x 3 = some (x + 7) ∧ h.2.1 x 4 = some (x + 9) ∧ h.2.1 x 5 = some (x + 11)) ∧ (h.2.1 (x + 1) 0 = some (x + 2) ∧ h.2.1 (x + 3) 0 = some (x + 4) ∧ h.2.1 (x + 5) 0 = some (x + 6) ∧ h.2.1 (x + 7) 0 = some (x + 8) ∧ h.2.1 (x + 9) 0 = some (x + 10) ∧ h.2.1 (x + 11) 0 = some (x + 12))
/-- the six rows of the tree at y into those of the tree at x -/
def t_bc6 (Z : Nat → Nat → Int32) (x y : Nat) : Nat → Nat → Int32 := t_cp (t_cp (t_cp (t_cp (t_cp (t_cp Z (y + 2) (x + 2) 3) (y + 4) (x + 4) 60) (y + 6) (x + 6) 60) (y + 8) (x + 8) 60) (y + 10) (x + 10) 60) (y + 12) (x + 12) 60
def t_bc5 (Z : Nat → Nat → Int32) (x y s : Nat) : Nat → Nat → Int32 := s_upd Z x s (Z y s)
/-- the tree at x becomes the tree at y -/
def t_bc (Z : Nat → Nat → Int32) (x y : Nat) : Nat → Nat → Int32 := t_bc5 (t_bc5 (t_bc5 (t_bc5 (t_bc5 (t_bc6 Z x y) x y 6) x y 7) x y 8) x y 9) x y 10
theorem x_tbec {x y : Nat} {h : sHp} (hx : t_is h x) (hy : t_is h y) (h4 : 4 ≤ x) (k4 : 4 ≤ y) : m_r 29 [.ref x, .ref y] h none (t_bc h.1 x y, h.2) := by
  obtain ⟨x0, ⟨x1, x3, x5, x7, x9, x11⟩, ⟨x2, x4, x6, x8, x10, x12⟩, ⟨q0, q1, q2, q3, q4, q5⟩, ⟨r1, r3, r5, r7, r9, r11⟩⟩ := hx
  obtain ⟨y0, ⟨y1, y3, y5, y7, y9, y11⟩, ⟨y2, y4, y6, y8, y10, y12⟩, ⟨p0, p1, p2, p3, p4, p5⟩, ⟨s1, s3, s5, s7, s9, s11⟩⟩ := hy
  refine m_of (ls := [.ref x, .ref y]) hk_29 rfl rfl rfl ?_
  refine e_go hk_29 1 (c := (1, [.ref x, .ref y], [.ref x], h)) rfl ?_
  refine e_getr hk_29 (ev := 5122) (b := x + 1) rfl rfl x0 rfl q0 ?_
  refine e_go hk_29 1 (c := (5, [.ref x, .ref y], [.ref y, .ref (x + 1)], h)) rfl ?_
  refine e_getr hk_29 (ev := 5122) (b := y + 1) rfl rfl y0 rfl p0 ?_
  refine e_call hk_29 (as := [.ref (x + 1), .ref (y + 1)]) (rest := []) rfl rfl hk_24 rfl (Nat.le_of_ble_eq_true rfl) (s_rc_of x1) (x_rbec x1 r1 x2 y1 s1 y2 (by omega) (by omega) (by decide)) ?_
  show e_r 29 11 [.ref x, .ref y] [] (t_cp h.1 (y + 2) (x + 2) 3, h.2) _ _
  refine e_go hk_29 1 (c := (12, [.ref x, .ref y], [.ref x], (t_cp h.1 (y + 2) (x + 2) 3, h.2))) rfl ?_
  refine e_getr hk_29 (ev := 5130) (b := x + 3) rfl rfl x0 rfl q1 ?_
  refine e_go hk_29 1 (c := (16, [.ref x, .ref y], [.ref y, .ref (x + 3)], (t_cp h.1 (y + 2) (x + 2) 3, h.2))) rfl ?_
  refine e_getr hk_29 (ev := 5130) (b := y + 3) rfl rfl y0 rfl p1 ?_
  refine e_call hk_29 (as := [.ref (x + 3), .ref (y + 3)]) (rest := []) rfl rfl hk_24 rfl (Nat.le_of_ble_eq_true rfl) (s_rc_of x3) (x_rbec x3 r3 x4 y3 s3 y4 (by omega) (by omega) (by decide)) ?_
  show e_r 29 22 [.ref x, .ref y] [] (t_cp (t_cp h.1 (y + 2) (x + 2) 3) (y + 4) (x + 4) 60, h.2) _ _
  refine e_go hk_29 1 (c := (23, [.ref x, .ref y], [.ref x], (t_cp (t_cp h.1 (y + 2) (x + 2) 3) (y + 4) (x + 4) 60, h.2))) rfl ?_
  refine e_getr hk_29 (ev := 5138) (b := x + 5) rfl rfl x0 rfl q2 ?_
  refine e_go hk_29 1 (c := (27, [.ref x, .ref y], [.ref y, .ref (x + 5)], (t_cp (t_cp h.1 (y + 2) (x + 2) 3) (y + 4) (x + 4) 60, h.2))) rfl ?_
  refine e_getr hk_29 (ev := 5138) (b := y + 5) rfl rfl y0 rfl p2 ?_
  refine e_call hk_29 (as := [.ref (x + 5), .ref (y + 5)]) (rest := []) rfl rfl hk_24 rfl (Nat.le_of_ble_eq_true rfl) (s_rc_of x5) (x_rbec x5 r5 x6 y5 s5 y6 (by omega) (by omega) (by decide)) ?_
  show e_r 29 33 [.ref x, .ref y] [] (t_cp (t_cp (t_cp h.1 (y + 2) (x + 2) 3) (y + 4) (x + 4) 60) (y + 6) (x + 6) 60, h.2) _ _
  refine e_go hk_29 1 (c := (34, [.ref x, .ref y], [.ref x], (t_cp (t_cp (t_cp h.1 (y + 2) (x + 2) 3) (y + 4) (x + 4) 60) (y + 6) (x + 6) 60, h.2))) rfl ?_
  refine e_getr hk_29 (ev := 5146) (b := x + 7) rfl rfl x0 rfl q3 ?_
  refine e_go hk_29 1 (c := (38, [.ref x, .ref y], [.ref y, .ref (x + 7)], (t_cp (t_cp (t_cp h.1 (y + 2) (x + 2) 3) (y + 4) (x + 4) 60) (y + 6) (x + 6) 60, h.2))) rfl ?_
  refine e_getr hk_29 (ev := 5146) (b := y + 7) rfl rfl y0 rfl p3 ?_
  refine e_call hk_29 (as := [.ref (x + 7), .ref (y + 7)]) (rest := []) rfl rfl hk_24 rfl (Nat.le_of_ble_eq_true rfl) (s_rc_of x7) (x_rbec x7 r7 x8 y7 s7 y8 (by omega) (by omega) (by decide)) ?_
  show e_r 29 44 [.ref x, .ref y] [] (t_cp (t_cp (t_cp (t_cp h.1 (y + 2) (x + 2) 3) (y + 4) (x + 4) 60) (y + 6) (x + 6) 60) (y + 8) (x + 8) 60, h.2) _ _
  refine e_go hk_29 1 (c := (45, [.ref x, .ref y], [.ref x], (t_cp (t_cp (t_cp (t_cp h.1 (y + 2) (x + 2) 3) (y + 4) (x + 4) 60) (y + 6) (x + 6) 60) (y + 8) (x + 8) 60, h.2))) rfl ?_
  refine e_getr hk_29 (ev := 5154) (b := x + 9) rfl rfl x0 rfl q4 ?_
  refine e_go hk_29 1 (c := (49, [.ref x, .ref y], [.ref y, .ref (x + 9)], (t_cp (t_cp (t_cp (t_cp h.1 (y + 2) (x + 2) 3) (y + 4) (x + 4) 60) (y + 6) (x + 6) 60) (y + 8) (x + 8) 60, h.2))) rfl ?_
  refine e_getr hk_29 (ev := 5154) (b := y + 9) rfl rfl y0 rfl p4 ?_
  refine e_call hk_29 (as := [.ref (x + 9), .ref (y + 9)]) (rest := []) rfl rfl hk_24 rfl (Nat.le_of_ble_eq_true rfl) (s_rc_of x9) (x_rbec x9 r9 x10 y9 s9 y10 (by omega) (by omega) (by decide)) ?_
  show e_r 29 55 [.ref x, .ref y] [] (t_cp (t_cp (t_cp (t_cp (t_cp h.1 (y + 2) (x + 2) 3) (y + 4) (x + 4) 60) (y + 6) (x + 6) 60) (y + 8) (x + 8) 60) (y + 10) (x + 10) 60, h.2) _ _
  refine e_go hk_29 1 (c := (56, [.ref x, .ref y], [.ref x], (t_cp (t_cp (t_cp (t_cp (t_cp h.1 (y + 2) (x + 2) 3) (y + 4) (x + 4) 60) (y + 6) (x + 6) 60) (y + 8) (x + 8) 60) (y + 10) (x + 10) 60, h.2))) rfl ?_
  refine e_getr hk_29 (ev := 5162) (b := x + 11) rfl rfl x0 rfl q5 ?_
  refine e_go hk_29 1 (c := (60, [.ref x, .ref y], [.ref y, .ref (x + 11)], (t_cp (t_cp (t_cp (t_cp (t_cp h.1 (y + 2) (x + 2) 3) (y + 4) (x + 4) 60) (y + 6) (x + 6) 60) (y + 8) (x + 8) 60) (y + 10) (x + 10) 60, h.2))) rfl ?_
  refine e_getr hk_29 (ev := 5162) (b := y + 11) rfl rfl y0 rfl p5 ?_
  refine e_call hk_29 (as := [.ref (x + 11), .ref (y + 11)]) (rest := []) rfl rfl hk_24 rfl (Nat.le_of_ble_eq_true rfl) (s_rc_of x11) (x_rbec x11 r11 x12 y11 s11 y12 (by omega) (by omega) (by decide)) ?_
  show e_r 29 66 [.ref x, .ref y] [] (t_cp (t_cp (t_cp (t_cp (t_cp (t_cp h.1 (y + 2) (x + 2) 3) (y + 4) (x + 4) 60) (y + 6) (x + 6) 60) (y + 8) (x + 8) 60) (y + 10) (x + 10) 60) (y + 12) (x + 12) 60, h.2) _ _
  show e_r 29 66 [.ref x, .ref y] [] (t_bc6 h.1 x y, h.2) _ _
  generalize hW : t_bc6 h.1 x y = W
  unfold t_bc
  rw [hW]
  refine e_go hk_29 2 (c := (68, [.ref x, .ref y], [.ref y, .ref x], (W, h.2))) rfl ?_
  refine e_geti hk_29 (ev := 5168) rfl rfl y0 (by decide) ?_
  refine e_puti hk_29 (ev := 5168) rfl rfl x0 rfl ?_
  show e_r 29 74 [.ref x, .ref y] [] (t_bc5 W x y 6, h.2) _ _
  refine e_go hk_29 2 (c := (76, [.ref x, .ref y], [.ref y, .ref x], (t_bc5 W x y 6, h.2))) rfl ?_
  refine e_geti hk_29 (ev := 5176) rfl rfl y0 (by decide) ?_
  refine e_puti hk_29 (ev := 5176) rfl rfl x0 rfl ?_
  show e_r 29 82 [.ref x, .ref y] [] (t_bc5 (t_bc5 W x y 6) x y 7, h.2) _ _
  refine e_go hk_29 2 (c := (84, [.ref x, .ref y], [.ref y, .ref x], (t_bc5 (t_bc5 W x y 6) x y 7, h.2))) rfl ?_
  refine e_geti hk_29 (ev := 5184) rfl rfl y0 (by decide) ?_
  refine e_puti hk_29 (ev := 5184) rfl rfl x0 rfl ?_
  show e_r 29 90 [.ref x, .ref y] [] (t_bc5 (t_bc5 (t_bc5 W x y 6) x y 7) x y 8, h.2) _ _
  refine e_go hk_29 2 (c := (92, [.ref x, .ref y], [.ref y, .ref x], (t_bc5 (t_bc5 (t_bc5 W x y 6) x y 7) x y 8, h.2))) rfl ?_
  refine e_geti hk_29 (ev := 5192) rfl rfl y0 (by decide) ?_
  refine e_puti hk_29 (ev := 5192) rfl rfl x0 rfl ?_
  show e_r 29 98 [.ref x, .ref y] [] (t_bc5 (t_bc5 (t_bc5 (t_bc5 W x y 6) x y 7) x y 8) x y 9, h.2) _ _
  refine e_go hk_29 2 (c := (100, [.ref x, .ref y], [.ref y, .ref x], (t_bc5 (t_bc5 (t_bc5 (t_bc5 W x y 6) x y 7) x y 8) x y 9, h.2))) rfl ?_
  refine e_geti hk_29 (ev := 5200) rfl rfl y0 (by decide) ?_
  refine e_puti hk_29 (ev := 5200) rfl rfl x0 rfl ?_
  show e_r 29 106 [.ref x, .ref y] [] (t_bc5 (t_bc5 (t_bc5 (t_bc5 (t_bc5 W x y 6) x y 7) x y 8) x y 9) x y 10, h.2) _ _
  exact e_ret hk_29 rfl rfl rfl rfl rfl
end
section
/-! History; printed by wip/whole/gen/hist.py -/
def t_at (x : Nat) : Prop := x = 5 ∨ x = 20 ∨ x = 33 ∨ x = 46 ∨ x = 59 ∨ x = 72 ∨ x = 85 ∨ x = 104 ∨ x = 118
theorem t_at_is {Z : Nat → Nat → Int32} {P : Nat → Nat} {L x : Nat} (h : t_at x) : t_is (hp Z P L) x := by
  rcases h with rfl | rfl | rfl | rfl | rfl | rfl | rfl | rfl | rfl <;> exact ⟨rfl, ⟨rfl, rfl, rfl, rfl, rfl, rfl⟩, ⟨rfl, rfl, rfl, rfl, rfl, rfl⟩, ⟨rfl, rfl, rfl, rfl, rfl, rfl⟩, ⟨rfl, rfl, rfl, rfl, rfl, rfl⟩⟩
theorem t_at4 {x : Nat} (h : t_at x) : 4 ≤ x := by unfold t_at at h; omega
theorem t_at_sh {L x : Nat} (h : t_at x) : s_nth (s_SH L) x = some (0, 5) := by
  rcases h with rfl | rfl | rfl | rfl | rfl | rfl | rfl | rfl | rfl <;> rfl
/-- the history's array: which tree stands at j -/
def y_pu (P : Nat → Nat) (j b : Nat) : Nat → Nat := fun i => if i = j then b else P i
theorem s_RR19 {P : Nat → Nat} {j : Nat} (hj : j < 6) : s_RR P 19 j = some (P j) := by
  unfold s_RR
  rw [show Nat.beq 19 19 = true from rfl]
  dsimp only
  rw [show Nat.blt j 6 = true from by simpa [Nat.blt_eq] using hj]
theorem s_RRput {P : Nat → Nat} {j b : Nat} (hj : j < 6) : s_updR (s_RR P) 19 j (some b) = s_RR (y_pu P j b) := by
  funext i k
  unfold s_updR va_up
  by_cases h1 : i = 19
  · rw [if_pos h1, h1]
    by_cases h2 : k = j
    · rw [if_pos h2, h2, s_RR19 hj, y_pu, if_pos rfl]
    · rw [if_neg h2]
      by_cases h3 : k < 6
      · rw [s_RR19 h3, s_RR19 h3, y_pu, if_neg h2]
      · unfold s_RR
        rw [show Nat.beq 19 19 = true from rfl]
        dsimp only
        rw [show Nat.blt k 6 = false from by cases hq : Nat.blt k 6 with | false => rfl | true => exact absurd (by simpa [Nat.blt_eq] using hq) h3]
  · rw [if_neg h1]
    unfold s_RR
    rw [show Nat.beq i 19 = false from by cases hq : Nat.beq i 19 with | false => rfl | true => exact absurd (Nat.eq_of_beq_eq_true hq) h1]
theorem e_hld {k pc : Nat} {r : sM} {cn : Option Nat} {ls rest : List Value} {h2 : sHp} {v : Option Value} {Z : Nat → Nat → Int32} {P : Nat → Nat} {L : Nat} (hk : s_T k = some (r, cn)) {e : sE} {j : Nat} (hat : s_at (s_cd r) pc = some e) (hi : e.2.1 = .aaload) (hj : j < 6) (kk : e_r k (pc + e.2.2.1) ls (.ref (P j) :: rest) (hp Z P L) v h2) : e_r k pc ls (.int (nI j) :: .ref 19 :: rest) (hp Z P L) v h2 := by
  refine e_step (c := (pc + e.2.2.1, ls, .ref (P j) :: rest, hp Z P L)) hk hat (by rw [hi]; rfl) (by rw [hi]; rfl) ?_ kk
  rw [hi]
  show (if s_outb (nI j) 6 = true ∨ 19 < 4 then none else (match s_RR P 19 (nI j).toNatClampNeg with | some b => some (pc + e.2.2.1, ls, Value.ref b :: rest, hp Z P L) | none => some (pc + e.2.2.1, ls, Value.null :: rest, hp Z P L))) = _
  rw [if_neg (by rw [not_or]; exact ⟨s_outb_nI hj (by decide), by decide⟩), nI_clamp (by omega), s_RR19 hj]
theorem e_hst {k pc : Nat} {r : sM} {cn : Option Nat} {ls rest : List Value} {h2 : sHp} {v : Option Value} {Z : Nat → Nat → Int32} {P : Nat → Nat} {L : Nat} (hk : s_T k = some (r, cn)) {e : sE} {j b : Nat} (hat : s_at (s_cd r) pc = some e) (hi : e.2.1 = .aastore) (hj : j < 6) (hb : t_at b) (kk : e_r k (pc + e.2.2.1) ls rest (hp Z (y_pu P j b) L) v h2) : e_r k pc ls (.ref b :: .int (nI j) :: .ref 19 :: rest) (hp Z P L) v h2 := by
  refine e_step (c := (pc + e.2.2.1, ls, rest, hp Z (y_pu P j b) L)) hk hat (by rw [hi]; rfl) (by rw [hi]; rfl) ?_ kk
  rw [hi]
  dsimp only [s_x]
  rw [t_at_sh hb]
  show (if s_outb (nI j) 6 = true ∨ 19 < 4 ∨ b < 4 ∨ 5 ≠ 5 then none else some (pc + e.2.2.1, ls, rest, (Z, s_updR (s_RR P) 19 (nI j).toNatClampNeg (some b), s_SH L))) = _
  have := t_at4 hb
  rw [if_neg (by simp only [not_or]; exact ⟨s_outb_nI hj (by decide), by decide, by omega, by decide⟩), nI_clamp (by omega), s_RRput hj]
def t_rot (P : Nat → Nat) : Nat → Nat := fun j => if j < 5 then P (j + 1) else if j = 5 then P 0 else P j
theorem x_state {Z : Nat → Nat → Int32} {P : Nat → Nat} {L : Nat} {j : Nat} (hj : j < 6) : m_r 4 [.ref 18, .int (nI j)] (hp Z P L) (some (.ref (P j))) (hp Z P L) := by
  refine m_of (ls := [.ref 18, .int (nI j)]) hk_4 rfl rfl rfl ?_
  refine e_go hk_4 2 (c := (if s_cnd .lt (nI j) 0 = true then 22 else 4, [.ref 18, .int (nI j)], [], hp Z P L)) rfl ?_
  refine e_lt (a := 22) (b := 4) (x := nI j) (y := 0) (fun hc1 => absurd hc1 (nI_pos (by omega))) (fun hc1 => ?_)
  refine e_go hk_4 5 (c := (if s_cnd .ge (nI j) 6 = true then 22 else 13, [.ref 18, .int (nI j)], [], hp Z P L)) rfl ?_
  refine e_ge (a := 22) (b := 13) (x := nI j) (y := 6) (fun hc10 => absurd hc10 (nI_ge hj (by decide))) (fun hc10 => ?_)
  refine e_go hk_4 3 (c := (18, [.ref 18, .int (nI j)], [.int (nI j), .ref 19], hp Z P L)) rfl ?_
  refine e_hld hk_4 (j := j) rfl rfl hj ?_
  show e_r 4 19 [.ref 18, .int (nI j)] [.ref (P j)] (hp Z P L) _ _
  refine e_go hk_4 1 (c := (23, [.ref 18, .int (nI j)], [.ref (P j)], hp Z P L)) rfl ?_
  exact e_ret hk_4 rfl rfl rfl rfl rfl
theorem x_state_m {Z : Nat → Nat → Int32} {P : Nat → Nat} {L : Nat} : m_r 4 [.ref 18, .int (-1)] (hp Z P L) (some .null) (hp Z P L) := by
  refine m_of (ls := [.ref 18, .int ((-1))]) hk_4 rfl rfl rfl ?_
  refine e_go hk_4 2 (c := (if s_cnd .lt ((-1)) 0 = true then 22 else 4, [.ref 18, .int ((-1))], [], hp Z P L)) rfl ?_
  refine e_lt (a := 22) (b := 4) (x := (-1)) (y := 0) (fun hc1 => ?_) (fun hc1 => absurd (by decide) hc1)
  refine e_go hk_4 1 (c := (23, [.ref 18, .int ((-1))], [.null], hp Z P L)) rfl ?_
  exact e_ret hk_4 rfl rfl rfl rfl rfl
theorem x_turn_1 {Z : Nat → Nat → Int32} {P : Nat → Nat} {L : Nat} {i : Nat} {q : Nat} {h2 : sHp} (hi : i + 1 < 6) (hQ : ∀ j, j < 6 → t_at (P j)) (kk : e_r 3 8 [.ref 18, .ref q, .int (nI (i + 2))] [] (hp Z (y_pu P i (P (i + 1))) L) none h2) : e_r 3 8 [.ref 18, .ref q, .int (nI (i + 1))] [] (hp Z P L) none h2 := by
  refine e_go hk_3 5 (c := (if s_cnd .ge (nI (i + 1)) 6 = true then 37 else 17, [.ref 18, .ref q, .int (nI (i + 1))], [], hp Z P L)) rfl ?_
  refine e_ge (a := 37) (b := 17) (x := nI (i + 1)) (y := 6) (fun hc14 => absurd hc14 (nI_ge (by omega) (by decide))) (fun hc14 => ?_)
  refine e_go hk_3 8 (c := (29, [.ref 18, .ref q, .int (nI (i + 1))], [.int (nI (i + 1)), .ref 19, .int ((nI (i + 1)) - 1), .ref 19], hp Z P L)) rfl ?_
  refine e_hld hk_3 (j := i + 1) rfl rfl (by omega) ?_
  show e_r 3 30 [.ref 18, .ref q, .int (nI (i + 1))] [.ref (P (i + 1)), .int ((nI (i + 1)) - 1), .ref 19] (hp Z P L) _ _
  rw [show ((nI (i + 1)) - 1) = nI i from (nI_pred i)]
  refine e_hst hk_3 (j := i) rfl rfl (by omega) (hQ (i + 1) (by omega)) ?_
  show e_r 3 31 [.ref 18, .ref q, .int (nI (i + 1))] [] (hp Z ((y_pu P i (P (i + 1)))) L) _ _
  refine e_go hk_3 2 (c := (8, [.ref 18, .ref q, .int ((nI (i + 1)) + 1)], [], hp Z ((y_pu P i (P (i + 1)))) L)) rfl ?_
  rw [nI_1]
  exact kk
theorem y_pu_at {P : Nat → Nat} {i b : Nat} (hP : ∀ j, j < 6 → t_at (P j)) (hb : t_at b) : ∀ j, j < 6 → t_at (y_pu P i b j) := by
  intro j hj
  unfold y_pu
  split
  · exact hb
  · exact hP j hj
theorem t_rot_eq {P : Nat → Nat} : y_pu (y_pu (y_pu (y_pu (y_pu (y_pu P 0 (P 1)) 1 (P 2)) 2 (P 3)) 3 (P 4)) 4 (P 5)) 5 (P 0) = t_rot P := by
  funext j
  unfold t_rot y_pu
  rcases Nat.lt_or_ge j 6 with h | h
  · have : j = 0 ∨ j = 1 ∨ j = 2 ∨ j = 3 ∨ j = 4 ∨ j = 5 := by omega
    rcases this with rfl | rfl | rfl | rfl | rfl | rfl <;> rfl
  · rw [if_neg (by omega), if_neg (by omega), if_neg (by omega), if_neg (by omega), if_neg (by omega), if_neg (by omega), if_neg (by omega), if_neg (by omega)]
theorem x_turn_2 {Z : Nat → Nat → Int32} {P : Nat → Nat} {L : Nat} (hP : ∀ j, j < 6 → t_at (P j)) : e_r 3 8 [.ref 18, .ref (P 0), .int (nI 6)] [] (hp Z (y_pu (y_pu (y_pu (y_pu (y_pu P 0 (P 1)) 1 (P 2)) 2 (P 3)) 3 (P 4)) 4 (P 5)) L) none (hp (s_upd Z 18 1 5) (t_rot P) L) := by
    refine e_go hk_3 5 (c := (if s_cnd .ge (nI 6) 6 = true then 37 else 17, [.ref 18, .ref (P 0), .int (nI 6)], [], hp Z ((y_pu (y_pu (y_pu (y_pu (y_pu P 0 (P 1)) 1 (P 2)) 2 (P 3)) 3 (P 4)) 4 (P 5))) L)) rfl ?_
    refine e_ge (a := 37) (b := 17) (x := nI 6) (y := 6) (fun hc14 => ?_) (fun hc14 => absurd (by decide) hc14)
    refine e_go hk_3 10 (c := (if s_cnd .lt (6 - 1) 0 = true then 65 else 55, [.ref 18, .ref (P 0), .int (nI 6)], [], hp (s_upd Z 18 1 (6 - 1)) ((y_pu (y_pu (y_pu (y_pu (y_pu P 0 (P 1)) 1 (P 2)) 2 (P 3)) 3 (P 4)) 4 (P 5))) L)) rfl ?_
    refine e_lt (a := 65) (b := 55) (x := 6 - 1) (y := 0) (fun hc52 => absurd hc52 (by decide)) (fun hc52 => ?_)
    refine e_go hk_3 5 (c := (64, [.ref 18, .ref (P 0), .int (nI 6)], [.ref (P 0), .int (6 - 1), .ref 19], hp (s_upd Z 18 1 (6 - 1)) ((y_pu (y_pu (y_pu (y_pu (y_pu P 0 (P 1)) 1 (P 2)) 2 (P 3)) 3 (P 4)) 4 (P 5))) L)) rfl ?_
    rw [show (6 - 1) = nI 5 from (show s_upd Z 18 1 (nI 6 - 1) 18 1 = nI 5 from rfl)]
    refine e_hst hk_3 (j := 5) rfl rfl (by omega) (hP 0 (by omega)) ?_
    show e_r 3 65 [.ref 18, .ref (P 0), .int (nI 6)] [] (hp (s_upd Z 18 1 (6 - 1)) ((y_pu ((y_pu (y_pu (y_pu (y_pu (y_pu P 0 (P 1)) 1 (P 2)) 2 (P 3)) 3 (P 4)) 4 (P 5))) 5 (P 0))) L) _ _
    exact e_ret hk_3 rfl rfl rfl rfl (by rw [t_rot_eq]; rfl)
theorem x_turn {Z : Nat → Nat → Int32} {P : Nat → Nat} {L : Nat} (hP : ∀ j, j < 6 → t_at (P j)) : m_r 3 [.ref 18] (hp Z P L) none (hp (s_upd Z 18 1 5) (t_rot P) L) := by
  refine m_of (ls := [.ref 18, s_no, s_no]) hk_3 rfl rfl rfl ?_
  refine e_go hk_3 2 (c := (2, [.ref 18, s_no, s_no], [.int 0, .ref 18], hp Z P L)) rfl ?_
  refine e_call hk_3 (as := [.ref 18, .int (nI 0)]) (rest := []) rfl rfl hk_4 rfl (Nat.le_of_ble_eq_true rfl) rfl (x_state (P := P) (j := 0) (by omega)) ?_
  show e_r 3 5 [.ref 18, s_no, s_no] [.ref (P 0)] (hp Z P L) _ _
  refine e_go hk_3 3 (c := (8, [.ref 18, .ref (P 0), .int 1], [], hp Z P L)) rfl ?_
  have h0 := hP
  have h1 : ∀ j, j < 6 → t_at ((y_pu P 0 (P 1)) j) := y_pu_at h0 (hP 1 (by omega))
  have h2 : ∀ j, j < 6 → t_at ((y_pu (y_pu P 0 (P 1)) 1 (P 2)) j) := y_pu_at h1 (hP 2 (by omega))
  have h3 : ∀ j, j < 6 → t_at ((y_pu (y_pu (y_pu P 0 (P 1)) 1 (P 2)) 2 (P 3)) j) := y_pu_at h2 (hP 3 (by omega))
  have h4 : ∀ j, j < 6 → t_at ((y_pu (y_pu (y_pu (y_pu P 0 (P 1)) 1 (P 2)) 2 (P 3)) 3 (P 4)) j) := y_pu_at h3 (hP 4 (by omega))
  have h5 : ∀ j, j < 6 → t_at ((y_pu (y_pu (y_pu (y_pu (y_pu P 0 (P 1)) 1 (P 2)) 2 (P 3)) 3 (P 4)) 4 (P 5)) j) := y_pu_at h4 (hP 5 (by omega))
  refine x_turn_1 (i := 0) (by omega) h0 ?_
  refine x_turn_1 (i := 1) (by omega) h1 ?_
  refine x_turn_1 (i := 2) (by omega) h2 ?_
  refine x_turn_1 (i := 3) (by omega) h3 ?_
  refine x_turn_1 (i := 4) (by omega) h4 ?_
  show e_r 3 8 [.ref 18, .ref (P 0), .int (nI 6)] [] (hp Z (y_pu (y_pu (y_pu (y_pu (y_pu P 0 (P 1)) 1 (P 2)) 2 (P 3)) 3 (P 4)) 4 (P 5)) L) _ _
  exact x_turn_2 hP
def t_k1 (Z : Nat → Nat → Int32) (x : Nat) : Nat → Nat → Int32 := s_upd (t_bc Z x 5) 18 1 (t_bc Z x 5 18 1 + 1)
def t_kZ (Z : Nat → Nat → Int32) (P : Nat → Nat) (m : Nat) : Nat → Nat → Int32 := if m < 6 then t_k1 Z (P m) else t_k1 (s_upd Z 18 1 5) (P 0)
def t_kP (P : Nat → Nat) (m : Nat) : Nat → Nat := if m < 6 then P else t_rot P
theorem x_keep_1 {Z : Nat → Nat → Int32} {P : Nat → Nat} {L : Nat} (hP : ∀ j, j < 6 → t_at (P j)) {m : Nat} (hM : Z 18 1 = nI m) (hm : m < 6) : m_r 1 [.ref 18, .ref 5] (hp Z P L) none (hp (t_kZ Z P m) (t_kP P m) L) := by
  have hA := hP m hm
  refine m_of (ls := [.ref 18, .ref 5, s_no]) hk_1 rfl rfl rfl ?_
  refine e_go hk_1 6 (c := (if s_cnd .lt (Z 18 1) 6 = true then 16 else 12, [.ref 18, .ref 5, s_no], [], hp Z P L)) rfl ?_
  refine e_lt (a := 16) (b := 12) (x := Z 18 1) (y := 6) (fun hc9 => ?_) (fun hc9 => absurd (by rw [hM, show (6 : Int32) = nI 6 from rfl]; exact (y_lt (by omega) (by decide)).mpr hm) hc9)
  refine e_go hk_1 3 (c := (21, [.ref 18, .ref 5, s_no], [.int (Z 18 1), .ref 18], hp Z P L)) rfl ?_
  rw [hM]
  refine e_call hk_1 (as := [.ref 18, .int (nI m)]) (rest := []) rfl rfl hk_4 rfl (Nat.le_of_ble_eq_true rfl) rfl (x_state (P := P) (j := m) (by omega)) ?_
  show e_r 1 24 [.ref 18, .ref 5, s_no] [.ref (P m)] (hp Z P L) _ _
  refine e_go hk_1 5 (c := (31, [.ref 18, .ref 5, .ref (P m)], [.ref 5, .ref (P m)], hp Z P L)) rfl ?_
  refine e_call hk_1 (as := [.ref (P m), .ref 5]) (rest := []) rfl rfl hk_29 rfl (Nat.le_of_ble_eq_true rfl) (s_rc_of (t_at_sh hA)) (x_tbec (x := P m) (y := 5) (h := hp Z P L) (t_at_is hA) (t_at_is (Or.inl rfl)) (t_at4 hA) (t_at4 (Or.inl rfl))) ?_
  show e_r 1 34 [.ref 18, .ref 5, .ref (P m)] [] (hp ((t_bc Z (P m) 5)) P L) _ _
  refine e_go hk_1 6 (c := (44, [.ref 18, .ref 5, .ref (P m)], [], hp (s_upd ((t_bc Z (P m) 5)) 18 1 ((((t_bc Z (P m) 5)) 18 1) + 1)) P L)) rfl ?_
  exact e_ret hk_1 rfl rfl rfl rfl (by rw [t_kZ, t_kP, if_pos hm, if_pos hm]; rfl)
theorem x_keep_2 {Z : Nat → Nat → Int32} {P : Nat → Nat} {L : Nat} (hP : ∀ j, j < 6 → t_at (P j)) (hM : Z 18 1 = nI 6) : m_r 1 [.ref 18, .ref 5] (hp Z P L) none (hp (t_kZ Z P 6) (t_kP P 6) L) := by
  have hA := hP 0 (by omega)
  refine m_of (ls := [.ref 18, .ref 5, s_no]) hk_1 rfl rfl rfl ?_
  refine e_go hk_1 6 (c := (if s_cnd .lt (Z 18 1) 6 = true then 16 else 12, [.ref 18, .ref 5, s_no], [], hp Z P L)) rfl ?_
  refine e_lt (a := 16) (b := 12) (x := Z 18 1) (y := 6) (fun hc9 => absurd hc9 (by rw [hM]; decide)) (fun hc9 => ?_)
  refine e_go hk_1 1 (c := (13, [.ref 18, .ref 5, s_no], [.ref 18], hp Z P L)) rfl ?_
  refine e_call hk_1 (as := [.ref 18]) (rest := []) rfl rfl hk_3 rfl (Nat.le_of_ble_eq_true rfl) rfl (x_turn hP) ?_
  show e_r 1 16 [.ref 18, .ref 5, s_no] [] (hp (s_upd Z 18 1 5) ((t_rot P)) L) _ _
  refine e_go hk_1 3 (c := (21, [.ref 18, .ref 5, s_no], [.int 5, .ref 18], hp (s_upd Z 18 1 5) ((t_rot P)) L)) rfl ?_
  refine e_call hk_1 (as := [.ref 18, .int (nI 5)]) (rest := []) rfl rfl hk_4 rfl (Nat.le_of_ble_eq_true rfl) rfl (x_state (P := t_rot P) (j := 5) (by omega)) ?_
  show e_r 1 24 [.ref 18, .ref 5, s_no] [.ref (P 0)] (hp (s_upd Z 18 1 5) ((t_rot P)) L) _ _
  refine e_go hk_1 5 (c := (31, [.ref 18, .ref 5, .ref (P 0)], [.ref 5, .ref (P 0)], hp (s_upd Z 18 1 5) ((t_rot P)) L)) rfl ?_
  refine e_call hk_1 (as := [.ref (P 0), .ref 5]) (rest := []) rfl rfl hk_29 rfl (Nat.le_of_ble_eq_true rfl) (s_rc_of (t_at_sh hA)) (x_tbec (x := P 0) (y := 5) (h := hp (s_upd Z 18 1 5) ((t_rot P)) L) (t_at_is hA) (t_at_is (Or.inl rfl)) (t_at4 hA) (t_at4 (Or.inl rfl))) ?_
  show e_r 1 34 [.ref 18, .ref 5, .ref (P 0)] [] (hp ((t_bc (s_upd Z 18 1 5) (P 0) 5)) ((t_rot P)) L) _ _
  refine e_go hk_1 6 (c := (44, [.ref 18, .ref 5, .ref (P 0)], [], hp (s_upd ((t_bc (s_upd Z 18 1 5) (P 0) 5)) 18 1 ((((t_bc (s_upd Z 18 1 5) (P 0) 5)) 18 1) + 1)) ((t_rot P)) L)) rfl ?_
  exact e_ret hk_1 rfl rfl rfl rfl rfl
theorem x_keep {Z : Nat → Nat → Int32} {P : Nat → Nat} {L : Nat} (hP : ∀ j, j < 6 → t_at (P j)) {m : Nat} (hM : Z 18 1 = nI m) (hm : m ≤ 6) : m_r 1 [.ref 18, .ref 5] (hp Z P L) none (hp (t_kZ Z P m) (t_kP P m) L) := by
  rcases Nat.lt_or_ge m 6 with h | h
  · exact x_keep_1 hP hM h
  · have h6 : m = 6 := by omega
    subst h6
    exact x_keep_2 hP hM
def t_tk (Z : Nat → Nat → Int32) (P : Nat → Nat) : Nat → Int32 × (Nat → Nat → Int32)
  | 0 => (0, Z)
  | m + 1 => (1, s_upd (t_bc Z 5 (P m)) 18 1 (t_bc Z 5 (P m) 18 1 - 1))
theorem x_take_0 {Z : Nat → Nat → Int32} {P : Nat → Nat} {L : Nat} (hP : ∀ j, j < 6 → t_at (P j)) (hM : Z 18 1 = nI 0) : m_r 2 [.ref 18, .ref 5] (hp Z P L) (some (.int (t_tk Z P 0).1)) (hp (t_tk Z P 0).2 P L) := by
  refine m_of (ls := [.ref 18, .ref 5, s_no]) hk_2 rfl rfl rfl ?_
  refine e_go hk_2 5 (c := (7, [.ref 18, .ref 5, s_no], [.int ((Z 18 1) - 1), .ref 18], hp Z P L)) rfl ?_
  rw [hM, show nI 0 - 1 = -1 from rfl]
  refine e_call hk_2 (as := [.ref 18, .int ((-1))]) (rest := []) rfl rfl hk_4 rfl (Nat.le_of_ble_eq_true rfl) rfl x_state_m ?_
  show e_r 2 10 [.ref 18, .ref 5, s_no] [.null] (hp Z P L) _ _
  refine e_go hk_2 4 (c := (16, [.ref 18, .ref 5, .null], [.int 0], hp Z P L)) rfl ?_
  exact e_ret hk_2 rfl rfl rfl rfl rfl
theorem x_take_s {Z : Nat → Nat → Int32} {P : Nat → Nat} {L : Nat} (hP : ∀ j, j < 6 → t_at (P j)) {m : Nat} (hM : Z 18 1 = nI (m + 1)) (hm : m < 6) : m_r 2 [.ref 18, .ref 5] (hp Z P L) (some (.int (t_tk Z P (m + 1)).1)) (hp (t_tk Z P (m + 1)).2 P L) := by
  have hA := hP m hm
  refine m_of (ls := [.ref 18, .ref 5, s_no]) hk_2 rfl rfl rfl ?_
  refine e_go hk_2 5 (c := (7, [.ref 18, .ref 5, s_no], [.int ((Z 18 1) - 1), .ref 18], hp Z P L)) rfl ?_
  rw [hM, nI_pred]
  refine e_call hk_2 (as := [.ref 18, .int (nI m)]) (rest := []) rfl rfl hk_4 rfl (Nat.le_of_ble_eq_true rfl) rfl (x_state (P := P) (j := m) (by omega)) ?_
  show e_r 2 10 [.ref 18, .ref 5, s_no] [.ref (P m)] (hp Z P L) _ _
  refine e_go hk_2 5 (c := (19, [.ref 18, .ref 5, .ref (P m)], [.ref (P m), .ref 5], hp Z P L)) rfl ?_
  refine e_call hk_2 (as := [.ref 5, .ref (P m)]) (rest := []) rfl rfl hk_29 rfl (Nat.le_of_ble_eq_true rfl) rfl (x_tbec (x := 5) (y := P m) (h := hp Z P L) (t_at_is (Or.inl rfl)) (t_at_is hA) (t_at4 (Or.inl rfl)) (t_at4 hA)) ?_
  show e_r 2 22 [.ref 18, .ref 5, .ref (P m)] [] (hp ((t_bc Z 5 (P m))) P L) _ _
  refine e_go hk_2 7 (c := (33, [.ref 18, .ref 5, .ref (P m)], [.int 1], hp (s_upd ((t_bc Z 5 (P m))) 18 1 ((((t_bc Z 5 (P m))) 18 1) - 1)) P L)) rfl ?_
  exact e_ret hk_2 rfl rfl rfl rfl rfl
theorem x_take {Z : Nat → Nat → Int32} {P : Nat → Nat} {L : Nat} (hP : ∀ j, j < 6 → t_at (P j)) {m : Nat} (hM : Z 18 1 = nI m) (hm : m ≤ 6) : m_r 2 [.ref 18, .ref 5] (hp Z P L) (some (.int (t_tk Z P m).1)) (hp (t_tk Z P m).2 P L) := by
  cases m with
  | zero => exact x_take_0 hP hM
  | succ m => exact x_take_s hP hM (by omega)
end
section
/-! OrderReader, Pad; printed by wip/whole/gen/text.py -/
theorem y_ct {c : Prop} [Decidable c] (h : c) : y_b (decide c) = 1 := by rw [decide_eq_true h]; rfl
theorem y_cf {c : Prop} [Decidable c] (h : ¬ c) : y_b (decide c) = 0 := by rw [decide_eq_false h]; rfl
def t_dg (c : Int32) : Bool := decide (48 ≤ c ∧ c ≤ 57)
/-- the reader's steps: what each way of taking a character answers, and the state then -/
def t_r1 (Z : Nat → Nat → Int32) (c : Int32) : Bool × (Nat → Nat → Int32) := if c = 43 ∨ c = 45 ∨ c = 33 then (true, s_upd (s_upd (s_upd Z 102 0 c) 102 4 0) 102 1 1) else (false, Z)
def t_r2 (Z : Nat → Nat → Int32) (c : Int32) : Bool × (Nat → Nat → Int32) := if t_dg c = true then (true, s_upd (s_upd Z 102 3 (c - 48)) 102 1 2) else (false, Z)
def t_r3 (Z : Nat → Nat → Int32) (c : Int32) : Bool × (Nat → Nat → Int32) := if t_dg c = true ∧ ¬ Z 102 3 = 0 ∧ 10 * Z 102 3 + c - 48 ≤ 999 then (true, s_upd Z 102 3 (10 * Z 102 3 + c - 48)) else (false, Z)
def t_r4 (Z : Nat → Nat → Int32) (c : Int32) : Bool × (Nat → Nat → Int32) := if c = 61 ∧ Z 102 0 = 43 ∧ Z 102 4 = 0 then (true, s_upd (s_upd (s_upd Z 102 2 (Z 102 3)) 102 4 1) 102 1 1) else (false, Z)
def t_r5 (Z : Nat → Nat → Int32) (c : Int32) : Bool × (Nat → Nat → Int32) := if c = 59 then (true, s_upd Z 102 1 0) else (false, Z)
theorem t_r3f {Z : Nat → Nat → Int32} {c : Int32} (h : (t_r3 Z c).1 = false) : (t_r3 Z c).2 = Z := by
  unfold t_r3 at h ⊢; split at h
  · cases h
  · next q => rw [if_neg q]
theorem t_r4f {Z : Nat → Nat → Int32} {c : Int32} (h : (t_r4 Z c).1 = false) : (t_r4 Z c).2 = Z := by
  unfold t_r4 at h ⊢; split at h
  · cases h
  · next q => rw [if_neg q]
def t_rdr (Z : Nat → Nat → Int32) (c : Int32) : Bool × (Nat → Nat → Int32) := if Z 102 1 = 0 then t_r1 Z c else if Z 102 1 = 1 then t_r2 Z c else
  if (t_r3 Z c).1 = true then t_r3 Z c else if (t_r4 Z c).1 = true then t_r4 Z c else t_r5 Z c
theorem x_begin {Z : Nat → Nat → Int32} {P : Nat → Nat} {L : Nat} : m_r 6 [.ref 102] (hp Z P L) none (hp (s_upd Z 102 1 0) P L) := by
  refine m_of (ls := [.ref 102]) hk_6 rfl rfl rfl ?_
  refine e_go hk_6 3 (c := (5, [.ref 102], [], hp (s_upd Z 102 1 0) P L)) rfl ?_
  exact e_ret hk_6 rfl rfl rfl rfl rfl
theorem x_hasw {Z : Nat → Nat → Int32} {P : Nat → Nat} {L : Nat} : m_r 8 [.ref 102] (hp Z P L) (some (.int (y_b (decide (Z 102 1 = 2))))) (hp Z P L) := by
  refine m_of (ls := [.ref 102]) hk_8 rfl rfl rfl ?_
  refine e_go hk_8 4 (c := (if s_cnd .ne (Z 102 1) 2 = true then 12 else 8, [.ref 102], [], hp Z P L)) rfl ?_
  refine e_ne (a := 12) (b := 8) (x := Z 102 1) (y := 2) (fun hc5 => ?_) (fun hc5 => ?_)
  · skip
    refine e_go hk_8 1 (c := (13, [.ref 102], [.int 0], hp Z P L)) rfl ?_
    exact e_ret hk_8 rfl rfl rfl (by rw [y_cf hc5]) rfl
  · skip
    refine e_go hk_8 2 (c := (13, [.ref 102], [.int 1], hp Z P L)) rfl ?_
    exact e_ret hk_8 rfl rfl rfl (by rw [y_ct hc5]) rfl
theorem x_okey {Z : Nat → Nat → Int32} {P : Nat → Nat} {L : Nat} : m_r 9 [.ref 102] (hp Z P L) (some (.int (if Z 102 4 = 0 then Z 102 3 else Z 102 2))) (hp Z P L) := by
  refine m_of (ls := [.ref 102]) hk_9 rfl rfl rfl ?_
  refine e_go hk_9 3 (c := (if s_cnd .eq (Z 102 4) 0 = true then 14 else 7, [.ref 102], [], hp Z P L)) rfl ?_
  refine e_eq (a := 14) (b := 7) (x := Z 102 4) (y := 0) (fun hc4 => ?_) (fun hc4 => ?_)
  · skip
    refine e_go hk_9 2 (c := (18, [.ref 102], [.int (Z 102 3)], hp Z P L)) rfl ?_
    exact e_ret hk_9 rfl rfl rfl (by rw [if_pos hc4]) rfl
  · skip
    refine e_go hk_9 3 (c := (18, [.ref 102], [.int (Z 102 2)], hp Z P L)) rfl ?_
    exact e_ret hk_9 rfl rfl rfl (by rw [if_neg hc4]) rfl
theorem x_oval {Z : Nat → Nat → Int32} {P : Nat → Nat} {L : Nat} : m_r 10 [.ref 102] (hp Z P L) (some (.int (Z 102 3))) (hp Z P L) := by
  refine m_of (ls := [.ref 102]) hk_10 rfl rfl rfl ?_
  refine e_go hk_10 2 (c := (4, [.ref 102], [.int (Z 102 3)], hp Z P L)) rfl ?_
  exact e_ret hk_10 rfl rfl rfl rfl rfl
theorem x_digit {h : sHp} {c : Int32} : m_r 16 [.int c] h (some (.int (y_b (t_dg c)))) h := by
  refine m_of (ls := [.int c]) hk_16 rfl rfl rfl ?_
  refine e_go hk_16 3 (c := (if s_cnd .lt c 48 = true then 16 else 6, [.int c], [], h)) rfl ?_
  refine e_lt (a := 16) (b := 6) (x := c) (y := 48) (fun hc3 => ?_) (fun hc3 => ?_)
  · skip
    refine e_go hk_16 1 (c := (17, [.int c], [.int 0], h)) rfl ?_
    exact e_ret hk_16 rfl rfl rfl (by rw [t_dg, y_cf (fun z : 48 ≤ c ∧ c ≤ 57 => absurd hc3 (Int32.not_lt.mpr z.1))]) rfl
  · skip
    refine e_go hk_16 3 (c := (if s_cnd .gt c 57 = true then 16 else 12, [.int c], [], h)) rfl ?_
    refine e_gt (a := 16) (b := 12) (x := c) (y := 57) (fun hc9 => ?_) (fun hc9 => ?_)
    · skip
      refine e_go hk_16 1 (c := (17, [.int c], [.int 0], h)) rfl ?_
      exact e_ret hk_16 rfl rfl rfl (by rw [t_dg, y_cf (fun z : 48 ≤ c ∧ c ≤ 57 => absurd hc9 (Int32.not_lt.mpr z.2))]) rfl
    · skip
      refine e_go hk_16 2 (c := (17, [.int c], [.int 1], h)) rfl ?_
      exact e_ret hk_16 rfl rfl rfl (by rw [t_dg, y_ct (show 48 ≤ c ∧ c ≤ 57 from ⟨Int32.not_lt.mp hc3, Int32.not_lt.mp hc9⟩)]) rfl
theorem x_r1 {Z : Nat → Nat → Int32} {P : Nat → Nat} {L : Nat} {c : Int32} : m_r 11 [.ref 102, .int c] (hp Z P L) (some (.int (y_b (t_r1 Z c).1))) (hp (t_r1 Z c).2 P L) := by
  refine m_of (ls := [.ref 102, .int c]) hk_11 rfl rfl rfl ?_
  refine e_go hk_11 3 (c := (if s_cnd .eq c 43 = true then 20 else 6, [.ref 102, .int c], [], hp Z P L)) rfl ?_
  refine e_eq (a := 20) (b := 6) (x := c) (y := 43) (fun hc3 => ?_) (fun hc3 => ?_)
  · skip
    refine e_go hk_11 10 (c := (36, [.ref 102, .int c], [.int 1], hp (s_upd (s_upd (s_upd Z 102 0 c) 102 4 0) 102 1 1) P L)) rfl ?_
    exact e_ret hk_11 rfl rfl rfl (by rw [t_r1, if_pos (Or.inl hc3)]; rfl) (by rw [t_r1, if_pos (Or.inl hc3)])
  · skip
    refine e_go hk_11 3 (c := (if s_cnd .eq c 45 = true then 20 else 12, [.ref 102, .int c], [], hp Z P L)) rfl ?_
    refine e_eq (a := 20) (b := 12) (x := c) (y := 45) (fun hc9 => ?_) (fun hc9 => ?_)
    · skip
      refine e_go hk_11 10 (c := (36, [.ref 102, .int c], [.int 1], hp (s_upd (s_upd (s_upd Z 102 0 c) 102 4 0) 102 1 1) P L)) rfl ?_
      exact e_ret hk_11 rfl rfl rfl (by rw [t_r1, if_pos (Or.inr (Or.inl hc9))]; rfl) (by rw [t_r1, if_pos (Or.inr (Or.inl hc9))])
    · skip
      refine e_go hk_11 3 (c := (if s_cnd .eq c 33 = true then 20 else 18, [.ref 102, .int c], [], hp Z P L)) rfl ?_
      refine e_eq (a := 20) (b := 18) (x := c) (y := 33) (fun hc15 => ?_) (fun hc15 => ?_)
      · skip
        refine e_go hk_11 10 (c := (36, [.ref 102, .int c], [.int 1], hp (s_upd (s_upd (s_upd Z 102 0 c) 102 4 0) 102 1 1) P L)) rfl ?_
        exact e_ret hk_11 rfl rfl rfl (by rw [t_r1, if_pos (Or.inr (Or.inr hc15))]; rfl) (by rw [t_r1, if_pos (Or.inr (Or.inr hc15))])
      · skip
        refine e_go hk_11 1 (c := (19, [.ref 102, .int c], [.int 0], hp Z P L)) rfl ?_
        exact e_ret hk_11 rfl rfl rfl (by rw [t_r1, if_neg (by rw [not_or, not_or]; exact ⟨hc3, hc9, hc15⟩)]; rfl) (by rw [t_r1, if_neg (by rw [not_or, not_or]; exact ⟨hc3, hc9, hc15⟩)])
theorem x_r2 {Z : Nat → Nat → Int32} {P : Nat → Nat} {L : Nat} {c : Int32} : m_r 12 [.ref 102, .int c] (hp Z P L) (some (.int (y_b (t_r2 Z c).1))) (hp (t_r2 Z c).2 P L) := by
  refine m_of (ls := [.ref 102, .int c]) hk_12 rfl rfl rfl ?_
  refine e_go hk_12 1 (c := (1, [.ref 102, .int c], [.int c], hp Z P L)) rfl ?_
  refine e_call hk_12 (as := [.int c]) (rest := []) rfl rfl hk_16 rfl (Nat.le_of_ble_eq_true rfl) rfl x_digit ?_
  show e_r 12 4 [.ref 102, .int c] [.int (y_b (t_dg c))] (hp Z P L) _ _
  refine e_go hk_12 1 (c := (if s_cnd .ne (y_b (t_dg c)) 0 = true then 9 else 7, [.ref 102, .int c], [], hp Z P L)) rfl ?_
  refine e_ne (a := 9) (b := 7) (x := y_b (t_dg c)) (y := 0) (fun hc4 => ?_) (fun hc4 => ?_)
  · skip
    rw [y_b1] at hc4
    refine e_go hk_12 9 (c := (23, [.ref 102, .int c], [.int 1], hp (s_upd (s_upd Z 102 3 (c - 48)) 102 1 2) P L)) rfl ?_
    exact e_ret hk_12 rfl rfl rfl (by rw [t_r2, if_pos hc4]; rfl) (by rw [t_r2, if_pos hc4])
  · skip
    rw [y_b0] at hc4
    refine e_go hk_12 1 (c := (8, [.ref 102, .int c], [.int 0], hp Z P L)) rfl ?_
    exact e_ret hk_12 rfl rfl rfl (by rw [t_r2, if_neg (by rw [hc4]; decide)]; rfl) (by rw [t_r2, if_neg (by rw [hc4]; decide)])
theorem x_r3 {Z : Nat → Nat → Int32} {P : Nat → Nat} {L : Nat} {c : Int32} : m_r 13 [.ref 102, .int c] (hp Z P L) (some (.int (y_b (t_r3 Z c).1))) (hp (t_r3 Z c).2 P L) := by
  refine m_of (ls := [.ref 102, .int c, s_no]) hk_13 rfl rfl rfl ?_
  refine e_go hk_13 1 (c := (1, [.ref 102, .int c, s_no], [.int c], hp Z P L)) rfl ?_
  refine e_call hk_13 (as := [.int c]) (rest := []) rfl rfl hk_16 rfl (Nat.le_of_ble_eq_true rfl) rfl x_digit ?_
  show e_r 13 4 [.ref 102, .int c, s_no] [.int (y_b (t_dg c))] (hp Z P L) _ _
  refine e_go hk_13 1 (c := (if s_cnd .eq (y_b (t_dg c)) 0 = true then 14 else 7, [.ref 102, .int c, s_no], [], hp Z P L)) rfl ?_
  refine e_eq (a := 14) (b := 7) (x := y_b (t_dg c)) (y := 0) (fun hc4 => ?_) (fun hc4 => ?_)
  · skip
    rw [y_b0] at hc4
    refine e_go hk_13 1 (c := (15, [.ref 102, .int c, s_no], [.int 0], hp Z P L)) rfl ?_
    exact e_ret hk_13 rfl rfl rfl (by rw [t_r3, if_neg (fun z => by have := z.1; rw [hc4] at this; cases this)]; rfl) (by rw [t_r3, if_neg (fun z => by have := z.1; rw [hc4] at this; cases this)])
  · skip
    rw [y_b1] at hc4
    refine e_go hk_13 3 (c := (if s_cnd .ne (Z 102 3) 0 = true then 16 else 14, [.ref 102, .int c, s_no], [], hp Z P L)) rfl ?_
    refine e_ne (a := 16) (b := 14) (x := Z 102 3) (y := 0) (fun hc11 => ?_) (fun hc11 => ?_)
    · skip
      refine e_go hk_13 12 (c := (if s_cnd .le (((10 * (Z 102 3)) + c) - 48) 999 = true then 38 else 36, [.ref 102, .int c, .int (((10 * (Z 102 3)) + c) - 48)], [], hp Z P L)) rfl ?_
      refine e_le (a := 38) (b := 36) (x := ((10 * (Z 102 3)) + c) - 48) (y := 999) (fun hc33 => ?_) (fun hc33 => ?_)
      · skip
        refine e_go hk_13 4 (c := (44, [.ref 102, .int c, .int (((10 * (Z 102 3)) + c) - 48)], [.int 1], hp (s_upd Z 102 3 (((10 * (Z 102 3)) + c) - 48)) P L)) rfl ?_
        exact e_ret hk_13 rfl rfl rfl (by rw [t_r3, if_pos ⟨hc4, hc11, hc33⟩]; rfl) (by rw [t_r3, if_pos ⟨hc4, hc11, hc33⟩])
      · skip
        refine e_go hk_13 1 (c := (37, [.ref 102, .int c, .int (((10 * (Z 102 3)) + c) - 48)], [.int 0], hp Z P L)) rfl ?_
        exact e_ret hk_13 rfl rfl rfl (by rw [t_r3, if_neg (fun z => hc33 z.2.2)]; rfl) (by rw [t_r3, if_neg (fun z => hc33 z.2.2)])
    · skip
      refine e_go hk_13 1 (c := (15, [.ref 102, .int c, s_no], [.int 0], hp Z P L)) rfl ?_
      exact e_ret hk_13 rfl rfl rfl (by rw [t_r3, if_neg (fun z => z.2.1 hc11)]; rfl) (by rw [t_r3, if_neg (fun z => z.2.1 hc11)])
theorem x_r4 {Z : Nat → Nat → Int32} {P : Nat → Nat} {L : Nat} {c : Int32} : m_r 14 [.ref 102, .int c] (hp Z P L) (some (.int (y_b (t_r4 Z c).1))) (hp (t_r4 Z c).2 P L) := by
  refine m_of (ls := [.ref 102, .int c]) hk_14 rfl rfl rfl ?_
  refine e_go hk_14 3 (c := (if s_cnd .ne c 61 = true then 22 else 6, [.ref 102, .int c], [], hp Z P L)) rfl ?_
  refine e_ne (a := 22) (b := 6) (x := c) (y := 61) (fun hc3 => ?_) (fun hc3 => ?_)
  · skip
    refine e_go hk_14 1 (c := (23, [.ref 102, .int c], [.int 0], hp Z P L)) rfl ?_
    exact e_ret hk_14 rfl rfl rfl (by rw [t_r4, if_neg (fun z => hc3 z.1)]; rfl) (by rw [t_r4, if_neg (fun z => hc3 z.1)])
  · skip
    refine e_go hk_14 4 (c := (if s_cnd .ne (Z 102 0) 43 = true then 22 else 15, [.ref 102, .int c], [], hp Z P L)) rfl ?_
    refine e_ne (a := 22) (b := 15) (x := Z 102 0) (y := 43) (fun hc12 => ?_) (fun hc12 => ?_)
    · skip
      refine e_go hk_14 1 (c := (23, [.ref 102, .int c], [.int 0], hp Z P L)) rfl ?_
      exact e_ret hk_14 rfl rfl rfl (by rw [t_r4, if_neg (fun z => hc12 z.2.1)]; rfl) (by rw [t_r4, if_neg (fun z => hc12 z.2.1)])
    · skip
      refine e_go hk_14 3 (c := (if s_cnd .eq (Z 102 4) 0 = true then 24 else 22, [.ref 102, .int c], [], hp Z P L)) rfl ?_
      refine e_eq (a := 24) (b := 22) (x := Z 102 4) (y := 0) (fun hc19 => ?_) (fun hc19 => ?_)
      · skip
        refine e_go hk_14 11 (c := (43, [.ref 102, .int c], [.int 1], hp (s_upd (s_upd (s_upd Z 102 2 (Z 102 3)) 102 4 1) 102 1 1) P L)) rfl ?_
        exact e_ret hk_14 rfl rfl rfl (by rw [t_r4, if_pos ⟨hc3, hc12, hc19⟩]; rfl) (by rw [t_r4, if_pos ⟨hc3, hc12, hc19⟩])
      · skip
        refine e_go hk_14 1 (c := (23, [.ref 102, .int c], [.int 0], hp Z P L)) rfl ?_
        exact e_ret hk_14 rfl rfl rfl (by rw [t_r4, if_neg (fun z => hc19 z.2.2)]; rfl) (by rw [t_r4, if_neg (fun z => hc19 z.2.2)])
theorem x_r5 {Z : Nat → Nat → Int32} {P : Nat → Nat} {L : Nat} {c : Int32} : m_r 15 [.ref 102, .int c] (hp Z P L) (some (.int (y_b (t_r5 Z c).1))) (hp (t_r5 Z c).2 P L) := by
  refine m_of (ls := [.ref 102, .int c]) hk_15 rfl rfl rfl ?_
  refine e_go hk_15 3 (c := (if s_cnd .eq c 59 = true then 8 else 6, [.ref 102, .int c], [], hp Z P L)) rfl ?_
  refine e_eq (a := 8) (b := 6) (x := c) (y := 59) (fun hc3 => ?_) (fun hc3 => ?_)
  · skip
    refine e_go hk_15 4 (c := (14, [.ref 102, .int c], [.int 1], hp (s_upd Z 102 1 0) P L)) rfl ?_
    exact e_ret hk_15 rfl rfl rfl (by rw [t_r5, if_pos hc3]; rfl) (by rw [t_r5, if_pos hc3])
  · skip
    refine e_go hk_15 1 (c := (7, [.ref 102, .int c], [.int 0], hp Z P L)) rfl ?_
    exact e_ret hk_15 rfl rfl rfl (by rw [t_r5, if_neg hc3]; rfl) (by rw [t_r5, if_neg hc3])
theorem x_rd0 {Z : Nat → Nat → Int32} {P : Nat → Nat} {L : Nat} {c : Int32} (hS : Z 102 1 = 0) : m_r 7 [.ref 102, .int c] (hp Z P L) (some (.int (y_b (t_rdr Z c).1))) (hp (t_rdr Z c).2 P L) := by
  refine m_of (ls := [.ref 102, .int c]) hk_7 rfl rfl rfl ?_
  refine e_go hk_7 2 (c := (4, [.ref 102, .int c], [.int (Z 102 1)], hp Z P L)) rfl ?_
  rw [hS]
  refine e_go hk_7 3 (c := (34, [.ref 102, .int c], [.int c, .ref 102], hp Z P L)) rfl ?_
  refine e_call hk_7 (as := [.ref 102, .int c]) (rest := []) rfl rfl hk_11 rfl (Nat.le_of_ble_eq_true rfl) rfl x_r1 ?_
  show e_r 7 37 [.ref 102, .int c] [.int (y_b (t_r1 Z c).1)] (hp ((t_r1 Z c).2) P L) _ _
  exact e_ret hk_7 rfl rfl (w := some (.int (y_b (t_r1 Z c).1))) (by cases (t_r1 Z c).1 <;> rfl) (by rw [t_rdr, if_pos hS]) (by rw [t_rdr, if_pos hS])
theorem x_rd1 {Z : Nat → Nat → Int32} {P : Nat → Nat} {L : Nat} {c : Int32} (hS : Z 102 1 = 1) : m_r 7 [.ref 102, .int c] (hp Z P L) (some (.int (y_b (t_rdr Z c).1))) (hp (t_rdr Z c).2 P L) := by
  refine m_of (ls := [.ref 102, .int c]) hk_7 rfl rfl rfl ?_
  refine e_go hk_7 2 (c := (4, [.ref 102, .int c], [.int (Z 102 1)], hp Z P L)) rfl ?_
  rw [hS]
  refine e_go hk_7 3 (c := (40, [.ref 102, .int c], [.int c, .ref 102], hp Z P L)) rfl ?_
  refine e_call hk_7 (as := [.ref 102, .int c]) (rest := []) rfl rfl hk_12 rfl (Nat.le_of_ble_eq_true rfl) rfl x_r2 ?_
  show e_r 7 43 [.ref 102, .int c] [.int (y_b (t_r2 Z c).1)] (hp ((t_r2 Z c).2) P L) _ _
  exact e_ret hk_7 rfl rfl (w := some (.int (y_b (t_r2 Z c).1))) (by cases (t_r2 Z c).1 <;> rfl) (by rw [t_rdr, if_neg (by rw [hS]; decide), if_pos hS]) (by rw [t_rdr, if_neg (by rw [hS]; decide), if_pos hS])
theorem x_rd2 {Z : Nat → Nat → Int32} {P : Nat → Nat} {L : Nat} {c : Int32} (hS : Z 102 1 = 2) : m_r 7 [.ref 102, .int c] (hp Z P L) (some (.int (y_b (t_rdr Z c).1))) (hp (t_rdr Z c).2 P L) := by
  refine m_of (ls := [.ref 102, .int c]) hk_7 rfl rfl rfl ?_
  refine e_go hk_7 2 (c := (4, [.ref 102, .int c], [.int (Z 102 1)], hp Z P L)) rfl ?_
  rw [hS]
  refine e_go hk_7 3 (c := (46, [.ref 102, .int c], [.int c, .ref 102], hp Z P L)) rfl ?_
  refine e_call hk_7 (as := [.ref 102, .int c]) (rest := []) rfl rfl hk_13 rfl (Nat.le_of_ble_eq_true rfl) rfl x_r3 ?_
  show e_r 7 49 [.ref 102, .int c] [.int (y_b (t_r3 Z c).1)] (hp ((t_r3 Z c).2) P L) _ _
  refine e_go hk_7 1 (c := (if s_cnd .ne (y_b (t_r3 Z c).1) 0 = true then 68 else 52, [.ref 102, .int c], [], hp ((t_r3 Z c).2) P L)) rfl ?_
  refine e_ne (a := 68) (b := 52) (x := y_b (t_r3 Z c).1) (y := 0) (fun hc49 => ?_) (fun hc49 => ?_)
  · skip
    rw [y_b1] at hc49
    refine e_go hk_7 2 (c := (73, [.ref 102, .int c], [.int 1], hp ((t_r3 Z c).2) P L)) rfl ?_
    exact e_ret hk_7 rfl rfl rfl (by rw [t_rdr, if_neg (by rw [hS]; decide), if_neg (by rw [hS]; decide), if_pos hc49, hc49]; rfl) (by rw [t_rdr, if_neg (by rw [hS]; decide), if_neg (by rw [hS]; decide), if_pos hc49])
  · skip
    rw [y_b0] at hc49
    rw [t_r3f hc49]
    refine e_go hk_7 2 (c := (54, [.ref 102, .int c], [.int c, .ref 102], hp Z P L)) rfl ?_
    refine e_call hk_7 (as := [.ref 102, .int c]) (rest := []) rfl rfl hk_14 rfl (Nat.le_of_ble_eq_true rfl) rfl x_r4 ?_
    show e_r 7 57 [.ref 102, .int c] [.int (y_b (t_r4 Z c).1)] (hp ((t_r4 Z c).2) P L) _ _
    refine e_go hk_7 1 (c := (if s_cnd .ne (y_b (t_r4 Z c).1) 0 = true then 68 else 60, [.ref 102, .int c], [], hp ((t_r4 Z c).2) P L)) rfl ?_
    refine e_ne (a := 68) (b := 60) (x := y_b (t_r4 Z c).1) (y := 0) (fun hc57 => ?_) (fun hc57 => ?_)
    · skip
      rw [y_b1] at hc57
      refine e_go hk_7 2 (c := (73, [.ref 102, .int c], [.int 1], hp ((t_r4 Z c).2) P L)) rfl ?_
      exact e_ret hk_7 rfl rfl rfl (by rw [t_rdr, if_neg (by rw [hS]; decide), if_neg (by rw [hS]; decide), if_neg (by rw [hc49]; decide), if_pos hc57, hc57]; rfl) (by rw [t_rdr, if_neg (by rw [hS]; decide), if_neg (by rw [hS]; decide), if_neg (by rw [hc49]; decide), if_pos hc57])
    · skip
      rw [y_b0] at hc57
      rw [t_r4f hc57]
      refine e_go hk_7 2 (c := (62, [.ref 102, .int c], [.int c, .ref 102], hp Z P L)) rfl ?_
      refine e_call hk_7 (as := [.ref 102, .int c]) (rest := []) rfl rfl hk_15 rfl (Nat.le_of_ble_eq_true rfl) rfl x_r5 ?_
      show e_r 7 65 [.ref 102, .int c] [.int (y_b (t_r5 Z c).1)] (hp ((t_r5 Z c).2) P L) _ _
      refine e_go hk_7 1 (c := (if s_cnd .eq (y_b (t_r5 Z c).1) 0 = true then 72 else 68, [.ref 102, .int c], [], hp ((t_r5 Z c).2) P L)) rfl ?_
      refine e_eq (a := 72) (b := 68) (x := y_b (t_r5 Z c).1) (y := 0) (fun hc65 => ?_) (fun hc65 => ?_)
      · skip
        rw [y_b0] at hc65
        refine e_go hk_7 1 (c := (73, [.ref 102, .int c], [.int 0], hp ((t_r5 Z c).2) P L)) rfl ?_
        exact e_ret hk_7 rfl rfl rfl (by rw [t_rdr, if_neg (by rw [hS]; decide), if_neg (by rw [hS]; decide), if_neg (by rw [hc49]; decide), if_neg (by rw [hc57]; decide), hc65]; rfl) (by rw [t_rdr, if_neg (by rw [hS]; decide), if_neg (by rw [hS]; decide), if_neg (by rw [hc49]; decide), if_neg (by rw [hc57]; decide)])
      · skip
        rw [y_b1] at hc65
        refine e_go hk_7 2 (c := (73, [.ref 102, .int c], [.int 1], hp ((t_r5 Z c).2) P L)) rfl ?_
        exact e_ret hk_7 rfl rfl rfl (by rw [t_rdr, if_neg (by rw [hS]; decide), if_neg (by rw [hS]; decide), if_neg (by rw [hc49]; decide), if_neg (by rw [hc57]; decide), hc65]; rfl) (by rw [t_rdr, if_neg (by rw [hS]; decide), if_neg (by rw [hS]; decide), if_neg (by rw [hc49]; decide), if_neg (by rw [hc57]; decide)])
theorem x_rd {Z : Nat → Nat → Int32} {P : Nat → Nat} {L : Nat} {c : Int32} (hS : Z 102 1 = 0 ∨ Z 102 1 = 1 ∨ Z 102 1 = 2) : m_r 7 [.ref 102, .int c] (hp Z P L) (some (.int (y_b (t_rdr Z c).1))) (hp (t_rdr Z c).2 P L) := by
  rcases hS with h | h | h
  · exact x_rd0 h
  · exact x_rd1 h
  · exact x_rd2 h
def y_us (x : Int64) (y : Int32) : Int64 := (x.toUInt64 >>> (y.toInt64.toUInt64 &&& Int64.toUInt64 63)).toInt64
def t_cc (w : Int64) (i : Nat) : Int32 := (y_us w (8 * nI i)).toInt32 &&& 255
def t_ci (w : Int64) : Nat → Nat → Int32
  | _, 0 => 8
  | i, k + 1 => if t_cc w i = 0 then (if lg_cmp (y_us w (8 * nI i)) 0 = 0 then nI i else 0) else if t_cc w i < 33 ∨ 126 < t_cc w i then 0 else t_ci w (i + 1) k
def t_ap (w : Int64) : Nat → Nat → (Nat → Nat → Int32) → Nat → Nat → Int32
  | 0, _, Z => Z
  | k + 1, m, Z => t_ap w k (m + 1) (s_upd (s_upd Z 101 m (t_cc w k)) 99 1 (nI (m + 1)))
theorem x_cc {h : sHp} {w : Int64} {i : Nat} : m_r 20 [.long w, .int (nI i)] h (some (.int (t_cc w i))) h := by
  refine m_of (ls := [.long w, s_no, .int (nI i)]) hk_20 rfl rfl rfl ?_
  refine e_go hk_20 8 (c := (11, [.long w, s_no, .int (nI i)], [.int (((y_us w (8 * (nI i))).toInt32) &&& 255)], h)) rfl ?_
  exact e_ret hk_20 rfl rfl rfl rfl rfl
theorem x_ci_l {h : sHp} {w : Int64}  : ∀ (k i : Nat) (y3 : Value), i + k = 8 → e_r 18 2 [.long w, s_no, .int (nI i), y3] [] h (some (.int (t_ci w i k))) h
  | 0, i, y3, hi => by
    refine e_go hk_18 3 (c := (if s_cnd .ge (nI i) 8 = true then 55 else 8, [.long w, s_no, .int (nI i), y3], [], h)) rfl ?_
    refine e_ge (a := 55) (b := 8) (x := nI i) (y := 8) (fun hc5 => ?_) (fun hc5 => absurd (by rw [show i = 8 by omega]; decide) hc5)
    refine e_go hk_18 1 (c := (57, [.long w, s_no, .int (nI i), y3], [.int 8], h)) rfl ?_
    exact e_ret hk_18 rfl rfl rfl rfl rfl
  | k + 1, i, y3, hi => by
    refine e_go hk_18 3 (c := (if s_cnd .ge (nI i) 8 = true then 55 else 8, [.long w, s_no, .int (nI i), y3], [], h)) rfl ?_
    refine e_ge (a := 55) (b := 8) (x := nI i) (y := 8) (fun hc5 => absurd hc5 ((show ¬ nI 8 ≤ nI i from nI_ge (by omega) (by decide)))) (fun hc5 => ?_)
    refine e_go hk_18 2 (c := (10, [.long w, s_no, .int (nI i), y3], [.int (nI i), .long w], h)) rfl ?_
    refine e_call hk_18 (as := [.long w, .int (nI i)]) (rest := []) rfl rfl hk_20 rfl (Nat.le_of_ble_eq_true rfl) rfl (x_cc (i := i)) ?_
    show e_r 18 13 [.long w, s_no, .int (nI i), y3] [.int (t_cc w i)] h _ _
    refine e_go hk_18 3 (c := (if s_cnd .ne (t_cc w i) 0 = true then 35 else 18, [.long w, s_no, .int (nI i), .int (t_cc w i)], [], h)) rfl ?_
    refine e_ne (a := 35) (b := 18) (x := t_cc w i) (y := 0) (fun hc15 => ?_) (fun hc15 => ?_)
    · skip
      refine e_go hk_18 3 (c := (if s_cnd .lt (t_cc w i) 33 = true then 47 else 41, [.long w, s_no, .int (nI i), .int (t_cc w i)], [], h)) rfl ?_
      refine e_lt (a := 47) (b := 41) (x := t_cc w i) (y := 33) (fun hc38 => ?_) (fun hc38 => ?_)
      · skip
        refine e_go hk_18 1 (c := (48, [.long w, s_no, .int (nI i), .int (t_cc w i)], [.int 0], h)) rfl ?_
        exact e_ret hk_18 rfl rfl rfl (by rw [t_ci, if_neg hc15, if_pos (Or.inl hc38)]) rfl
      · skip
        refine e_go hk_18 3 (c := (if s_cnd .le (t_cc w i) 126 = true then 49 else 47, [.long w, s_no, .int (nI i), .int (t_cc w i)], [], h)) rfl ?_
        refine e_le (a := 49) (b := 47) (x := t_cc w i) (y := 126) (fun hc44 => ?_) (fun hc44 => ?_)
        · skip
          refine e_go hk_18 2 (c := (2, [.long w, s_no, .int ((nI i) + 1), .int (t_cc w i)], [], h)) rfl ?_
          rw [t_ci, if_neg hc15, if_neg (by rw [not_or]; exact ⟨hc38, fun z => absurd hc44 (Int32.not_le.mpr z)⟩), nI_1]
          exact x_ci_l k (i + 1) _ (by omega)
        · skip
          refine e_go hk_18 1 (c := (48, [.long w, s_no, .int (nI i), .int (t_cc w i)], [.int 0], h)) rfl ?_
          exact e_ret hk_18 rfl rfl rfl (by rw [t_ci, if_neg hc15, if_pos (Or.inr (Int32.not_le.mp hc44))]) rfl
    · skip
      refine e_go hk_18 8 (c := (if s_cnd .ne (lg_cmp (y_us w (8 * (nI i))) 0) 0 = true then 33 else 29, [.long w, s_no, .int (nI i), .int (t_cc w i)], [], h)) rfl ?_
      refine e_ne (a := 33) (b := 29) (x := lg_cmp (y_us w (8 * (nI i))) 0) (y := 0) (fun hc26 => ?_) (fun hc26 => ?_)
      · skip
        refine e_go hk_18 1 (c := (34, [.long w, s_no, .int (nI i), .int (t_cc w i)], [.int 0], h)) rfl ?_
        exact e_ret hk_18 rfl rfl rfl (by rw [t_ci, if_pos hc15, if_neg hc26]) rfl
      · skip
        refine e_go hk_18 2 (c := (34, [.long w, s_no, .int (nI i), .int (t_cc w i)], [.int (nI i)], h)) rfl ?_
        exact e_ret hk_18 rfl rfl rfl (by rw [t_ci, if_pos hc15, if_pos hc26]) rfl
theorem x_ci {h : sHp} {w : Int64} : m_r 18 [.long w] h (some (.int (t_ci w 0 8))) h := by
  refine m_of (ls := [.long w, s_no, s_no, s_no]) hk_18 rfl rfl rfl ?_
  refine e_go hk_18 2 (c := (2, [.long w, s_no, .int 0, s_no], [], h)) rfl ?_
  exact x_ci_l 8 0 _ rfl
theorem x_ap_l {P : Nat → Nat} {L : Nat} {w : Int64} {q : Int32}  : ∀ (k m : Nat) (Z : Nat → Nat → Int32), Z 99 1 = nI m → m + k ≤ 80 → e_r 19 5 [.ref 99, .long w, s_no, .int q, .int (nI k - 1)] [] (hp Z P L) none (hp (t_ap w k m Z) P L)
  | 0, m, Z, hM, hm => by
    refine e_go hk_19 2 (c := (if s_cnd .lt (nI 0 - 1) 0 = true then 43 else 10, [.ref 99, .long w, s_no, .int q, .int (nI 0 - 1)], [], hp Z P L)) rfl ?_
    refine e_lt (a := 43) (b := 10) (x := nI 0 - 1) (y := 0) (fun hc7 => ?_) (fun hc7 => absurd (by decide) hc7)
    exact e_ret hk_19 rfl rfl rfl rfl rfl
  | k + 1, m, Z, hM, hm => by
    rw [nI_pred]
    refine e_go hk_19 2 (c := (if s_cnd .lt (nI k) 0 = true then 43 else 10, [.ref 99, .long w, s_no, .int q, .int (nI k)], [], hp Z P L)) rfl ?_
    refine e_lt (a := 43) (b := 10) (x := nI k) (y := 0) (fun hc7 => absurd hc7 (nI_pos (by omega))) (fun hc7 => ?_)
    refine e_go hk_19 4 (c := (18, [.ref 99, .long w, s_no, .int q, .int (nI k)], [.int (Z 99 1), .ref 100], hp Z P L)) rfl ?_
    rw [hM]
    refine e_go hk_19 2 (c := (21, [.ref 99, .long w, s_no, .int q, .int (nI k)], [.int (nI k), .long w, .int (nI m), .ref 100], hp Z P L)) rfl ?_
    refine e_call hk_19 (as := [.long w, .int (nI k)]) (rest := [.int (nI m), .ref 100]) rfl rfl hk_20 rfl (Nat.le_of_ble_eq_true rfl) rfl (x_cc (i := k)) ?_
    show e_r 19 24 [.ref 99, .long w, s_no, .int q, .int (nI k)] [.int (t_cc w k), .int (nI m), .ref 100] (hp Z P L) _ _
    refine e_call hk_19 (as := [.ref 100, .int (nI m), .int (t_cc w k)]) (rest := []) rfl rfl hk_23 rfl (Nat.le_of_ble_eq_true rfl) rfl (x_write (r := 100) (a := 101) (n := 80) rfl rfl rfl (by decide) (by decide) (j := m) (by omega)) ?_
    show e_r 19 27 [.ref 99, .long w, s_no, .int q, .int (nI k)] [] (hp (s_upd Z 101 m (t_cc w k)) P L) _ _
    refine e_go hk_19 8 (c := (5, [.ref 99, .long w, s_no, .int q, .int ((nI k) + (-1))], [], hp (s_upd (s_upd Z 101 m (t_cc w k)) 99 1 ((Z 99 1) + 1)) P L)) rfl ?_
    rw [t_ap, hM, nI_1 m, show nI k + (-1) = nI k - 1 from (Int32.sub_eq_add_neg _ _).symm]
    exact x_ap_l k (m + 1) _ (by rw [s_upd_c, if_pos ⟨rfl, rfl⟩]) (by omega)
theorem x_append {Z : Nat → Nat → Int32} {P : Nat → Nat} {L : Nat} {w : Int64} {k m : Nat} (hM : Z 99 1 = nI m) (hm : m + k ≤ 80) : m_r 19 [.ref 99, .long w, .int (nI k)] (hp Z P L) none (hp (t_ap w k m Z) P L) := by
  refine m_of (ls := [.ref 99, .long w, s_no, .int (nI k), s_no]) hk_19 rfl rfl rfl ?_
  refine e_go hk_19 4 (c := (5, [.ref 99, .long w, s_no, .int (nI k), .int ((nI k) - 1)], [], hp Z P L)) rfl ?_
  exact x_ap_l k m Z hM hm
end
section
/-! The calls: changes, and what there is; printed by wip/whole/gen/calls1.py -/
theorem t_cp_o {Z : Nat → Nat → Int32} {a b n c : Nat} (h : c ≠ b) : t_cp Z a b n c = Z c := if_neg h
theorem t_bc_o {Z : Nat → Nat → Int32} {x y c : Nat} (h : c < x ∨ x + 12 < c) : t_bc Z x y c = Z c := by
  unfold t_bc t_bc5 t_bc6
  rw [s_upd_o (by omega), s_upd_o (by omega), s_upd_o (by omega), s_upd_o (by omega), s_upd_o (by omega), t_cp_o (by omega), t_cp_o (by omega), t_cp_o (by omega), t_cp_o (by omega), t_cp_o (by omega), t_cp_o (by omega)]
/-- a place of the history's trees -/
def t_hs (x : Nat) : Prop := x = 20 ∨ x = 33 ∨ x = 46 ∨ x = 59 ∨ x = 72 ∨ x = 85
theorem t_hs_at {x : Nat} (h : t_hs x) : t_at x := by unfold t_hs at h; unfold t_at; omega
theorem t_k1_o {Z : Nat → Nat → Int32} {x c : Nat} (hx : t_hs x) (h : c < 18 ∨ 98 ≤ c) : t_k1 Z x c = Z c := by
  unfold t_hs at hx
  unfold t_k1
  rw [s_upd_o (by omega), t_bc_o (by omega)]
theorem t_kZ_o {Z : Nat → Nat → Int32} {P : Nat → Nat} {m c : Nat} (hP : ∀ j, j < 6 → t_hs (P j)) (h : c < 18 ∨ 98 ≤ c) : t_kZ Z P m c = Z c := by
  unfold t_kZ
  split
  next hm => exact t_k1_o (hP m hm) h
  next hm => rw [t_k1_o (hP 0 (by omega)) h, s_upd_o (by omega)]
def y_nm (k : Int32) : Bool := decide (0 ≤ k ∧ k ≤ 999)
theorem y_d1 {c : Prop} [Decidable c] : ¬ y_b (decide c) = 0 ↔ c := by rw [y_b1, decide_eq_true_eq]
theorem y_d0 {c : Prop} [Decidable c] : y_b (decide c) = 0 ↔ ¬ c := by rw [y_b0, decide_eq_false_iff_not]
theorem x_num {h : sHp} {k : Int32} : m_r 79 [.int k] h (some (.int (y_b (y_nm k)))) h := by
  refine m_of (ls := [.int k]) hk_79 rfl rfl rfl ?_
  refine e_go hk_79 2 (c := (if s_cnd .lt k 0 = true then 15 else 4, [.int k], [], h)) rfl ?_
  refine e_lt (a := 15) (b := 4) (x := k) (y := 0) (fun hc1 => ?_) (fun hc1 => ?_)
  · skip
    refine e_go hk_79 1 (c := (16, [.int k], [.int 0], h)) rfl ?_
    exact e_ret hk_79 rfl rfl rfl (by rw [y_nm, y_cf (fun z : 0 ≤ k ∧ k ≤ 999 => absurd hc1 (Int32.not_lt.mpr z.1))]) rfl
  · skip
    refine e_go hk_79 3 (c := (if s_cnd .gt k 999 = true then 15 else 11, [.int k], [], h)) rfl ?_
    refine e_gt (a := 15) (b := 11) (x := k) (y := 999) (fun hc8 => ?_) (fun hc8 => ?_)
    · skip
      refine e_go hk_79 1 (c := (16, [.int k], [.int 0], h)) rfl ?_
      exact e_ret hk_79 rfl rfl rfl (by rw [y_nm, y_cf (fun z : 0 ≤ k ∧ k ≤ 999 => absurd hc8 (Int32.not_lt.mpr z.2))]) rfl
    · skip
      refine e_go hk_79 2 (c := (16, [.int k], [.int 1], h)) rfl ?_
      exact e_ret hk_79 rfl rfl rfl (by rw [y_nm, y_ct (show 0 ≤ k ∧ k ≤ 999 from ⟨Int32.not_lt.mp hc1, Int32.not_lt.mp hc8⟩)]) rfl
def t_st (s : Int32) : Option Nat := if 0 ≤ s ∧ s < 3 then some s.toNatClampNeg else none
def c_set (Z : Nat → Nat → Int32) (P : Nat → Nat) (m : Nat) (s v : Int32) : Int32 × (Nat → Nat → Int32) × (Nat → Nat) := match t_st s with
  | none => (-2, Z, P)
  | some j => if Z 1 j ≤ v ∧ v ≤ Z 2 j then (Z 7 j, s_upd (t_kZ Z P m) 7 j v, t_kP P m) else (-2, Z, P)
theorem x_isset {Z : Nat → Nat → Int32} {P : Nat → Nat} {L : Nat} {j : Nat} {v : Int32} (hj : j < 3) : m_r 80 [.int (nI j), .int v] (hp Z P L) (some (.int (y_b (decide (Z 1 j ≤ v ∧ v ≤ Z 2 j))))) (hp Z P L) := by
  refine m_of (ls := [.int (nI j), .int v]) hk_80 rfl rfl rfl ?_
  refine e_go hk_80 2 (c := (if s_cnd .lt (nI j) 0 = true then 20 else 4, [.int (nI j), .int v], [], hp Z P L)) rfl ?_
  refine e_lt (a := 20) (b := 4) (x := nI j) (y := 0) (fun hc1 => absurd hc1 (nI_pos (by omega))) (fun hc1 => ?_)
  refine e_go hk_80 4 (c := (if s_cnd .ge (nI j) 3 = true then 20 else 12, [.int (nI j), .int v], [], hp Z P L)) rfl ?_
  refine e_ge (a := 20) (b := 12) (x := nI j) (y := 3) (fun hc9 => absurd hc9 ((show ¬ nI 3 ≤ nI j from nI_ge (by omega) (by decide)))) (fun hc9 => ?_)
  refine e_go hk_80 4 (c := (if s_cnd .lt (nI j) 3 = true then 22 else 20, [.int (nI j), .int v], [], hp Z P L)) rfl ?_
  refine e_lt (a := 22) (b := 20) (x := nI j) (y := 3) (fun hc17 => ?_) (fun hc17 => absurd ((show nI j < nI 3 from (y_lt (by omega) (by decide)).mpr hj)) hc17)
  refine e_go hk_80 3 (c := (27, [.int (nI j), .int v], [.int (nI j), .ref 1, .int v], hp Z P L)) rfl ?_
  refine e_ald hk_80 (a := 1) (j := j) (n := 3) rfl rfl rfl hj (by decide) ?_
  show e_r 80 28 [.int (nI j), .int v] [.int (Z 1 j), .int v] (hp Z P L) _ _
  refine e_go hk_80 1 (c := (if s_cnd .lt v (Z 1 j) = true then 44 else 31, [.int (nI j), .int v], [], hp Z P L)) rfl ?_
  refine e_lt (a := 44) (b := 31) (x := v) (y := Z 1 j) (fun hc28 => ?_) (fun hc28 => ?_)
  · skip
    refine e_go hk_80 1 (c := (45, [.int (nI j), .int v], [.int 0], hp Z P L)) rfl ?_
    exact e_ret hk_80 rfl rfl rfl (by rw [y_cf (fun z : Z 1 j ≤ v ∧ v ≤ Z 2 j => absurd hc28 (Int32.not_lt.mpr z.1))]) rfl
  · skip
    refine e_go hk_80 3 (c := (36, [.int (nI j), .int v], [.int (nI j), .ref 2, .int v], hp Z P L)) rfl ?_
    refine e_ald hk_80 (a := 2) (j := j) (n := 3) rfl rfl rfl hj (by decide) ?_
    show e_r 80 37 [.int (nI j), .int v] [.int (Z 2 j), .int v] (hp Z P L) _ _
    refine e_go hk_80 1 (c := (if s_cnd .gt v (Z 2 j) = true then 44 else 40, [.int (nI j), .int v], [], hp Z P L)) rfl ?_
    refine e_gt (a := 44) (b := 40) (x := v) (y := Z 2 j) (fun hc37 => ?_) (fun hc37 => ?_)
    · skip
      refine e_go hk_80 1 (c := (45, [.int (nI j), .int v], [.int 0], hp Z P L)) rfl ?_
      exact e_ret hk_80 rfl rfl rfl (by rw [y_cf (fun z : Z 1 j ≤ v ∧ v ≤ Z 2 j => absurd hc37 (Int32.not_lt.mpr z.2))]) rfl
    · skip
      refine e_go hk_80 2 (c := (45, [.int (nI j), .int v], [.int 1], hp Z P L)) rfl ?_
      exact e_ret hk_80 rfl rfl rfl (by rw [y_ct (show Z 1 j ≤ v ∧ v ≤ Z 2 j from ⟨Int32.not_lt.mp hc28, Int32.not_lt.mp hc37⟩)]) rfl
theorem x_isset_no {Z : Nat → Nat → Int32} {P : Nat → Nat} {L : Nat} {s v : Int32} (hq : t_st s = none) : m_r 80 [.int s, .int v] (hp Z P L) (some (.int 0)) (hp Z P L) := by
  refine m_of (ls := [.int s, .int v]) hk_80 rfl rfl rfl ?_
  refine e_go hk_80 2 (c := (if s_cnd .lt s 0 = true then 20 else 4, [.int s, .int v], [], hp Z P L)) rfl ?_
  refine e_lt (a := 20) (b := 4) (x := s) (y := 0) (fun hc1 => ?_) (fun hc1 => ?_)
  · skip
    refine e_go hk_80 1 (c := (21, [.int s, .int v], [.int 0], hp Z P L)) rfl ?_
    exact e_ret hk_80 rfl rfl rfl rfl rfl
  · skip
    have h3 : 3 ≤ s := by rw [t_st] at hq; split at hq; cases hq; next z => rw [not_and] at z; exact Int32.not_lt.mp (z (Int32.not_lt.mp hc1))
    refine e_go hk_80 4 (c := (if s_cnd .ge s 3 = true then 20 else 12, [.int s, .int v], [], hp Z P L)) rfl ?_
    refine e_ge (a := 20) (b := 12) (x := s) (y := 3) (fun hc9 => ?_) (fun hc9 => absurd (h3) hc9)
    refine e_go hk_80 1 (c := (21, [.int s, .int v], [.int 0], hp Z P L)) rfl ?_
    exact e_ret hk_80 rfl rfl rfl rfl rfl
theorem x_set_no {Z : Nat → Nat → Int32} {P : Nat → Nat} {L n m : Nat} (hN : Z 5 6 = nI n) (hn : n ≤ 60) (hF : ∀ i, i < n → Z 17 i = 0 ∨ Z 17 i = 1) (hP : ∀ j, j < 6 → t_hs (P j)) (hM : Z 18 1 = nI m) (hm : m ≤ 6) {s v : Int32} (hq : t_st s = none) : m_r 57 [.ref 4, .int s, .int v] (hp Z P L) (some (.int (c_set Z P m s v).1)) (hp (c_set Z P m s v).2.1 (c_set Z P m s v).2.2 L) := by
  refine m_of (ls := [.ref 4, .int s, .int v, s_no]) hk_57 rfl rfl rfl ?_
  refine e_go hk_57 2 (c := (2, [.ref 4, .int s, .int v, s_no], [.int v, .int s], hp Z P L)) rfl ?_
  refine e_call hk_57 (as := [.int s, .int v]) (rest := []) rfl rfl hk_80 rfl (Nat.le_of_ble_eq_true rfl) rfl (x_isset_no hq) ?_
  show e_r 57 5 [.ref 4, .int s, .int v, s_no] [.int 0] (hp Z P L) _ _
  refine e_go hk_57 1 (c := (if s_cnd .ne 0 0 = true then 11 else 8, [.ref 4, .int s, .int v, s_no], [], hp Z P L)) rfl ?_
  refine e_ne (a := 11) (b := 8) (x := 0) (y := 0) (fun hc5 => absurd (rfl) hc5) (fun hc5 => ?_)
  refine e_go hk_57 1 (c := (10, [.ref 4, .int s, .int v, s_no], [.int ((-2))], hp Z P L)) rfl ?_
  exact e_ret hk_57 rfl rfl rfl (by rw [c_set, hq]) (by rw [c_set, hq])
theorem x_set_in {Z : Nat → Nat → Int32} {P : Nat → Nat} {L n m : Nat} (hN : Z 5 6 = nI n) (hn : n ≤ 60) (hF : ∀ i, i < n → Z 17 i = 0 ∨ Z 17 i = 1) (hP : ∀ j, j < 6 → t_hs (P j)) (hM : Z 18 1 = nI m) (hm : m ≤ 6) {v : Int32} {j : Nat} (hj : j < 3) (hq : t_st (nI j) = some j) : m_r 57 [.ref 4, .int (nI j), .int v] (hp Z P L) (some (.int (c_set Z P m (nI j) v).1)) (hp (c_set Z P m (nI j) v).2.1 (c_set Z P m (nI j) v).2.2 L) := by
  have hcs : c_set Z P m (nI j) v = if Z 1 j ≤ v ∧ v ≤ Z 2 j then (Z 7 j, s_upd (t_kZ Z P m) 7 j v, t_kP P m) else (-2, Z, P) := by rw [c_set, hq]
  refine m_of (ls := [.ref 4, .int (nI j), .int v, s_no]) hk_57 rfl rfl rfl ?_
  refine e_go hk_57 2 (c := (2, [.ref 4, .int (nI j), .int v, s_no], [.int v, .int (nI j)], hp Z P L)) rfl ?_
  refine e_call hk_57 (as := [.int (nI j), .int v]) (rest := []) rfl rfl hk_80 rfl (Nat.le_of_ble_eq_true rfl) rfl (x_isset hj) ?_
  show e_r 57 5 [.ref 4, .int (nI j), .int v, s_no] [.int (y_b (decide (Z 1 j ≤ v ∧ v ≤ Z 2 j)))] (hp Z P L) _ _
  refine e_go hk_57 1 (c := (if s_cnd .ne (y_b (decide (Z 1 j ≤ v ∧ v ≤ Z 2 j))) 0 = true then 11 else 8, [.ref 4, .int (nI j), .int v, s_no], [], hp Z P L)) rfl ?_
  refine e_ne (a := 11) (b := 8) (x := y_b (decide (Z 1 j ≤ v ∧ v ≤ Z 2 j))) (y := 0) (fun hc5 => ?_) (fun hc5 => ?_)
  · skip
    rw [y_d1] at hc5
    refine e_go hk_57 4 (c := (19, [.ref 4, .int (nI j), .int v, s_no], [.ref 5, .ref 18], hp Z P L)) rfl ?_
    refine e_call hk_57 (as := [.ref 18, .ref 5]) (rest := []) rfl rfl hk_1 rfl (Nat.le_of_ble_eq_true rfl) rfl (x_keep (fun j hj => t_hs_at (hP j hj)) hM hm) ?_
    show e_r 57 22 [.ref 4, .int (nI j), .int v, s_no] [] (hp ((t_kZ Z P m)) ((t_kP P m)) L) _ _
    refine e_go hk_57 4 (c := (30, [.ref 4, .int (nI j), .int v, s_no], [.int (nI j), .ref 6], hp ((t_kZ Z P m)) ((t_kP P m)) L)) rfl ?_
    refine e_call hk_57 (as := [.ref 6, .int (nI j)]) (rest := []) rfl rfl hk_22 rfl (Nat.le_of_ble_eq_true rfl) rfl (x_at (r := 6) (a := 7) (n := 3) rfl rfl rfl (by decide) (j := j) (by omega)) ?_
    show e_r 57 33 [.ref 4, .int (nI j), .int v, s_no] [.int (((t_kZ Z P m)) 7 j)] (hp ((t_kZ Z P m)) ((t_kP P m)) L) _ _
    refine e_go hk_57 6 (c := (43, [.ref 4, .int (nI j), .int v, .int (((t_kZ Z P m)) 7 j)], [.int v, .int (nI j), .ref 6], hp ((t_kZ Z P m)) ((t_kP P m)) L)) rfl ?_
    refine e_call hk_57 (as := [.ref 6, .int (nI j), .int v]) (rest := []) rfl rfl hk_23 rfl (Nat.le_of_ble_eq_true rfl) rfl (x_write (r := 6) (a := 7) (n := 3) rfl rfl rfl (by decide) (by decide) (j := j) (by omega)) ?_
    show e_r 57 46 [.ref 4, .int (nI j), .int v, .int (((t_kZ Z P m)) 7 j)] [] (hp (s_upd ((t_kZ Z P m)) 7 j v) ((t_kP P m)) L) _ _
    refine e_go hk_57 1 (c := (47, [.ref 4, .int (nI j), .int v, .int (((t_kZ Z P m)) 7 j)], [.int (((t_kZ Z P m)) 7 j)], hp (s_upd ((t_kZ Z P m)) 7 j v) ((t_kP P m)) L)) rfl ?_
    exact e_ret hk_57 rfl rfl rfl (by rw [hcs, if_pos hc5]; dsimp only; rw [t_kZ_o hP (by decide)]) (by rw [hcs, if_pos hc5])
  · skip
    rw [y_d0] at hc5
    refine e_go hk_57 1 (c := (10, [.ref 4, .int (nI j), .int v, s_no], [.int ((-2))], hp Z P L)) rfl ?_
    exact e_ret hk_57 rfl rfl rfl (by rw [hcs, if_neg hc5]) (by rw [hcs, if_neg hc5])
theorem t_st_in {s : Int32} {j : Nat} (h : t_st s = some j) : j < 3 ∧ s = nI j := by
  unfold t_st at h
  split at h
  next z =>
    obtain ⟨i, hi, rfl⟩ := nI_of (Int32.not_lt.mpr z.1)
    rw [nI_clamp hi] at h
    cases h
    exact ⟨(nI_ltI hi (by decide)).mp (show nI _ < nI 3 from z.2), rfl⟩
  · cases h
theorem x_set {Z : Nat → Nat → Int32} {P : Nat → Nat} {L n m : Nat} (hN : Z 5 6 = nI n) (hn : n ≤ 60) (hF : ∀ i, i < n → Z 17 i = 0 ∨ Z 17 i = 1) (hP : ∀ j, j < 6 → t_hs (P j)) (hM : Z 18 1 = nI m) (hm : m ≤ 6) {s v : Int32} : m_r 57 [.ref 4, .int s, .int v] (hp Z P L) (some (.int (c_set Z P m s v).1)) (hp (c_set Z P m s v).2.1 (c_set Z P m s v).2.2 L) := by
  cases hq : t_st s with
  | none => exact x_set_no hN hn hF hP hM hm hq
  | some j =>
    obtain ⟨hj, rfl⟩ := t_st_in hq
    exact x_set_in hN hn hF hP hM hm hj hq
def c_put (Z : Nat → Nat → Int32) (P : Nat → Nat) (n m : Nat) (key value : Int32) : Int32 × (Nat → Nat → Int32) × (Nat → Nat) := if y_nm key = true ∧ y_nm value = true then (if t_rm Z n key = true then ((t_en (t_kZ Z P m) n key value).1, (t_en (t_kZ Z P m) n key value).2, t_kP P m) else (-4, Z, P)) else (-2, Z, P)
theorem x_putin {Z : Nat → Nat → Int32} {P : Nat → Nat} {L n m : Nat} (hN : Z 5 6 = nI n) (hn : n ≤ 60) (hF : ∀ i, i < n → Z 17 i = 0 ∨ Z 17 i = 1) (hP : ∀ j, j < 6 → t_hs (P j)) (hM : Z 18 1 = nI m) (hm : m ≤ 6) {key value : Int32} : m_r 58 [.ref 4, .int key, .int value] (hp Z P L) (some (.int (c_put Z P n m key value).1)) (hp (c_put Z P n m key value).2.1 (c_put Z P n m key value).2.2 L) := by
  have hN2 : t_kZ Z P m 5 6 = nI n := by rw [t_kZ_o hP (by decide)]; exact hN
  have hF2 : ∀ i, i < n → t_kZ Z P m 17 i = 0 ∨ t_kZ Z P m 17 i = 1 := fun i hi => by rw [t_kZ_o hP (by decide)]; exact hF i hi
  refine m_of (ls := [.ref 4, .int key, .int value]) hk_58 rfl rfl rfl ?_
  refine e_go hk_58 1 (c := (1, [.ref 4, .int key, .int value], [.int key], hp Z P L)) rfl ?_
  refine e_call hk_58 (as := [.int key]) (rest := []) rfl rfl hk_79 rfl (Nat.le_of_ble_eq_true rfl) rfl (x_num (k := key)) ?_
  show e_r 58 4 [.ref 4, .int key, .int value] [.int (y_b (y_nm key))] (hp Z P L) _ _
  refine e_go hk_58 1 (c := (if s_cnd .eq (y_b (y_nm key)) 0 = true then 14 else 7, [.ref 4, .int key, .int value], [], hp Z P L)) rfl ?_
  refine e_eq (a := 14) (b := 7) (x := y_b (y_nm key)) (y := 0) (fun hc4 => ?_) (fun hc4 => ?_)
  · skip
    rw [y_b0] at hc4
    refine e_go hk_58 1 (c := (16, [.ref 4, .int key, .int value], [.int ((-2))], hp Z P L)) rfl ?_
    exact e_ret hk_58 rfl rfl rfl (by rw [c_put, if_neg (fun z => by rw [z.1] at hc4; cases hc4)]) (by rw [c_put, if_neg (fun z => by rw [z.1] at hc4; cases hc4)])
  · skip
    rw [y_b1] at hc4
    refine e_go hk_58 1 (c := (8, [.ref 4, .int key, .int value], [.int value], hp Z P L)) rfl ?_
    refine e_call hk_58 (as := [.int value]) (rest := []) rfl rfl hk_79 rfl (Nat.le_of_ble_eq_true rfl) rfl (x_num (k := value)) ?_
    show e_r 58 11 [.ref 4, .int key, .int value] [.int (y_b (y_nm value))] (hp Z P L) _ _
    refine e_go hk_58 1 (c := (if s_cnd .ne (y_b (y_nm value)) 0 = true then 17 else 14, [.ref 4, .int key, .int value], [], hp Z P L)) rfl ?_
    refine e_ne (a := 17) (b := 14) (x := y_b (y_nm value)) (y := 0) (fun hc11 => ?_) (fun hc11 => ?_)
    · skip
      rw [y_b1] at hc11
      refine e_go hk_58 3 (c := (22, [.ref 4, .int key, .int value], [.int key, .ref 5], hp Z P L)) rfl ?_
      refine e_call hk_58 (as := [.ref 5, .int key]) (rest := []) rfl rfl hk_45 rfl (Nat.le_of_ble_eq_true rfl) rfl (x_room hN hn) ?_
      show e_r 58 25 [.ref 4, .int key, .int value] [.int (y_b (t_rm Z n key))] (hp Z P L) _ _
      refine e_go hk_58 1 (c := (if s_cnd .ne (y_b (t_rm Z n key)) 0 = true then 31 else 28, [.ref 4, .int key, .int value], [], hp Z P L)) rfl ?_
      refine e_ne (a := 31) (b := 28) (x := y_b (t_rm Z n key)) (y := 0) (fun hc25 => ?_) (fun hc25 => ?_)
      · skip
        rw [y_b1] at hc25
        refine e_go hk_58 4 (c := (39, [.ref 4, .int key, .int value], [.ref 5, .ref 18], hp Z P L)) rfl ?_
        refine e_call hk_58 (as := [.ref 18, .ref 5]) (rest := []) rfl rfl hk_1 rfl (Nat.le_of_ble_eq_true rfl) rfl (x_keep (fun j hj => t_hs_at (hP j hj)) hM hm) ?_
        show e_r 58 42 [.ref 4, .int key, .int value] [] (hp ((t_kZ Z P m)) ((t_kP P m)) L) _ _
        refine e_go hk_58 4 (c := (48, [.ref 4, .int key, .int value], [.int value, .int key, .ref 5], hp ((t_kZ Z P m)) ((t_kP P m)) L)) rfl ?_
        refine e_call hk_58 (as := [.ref 5, .int key, .int value]) (rest := []) rfl rfl hk_46 rfl (Nat.le_of_ble_eq_true rfl) rfl (x_enter (Z := t_kZ Z P m) (P := t_kP P m) (key := key) (value := value) hN2 hn hF2) ?_
        show e_r 58 51 [.ref 4, .int key, .int value] [.int ((t_en (t_kZ Z P m) n key value).1)] (hp ((t_en (t_kZ Z P m) n key value).2) ((t_kP P m)) L) _ _
        exact e_ret hk_58 rfl rfl rfl (by rw [c_put, if_pos ⟨hc4, hc11⟩, if_pos hc25]) (by rw [c_put, if_pos ⟨hc4, hc11⟩, if_pos hc25])
      · skip
        rw [y_b0] at hc25
        refine e_go hk_58 1 (c := (30, [.ref 4, .int key, .int value], [.int ((-4))], hp Z P L)) rfl ?_
        exact e_ret hk_58 rfl rfl rfl (by rw [c_put, if_pos ⟨hc4, hc11⟩, if_neg (by rw [hc25]; decide)]) (by rw [c_put, if_pos ⟨hc4, hc11⟩, if_neg (by rw [hc25]; decide)])
    · skip
      rw [y_b0] at hc11
      refine e_go hk_58 1 (c := (16, [.ref 4, .int key, .int value], [.int ((-2))], hp Z P L)) rfl ?_
      exact e_ret hk_58 rfl rfl rfl (by rw [c_put, if_neg (fun z => by rw [z.2] at hc11; cases hc11)]) (by rw [c_put, if_neg (fun z => by rw [z.2] at hc11; cases hc11)])
def c_rem (Z : Nat → Nat → Int32) (P : Nat → Nat) (n m : Nat) (key : Int32) : Int32 × (Nat → Nat → Int32) × (Nat → Nat) := if y_nm key = true then (if t_fn (Z 9) (Z 17) n key = none then (-1, Z, P) else ((t_hl (t_kZ Z P m) n key).1, (t_hl (t_kZ Z P m) n key).2, t_kP P m)) else (-2, Z, P)
theorem x_rem {Z : Nat → Nat → Int32} {P : Nat → Nat} {L n m : Nat} (hN : Z 5 6 = nI n) (hn : n ≤ 60) (hF : ∀ i, i < n → Z 17 i = 0 ∨ Z 17 i = 1) (hP : ∀ j, j < 6 → t_hs (P j)) (hM : Z 18 1 = nI m) (hm : m ≤ 6) {key : Int32} : m_r 59 [.ref 4, .int key] (hp Z P L) (some (.int (c_rem Z P n m key).1)) (hp (c_rem Z P n m key).2.1 (c_rem Z P n m key).2.2 L) := by
  have hN2 : t_kZ Z P m 5 6 = nI n := by rw [t_kZ_o hP (by decide)]; exact hN
  have hF2 : ∀ i, i < n → t_kZ Z P m 17 i = 0 ∨ t_kZ Z P m 17 i = 1 := fun i hi => by rw [t_kZ_o hP (by decide)]; exact hF i hi
  refine m_of (ls := [.ref 4, .int key]) hk_59 rfl rfl rfl ?_
  refine e_go hk_59 1 (c := (1, [.ref 4, .int key], [.int key], hp Z P L)) rfl ?_
  refine e_call hk_59 (as := [.int key]) (rest := []) rfl rfl hk_79 rfl (Nat.le_of_ble_eq_true rfl) rfl (x_num (k := key)) ?_
  show e_r 59 4 [.ref 4, .int key] [.int (y_b (y_nm key))] (hp Z P L) _ _
  refine e_go hk_59 1 (c := (if s_cnd .ne (y_b (y_nm key)) 0 = true then 10 else 7, [.ref 4, .int key], [], hp Z P L)) rfl ?_
  refine e_ne (a := 10) (b := 7) (x := y_b (y_nm key)) (y := 0) (fun hc4 => ?_) (fun hc4 => ?_)
  · skip
    rw [y_b1] at hc4
    refine e_go hk_59 3 (c := (15, [.ref 4, .int key], [.int key, .ref 5], hp Z P L)) rfl ?_
    refine e_call hk_59 (as := [.ref 5, .int key]) (rest := []) rfl rfl hk_32 rfl (Nat.le_of_ble_eq_true rfl) rfl (x_fnode hN hn) ?_
    show e_r 59 18 [.ref 4, .int key] [.int (y_o (t_fn (Z 9) (Z 17) n key))] (hp Z P L) _ _
    refine e_go hk_59 2 (c := (if s_cnd .ne (y_o (t_fn (Z 9) (Z 17) n key)) ((-6)) = true then 25 else 23, [.ref 4, .int key], [], hp Z P L)) rfl ?_
    refine e_ne (a := 25) (b := 23) (x := y_o (t_fn (Z 9) (Z 17) n key)) (y := (-6)) (fun hc20 => ?_) (fun hc20 => ?_)
    · skip
      rw [y_o_none (fun j hj => by have := (t_fn_lt hj).1; omega)] at hc20
      refine e_go hk_59 4 (c := (33, [.ref 4, .int key], [.ref 5, .ref 18], hp Z P L)) rfl ?_
      refine e_call hk_59 (as := [.ref 18, .ref 5]) (rest := []) rfl rfl hk_1 rfl (Nat.le_of_ble_eq_true rfl) rfl (x_keep (fun j hj => t_hs_at (hP j hj)) hM hm) ?_
      show e_r 59 36 [.ref 4, .int key] [] (hp ((t_kZ Z P m)) ((t_kP P m)) L) _ _
      refine e_go hk_59 3 (c := (41, [.ref 4, .int key], [.int key, .ref 5], hp ((t_kZ Z P m)) ((t_kP P m)) L)) rfl ?_
      refine e_call hk_59 (as := [.ref 5, .int key]) (rest := []) rfl rfl hk_47 rfl (Nat.le_of_ble_eq_true rfl) rfl (x_hollow (Z := t_kZ Z P m) (P := t_kP P m) (key := key) hN2 hn hF2) ?_
      show e_r 59 44 [.ref 4, .int key] [.int ((t_hl (t_kZ Z P m) n key).1)] (hp ((t_hl (t_kZ Z P m) n key).2) ((t_kP P m)) L) _ _
      exact e_ret hk_59 rfl rfl rfl (by rw [c_rem, if_pos hc4, if_neg hc20]) (by rw [c_rem, if_pos hc4, if_neg hc20])
    · skip
      rw [y_o_none (fun j hj => by have := (t_fn_lt hj).1; omega)] at hc20
      refine e_go hk_59 1 (c := (24, [.ref 4, .int key], [.int ((-1))], hp Z P L)) rfl ?_
      exact e_ret hk_59 rfl rfl rfl (by rw [c_rem, if_pos hc4, if_pos hc20]) (by rw [c_rem, if_pos hc4, if_pos hc20])
  · skip
    rw [y_b0] at hc4
    refine e_go hk_59 1 (c := (9, [.ref 4, .int key], [.int ((-2))], hp Z P L)) rfl ?_
    exact e_ret hk_59 rfl rfl rfl (by rw [c_rem, if_neg (by rw [hc4]; decide)]) (by rw [c_rem, if_neg (by rw [hc4]; decide)])
def c_reb (Z : Nat → Nat → Int32) (P : Nat → Nat) (n m : Nat) (key : Int32) : Int32 × (Nat → Nat → Int32) × (Nat → Nat) := if y_nm key = true then (if t_nd (Z 9) n key = none then (-1, Z, P) else ((t_lk (t_kZ Z P m) n key).1, (t_lk (t_kZ Z P m) n key).2, t_kP P m)) else (-2, Z, P)
theorem x_reb {Z : Nat → Nat → Int32} {P : Nat → Nat} {L n m : Nat} (hN : Z 5 6 = nI n) (hn : n ≤ 60) (hF : ∀ i, i < n → Z 17 i = 0 ∨ Z 17 i = 1) (hP : ∀ j, j < 6 → t_hs (P j)) (hM : Z 18 1 = nI m) (hm : m ≤ 6) {key : Int32} : m_r 60 [.ref 4, .int key] (hp Z P L) (some (.int (c_reb Z P n m key).1)) (hp (c_reb Z P n m key).2.1 (c_reb Z P n m key).2.2 L) := by
  have hN2 : t_kZ Z P m 5 6 = nI n := by rw [t_kZ_o hP (by decide)]; exact hN
  have hF2 : ∀ i, i < n → t_kZ Z P m 17 i = 0 ∨ t_kZ Z P m 17 i = 1 := fun i hi => by rw [t_kZ_o hP (by decide)]; exact hF i hi
  refine m_of (ls := [.ref 4, .int key]) hk_60 rfl rfl rfl ?_
  refine e_go hk_60 1 (c := (1, [.ref 4, .int key], [.int key], hp Z P L)) rfl ?_
  refine e_call hk_60 (as := [.int key]) (rest := []) rfl rfl hk_79 rfl (Nat.le_of_ble_eq_true rfl) rfl (x_num (k := key)) ?_
  show e_r 60 4 [.ref 4, .int key] [.int (y_b (y_nm key))] (hp Z P L) _ _
  refine e_go hk_60 1 (c := (if s_cnd .ne (y_b (y_nm key)) 0 = true then 10 else 7, [.ref 4, .int key], [], hp Z P L)) rfl ?_
  refine e_ne (a := 10) (b := 7) (x := y_b (y_nm key)) (y := 0) (fun hc4 => ?_) (fun hc4 => ?_)
  · skip
    rw [y_b1] at hc4
    refine e_go hk_60 3 (c := (15, [.ref 4, .int key], [.int key, .ref 5], hp Z P L)) rfl ?_
    refine e_call hk_60 (as := [.ref 5, .int key]) (rest := []) rfl rfl hk_31 rfl (Nat.le_of_ble_eq_true rfl) rfl (x_node hN hn) ?_
    show e_r 60 18 [.ref 4, .int key] [.int (y_o (t_nd (Z 9) n key))] (hp Z P L) _ _
    refine e_go hk_60 2 (c := (if s_cnd .ne (y_o (t_nd (Z 9) n key)) ((-6)) = true then 25 else 23, [.ref 4, .int key], [], hp Z P L)) rfl ?_
    refine e_ne (a := 25) (b := 23) (x := y_o (t_nd (Z 9) n key)) (y := (-6)) (fun hc20 => ?_) (fun hc20 => ?_)
    · skip
      rw [y_o_none (fun j hj => by have := (t_nd_lt hj).1; omega)] at hc20
      refine e_go hk_60 4 (c := (33, [.ref 4, .int key], [.ref 5, .ref 18], hp Z P L)) rfl ?_
      refine e_call hk_60 (as := [.ref 18, .ref 5]) (rest := []) rfl rfl hk_1 rfl (Nat.le_of_ble_eq_true rfl) rfl (x_keep (fun j hj => t_hs_at (hP j hj)) hM hm) ?_
      show e_r 60 36 [.ref 4, .int key] [] (hp ((t_kZ Z P m)) ((t_kP P m)) L) _ _
      refine e_go hk_60 3 (c := (41, [.ref 4, .int key], [.int key, .ref 5], hp ((t_kZ Z P m)) ((t_kP P m)) L)) rfl ?_
      refine e_call hk_60 (as := [.ref 5, .int key]) (rest := []) rfl rfl hk_48 rfl (Nat.le_of_ble_eq_true rfl) rfl (x_lk (Z := t_kZ Z P m) (P := t_kP P m) (key := key) hN2 hn hF2) ?_
      show e_r 60 44 [.ref 4, .int key] [.int ((t_lk (t_kZ Z P m) n key).1)] (hp ((t_lk (t_kZ Z P m) n key).2) ((t_kP P m)) L) _ _
      exact e_ret hk_60 rfl rfl rfl (by rw [c_reb, if_pos hc4, if_neg hc20]) (by rw [c_reb, if_pos hc4, if_neg hc20])
    · skip
      rw [y_o_none (fun j hj => by have := (t_nd_lt hj).1; omega)] at hc20
      refine e_go hk_60 1 (c := (24, [.ref 4, .int key], [.int ((-1))], hp Z P L)) rfl ?_
      exact e_ret hk_60 rfl rfl rfl (by rw [c_reb, if_pos hc4, if_pos hc20]) (by rw [c_reb, if_pos hc4, if_pos hc20])
  · skip
    rw [y_b0] at hc4
    refine e_go hk_60 1 (c := (9, [.ref 4, .int key], [.int ((-2))], hp Z P L)) rfl ?_
    exact e_ret hk_60 rfl rfl rfl (by rw [c_reb, if_neg (by rw [hc4]; decide)]) (by rw [c_reb, if_neg (by rw [hc4]; decide)])
end
section
/-! The calls: questions; printed by wip/whole/gen/calls2.py -/
theorem t_kt_lt0 {F : Nat → Int32} {q : Int32} : ∀ (k i : Nat) (a : Int32) (j : Nat), t_kt F q i k a = some j → i ≤ j ∧ j < i + k
  | 0, i, a, j, h => by cases h
  | k + 1, i, a, j, h => by
    unfold t_kt at h
    split at h
    · split at h
      · cases h; omega
      · have := t_kt_lt0 k (i + 1) _ j h; omega
    · have := t_kt_lt0 k (i + 1) _ j h; omega
theorem t_kt_lt {F : Nat → Int32} {q : Int32} {n j : Nat} (h : t_kt F q 0 n 0 = some j) : j < n := by
  have := t_kt_lt0 n 0 0 j h
  omega
def c_val (Z : Nat → Nat → Int32) (n : Nat) (key : Int32) : Int32 := if y_nm key = true then (match t_fn (Z 9) (Z 17) n key with
  | none => -6
  | some j => Z 11 j) else -2
theorem x_val {Z : Nat → Nat → Int32} {P : Nat → Nat} {L n : Nat} (hN : Z 5 6 = nI n) (hn : n ≤ 60) (hF : ∀ i, i < n → Z 17 i = 0 ∨ Z 17 i = 1) {key : Int32} : m_r 61 [.ref 4, .int key] (hp Z P L) (some (.int (c_val Z n key))) (hp Z P L) := by
  refine m_of (ls := [.ref 4, .int key, s_no]) hk_61 rfl rfl rfl ?_
  refine e_go hk_61 1 (c := (1, [.ref 4, .int key, s_no], [.int key], hp Z P L)) rfl ?_
  refine e_call hk_61 (as := [.int key]) (rest := []) rfl rfl hk_79 rfl (Nat.le_of_ble_eq_true rfl) rfl (x_num (k := key)) ?_
  show e_r 61 4 [.ref 4, .int key, s_no] [.int (y_b (y_nm key))] (hp Z P L) _ _
  refine e_go hk_61 1 (c := (if s_cnd .ne (y_b (y_nm key)) 0 = true then 10 else 7, [.ref 4, .int key, s_no], [], hp Z P L)) rfl ?_
  refine e_ne (a := 10) (b := 7) (x := y_b (y_nm key)) (y := 0) (fun hc4 => ?_) (fun hc4 => ?_)
  · skip
    rw [y_b1] at hc4
    refine e_go hk_61 3 (c := (15, [.ref 4, .int key, s_no], [.int key, .ref 5], hp Z P L)) rfl ?_
    refine e_call hk_61 (as := [.ref 5, .int key]) (rest := []) rfl rfl hk_32 rfl (Nat.le_of_ble_eq_true rfl) rfl (x_fnode hN hn) ?_
    show e_r 61 18 [.ref 4, .int key, s_no] [.int (y_o (t_fn (Z 9) (Z 17) n key))] (hp Z P L) _ _
    refine e_go hk_61 4 (c := (if s_cnd .ne (y_o (t_fn (Z 9) (Z 17) n key)) ((-6)) = true then 30 else 25, [.ref 4, .int key, .int (y_o (t_fn (Z 9) (Z 17) n key))], [], hp Z P L)) rfl ?_
    refine e_ne (a := 30) (b := 25) (x := y_o (t_fn (Z 9) (Z 17) n key)) (y := (-6)) (fun hc22 => ?_) (fun hc22 => ?_)
    · skip
      rw [y_o_none (fun j hj => by have := (t_fn_lt hj).1; omega)] at hc22
      refine e_go hk_61 3 (c := (37, [.ref 4, .int key, .int (y_o (t_fn (Z 9) (Z 17) n key))], [.ref 10], hp Z P L)) rfl ?_
      obtain ⟨j, hj⟩ := Option.ne_none_iff_exists'.mp hc22
      have hjn := (fun z => (t_fn_lt z).1) hj
      rw [hj]
      refine e_go hk_61 1 (c := (38, [.ref 4, .int key, .int (nI j)], [.int (nI j), .ref 10], hp Z P L)) rfl ?_
      refine e_call hk_61 (as := [.ref 10, .int (nI j)]) (rest := []) rfl rfl hk_22 rfl (Nat.le_of_ble_eq_true rfl) rfl (x_at (r := 10) (a := 11) (n := 60) rfl rfl rfl (by decide) (j := j) (by omega)) ?_
      show e_r 61 41 [.ref 4, .int key, .int (nI j)] [.int (Z 11 j)] (hp Z P L) _ _
      exact e_ret hk_61 rfl rfl rfl (by rw [c_val, if_pos hc4, hj]) rfl
    · skip
      rw [y_o_none (fun j hj => by have := (t_fn_lt hj).1; omega)] at hc22
      refine e_go hk_61 2 (c := (41, [.ref 4, .int key, .int (y_o (t_fn (Z 9) (Z 17) n key))], [.int ((-6))], hp Z P L)) rfl ?_
      exact e_ret hk_61 rfl rfl rfl (by rw [c_val, if_pos hc4, hc22]) rfl
  · skip
    rw [y_b0] at hc4
    refine e_go hk_61 1 (c := (9, [.ref 4, .int key, s_no], [.int ((-2))], hp Z P L)) rfl ?_
    exact e_ret hk_61 rfl rfl rfl (by rw [c_val, if_neg (by rw [hc4]; decide)]) rfl
def c_rank (Z : Nat → Nat → Int32) (n : Nat) (key : Int32) : Int32 := if y_nm key = true then t_sm (Z 17) 0 (t_pl (Z 9) key 0 n) 0 else -2
theorem x_rank {Z : Nat → Nat → Int32} {P : Nat → Nat} {L n : Nat} (hN : Z 5 6 = nI n) (hn : n ≤ 60) (hF : ∀ i, i < n → Z 17 i = 0 ∨ Z 17 i = 1) {key : Int32} : m_r 66 [.ref 4, .int key] (hp Z P L) (some (.int (c_rank Z n key))) (hp Z P L) := by
  refine m_of (ls := [.ref 4, .int key]) hk_66 rfl rfl rfl ?_
  refine e_go hk_66 1 (c := (1, [.ref 4, .int key], [.int key], hp Z P L)) rfl ?_
  refine e_call hk_66 (as := [.int key]) (rest := []) rfl rfl hk_79 rfl (Nat.le_of_ble_eq_true rfl) rfl (x_num (k := key)) ?_
  show e_r 66 4 [.ref 4, .int key] [.int (y_b (y_nm key))] (hp Z P L) _ _
  refine e_go hk_66 1 (c := (if s_cnd .eq (y_b (y_nm key)) 0 = true then 18 else 7, [.ref 4, .int key], [], hp Z P L)) rfl ?_
  refine e_eq (a := 18) (b := 7) (x := y_b (y_nm key)) (y := 0) (fun hc4 => ?_) (fun hc4 => ?_)
  · skip
    rw [y_b0] at hc4
    refine e_go hk_66 1 (c := (20, [.ref 4, .int key], [.int ((-2))], hp Z P L)) rfl ?_
    exact e_ret hk_66 rfl rfl rfl (by rw [c_rank, if_neg (by rw [hc4]; decide)]) rfl
  · skip
    rw [y_b1] at hc4
    refine e_go hk_66 3 (c := (12, [.ref 4, .int key], [.int key, .ref 5], hp Z P L)) rfl ?_
    refine e_call hk_66 (as := [.ref 5, .int key]) (rest := []) rfl rfl hk_35 rfl (Nat.le_of_ble_eq_true rfl) rfl (x_ahead hN hn) ?_
    show e_r 66 15 [.ref 4, .int key] [.int (t_sm (Z 17) 0 (t_pl (Z 9) key 0 n) 0)] (hp Z P L) _ _
    refine e_go hk_66 1 (c := (20, [.ref 4, .int key], [.int (t_sm (Z 17) 0 (t_pl (Z 9) key 0 n) 0)], hp Z P L)) rfl ?_
    exact e_ret hk_66 rfl rfl rfl (by rw [c_rank, if_pos hc4]) rfl
def c_kth (Z : Nat → Nat → Int32) (n : Nat) (k : Int32) : Int32 := match t_kt (Z 17) k 0 n 0 with
  | none => -1
  | some j => Z 9 j
theorem x_ckth {Z : Nat → Nat → Int32} {P : Nat → Nat} {L n : Nat} (hN : Z 5 6 = nI n) (hn : n ≤ 60) (hF : ∀ i, i < n → Z 17 i = 0 ∨ Z 17 i = 1) {k : Int32} : m_r 67 [.ref 4, .int k] (hp Z P L) (some (.int (c_kth Z n k))) (hp Z P L) := by
  refine m_of (ls := [.ref 4, .int k, s_no]) hk_67 rfl rfl rfl ?_
  refine e_go hk_67 3 (c := (5, [.ref 4, .int k, s_no], [.int k, .ref 5], hp Z P L)) rfl ?_
  refine e_call hk_67 (as := [.ref 5, .int k]) (rest := []) rfl rfl hk_36 rfl (Nat.le_of_ble_eq_true rfl) rfl (x_kth hN hn) ?_
  show e_r 67 8 [.ref 4, .int k, s_no] [.int (y_o (t_kt (Z 17) k 0 n 0))] (hp Z P L) _ _
  refine e_go hk_67 4 (c := (if s_cnd .ne (y_o (t_kt (Z 17) k 0 n 0)) ((-6)) = true then 19 else 15, [.ref 4, .int k, .int (y_o (t_kt (Z 17) k 0 n 0))], [], hp Z P L)) rfl ?_
  refine e_ne (a := 19) (b := 15) (x := y_o (t_kt (Z 17) k 0 n 0)) (y := (-6)) (fun hc12 => ?_) (fun hc12 => ?_)
  · skip
    rw [y_o_none (fun j hj => by have := t_kt_lt hj; omega)] at hc12
    refine e_go hk_67 3 (c := (26, [.ref 4, .int k, .int (y_o (t_kt (Z 17) k 0 n 0))], [.ref 8], hp Z P L)) rfl ?_
    obtain ⟨j, hj⟩ := Option.ne_none_iff_exists'.mp hc12
    have hjn := t_kt_lt hj
    rw [hj]
    refine e_go hk_67 1 (c := (27, [.ref 4, .int k, .int (nI j)], [.int (nI j), .ref 8], hp Z P L)) rfl ?_
    refine e_call hk_67 (as := [.ref 8, .int (nI j)]) (rest := []) rfl rfl hk_22 rfl (Nat.le_of_ble_eq_true rfl) rfl (x_at (r := 8) (a := 9) (n := 60) rfl rfl rfl (by decide) (j := j) (by omega)) ?_
    show e_r 67 30 [.ref 4, .int k, .int (nI j)] [.int (Z 9 j)] (hp Z P L) _ _
    exact e_ret hk_67 rfl rfl rfl (by rw [c_kth, hj]) rfl
  · skip
    rw [y_o_none (fun j hj => by have := t_kt_lt hj; omega)] at hc12
    refine e_go hk_67 2 (c := (30, [.ref 4, .int k, .int (y_o (t_kt (Z 17) k 0 n 0))], [.int ((-1))], hp Z P L)) rfl ?_
    exact e_ret hk_67 rfl rfl rfl (by rw [c_kth, hc12]) rfl
def c_nb (Z : Nat → Nat → Int32) (n : Nat) (key what : Int32) : Int32 := if y_nm key = true ∧ (what = 0 ∨ what = 1) then (match t_kt (Z 17) (if what = 0 then t_sm (Z 17) 0 (t_pl (Z 9) key 0 n) 0 - 1 else t_sm (Z 17) 0 (t_pl (Z 9) key 0 n) 0 + (if t_fn (Z 9) (Z 17) n key = none then 0 else 1)) 0 n 0 with
  | none => -6
  | some j => Z 9 j) else -2
theorem x_nb {Z : Nat → Nat → Int32} {P : Nat → Nat} {L n : Nat} (hN : Z 5 6 = nI n) (hn : n ≤ 60) (hF : ∀ i, i < n → Z 17 i = 0 ∨ Z 17 i = 1) {key what : Int32} : m_r 68 [.ref 4, .int key, .int what] (hp Z P L) (some (.int (c_nb Z n key what))) (hp Z P L) := by
  refine m_of (ls := [.ref 4, .int key, .int what, s_no, s_no, s_no]) hk_68 rfl rfl rfl ?_
  refine e_go hk_68 1 (c := (1, [.ref 4, .int key, .int what, s_no, s_no, s_no], [.int key], hp Z P L)) rfl ?_
  refine e_call hk_68 (as := [.int key]) (rest := []) rfl rfl hk_79 rfl (Nat.le_of_ble_eq_true rfl) rfl (x_num (k := key)) ?_
  show e_r 68 4 [.ref 4, .int key, .int what, s_no, s_no, s_no] [.int (y_b (y_nm key))] (hp Z P L) _ _
  refine e_go hk_68 1 (c := (if s_cnd .eq (y_b (y_nm key)) 0 = true then 16 else 7, [.ref 4, .int key, .int what, s_no, s_no, s_no], [], hp Z P L)) rfl ?_
  refine e_eq (a := 16) (b := 7) (x := y_b (y_nm key)) (y := 0) (fun hc4 => ?_) (fun hc4 => ?_)
  · skip
    rw [y_b0] at hc4
    refine e_go hk_68 1 (c := (18, [.ref 4, .int key, .int what, s_no, s_no, s_no], [.int ((-2))], hp Z P L)) rfl ?_
    exact e_ret hk_68 rfl rfl rfl (by rw [c_nb, if_neg (fun z => by rw [z.1] at hc4; cases hc4)]) rfl
  · skip
    rw [y_b1] at hc4
    refine e_go hk_68 2 (c := (if s_cnd .eq what 0 = true then 19 else 11, [.ref 4, .int key, .int what, s_no, s_no, s_no], [], hp Z P L)) rfl ?_
    refine e_eq (a := 19) (b := 11) (x := what) (y := 0) (fun hc8 => ?_) (fun hc8 => ?_)
    · skip
      refine e_go hk_68 3 (c := (24, [.ref 4, .int key, .int what, s_no, s_no, s_no], [.int key, .ref 5], hp Z P L)) rfl ?_
      refine e_call hk_68 (as := [.ref 5, .int key]) (rest := []) rfl rfl hk_35 rfl (Nat.le_of_ble_eq_true rfl) rfl (x_ahead hN hn) ?_
      show e_r 68 27 [.ref 4, .int key, .int what, s_no, s_no, s_no] [.int (t_sm (Z 17) 0 (t_pl (Z 9) key 0 n) 0)] (hp Z P L) _ _
      refine e_go hk_68 4 (c := (33, [.ref 4, .int key, .int what, .int (t_sm (Z 17) 0 (t_pl (Z 9) key 0 n) 0), s_no, s_no], [.int key, .ref 5], hp Z P L)) rfl ?_
      refine e_call hk_68 (as := [.ref 5, .int key]) (rest := []) rfl rfl hk_32 rfl (Nat.le_of_ble_eq_true rfl) rfl (x_fnode hN hn) ?_
      show e_r 68 36 [.ref 4, .int key, .int what, .int (t_sm (Z 17) 0 (t_pl (Z 9) key 0 n) 0), s_no, s_no] [.int (y_o (t_fn (Z 9) (Z 17) n key))] (hp Z P L) _ _
      refine e_go hk_68 2 (c := (if s_cnd .ne (y_o (t_fn (Z 9) (Z 17) n key)) ((-6)) = true then 45 else 41, [.ref 4, .int key, .int what, .int (t_sm (Z 17) 0 (t_pl (Z 9) key 0 n) 0), s_no, s_no], [], hp Z P L)) rfl ?_
      refine e_ne (a := 45) (b := 41) (x := y_o (t_fn (Z 9) (Z 17) n key)) (y := (-6)) (fun hc38 => ?_) (fun hc38 => ?_)
      · skip
        rw [y_o_none (fun j hj => by have := (t_fn_lt hj).1; omega)] at hc38
        refine e_go hk_68 6 (c := (if s_cnd .ne what 0 = true then 62 else 56, [.ref 4, .int key, .int what, .int (t_sm (Z 17) 0 (t_pl (Z 9) key 0 n) 0), .int 1, s_no], [.ref 5], hp Z P L)) rfl ?_
        refine e_ne (a := 62) (b := 56) (x := what) (y := 0) (fun hc53 => absurd (hc8) hc53) (fun hc53 => ?_)
        refine e_go hk_68 4 (c := (66, [.ref 4, .int key, .int what, .int (t_sm (Z 17) 0 (t_pl (Z 9) key 0 n) 0), .int 1, s_no], [.int ((t_sm (Z 17) 0 (t_pl (Z 9) key 0 n) 0) - 1), .ref 5], hp Z P L)) rfl ?_
        refine e_call hk_68 (as := [.ref 5, .int ((t_sm (Z 17) 0 (t_pl (Z 9) key 0 n) 0) - 1)]) (rest := []) rfl rfl hk_36 rfl (Nat.le_of_ble_eq_true rfl) rfl (x_kth hN hn) ?_
        show e_r 68 69 [.ref 4, .int key, .int what, .int (t_sm (Z 17) 0 (t_pl (Z 9) key 0 n) 0), .int 1, s_no] [.int (y_o (t_kt (Z 17) ((t_sm (Z 17) 0 (t_pl (Z 9) key 0 n) 0) - 1) 0 n 0))] (hp Z P L) _ _
        refine e_go hk_68 4 (c := (if s_cnd .ne (y_o (t_kt (Z 17) ((t_sm (Z 17) 0 (t_pl (Z 9) key 0 n) 0) - 1) 0 n 0)) ((-6)) = true then 83 else 78, [.ref 4, .int key, .int what, .int (t_sm (Z 17) 0 (t_pl (Z 9) key 0 n) 0), .int 1, .int (y_o (t_kt (Z 17) ((t_sm (Z 17) 0 (t_pl (Z 9) key 0 n) 0) - 1) 0 n 0))], [], hp Z P L)) rfl ?_
        refine e_ne (a := 83) (b := 78) (x := y_o (t_kt (Z 17) ((t_sm (Z 17) 0 (t_pl (Z 9) key 0 n) 0) - 1) 0 n 0)) (y := (-6)) (fun hc75 => ?_) (fun hc75 => ?_)
        · skip
          rw [y_o_none (fun j hj => by have := t_kt_lt hj; omega)] at hc75
          refine e_go hk_68 4 (c := (92, [.ref 4, .int key, .int what, .int (t_sm (Z 17) 0 (t_pl (Z 9) key 0 n) 0), .int 1, .int (y_o (t_kt (Z 17) ((t_sm (Z 17) 0 (t_pl (Z 9) key 0 n) 0) - 1) 0 n 0))], [.int (y_o (t_kt (Z 17) ((t_sm (Z 17) 0 (t_pl (Z 9) key 0 n) 0) - 1) 0 n 0)), .ref 8], hp Z P L)) rfl ?_
          obtain ⟨j, hj⟩ := Option.ne_none_iff_exists'.mp hc75
          have hjn := t_kt_lt hj
          rw [hj]
          refine e_call hk_68 (as := [.ref 8, .int (nI j)]) (rest := []) rfl rfl hk_22 rfl (Nat.le_of_ble_eq_true rfl) rfl (x_at (r := 8) (a := 9) (n := 60) rfl rfl rfl (by decide) (j := j) (by omega)) ?_
          show e_r 68 95 [.ref 4, .int key, .int what, .int (t_sm (Z 17) 0 (t_pl (Z 9) key 0 n) 0), .int 1, .int (nI j)] [.int (Z 9 j)] (hp Z P L) _ _
          exact e_ret hk_68 rfl rfl rfl (by rw [c_nb, if_pos ⟨hc4, Or.inl hc8⟩, if_pos hc8, hj]) rfl
        · skip
          rw [y_o_none (fun j hj => by have := t_kt_lt hj; omega)] at hc75
          refine e_go hk_68 2 (c := (95, [.ref 4, .int key, .int what, .int (t_sm (Z 17) 0 (t_pl (Z 9) key 0 n) 0), .int 1, .int (y_o (t_kt (Z 17) ((t_sm (Z 17) 0 (t_pl (Z 9) key 0 n) 0) - 1) 0 n 0))], [.int ((-6))], hp Z P L)) rfl ?_
          exact e_ret hk_68 rfl rfl rfl (by rw [c_nb, if_pos ⟨hc4, Or.inl hc8⟩, if_pos hc8, hc75]) rfl
      · skip
        rw [y_o_none (fun j hj => by have := (t_fn_lt hj).1; omega)] at hc38
        refine e_go hk_68 7 (c := (if s_cnd .ne what 0 = true then 62 else 56, [.ref 4, .int key, .int what, .int (t_sm (Z 17) 0 (t_pl (Z 9) key 0 n) 0), .int 0, s_no], [.ref 5], hp Z P L)) rfl ?_
        refine e_ne (a := 62) (b := 56) (x := what) (y := 0) (fun hc53 => absurd (hc8) hc53) (fun hc53 => ?_)
        refine e_go hk_68 4 (c := (66, [.ref 4, .int key, .int what, .int (t_sm (Z 17) 0 (t_pl (Z 9) key 0 n) 0), .int 0, s_no], [.int ((t_sm (Z 17) 0 (t_pl (Z 9) key 0 n) 0) - 1), .ref 5], hp Z P L)) rfl ?_
        refine e_call hk_68 (as := [.ref 5, .int ((t_sm (Z 17) 0 (t_pl (Z 9) key 0 n) 0) - 1)]) (rest := []) rfl rfl hk_36 rfl (Nat.le_of_ble_eq_true rfl) rfl (x_kth hN hn) ?_
        show e_r 68 69 [.ref 4, .int key, .int what, .int (t_sm (Z 17) 0 (t_pl (Z 9) key 0 n) 0), .int 0, s_no] [.int (y_o (t_kt (Z 17) ((t_sm (Z 17) 0 (t_pl (Z 9) key 0 n) 0) - 1) 0 n 0))] (hp Z P L) _ _
        refine e_go hk_68 4 (c := (if s_cnd .ne (y_o (t_kt (Z 17) ((t_sm (Z 17) 0 (t_pl (Z 9) key 0 n) 0) - 1) 0 n 0)) ((-6)) = true then 83 else 78, [.ref 4, .int key, .int what, .int (t_sm (Z 17) 0 (t_pl (Z 9) key 0 n) 0), .int 0, .int (y_o (t_kt (Z 17) ((t_sm (Z 17) 0 (t_pl (Z 9) key 0 n) 0) - 1) 0 n 0))], [], hp Z P L)) rfl ?_
        refine e_ne (a := 83) (b := 78) (x := y_o (t_kt (Z 17) ((t_sm (Z 17) 0 (t_pl (Z 9) key 0 n) 0) - 1) 0 n 0)) (y := (-6)) (fun hc75 => ?_) (fun hc75 => ?_)
        · skip
          rw [y_o_none (fun j hj => by have := t_kt_lt hj; omega)] at hc75
          refine e_go hk_68 4 (c := (92, [.ref 4, .int key, .int what, .int (t_sm (Z 17) 0 (t_pl (Z 9) key 0 n) 0), .int 0, .int (y_o (t_kt (Z 17) ((t_sm (Z 17) 0 (t_pl (Z 9) key 0 n) 0) - 1) 0 n 0))], [.int (y_o (t_kt (Z 17) ((t_sm (Z 17) 0 (t_pl (Z 9) key 0 n) 0) - 1) 0 n 0)), .ref 8], hp Z P L)) rfl ?_
          obtain ⟨j, hj⟩ := Option.ne_none_iff_exists'.mp hc75
          have hjn := t_kt_lt hj
          rw [hj]
          refine e_call hk_68 (as := [.ref 8, .int (nI j)]) (rest := []) rfl rfl hk_22 rfl (Nat.le_of_ble_eq_true rfl) rfl (x_at (r := 8) (a := 9) (n := 60) rfl rfl rfl (by decide) (j := j) (by omega)) ?_
          show e_r 68 95 [.ref 4, .int key, .int what, .int (t_sm (Z 17) 0 (t_pl (Z 9) key 0 n) 0), .int 0, .int (nI j)] [.int (Z 9 j)] (hp Z P L) _ _
          exact e_ret hk_68 rfl rfl rfl (by rw [c_nb, if_pos ⟨hc4, Or.inl hc8⟩, if_pos hc8, hj]) rfl
        · skip
          rw [y_o_none (fun j hj => by have := t_kt_lt hj; omega)] at hc75
          refine e_go hk_68 2 (c := (95, [.ref 4, .int key, .int what, .int (t_sm (Z 17) 0 (t_pl (Z 9) key 0 n) 0), .int 0, .int (y_o (t_kt (Z 17) ((t_sm (Z 17) 0 (t_pl (Z 9) key 0 n) 0) - 1) 0 n 0))], [.int ((-6))], hp Z P L)) rfl ?_
          exact e_ret hk_68 rfl rfl rfl (by rw [c_nb, if_pos ⟨hc4, Or.inl hc8⟩, if_pos hc8, hc75]) rfl
    · skip
      refine e_go hk_68 3 (c := (if s_cnd .eq what 1 = true then 19 else 16, [.ref 4, .int key, .int what, s_no, s_no, s_no], [], hp Z P L)) rfl ?_
      refine e_eq (a := 19) (b := 16) (x := what) (y := 1) (fun hc13 => ?_) (fun hc13 => ?_)
      · skip
        refine e_go hk_68 3 (c := (24, [.ref 4, .int key, .int what, s_no, s_no, s_no], [.int key, .ref 5], hp Z P L)) rfl ?_
        refine e_call hk_68 (as := [.ref 5, .int key]) (rest := []) rfl rfl hk_35 rfl (Nat.le_of_ble_eq_true rfl) rfl (x_ahead hN hn) ?_
        show e_r 68 27 [.ref 4, .int key, .int what, s_no, s_no, s_no] [.int (t_sm (Z 17) 0 (t_pl (Z 9) key 0 n) 0)] (hp Z P L) _ _
        refine e_go hk_68 4 (c := (33, [.ref 4, .int key, .int what, .int (t_sm (Z 17) 0 (t_pl (Z 9) key 0 n) 0), s_no, s_no], [.int key, .ref 5], hp Z P L)) rfl ?_
        refine e_call hk_68 (as := [.ref 5, .int key]) (rest := []) rfl rfl hk_32 rfl (Nat.le_of_ble_eq_true rfl) rfl (x_fnode hN hn) ?_
        show e_r 68 36 [.ref 4, .int key, .int what, .int (t_sm (Z 17) 0 (t_pl (Z 9) key 0 n) 0), s_no, s_no] [.int (y_o (t_fn (Z 9) (Z 17) n key))] (hp Z P L) _ _
        refine e_go hk_68 2 (c := (if s_cnd .ne (y_o (t_fn (Z 9) (Z 17) n key)) ((-6)) = true then 45 else 41, [.ref 4, .int key, .int what, .int (t_sm (Z 17) 0 (t_pl (Z 9) key 0 n) 0), s_no, s_no], [], hp Z P L)) rfl ?_
        refine e_ne (a := 45) (b := 41) (x := y_o (t_fn (Z 9) (Z 17) n key)) (y := (-6)) (fun hc38 => ?_) (fun hc38 => ?_)
        · skip
          rw [y_o_none (fun j hj => by have := (t_fn_lt hj).1; omega)] at hc38
          refine e_go hk_68 6 (c := (if s_cnd .ne what 0 = true then 62 else 56, [.ref 4, .int key, .int what, .int (t_sm (Z 17) 0 (t_pl (Z 9) key 0 n) 0), .int 1, s_no], [.ref 5], hp Z P L)) rfl ?_
          refine e_ne (a := 62) (b := 56) (x := what) (y := 0) (fun hc53 => ?_) (fun hc53 => absurd hc53 (hc8))
          refine e_go hk_68 3 (c := (66, [.ref 4, .int key, .int what, .int (t_sm (Z 17) 0 (t_pl (Z 9) key 0 n) 0), .int 1, s_no], [.int ((t_sm (Z 17) 0 (t_pl (Z 9) key 0 n) 0) + 1), .ref 5], hp Z P L)) rfl ?_
          refine e_call hk_68 (as := [.ref 5, .int ((t_sm (Z 17) 0 (t_pl (Z 9) key 0 n) 0) + 1)]) (rest := []) rfl rfl hk_36 rfl (Nat.le_of_ble_eq_true rfl) rfl (x_kth hN hn) ?_
          show e_r 68 69 [.ref 4, .int key, .int what, .int (t_sm (Z 17) 0 (t_pl (Z 9) key 0 n) 0), .int 1, s_no] [.int (y_o (t_kt (Z 17) ((t_sm (Z 17) 0 (t_pl (Z 9) key 0 n) 0) + 1) 0 n 0))] (hp Z P L) _ _
          refine e_go hk_68 4 (c := (if s_cnd .ne (y_o (t_kt (Z 17) ((t_sm (Z 17) 0 (t_pl (Z 9) key 0 n) 0) + 1) 0 n 0)) ((-6)) = true then 83 else 78, [.ref 4, .int key, .int what, .int (t_sm (Z 17) 0 (t_pl (Z 9) key 0 n) 0), .int 1, .int (y_o (t_kt (Z 17) ((t_sm (Z 17) 0 (t_pl (Z 9) key 0 n) 0) + 1) 0 n 0))], [], hp Z P L)) rfl ?_
          refine e_ne (a := 83) (b := 78) (x := y_o (t_kt (Z 17) ((t_sm (Z 17) 0 (t_pl (Z 9) key 0 n) 0) + 1) 0 n 0)) (y := (-6)) (fun hc75 => ?_) (fun hc75 => ?_)
          · skip
            rw [y_o_none (fun j hj => by have := t_kt_lt hj; omega)] at hc75
            refine e_go hk_68 4 (c := (92, [.ref 4, .int key, .int what, .int (t_sm (Z 17) 0 (t_pl (Z 9) key 0 n) 0), .int 1, .int (y_o (t_kt (Z 17) ((t_sm (Z 17) 0 (t_pl (Z 9) key 0 n) 0) + 1) 0 n 0))], [.int (y_o (t_kt (Z 17) ((t_sm (Z 17) 0 (t_pl (Z 9) key 0 n) 0) + 1) 0 n 0)), .ref 8], hp Z P L)) rfl ?_
            obtain ⟨j, hj⟩ := Option.ne_none_iff_exists'.mp hc75
            have hjn := t_kt_lt hj
            rw [hj]
            refine e_call hk_68 (as := [.ref 8, .int (nI j)]) (rest := []) rfl rfl hk_22 rfl (Nat.le_of_ble_eq_true rfl) rfl (x_at (r := 8) (a := 9) (n := 60) rfl rfl rfl (by decide) (j := j) (by omega)) ?_
            show e_r 68 95 [.ref 4, .int key, .int what, .int (t_sm (Z 17) 0 (t_pl (Z 9) key 0 n) 0), .int 1, .int (nI j)] [.int (Z 9 j)] (hp Z P L) _ _
            exact e_ret hk_68 rfl rfl rfl (by rw [c_nb, if_pos ⟨hc4, Or.inr hc13⟩, if_neg hc8, if_neg hc38, hj]) rfl
          · skip
            rw [y_o_none (fun j hj => by have := t_kt_lt hj; omega)] at hc75
            refine e_go hk_68 2 (c := (95, [.ref 4, .int key, .int what, .int (t_sm (Z 17) 0 (t_pl (Z 9) key 0 n) 0), .int 1, .int (y_o (t_kt (Z 17) ((t_sm (Z 17) 0 (t_pl (Z 9) key 0 n) 0) + 1) 0 n 0))], [.int ((-6))], hp Z P L)) rfl ?_
            exact e_ret hk_68 rfl rfl rfl (by rw [c_nb, if_pos ⟨hc4, Or.inr hc13⟩, if_neg hc8, if_neg hc38, hc75]) rfl
        · skip
          rw [y_o_none (fun j hj => by have := (t_fn_lt hj).1; omega)] at hc38
          refine e_go hk_68 7 (c := (if s_cnd .ne what 0 = true then 62 else 56, [.ref 4, .int key, .int what, .int (t_sm (Z 17) 0 (t_pl (Z 9) key 0 n) 0), .int 0, s_no], [.ref 5], hp Z P L)) rfl ?_
          refine e_ne (a := 62) (b := 56) (x := what) (y := 0) (fun hc53 => ?_) (fun hc53 => absurd hc53 (hc8))
          refine e_go hk_68 3 (c := (66, [.ref 4, .int key, .int what, .int (t_sm (Z 17) 0 (t_pl (Z 9) key 0 n) 0), .int 0, s_no], [.int ((t_sm (Z 17) 0 (t_pl (Z 9) key 0 n) 0) + 0), .ref 5], hp Z P L)) rfl ?_
          refine e_call hk_68 (as := [.ref 5, .int ((t_sm (Z 17) 0 (t_pl (Z 9) key 0 n) 0) + 0)]) (rest := []) rfl rfl hk_36 rfl (Nat.le_of_ble_eq_true rfl) rfl (x_kth hN hn) ?_
          show e_r 68 69 [.ref 4, .int key, .int what, .int (t_sm (Z 17) 0 (t_pl (Z 9) key 0 n) 0), .int 0, s_no] [.int (y_o (t_kt (Z 17) ((t_sm (Z 17) 0 (t_pl (Z 9) key 0 n) 0) + 0) 0 n 0))] (hp Z P L) _ _
          refine e_go hk_68 4 (c := (if s_cnd .ne (y_o (t_kt (Z 17) ((t_sm (Z 17) 0 (t_pl (Z 9) key 0 n) 0) + 0) 0 n 0)) ((-6)) = true then 83 else 78, [.ref 4, .int key, .int what, .int (t_sm (Z 17) 0 (t_pl (Z 9) key 0 n) 0), .int 0, .int (y_o (t_kt (Z 17) ((t_sm (Z 17) 0 (t_pl (Z 9) key 0 n) 0) + 0) 0 n 0))], [], hp Z P L)) rfl ?_
          refine e_ne (a := 83) (b := 78) (x := y_o (t_kt (Z 17) ((t_sm (Z 17) 0 (t_pl (Z 9) key 0 n) 0) + 0) 0 n 0)) (y := (-6)) (fun hc75 => ?_) (fun hc75 => ?_)
          · skip
            rw [y_o_none (fun j hj => by have := t_kt_lt hj; omega)] at hc75
            refine e_go hk_68 4 (c := (92, [.ref 4, .int key, .int what, .int (t_sm (Z 17) 0 (t_pl (Z 9) key 0 n) 0), .int 0, .int (y_o (t_kt (Z 17) ((t_sm (Z 17) 0 (t_pl (Z 9) key 0 n) 0) + 0) 0 n 0))], [.int (y_o (t_kt (Z 17) ((t_sm (Z 17) 0 (t_pl (Z 9) key 0 n) 0) + 0) 0 n 0)), .ref 8], hp Z P L)) rfl ?_
            obtain ⟨j, hj⟩ := Option.ne_none_iff_exists'.mp hc75
            have hjn := t_kt_lt hj
            rw [hj]
            refine e_call hk_68 (as := [.ref 8, .int (nI j)]) (rest := []) rfl rfl hk_22 rfl (Nat.le_of_ble_eq_true rfl) rfl (x_at (r := 8) (a := 9) (n := 60) rfl rfl rfl (by decide) (j := j) (by omega)) ?_
            show e_r 68 95 [.ref 4, .int key, .int what, .int (t_sm (Z 17) 0 (t_pl (Z 9) key 0 n) 0), .int 0, .int (nI j)] [.int (Z 9 j)] (hp Z P L) _ _
            exact e_ret hk_68 rfl rfl rfl (by rw [c_nb, if_pos ⟨hc4, Or.inr hc13⟩, if_neg hc8, if_pos hc38, hj]) rfl
          · skip
            rw [y_o_none (fun j hj => by have := t_kt_lt hj; omega)] at hc75
            refine e_go hk_68 2 (c := (95, [.ref 4, .int key, .int what, .int (t_sm (Z 17) 0 (t_pl (Z 9) key 0 n) 0), .int 0, .int (y_o (t_kt (Z 17) ((t_sm (Z 17) 0 (t_pl (Z 9) key 0 n) 0) + 0) 0 n 0))], [.int ((-6))], hp Z P L)) rfl ?_
            exact e_ret hk_68 rfl rfl rfl (by rw [c_nb, if_pos ⟨hc4, Or.inr hc13⟩, if_neg hc8, if_pos hc38, hc75]) rfl
      · skip
        refine e_go hk_68 1 (c := (18, [.ref 4, .int key, .int what, s_no, s_no, s_no], [.int ((-2))], hp Z P L)) rfl ?_
        exact e_ret hk_68 rfl rfl rfl (by rw [c_nb, if_neg (fun z => z.2.elim hc8 hc13)]) rfl
def c_wc (Z : Nat → Nat → Int32) (n : Nat) (key : Int32) : Int32 := if y_nm key = true then (if t_rm Z n key = true then t_cs Z n key else -4) else -2
theorem x_wc {Z : Nat → Nat → Int32} {P : Nat → Nat} {L n : Nat} (hN : Z 5 6 = nI n) (hn : n ≤ 60) (hF : ∀ i, i < n → Z 17 i = 0 ∨ Z 17 i = 1) {key : Int32} : m_r 70 [.ref 4, .int key] (hp Z P L) (some (.int (c_wc Z n key))) (hp Z P L) := by
  refine m_of (ls := [.ref 4, .int key]) hk_70 rfl rfl rfl ?_
  refine e_go hk_70 1 (c := (1, [.ref 4, .int key], [.int key], hp Z P L)) rfl ?_
  refine e_call hk_70 (as := [.int key]) (rest := []) rfl rfl hk_79 rfl (Nat.le_of_ble_eq_true rfl) rfl (x_num (k := key)) ?_
  show e_r 70 4 [.ref 4, .int key] [.int (y_b (y_nm key))] (hp Z P L) _ _
  refine e_go hk_70 1 (c := (if s_cnd .ne (y_b (y_nm key)) 0 = true then 10 else 7, [.ref 4, .int key], [], hp Z P L)) rfl ?_
  refine e_ne (a := 10) (b := 7) (x := y_b (y_nm key)) (y := 0) (fun hc4 => ?_) (fun hc4 => ?_)
  · skip
    rw [y_b1] at hc4
    refine e_go hk_70 3 (c := (15, [.ref 4, .int key], [.int key, .ref 5], hp Z P L)) rfl ?_
    refine e_call hk_70 (as := [.ref 5, .int key]) (rest := []) rfl rfl hk_45 rfl (Nat.le_of_ble_eq_true rfl) rfl (x_room hN hn) ?_
    show e_r 70 18 [.ref 4, .int key] [.int (y_b (t_rm Z n key))] (hp Z P L) _ _
    refine e_go hk_70 1 (c := (if s_cnd .eq (y_b (t_rm Z n key)) 0 = true then 32 else 21, [.ref 4, .int key], [], hp Z P L)) rfl ?_
    refine e_eq (a := 32) (b := 21) (x := y_b (t_rm Z n key)) (y := 0) (fun hc18 => ?_) (fun hc18 => ?_)
    · skip
      rw [y_b0] at hc18
      refine e_go hk_70 1 (c := (34, [.ref 4, .int key], [.int ((-4))], hp Z P L)) rfl ?_
      exact e_ret hk_70 rfl rfl rfl (by rw [c_wc, if_pos hc4, if_neg (by rw [hc18]; decide)]) rfl
    · skip
      rw [y_b1] at hc18
      refine e_go hk_70 3 (c := (26, [.ref 4, .int key], [.int key, .ref 5], hp Z P L)) rfl ?_
      refine e_call hk_70 (as := [.ref 5, .int key]) (rest := []) rfl rfl hk_44 rfl (Nat.le_of_ble_eq_true rfl) rfl (x_cost hN hn) ?_
      show e_r 70 29 [.ref 4, .int key] [.int (t_cs Z n key)] (hp Z P L) _ _
      refine e_go hk_70 1 (c := (34, [.ref 4, .int key], [.int (t_cs Z n key)], hp Z P L)) rfl ?_
      exact e_ret hk_70 rfl rfl rfl (by rw [c_wc, if_pos hc4, if_pos hc18]) rfl
  · skip
    rw [y_b0] at hc4
    refine e_go hk_70 1 (c := (9, [.ref 4, .int key], [.int ((-2))], hp Z P L)) rfl ?_
    exact e_ret hk_70 rfl rfl rfl (by rw [c_wc, if_neg (by rw [hc4]; decide)]) rfl
def t_su (Z : Nat → Nat → Int32) (hi : Int32) : Nat → Nat → Int32 → Int32
  | _, 0, a => a
  | i, k + 1, a => if Z 9 i ≤ hi then t_su Z hi (i + 1) k (a + (if Z 17 i = 1 then Z 11 i else 0)) else a
def c_sum (Z : Nat → Nat → Int32) (n : Nat) (lo hi : Int32) : Int32 := if y_nm lo = true ∧ y_nm hi = true ∧ lo ≤ hi then t_su Z hi (t_pl (Z 9) lo 0 n) (n - t_pl (Z 9) lo 0 n) 0 else -2
theorem x_sum_l {Z : Nat → Nat → Int32} {P : Nat → Nat} {L n : Nat} (hN : Z 5 6 = nI n) (hn : n ≤ 60) (hF : ∀ i, i < n → Z 17 i = 0 ∨ Z 17 i = 1) {lo hi : Int32} : ∀ (k i : Nat) (a : Int32), i + k = n → e_r 69 34 [.ref 4, .int lo, .int hi, .int a, .int (nI i)] [] (hp Z P L) (some (.int (t_su Z hi i k a))) (hp Z P L)
  | 0, i, a, hi2 => by
    refine e_go hk_69 5 (c := (if s_cnd .ge (nI i) (Z 5 6) = true then 99 else 46, [.ref 4, .int lo, .int hi, .int a, .int (nI i)], [], hp Z P L)) rfl ?_
    refine e_ge (a := 99) (b := 46) (x := nI i) (y := Z 5 6) (fun hc43 => ?_) (fun hc43 => absurd (by rw [hN]; exact (y_le (by omega) (by omega)).mpr (by omega)) hc43)
    refine e_go hk_69 1 (c := (100, [.ref 4, .int lo, .int hi, .int a, .int (nI i)], [.int a], hp Z P L)) rfl ?_
    exact e_ret hk_69 rfl rfl rfl rfl rfl
  | k + 1, i, a, hi2 => by
    refine e_go hk_69 5 (c := (if s_cnd .ge (nI i) (Z 5 6) = true then 99 else 46, [.ref 4, .int lo, .int hi, .int a, .int (nI i)], [], hp Z P L)) rfl ?_
    refine e_ge (a := 99) (b := 46) (x := nI i) (y := Z 5 6) (fun hc43 => absurd hc43 (by rw [hN]; exact nI_ge (by omega) (by omega))) (fun hc43 => ?_)
    refine e_go hk_69 4 (c := (55, [.ref 4, .int lo, .int hi, .int a, .int (nI i)], [.int (nI i), .ref 8], hp Z P L)) rfl ?_
    refine e_call hk_69 (as := [.ref 8, .int (nI i)]) (rest := []) rfl rfl hk_22 rfl (Nat.le_of_ble_eq_true rfl) rfl (x_at (r := 8) (a := 9) (n := 60) rfl rfl rfl (by decide) (j := i) (by omega)) ?_
    show e_r 69 58 [.ref 4, .int lo, .int hi, .int a, .int (nI i)] [.int (Z 9 i)] (hp Z P L) _ _
    refine e_go hk_69 2 (c := (if s_cnd .gt (Z 9 i) hi = true then 99 else 62, [.ref 4, .int lo, .int hi, .int a, .int (nI i)], [], hp Z P L)) rfl ?_
    refine e_gt (a := 99) (b := 62) (x := Z 9 i) (y := hi) (fun hc59 => ?_) (fun hc59 => ?_)
    · skip
      refine e_go hk_69 1 (c := (100, [.ref 4, .int lo, .int hi, .int a, .int (nI i)], [.int a], hp Z P L)) rfl ?_
      exact e_ret hk_69 rfl rfl rfl (by rw [t_su, if_neg (Int32.not_le.mpr hc59)]) rfl
    · skip
      refine e_go hk_69 4 (c := (69, [.ref 4, .int lo, .int hi, .int a, .int (nI i)], [.int (nI i), .ref 5, .int a], hp Z P L)) rfl ?_
      refine e_call hk_69 (as := [.ref 5, .int (nI i)]) (rest := [.int a]) rfl rfl hk_33 rfl (Nat.le_of_ble_eq_true rfl) rfl (x_isfull (j := i) (by omega)) ?_
      show e_r 69 72 [.ref 4, .int lo, .int hi, .int a, .int (nI i)] [.int (y_b (decide (Z 17 i = 1))), .int a] (hp Z P L) _ _
      refine e_go hk_69 1 (c := (if s_cnd .eq (y_b (decide (Z 17 i = 1))) 0 = true then 90 else 75, [.ref 4, .int lo, .int hi, .int a, .int (nI i)], [.int a], hp Z P L)) rfl ?_
      refine e_eq (a := 90) (b := 75) (x := y_b (decide (Z 17 i = 1))) (y := 0) (fun hc72 => ?_) (fun hc72 => ?_)
      · skip
        rw [y_d0] at hc72
        refine e_go hk_69 5 (c := (34, [.ref 4, .int lo, .int hi, .int (a + 0), .int ((nI i) + 1)], [], hp Z P L)) rfl ?_
        rw [t_su, if_pos (Int32.not_lt.mp hc59), if_neg hc72, nI_1]
        exact x_sum_l hN hn hF k (i + 1) _ (by omega)
      · skip
        rw [y_d1] at hc72
        refine e_go hk_69 4 (c := (84, [.ref 4, .int lo, .int hi, .int a, .int (nI i)], [.int (nI i), .ref 10, .int a], hp Z P L)) rfl ?_
        refine e_call hk_69 (as := [.ref 10, .int (nI i)]) (rest := [.int a]) rfl rfl hk_22 rfl (Nat.le_of_ble_eq_true rfl) rfl (x_at (r := 10) (a := 11) (n := 60) rfl rfl rfl (by decide) (j := i) (by omega)) ?_
        show e_r 69 87 [.ref 4, .int lo, .int hi, .int a, .int (nI i)] [.int (Z 11 i), .int a] (hp Z P L) _ _
        refine e_go hk_69 5 (c := (34, [.ref 4, .int lo, .int hi, .int (a + (Z 11 i)), .int ((nI i) + 1)], [], hp Z P L)) rfl ?_
        rw [t_su, if_pos (Int32.not_lt.mp hc59), if_pos hc72, nI_1]
        exact x_sum_l hN hn hF k (i + 1) _ (by omega)
theorem x_sum {Z : Nat → Nat → Int32} {P : Nat → Nat} {L n : Nat} (hN : Z 5 6 = nI n) (hn : n ≤ 60) (hF : ∀ i, i < n → Z 17 i = 0 ∨ Z 17 i = 1) {lo hi : Int32} : m_r 69 [.ref 4, .int lo, .int hi] (hp Z P L) (some (.int (c_sum Z n lo hi))) (hp Z P L) := by
  refine m_of (ls := [.ref 4, .int lo, .int hi, s_no, s_no]) hk_69 rfl rfl rfl ?_
  refine e_go hk_69 1 (c := (1, [.ref 4, .int lo, .int hi, s_no, s_no], [.int lo], hp Z P L)) rfl ?_
  refine e_call hk_69 (as := [.int lo]) (rest := []) rfl rfl hk_79 rfl (Nat.le_of_ble_eq_true rfl) rfl (x_num (k := lo)) ?_
  show e_r 69 4 [.ref 4, .int lo, .int hi, s_no, s_no] [.int (y_b (y_nm lo))] (hp Z P L) _ _
  refine e_go hk_69 1 (c := (if s_cnd .eq (y_b (y_nm lo)) 0 = true then 19 else 7, [.ref 4, .int lo, .int hi, s_no, s_no], [], hp Z P L)) rfl ?_
  refine e_eq (a := 19) (b := 7) (x := y_b (y_nm lo)) (y := 0) (fun hc4 => ?_) (fun hc4 => ?_)
  · skip
    rw [y_b0] at hc4
    refine e_go hk_69 1 (c := (21, [.ref 4, .int lo, .int hi, s_no, s_no], [.int ((-2))], hp Z P L)) rfl ?_
    exact e_ret hk_69 rfl rfl rfl (by rw [c_sum, if_neg (fun z => by rw [z.1] at hc4; cases hc4)]) rfl
  · skip
    rw [y_b1] at hc4
    refine e_go hk_69 1 (c := (8, [.ref 4, .int lo, .int hi, s_no, s_no], [.int hi], hp Z P L)) rfl ?_
    refine e_call hk_69 (as := [.int hi]) (rest := []) rfl rfl hk_79 rfl (Nat.le_of_ble_eq_true rfl) rfl (x_num (k := hi)) ?_
    show e_r 69 11 [.ref 4, .int lo, .int hi, s_no, s_no] [.int (y_b (y_nm hi))] (hp Z P L) _ _
    refine e_go hk_69 1 (c := (if s_cnd .eq (y_b (y_nm hi)) 0 = true then 19 else 14, [.ref 4, .int lo, .int hi, s_no, s_no], [], hp Z P L)) rfl ?_
    refine e_eq (a := 19) (b := 14) (x := y_b (y_nm hi)) (y := 0) (fun hc11 => ?_) (fun hc11 => ?_)
    · skip
      rw [y_b0] at hc11
      refine e_go hk_69 1 (c := (21, [.ref 4, .int lo, .int hi, s_no, s_no], [.int ((-2))], hp Z P L)) rfl ?_
      exact e_ret hk_69 rfl rfl rfl (by rw [c_sum, if_neg (fun z => by rw [z.2.1] at hc11; cases hc11)]) rfl
    · skip
      rw [y_b1] at hc11
      refine e_go hk_69 3 (c := (if s_cnd .ge hi lo = true then 22 else 19, [.ref 4, .int lo, .int hi, s_no, s_no], [], hp Z P L)) rfl ?_
      refine e_ge (a := 22) (b := 19) (x := hi) (y := lo) (fun hc16 => ?_) (fun hc16 => ?_)
      · skip
        refine e_go hk_69 5 (c := (29, [.ref 4, .int lo, .int hi, .int 0, s_no], [.int lo, .ref 5], hp Z P L)) rfl ?_
        refine e_call hk_69 (as := [.ref 5, .int lo]) (rest := []) rfl rfl hk_30 rfl (Nat.le_of_ble_eq_true rfl) rfl (x_place hN hn) ?_
        show e_r 69 32 [.ref 4, .int lo, .int hi, .int 0, s_no] [.int (nI (t_pl (Z 9) lo 0 n))] (hp Z P L) _ _
        refine e_go hk_69 1 (c := (34, [.ref 4, .int lo, .int hi, .int 0, .int (nI (t_pl (Z 9) lo 0 n))], [], hp Z P L)) rfl ?_
        have hpl := (t_pl_le (Z 9) lo n 0).2
        rw [c_sum, if_pos ⟨hc4, hc11, hc16⟩]
        exact x_sum_l hN hn hF _ _ _ (by omega)
      · skip
        refine e_go hk_69 1 (c := (21, [.ref 4, .int lo, .int hi, s_no, s_no], [.int ((-2))], hp Z P L)) rfl ?_
        exact e_ret hk_69 rfl rfl rfl (by rw [c_sum, if_neg (fun z => hc16 z.2.2)]) rfl
end
section
/-! The calls: worst, pad, fault, undo, slots; printed by wip/whole/gen/calls3.py -/
def t_wk (Z : Nat → Nat → Int32) (i : Nat) : Int32 := if i = 0 then 0 else Z 9 (i - 1) + 1
def t_wc (Z : Nat → Nat → Int32) (n : Nat) (key : Int32) : Int32 := if y_nm key = true then t_cs Z n key else 0
def t_wo (Z : Nat → Nat → Int32) (n : Nat) : Nat → Nat → Int32 → Int32 → Int32 × Int32
  | _, 0, wk, mo => (wk, mo)
  | i, k + 1, wk, mo => if mo < t_wc Z n (t_wk Z i) then t_wo Z n (i + 1) k (t_wk Z i) (t_wc Z n (t_wk Z i)) else t_wo Z n (i + 1) k wk mo
def c_worst (Z : Nat → Nat → Int32) (n : Nat) (what : Int32) : Int32 := if what = 0 ∨ what = 1 then (if n < 60 then (if what = 0 then (t_wo Z n 0 (n + 1) 0 0).1 else (t_wo Z n 0 (n + 1) 0 0).2) else -4) else -2
theorem x_worst_l {Z : Nat → Nat → Int32} {P : Nat → Nat} {L n : Nat} (hN : Z 5 6 = nI n) (hn : n ≤ 60) {what : Int32} : ∀ (k i : Nat) (wk mo : Int32) (y5 y6 : Value), i + k = n + 1 → e_r 71 34 [.ref 4, .int what, .int wk, .int mo, .int (nI i), y5, y6] [] (hp Z P L) (some (.int (if what = 0 then (t_wo Z n i k wk mo).1 else (t_wo Z n i k wk mo).2))) (hp Z P L)
  | 0, i, wk, mo, y5, y6, hi2 => by
    refine e_go hk_71 5 (c := (if s_cnd .gt (nI i) (Z 5 6) = true then 114 else 46, [.ref 4, .int what, .int wk, .int mo, .int (nI i), y5, y6], [], hp Z P L)) rfl ?_
    refine e_gt (a := 114) (b := 46) (x := nI i) (y := Z 5 6) (fun hc43 => ?_) (fun hc43 => absurd (by rw [hN]; exact (y_lt (by omega) (by omega)).mpr (by omega)) hc43)
    refine e_go hk_71 2 (c := (if s_cnd .ne what 0 = true then 122 else 118, [.ref 4, .int what, .int wk, .int mo, .int (nI i), y5, y6], [], hp Z P L)) rfl ?_
    refine e_ne (a := 122) (b := 118) (x := what) (y := 0) (fun hc115 => ?_) (fun hc115 => ?_)
    · skip
      refine e_go hk_71 1 (c := (123, [.ref 4, .int what, .int wk, .int mo, .int (nI i), y5, y6], [.int mo], hp Z P L)) rfl ?_
      exact e_ret hk_71 rfl rfl rfl (by rw [if_neg hc115]; rfl) rfl
    · skip
      refine e_go hk_71 2 (c := (123, [.ref 4, .int what, .int wk, .int mo, .int (nI i), y5, y6], [.int wk], hp Z P L)) rfl ?_
      exact e_ret hk_71 rfl rfl rfl (by rw [if_pos hc115]; rfl) rfl
  | k + 1, i, wk, mo, y5, y6, hi2 => by
    refine e_go hk_71 5 (c := (if s_cnd .gt (nI i) (Z 5 6) = true then 114 else 46, [.ref 4, .int what, .int wk, .int mo, .int (nI i), y5, y6], [], hp Z P L)) rfl ?_
    refine e_gt (a := 114) (b := 46) (x := nI i) (y := Z 5 6) (fun hc43 => absurd hc43 (by rw [hN]; exact fun z => absurd ((y_lt (by omega) (by omega)).mp z) (by omega))) (fun hc43 => ?_)
    refine e_go hk_71 2 (c := (if s_cnd .ne (nI i) 0 = true then 55 else 51, [.ref 4, .int what, .int wk, .int mo, .int (nI i), y5, y6], [], hp Z P L)) rfl ?_
    refine e_ne (a := 55) (b := 51) (x := nI i) (y := 0) (fun hc48 => ?_) (fun hc48 => ?_)
    · skip
      have hi0 : ¬ i = 0 := fun z => hc48 (by rw [z]; rfl)
      have hK : t_wk Z i = Z 9 (i - 1) + 1 := by rw [t_wk, if_neg hi0]
      refine e_go hk_71 6 (c := (66, [.ref 4, .int what, .int wk, .int mo, .int (nI i), y5, y6], [.int ((nI i) - 1), .ref 8], hp Z P L)) rfl ?_
      rw [show nI i - 1 = nI (i - 1) from y_m1s (by omega)]
      refine e_call hk_71 (as := [.ref 8, .int (nI (i - 1))]) (rest := []) rfl rfl hk_22 rfl (Nat.le_of_ble_eq_true rfl) rfl (x_at (r := 8) (a := 9) (n := 60) rfl rfl rfl (by decide) (j := i - 1) (by omega)) ?_
      show e_r 71 69 [.ref 4, .int what, .int wk, .int mo, .int (nI i), y5, y6] [.int (Z 9 (i - 1))] (hp Z P L) _ _
      refine e_go hk_71 2 (c := (71, [.ref 4, .int what, .int wk, .int mo, .int (nI i), y5, y6], [.int ((Z 9 (i - 1)) + 1)], hp Z P L)) rfl ?_
      show e_r 71 71 [.ref 4, .int what, .int wk, .int mo, .int (nI i), y5, y6] [.int ((Z 9 (i - 1)) + 1)] _ _ _
      rw [show e_r 71 71 [.ref 4, .int what, .int wk, .int mo, .int (nI i), y5, y6] [.int ((Z 9 (i - 1)) + 1)] (hp Z P L) = e_r 71 71 [.ref 4, .int what, .int wk, .int mo, .int (nI i), y5, y6] [.int (t_wk Z i)] (hp Z P L) from by rw [hK]]
      refine e_go hk_71 2 (c := (75, [.ref 4, .int what, .int wk, .int mo, .int (nI i), .int (t_wk Z i), y6], [.int (t_wk Z i)], hp Z P L)) rfl ?_
      refine e_call hk_71 (as := [.int (t_wk Z i)]) (rest := []) rfl rfl hk_79 rfl (Nat.le_of_ble_eq_true rfl) rfl (x_num (k := t_wk Z i)) ?_
      show e_r 71 78 [.ref 4, .int what, .int wk, .int mo, .int (nI i), .int (t_wk Z i), y6] [.int (y_b (y_nm (t_wk Z i)))] (hp Z P L) _ _
      refine e_go hk_71 1 (c := (if s_cnd .eq (y_b (y_nm (t_wk Z i))) 0 = true then 93 else 81, [.ref 4, .int what, .int wk, .int mo, .int (nI i), .int (t_wk Z i), y6], [], hp Z P L)) rfl ?_
      refine e_eq (a := 93) (b := 81) (x := y_b (y_nm (t_wk Z i))) (y := 0) (fun hc78 => ?_) (fun hc78 => ?_)
      · skip
        rw [y_b0] at hc78
        refine e_go hk_71 1 (c := (94, [.ref 4, .int what, .int wk, .int mo, .int (nI i), .int (t_wk Z i), y6], [.int 0], hp Z P L)) rfl ?_
        rw [show e_r 71 94 [.ref 4, .int what, .int wk, .int mo, .int (nI i), .int (t_wk Z i), y6] [.int 0] (hp Z P L) = e_r 71 94 [.ref 4, .int what, .int wk, .int mo, .int (nI i), .int (t_wk Z i), y6] [.int (t_wc Z n (t_wk Z i))] (hp Z P L) from by rw [t_wc, if_neg (by rw [hc78]; decide)]]
        refine e_go hk_71 4 (c := (if s_cnd .le (t_wc Z n (t_wk Z i)) mo = true then 108 else 102, [.ref 4, .int what, .int wk, .int mo, .int (nI i), .int (t_wk Z i), .int (t_wc Z n (t_wk Z i))], [], hp Z P L)) rfl ?_
        refine e_le (a := 108) (b := 102) (x := t_wc Z n (t_wk Z i)) (y := mo) (fun hc99 => ?_) (fun hc99 => ?_)
        · skip
          refine e_go hk_71 2 (c := (34, [.ref 4, .int what, .int wk, .int mo, .int ((nI i) + 1), .int (t_wk Z i), .int (t_wc Z n (t_wk Z i))], [], hp Z P L)) rfl ?_
          rw [t_wo, if_neg (fun z => absurd hc99 (Int32.not_le.mpr z)), nI_1]
          exact x_worst_l hN hn k (i + 1) _ _ _ _ (by omega)
        · skip
          refine e_go hk_71 6 (c := (34, [.ref 4, .int what, .int (t_wk Z i), .int (t_wc Z n (t_wk Z i)), .int ((nI i) + 1), .int (t_wk Z i), .int (t_wc Z n (t_wk Z i))], [], hp Z P L)) rfl ?_
          rw [t_wo, if_pos (Int32.not_le.mp hc99), nI_1]
          exact x_worst_l hN hn k (i + 1) _ _ _ _ (by omega)
      · skip
        rw [y_b1] at hc78
        refine e_go hk_71 3 (c := (87, [.ref 4, .int what, .int wk, .int mo, .int (nI i), .int (t_wk Z i), y6], [.int (t_wk Z i), .ref 5], hp Z P L)) rfl ?_
        refine e_call hk_71 (as := [.ref 5, .int (t_wk Z i)]) (rest := []) rfl rfl hk_44 rfl (Nat.le_of_ble_eq_true rfl) rfl (x_cost hN hn) ?_
        show e_r 71 90 [.ref 4, .int what, .int wk, .int mo, .int (nI i), .int (t_wk Z i), y6] [.int (t_cs Z n (t_wk Z i))] (hp Z P L) _ _
        refine e_go hk_71 1 (c := (94, [.ref 4, .int what, .int wk, .int mo, .int (nI i), .int (t_wk Z i), y6], [.int (t_cs Z n (t_wk Z i))], hp Z P L)) rfl ?_
        rw [show e_r 71 94 [.ref 4, .int what, .int wk, .int mo, .int (nI i), .int (t_wk Z i), y6] [.int (t_cs Z n (t_wk Z i))] (hp Z P L) = e_r 71 94 [.ref 4, .int what, .int wk, .int mo, .int (nI i), .int (t_wk Z i), y6] [.int (t_wc Z n (t_wk Z i))] (hp Z P L) from by rw [t_wc, if_pos hc78]]
        refine e_go hk_71 4 (c := (if s_cnd .le (t_wc Z n (t_wk Z i)) mo = true then 108 else 102, [.ref 4, .int what, .int wk, .int mo, .int (nI i), .int (t_wk Z i), .int (t_wc Z n (t_wk Z i))], [], hp Z P L)) rfl ?_
        refine e_le (a := 108) (b := 102) (x := t_wc Z n (t_wk Z i)) (y := mo) (fun hc99 => ?_) (fun hc99 => ?_)
        · skip
          refine e_go hk_71 2 (c := (34, [.ref 4, .int what, .int wk, .int mo, .int ((nI i) + 1), .int (t_wk Z i), .int (t_wc Z n (t_wk Z i))], [], hp Z P L)) rfl ?_
          rw [t_wo, if_neg (fun z => absurd hc99 (Int32.not_le.mpr z)), nI_1]
          exact x_worst_l hN hn k (i + 1) _ _ _ _ (by omega)
        · skip
          refine e_go hk_71 6 (c := (34, [.ref 4, .int what, .int (t_wk Z i), .int (t_wc Z n (t_wk Z i)), .int ((nI i) + 1), .int (t_wk Z i), .int (t_wc Z n (t_wk Z i))], [], hp Z P L)) rfl ?_
          rw [t_wo, if_pos (Int32.not_le.mp hc99), nI_1]
          exact x_worst_l hN hn k (i + 1) _ _ _ _ (by omega)
    · skip
      have hi0 : i = 0 := (nI_eq (by omega) (by decide)).mp (show nI i = nI 0 from hc48)
      have hK : t_wk Z i = 0 := by rw [t_wk, if_pos hi0]
      refine e_go hk_71 2 (c := (71, [.ref 4, .int what, .int wk, .int mo, .int (nI i), y5, y6], [.int 0], hp Z P L)) rfl ?_
      show e_r 71 71 [.ref 4, .int what, .int wk, .int mo, .int (nI i), y5, y6] [.int 0] _ _ _
      rw [show e_r 71 71 [.ref 4, .int what, .int wk, .int mo, .int (nI i), y5, y6] [.int 0] (hp Z P L) = e_r 71 71 [.ref 4, .int what, .int wk, .int mo, .int (nI i), y5, y6] [.int (t_wk Z i)] (hp Z P L) from by rw [hK]]
      refine e_go hk_71 2 (c := (75, [.ref 4, .int what, .int wk, .int mo, .int (nI i), .int (t_wk Z i), y6], [.int (t_wk Z i)], hp Z P L)) rfl ?_
      refine e_call hk_71 (as := [.int (t_wk Z i)]) (rest := []) rfl rfl hk_79 rfl (Nat.le_of_ble_eq_true rfl) rfl (x_num (k := t_wk Z i)) ?_
      show e_r 71 78 [.ref 4, .int what, .int wk, .int mo, .int (nI i), .int (t_wk Z i), y6] [.int (y_b (y_nm (t_wk Z i)))] (hp Z P L) _ _
      refine e_go hk_71 1 (c := (if s_cnd .eq (y_b (y_nm (t_wk Z i))) 0 = true then 93 else 81, [.ref 4, .int what, .int wk, .int mo, .int (nI i), .int (t_wk Z i), y6], [], hp Z P L)) rfl ?_
      refine e_eq (a := 93) (b := 81) (x := y_b (y_nm (t_wk Z i))) (y := 0) (fun hc78 => ?_) (fun hc78 => ?_)
      · skip
        rw [y_b0] at hc78
        refine e_go hk_71 1 (c := (94, [.ref 4, .int what, .int wk, .int mo, .int (nI i), .int (t_wk Z i), y6], [.int 0], hp Z P L)) rfl ?_
        rw [show e_r 71 94 [.ref 4, .int what, .int wk, .int mo, .int (nI i), .int (t_wk Z i), y6] [.int 0] (hp Z P L) = e_r 71 94 [.ref 4, .int what, .int wk, .int mo, .int (nI i), .int (t_wk Z i), y6] [.int (t_wc Z n (t_wk Z i))] (hp Z P L) from by rw [t_wc, if_neg (by rw [hc78]; decide)]]
        refine e_go hk_71 4 (c := (if s_cnd .le (t_wc Z n (t_wk Z i)) mo = true then 108 else 102, [.ref 4, .int what, .int wk, .int mo, .int (nI i), .int (t_wk Z i), .int (t_wc Z n (t_wk Z i))], [], hp Z P L)) rfl ?_
        refine e_le (a := 108) (b := 102) (x := t_wc Z n (t_wk Z i)) (y := mo) (fun hc99 => ?_) (fun hc99 => ?_)
        · skip
          refine e_go hk_71 2 (c := (34, [.ref 4, .int what, .int wk, .int mo, .int ((nI i) + 1), .int (t_wk Z i), .int (t_wc Z n (t_wk Z i))], [], hp Z P L)) rfl ?_
          rw [t_wo, if_neg (fun z => absurd hc99 (Int32.not_le.mpr z)), nI_1]
          exact x_worst_l hN hn k (i + 1) _ _ _ _ (by omega)
        · skip
          refine e_go hk_71 6 (c := (34, [.ref 4, .int what, .int (t_wk Z i), .int (t_wc Z n (t_wk Z i)), .int ((nI i) + 1), .int (t_wk Z i), .int (t_wc Z n (t_wk Z i))], [], hp Z P L)) rfl ?_
          rw [t_wo, if_pos (Int32.not_le.mp hc99), nI_1]
          exact x_worst_l hN hn k (i + 1) _ _ _ _ (by omega)
      · skip
        rw [y_b1] at hc78
        refine e_go hk_71 3 (c := (87, [.ref 4, .int what, .int wk, .int mo, .int (nI i), .int (t_wk Z i), y6], [.int (t_wk Z i), .ref 5], hp Z P L)) rfl ?_
        refine e_call hk_71 (as := [.ref 5, .int (t_wk Z i)]) (rest := []) rfl rfl hk_44 rfl (Nat.le_of_ble_eq_true rfl) rfl (x_cost hN hn) ?_
        show e_r 71 90 [.ref 4, .int what, .int wk, .int mo, .int (nI i), .int (t_wk Z i), y6] [.int (t_cs Z n (t_wk Z i))] (hp Z P L) _ _
        refine e_go hk_71 1 (c := (94, [.ref 4, .int what, .int wk, .int mo, .int (nI i), .int (t_wk Z i), y6], [.int (t_cs Z n (t_wk Z i))], hp Z P L)) rfl ?_
        rw [show e_r 71 94 [.ref 4, .int what, .int wk, .int mo, .int (nI i), .int (t_wk Z i), y6] [.int (t_cs Z n (t_wk Z i))] (hp Z P L) = e_r 71 94 [.ref 4, .int what, .int wk, .int mo, .int (nI i), .int (t_wk Z i), y6] [.int (t_wc Z n (t_wk Z i))] (hp Z P L) from by rw [t_wc, if_pos hc78]]
        refine e_go hk_71 4 (c := (if s_cnd .le (t_wc Z n (t_wk Z i)) mo = true then 108 else 102, [.ref 4, .int what, .int wk, .int mo, .int (nI i), .int (t_wk Z i), .int (t_wc Z n (t_wk Z i))], [], hp Z P L)) rfl ?_
        refine e_le (a := 108) (b := 102) (x := t_wc Z n (t_wk Z i)) (y := mo) (fun hc99 => ?_) (fun hc99 => ?_)
        · skip
          refine e_go hk_71 2 (c := (34, [.ref 4, .int what, .int wk, .int mo, .int ((nI i) + 1), .int (t_wk Z i), .int (t_wc Z n (t_wk Z i))], [], hp Z P L)) rfl ?_
          rw [t_wo, if_neg (fun z => absurd hc99 (Int32.not_le.mpr z)), nI_1]
          exact x_worst_l hN hn k (i + 1) _ _ _ _ (by omega)
        · skip
          refine e_go hk_71 6 (c := (34, [.ref 4, .int what, .int (t_wk Z i), .int (t_wc Z n (t_wk Z i)), .int ((nI i) + 1), .int (t_wk Z i), .int (t_wc Z n (t_wk Z i))], [], hp Z P L)) rfl ?_
          rw [t_wo, if_pos (Int32.not_le.mp hc99), nI_1]
          exact x_worst_l hN hn k (i + 1) _ _ _ _ (by omega)
theorem x_worst {Z : Nat → Nat → Int32} {P : Nat → Nat} {L n : Nat} (hN : Z 5 6 = nI n) (hn : n ≤ 60) {what : Int32} : m_r 71 [.ref 4, .int what] (hp Z P L) (some (.int (c_worst Z n what))) (hp Z P L) := by
  refine m_of (ls := [.ref 4, .int what, s_no, s_no, s_no, s_no, s_no]) hk_71 rfl rfl rfl ?_
  refine e_go hk_71 2 (c := (if s_cnd .eq what 0 = true then 12 else 4, [.ref 4, .int what, s_no, s_no, s_no, s_no, s_no], [], hp Z P L)) rfl ?_
  refine e_eq (a := 12) (b := 4) (x := what) (y := 0) (fun hc1 => ?_) (fun hc1 => ?_)
  · skip
    refine e_go hk_71 5 (c := (if s_cnd .lt (Z 5 6) 60 = true then 27 else 24, [.ref 4, .int what, s_no, s_no, s_no, s_no, s_no], [], hp Z P L)) rfl ?_
    refine e_lt (a := 27) (b := 24) (x := Z 5 6) (y := 60) (fun hc21 => ?_) (fun hc21 => ?_)
    · skip
      rw [hN] at hc21
      have hlt : n < 60 := (y_lt (by omega) (by decide)).mp (show nI n < nI 60 from hc21)
      refine e_go hk_71 6 (c := (34, [.ref 4, .int what, .int 0, .int 0, .int 0, s_no, s_no], [], hp Z P L)) rfl ?_
      rw [c_worst, if_pos (Or.inl hc1), if_pos hlt]
      exact x_worst_l hN hn (n + 1) 0 0 0 _ _ (by omega)
    · skip
      rw [hN] at hc21
      have hlt : ¬ n < 60 := fun z => hc21 (show nI n < nI 60 from (y_lt (by omega) (by decide)).mpr z)
      refine e_go hk_71 1 (c := (26, [.ref 4, .int what, s_no, s_no, s_no, s_no, s_no], [.int ((-4))], hp Z P L)) rfl ?_
      exact e_ret hk_71 rfl rfl rfl (by rw [c_worst, if_pos (Or.inl hc1), if_neg hlt]) rfl
  · skip
    refine e_go hk_71 3 (c := (if s_cnd .eq what 1 = true then 12 else 9, [.ref 4, .int what, s_no, s_no, s_no, s_no, s_no], [], hp Z P L)) rfl ?_
    refine e_eq (a := 12) (b := 9) (x := what) (y := 1) (fun hc6 => ?_) (fun hc6 => ?_)
    · skip
      refine e_go hk_71 5 (c := (if s_cnd .lt (Z 5 6) 60 = true then 27 else 24, [.ref 4, .int what, s_no, s_no, s_no, s_no, s_no], [], hp Z P L)) rfl ?_
      refine e_lt (a := 27) (b := 24) (x := Z 5 6) (y := 60) (fun hc21 => ?_) (fun hc21 => ?_)
      · skip
        rw [hN] at hc21
        have hlt : n < 60 := (y_lt (by omega) (by decide)).mp (show nI n < nI 60 from hc21)
        refine e_go hk_71 6 (c := (34, [.ref 4, .int what, .int 0, .int 0, .int 0, s_no, s_no], [], hp Z P L)) rfl ?_
        rw [c_worst, if_pos (Or.inr hc6), if_pos hlt]
        exact x_worst_l hN hn (n + 1) 0 0 0 _ _ (by omega)
      · skip
        rw [hN] at hc21
        have hlt : ¬ n < 60 := fun z => hc21 (show nI n < nI 60 from (y_lt (by omega) (by decide)).mpr z)
        refine e_go hk_71 1 (c := (26, [.ref 4, .int what, s_no, s_no, s_no, s_no, s_no], [.int ((-4))], hp Z P L)) rfl ?_
        exact e_ret hk_71 rfl rfl rfl (by rw [c_worst, if_pos (Or.inr hc6), if_neg hlt]) rfl
    · skip
      refine e_go hk_71 1 (c := (11, [.ref 4, .int what, s_no, s_no, s_no, s_no, s_no], [.int ((-2))], hp Z P L)) rfl ?_
      exact e_ret hk_71 rfl rfl rfl (by rw [c_worst, if_neg (by rw [not_or]; exact ⟨hc1, hc6⟩)]) rfl
theorem x_wipe {Z : Nat → Nat → Int32} {P : Nat → Nat} {L : Nat} : m_r 73 [.ref 4] (hp Z P L) (some (.int (Z 99 1))) (hp (s_upd Z 99 1 0) P L) := by
  refine m_of (ls := [.ref 4, s_no]) hk_73 rfl rfl rfl ?_
  refine e_go hk_73 9 (c := (17, [.ref 4, .int (Z 99 1)], [.int (Z 99 1)], hp (s_upd Z 99 1 0) P L)) rfl ?_
  exact e_ret hk_73 rfl rfl rfl rfl rfl
theorem t_ci_8 {w : Int64} : ∀ (k i : Nat), i + k = 8 → ∃ j : Nat, j ≤ 8 ∧ t_ci w i k = nI j
  | 0, i, h => ⟨8, Nat.le_refl _, rfl⟩
  | k + 1, i, h => by
    unfold t_ci
    split
    · split
      · exact ⟨i, by omega, rfl⟩
      · exact ⟨0, by omega, rfl⟩
    · split
      · exact ⟨0, by omega, rfl⟩
      · exact t_ci_8 k (i + 1) (by omega)
def c_text (Z : Nat → Nat → Int32) (g : Nat) (w : Int64) : Int32 × (Nat → Nat → Int32) := if (t_ci w 0 8).toNatClampNeg = 0 then (-2, Z) else if 80 < g + (t_ci w 0 8).toNatClampNeg then (-4, Z) else ((t_ap w (t_ci w 0 8).toNatClampNeg g Z) 99 1, t_ap w (t_ci w 0 8).toNatClampNeg g Z)
theorem x_text {Z : Nat → Nat → Int32} {P : Nat → Nat} {L : Nat} {g : Nat} {w : Int64} (hG : Z 99 1 = nI g) (hg : g ≤ 80) : m_r 72 [.ref 4, .long w] (hp Z P L) (some (.int (c_text Z g w).1)) (hp (c_text Z g w).2 P L) := by
  obtain ⟨j, hj8, hj⟩ := t_ci_8 (w := w) 8 0 rfl
  refine m_of (ls := [.ref 4, .long w, s_no, s_no]) hk_72 rfl rfl rfl ?_
  refine e_go hk_72 1 (c := (1, [.ref 4, .long w, s_no, s_no], [.long w], hp Z P L)) rfl ?_
  refine e_call hk_72 (as := [.long w]) (rest := []) rfl rfl hk_18 rfl (Nat.le_of_ble_eq_true rfl) rfl (show m_r 18 [.long w] (hp Z P L) (some (.int (nI j))) (hp Z P L) from (by rw [← hj]; exact x_ci)) ?_
  show e_r 72 4 [.ref 4, .long w, s_no, s_no] [.int (nI j)] (hp Z P L) _ _
  refine e_go hk_72 3 (c := (if s_cnd .gt (nI j) 0 = true then 12 else 9, [.ref 4, .long w, s_no, .int (nI j)], [], hp Z P L)) rfl ?_
  refine e_gt (a := 12) (b := 9) (x := nI j) (y := 0) (fun hc6 => ?_) (fun hc6 => ?_)
  · skip
    have h0 : ¬ j = 0 := fun z => by rw [z] at hc6; exact absurd hc6 (by decide)
    refine e_go hk_72 7 (c := (if s_cnd .le ((Z 99 1) + (nI j)) 80 = true then 29 else 26, [.ref 4, .long w, s_no, .int (nI j)], [], hp Z P L)) rfl ?_
    refine e_le (a := 29) (b := 26) (x := (Z 99 1) + (nI j)) (y := 80) (fun hc23 => ?_) (fun hc23 => ?_)
    · skip
      rw [hG, nI_add g j, show (80 : Int32) = nI 80 from rfl, y_le (by omega) (by omega)] at hc23
      refine e_go hk_72 4 (c := (35, [.ref 4, .long w, s_no, .int (nI j)], [.int (nI j), .long w, .ref 99], hp Z P L)) rfl ?_
      refine e_call hk_72 (as := [.ref 99, .long w, .int (nI j)]) (rest := []) rfl rfl hk_19 rfl (Nat.le_of_ble_eq_true rfl) rfl (x_append (k := j) hG (by omega)) ?_
      show e_r 72 38 [.ref 4, .long w, s_no, .int (nI j)] [] (hp ((t_ap w j g Z)) P L) _ _
      refine e_go hk_72 3 (c := (45, [.ref 4, .long w, s_no, .int (nI j)], [.int (((t_ap w j g Z)) 99 1)], hp ((t_ap w j g Z)) P L)) rfl ?_
      exact e_ret hk_72 rfl rfl rfl (by rw [c_text, hj, nI_clamp (by omega), if_neg h0, if_neg (by omega)]) (by rw [c_text, hj, nI_clamp (by omega), if_neg h0, if_neg (by omega)])
    · skip
      rw [hG, nI_add g j, show (80 : Int32) = nI 80 from rfl, y_le (by omega) (by omega)] at hc23
      refine e_go hk_72 1 (c := (28, [.ref 4, .long w, s_no, .int (nI j)], [.int ((-4))], hp Z P L)) rfl ?_
      exact e_ret hk_72 rfl rfl rfl (by rw [c_text, hj, nI_clamp (by omega), if_neg h0, if_pos (by omega)]) (by rw [c_text, hj, nI_clamp (by omega), if_neg h0, if_pos (by omega)])
  · skip
    have h0 : j = 0 := by
      rcases Nat.eq_zero_or_pos j with z | z
      · exact z
      · exact absurd ((nI_ltI (by decide) (by omega)).mpr z : nI 0 < nI j) hc6
    refine e_go hk_72 1 (c := (11, [.ref 4, .long w, s_no, .int (nI j)], [.int ((-2))], hp Z P L)) rfl ?_
    exact e_ret hk_72 rfl rfl rfl (by rw [c_text, hj, nI_clamp (by omega), if_pos h0]) (by rw [c_text, hj, nI_clamp (by omega), if_pos h0])
theorem t_r1o {Z : Nat → Nat → Int32} {c : Int32} {q : Nat} (hq : q ≠ 102) : (t_r1 Z c).2 q = Z q := by
  unfold t_r1
  split
  · show s_upd (s_upd (s_upd Z 102 0 c) 102 4 0) 102 1 1 q = Z q
    rw [s_upd_o hq, s_upd_o hq, s_upd_o hq]
  · rfl
theorem t_r2o {Z : Nat → Nat → Int32} {c : Int32} {q : Nat} (hq : q ≠ 102) : (t_r2 Z c).2 q = Z q := by
  unfold t_r2
  split
  · show s_upd (s_upd Z 102 3 (c - 48)) 102 1 2 q = Z q
    rw [s_upd_o hq, s_upd_o hq]
  · rfl
theorem t_r3o {Z : Nat → Nat → Int32} {c : Int32} {q : Nat} (hq : q ≠ 102) : (t_r3 Z c).2 q = Z q := by
  unfold t_r3
  split
  · show s_upd Z 102 3 (10 * Z 102 3 + c - 48) q = Z q
    rw [s_upd_o hq]
  · rfl
theorem t_r4o {Z : Nat → Nat → Int32} {c : Int32} {q : Nat} (hq : q ≠ 102) : (t_r4 Z c).2 q = Z q := by
  unfold t_r4
  split
  · show s_upd (s_upd (s_upd Z 102 2 (Z 102 3)) 102 4 1) 102 1 1 q = Z q
    rw [s_upd_o hq, s_upd_o hq, s_upd_o hq]
  · rfl
theorem t_r5o {Z : Nat → Nat → Int32} {c : Int32} {q : Nat} (hq : q ≠ 102) : (t_r5 Z c).2 q = Z q := by
  unfold t_r5
  split
  · show s_upd Z 102 1 0 q = Z q
    rw [s_upd_o hq]
  · rfl
theorem t_r_o {Z : Nat → Nat → Int32} {c : Int32} {q : Nat} (hq : q ≠ 102) : (t_rdr Z c).2 q = Z q := by
  unfold t_rdr
  split
  · exact t_r1o hq
  split
  · exact t_r2o hq
  split
  · exact t_r3o hq
  split
  · exact t_r4o hq
  · exact t_r5o hq
theorem t_r_s {Z : Nat → Nat → Int32} {c : Int32} (h : Z 102 1 = 0 ∨ Z 102 1 = 1 ∨ Z 102 1 = 2) : (t_rdr Z c).2 102 1 = 0 ∨ (t_rdr Z c).2 102 1 = 1 ∨ (t_rdr Z c).2 102 1 = 2 := by
  unfold t_rdr t_r1 t_r2 t_r3 t_r4 t_r5
  repeat (first | exact h | exact Or.inl rfl | exact Or.inr (Or.inl rfl) | exact Or.inr (Or.inr rfl) | split)
def t_fa : Nat → Nat → (Nat → Nat → Int32) → Int32 × (Nat → Nat → Int32)
  | _, 0, Z => (if Z 102 1 = 2 then -6 else Z 99 1, Z)
  | i, k + 1, Z => if (t_rdr Z (Z 101 i)).1 = true then t_fa (i + 1) k (t_rdr Z (Z 101 i)).2 else (nI i, (t_rdr Z (Z 101 i)).2)
theorem x_fault_l {P : Nat → Nat} {L g : Nat} (hg : g ≤ 80)  : ∀ (k i : Nat) (Z : Nat → Nat → Int32), Z 99 1 = nI g → (Z 102 1 = 0 ∨ Z 102 1 = 1 ∨ Z 102 1 = 2) → i + k = g → e_r 74 9 [.ref 4, .int (nI i)] [] (hp Z P L) (some (.int (t_fa i k Z).1)) (hp (t_fa i k Z).2 P L)
  | 0, i, Z, hG, hS, hi2 => by
    refine e_go hk_74 5 (c := (if s_cnd .ge (nI i) (Z 99 1) = true then 49 else 20, [.ref 4, .int (nI i)], [], hp Z P L)) rfl ?_
    refine e_ge (a := 49) (b := 20) (x := nI i) (y := Z 99 1) (fun hc17 => ?_) (fun hc17 => absurd (by rw [hG]; exact (y_le (by omega) (by omega)).mpr (by omega)) hc17)
    refine e_go hk_74 2 (c := (53, [.ref 4, .int (nI i)], [.ref 102], hp Z P L)) rfl ?_
    refine e_call hk_74 (as := [.ref 102]) (rest := []) rfl rfl hk_8 rfl (Nat.le_of_ble_eq_true rfl) rfl x_hasw ?_
    show e_r 74 56 [.ref 4, .int (nI i)] [.int (y_b (decide (Z 102 1 = 2)))] (hp Z P L) _ _
    refine e_go hk_74 1 (c := (if s_cnd .eq (y_b (decide (Z 102 1 = 2))) 0 = true then 64 else 59, [.ref 4, .int (nI i)], [], hp Z P L)) rfl ?_
    refine e_eq (a := 64) (b := 59) (x := y_b (decide (Z 102 1 = 2))) (y := 0) (fun hc56 => ?_) (fun hc56 => ?_)
    · skip
      rw [y_d0] at hc56
      refine e_go hk_74 3 (c := (71, [.ref 4, .int (nI i)], [.int (Z 99 1)], hp Z P L)) rfl ?_
      exact e_ret hk_74 rfl rfl rfl (by rw [t_fa, if_neg hc56]) rfl
    · skip
      rw [y_d1] at hc56
      refine e_go hk_74 2 (c := (71, [.ref 4, .int (nI i)], [.int ((-6))], hp Z P L)) rfl ?_
      exact e_ret hk_74 rfl rfl rfl (by rw [t_fa, if_pos hc56]) rfl
  | k + 1, i, Z, hG, hS, hi2 => by
    refine e_go hk_74 5 (c := (if s_cnd .ge (nI i) (Z 99 1) = true then 49 else 20, [.ref 4, .int (nI i)], [], hp Z P L)) rfl ?_
    refine e_ge (a := 49) (b := 20) (x := nI i) (y := Z 99 1) (fun hc17 => absurd hc17 (by rw [hG]; exact nI_ge (by omega) (by omega))) (fun hc17 => ?_)
    refine e_go hk_74 6 (c := (32, [.ref 4, .int (nI i)], [.int (nI i), .ref 100, .ref 102], hp Z P L)) rfl ?_
    refine e_call hk_74 (as := [.ref 100, .int (nI i)]) (rest := [.ref 102]) rfl rfl hk_22 rfl (Nat.le_of_ble_eq_true rfl) rfl (x_at (r := 100) (a := 101) (n := 80) rfl rfl rfl (by decide) (j := i) (by omega)) ?_
    show e_r 74 35 [.ref 4, .int (nI i)] [.int (Z 101 i), .ref 102] (hp Z P L) _ _
    refine e_call hk_74 (as := [.ref 102, .int (Z 101 i)]) (rest := []) rfl rfl hk_7 rfl (Nat.le_of_ble_eq_true rfl) rfl (x_rd (Z := Z) hS) ?_
    show e_r 74 38 [.ref 4, .int (nI i)] [.int (y_b (t_rdr Z (Z 101 i)).1)] (hp ((t_rdr Z (Z 101 i)).2) P L) _ _
    refine e_go hk_74 1 (c := (if s_cnd .ne (y_b (t_rdr Z (Z 101 i)).1) 0 = true then 43 else 41, [.ref 4, .int (nI i)], [], hp ((t_rdr Z (Z 101 i)).2) P L)) rfl ?_
    refine e_ne (a := 43) (b := 41) (x := y_b (t_rdr Z (Z 101 i)).1) (y := 0) (fun hc38 => ?_) (fun hc38 => ?_)
    · skip
      rw [y_b1] at hc38
      refine e_go hk_74 2 (c := (9, [.ref 4, .int ((nI i) + 1)], [], hp ((t_rdr Z (Z 101 i)).2) P L)) rfl ?_
      rw [t_fa, if_pos hc38, nI_1]
      exact x_fault_l hg k (i + 1) _ (by rw [t_r_o (by decide)]; exact hG) (t_r_s hS) (by omega)
    · skip
      rw [y_b0] at hc38
      refine e_go hk_74 1 (c := (42, [.ref 4, .int (nI i)], [.int (nI i)], hp ((t_rdr Z (Z 101 i)).2) P L)) rfl ?_
      exact e_ret hk_74 rfl rfl rfl (by rw [t_fa, if_neg (by rw [hc38]; decide)]) (by rw [t_fa, if_neg (by rw [hc38]; decide)])
theorem x_fault {Z : Nat → Nat → Int32} {P : Nat → Nat} {L : Nat} {g : Nat} (hG : Z 99 1 = nI g) (hg : g ≤ 80) : m_r 74 [.ref 4] (hp Z P L) (some (.int (t_fa 0 g (s_upd Z 102 1 0)).1)) (hp (t_fa 0 g (s_upd Z 102 1 0)).2 P L) := by
  refine m_of (ls := [.ref 4, s_no]) hk_74 rfl rfl rfl ?_
  refine e_go hk_74 2 (c := (4, [.ref 4, s_no], [.ref 102], hp Z P L)) rfl ?_
  refine e_call hk_74 (as := [.ref 102]) (rest := []) rfl rfl hk_6 rfl (Nat.le_of_ble_eq_true rfl) rfl x_begin ?_
  show e_r 74 7 [.ref 4, s_no] [] (hp (s_upd Z 102 1 0) P L) _ _
  refine e_go hk_74 2 (c := (9, [.ref 4, .int 0], [], hp (s_upd Z 102 1 0) P L)) rfl ?_
  exact x_fault_l hg g 0 _ (by rw [s_upd_o (by decide)]; exact hG) (Or.inl rfl) (by omega)
theorem x_undo_0 {Z : Nat → Nat → Int32} {P : Nat → Nat} {L : Nat} (hP : ∀ j, j < 6 → t_hs (P j)) (hM : Z 18 1 = nI 0) : m_r 76 [.ref 4] (hp Z P L) (some (.int (-5))) (hp Z P L) := by
  refine m_of (ls := [.ref 4]) hk_76 rfl rfl rfl ?_
  refine e_go hk_76 4 (c := (8, [.ref 4], [.ref 5, .ref 18], hp Z P L)) rfl ?_
  refine e_call hk_76 (as := [.ref 18, .ref 5]) (rest := []) rfl rfl hk_2 rfl (Nat.le_of_ble_eq_true rfl) rfl (show m_r 2 [.ref 18, .ref 5] (hp Z P L) (some (.int 0)) (hp Z P L) from x_take_0 (fun j hj => t_hs_at (hP j hj)) hM) ?_
  show e_r 76 11 [.ref 4] [.int 0] (hp Z P L) _ _
  refine e_go hk_76 1 (c := (if s_cnd .eq 0 0 = true then 24 else 14, [.ref 4], [], hp Z P L)) rfl ?_
  refine e_eq (a := 24) (b := 14) (x := 0) (y := 0) (fun hc11 => ?_) (fun hc11 => absurd (rfl) hc11)
  refine e_go hk_76 1 (c := (26, [.ref 4], [.int ((-5))], hp Z P L)) rfl ?_
  exact e_ret hk_76 rfl rfl rfl rfl rfl
theorem x_undo_s {Z : Nat → Nat → Int32} {P : Nat → Nat} {L : Nat} (hP : ∀ j, j < 6 → t_hs (P j)) {m : Nat} (hM : Z 18 1 = nI (m + 1)) (hm : m < 6) : m_r 76 [.ref 4] (hp Z P L) (some (.int ((t_tk Z P (m + 1)).2 18 1))) (hp (t_tk Z P (m + 1)).2 P L) := by
  refine m_of (ls := [.ref 4]) hk_76 rfl rfl rfl ?_
  refine e_go hk_76 4 (c := (8, [.ref 4], [.ref 5, .ref 18], hp Z P L)) rfl ?_
  refine e_call hk_76 (as := [.ref 18, .ref 5]) (rest := []) rfl rfl hk_2 rfl (Nat.le_of_ble_eq_true rfl) rfl (show m_r 2 [.ref 18, .ref 5] (hp Z P L) (some (.int 1)) (hp (t_tk Z P (m + 1)).2 P L) from x_take_s (fun j hj => t_hs_at (hP j hj)) hM hm) ?_
  show e_r 76 11 [.ref 4] [.int 1] (hp ((t_tk Z P (m + 1)).2) P L) _ _
  refine e_go hk_76 1 (c := (if s_cnd .eq 1 0 = true then 24 else 14, [.ref 4], [], hp ((t_tk Z P (m + 1)).2) P L)) rfl ?_
  refine e_eq (a := 24) (b := 14) (x := 1) (y := 0) (fun hc11 => absurd hc11 (by decide)) (fun hc11 => ?_)
  refine e_go hk_76 4 (c := (26, [.ref 4], [.int (((t_tk Z P (m + 1)).2) 18 1)], hp ((t_tk Z P (m + 1)).2) P L)) rfl ?_
  exact e_ret hk_76 rfl rfl rfl rfl rfl
theorem x_slot0 {Z : Nat → Nat → Int32} {P : Nat → Nat} {L : Nat} : m_r 81 [.ref 4, .int 0] (hp Z P L) (some (.ref 103)) (hp Z P L) := by
  refine m_of (ls := [.ref 4, .int 0]) hk_81 rfl rfl rfl ?_
  refine e_go hk_81 2 (c := (if s_cnd .lt 0 0 = true then 22 else 4, [.ref 4, .int 0], [], hp Z P L)) rfl ?_
  refine e_lt (a := 22) (b := 4) (x := 0) (y := 0) (fun hc1 => absurd hc1 (by decide)) (fun hc1 => ?_)
  refine e_go hk_81 5 (c := (if s_cnd .ge 0 2 = true then 22 else 13, [.ref 4, .int 0], [], hp Z P L)) rfl ?_
  refine e_ge (a := 22) (b := 13) (x := 0) (y := 2) (fun hc10 => absurd hc10 (by decide)) (fun hc10 => ?_)
  refine e_go hk_81 5 (c := (23, [.ref 4, .int 0], [.ref 103], hp Z P L)) rfl ?_
  exact e_ret hk_81 rfl rfl rfl rfl rfl
theorem x_slot1 {Z : Nat → Nat → Int32} {P : Nat → Nat} {L : Nat} : m_r 81 [.ref 4, .int 1] (hp Z P L) (some (.ref 117)) (hp Z P L) := by
  refine m_of (ls := [.ref 4, .int 1]) hk_81 rfl rfl rfl ?_
  refine e_go hk_81 2 (c := (if s_cnd .lt 1 0 = true then 22 else 4, [.ref 4, .int 1], [], hp Z P L)) rfl ?_
  refine e_lt (a := 22) (b := 4) (x := 1) (y := 0) (fun hc1 => absurd hc1 (by decide)) (fun hc1 => ?_)
  refine e_go hk_81 5 (c := (if s_cnd .ge 1 2 = true then 22 else 13, [.ref 4, .int 1], [], hp Z P L)) rfl ?_
  refine e_ge (a := 22) (b := 13) (x := 1) (y := 2) (fun hc10 => absurd hc10 (by decide)) (fun hc10 => ?_)
  refine e_go hk_81 5 (c := (23, [.ref 4, .int 1], [.ref 117], hp Z P L)) rfl ?_
  exact e_ret hk_81 rfl rfl rfl rfl rfl
theorem x_slot_no {Z : Nat → Nat → Int32} {P : Nat → Nat} {L : Nat} {s : Int32} (hq : s < 0 ∨ 2 ≤ s) : m_r 81 [.ref 4, .int s] (hp Z P L) (some .null) (hp Z P L) := by
  refine m_of (ls := [.ref 4, .int s]) hk_81 rfl rfl rfl ?_
  refine e_go hk_81 2 (c := (if s_cnd .lt s 0 = true then 22 else 4, [.ref 4, .int s], [], hp Z P L)) rfl ?_
  refine e_lt (a := 22) (b := 4) (x := s) (y := 0) (fun hc1 => ?_) (fun hc1 => ?_)
  · skip
    refine e_go hk_81 1 (c := (23, [.ref 4, .int s], [.null], hp Z P L)) rfl ?_
    exact e_ret hk_81 rfl rfl rfl rfl rfl
  · skip
    have h3 : 2 ≤ s := hq.elim (fun z => absurd z hc1) id
    refine e_go hk_81 5 (c := (if s_cnd .ge s 2 = true then 22 else 13, [.ref 4, .int s], [], hp Z P L)) rfl ?_
    refine e_ge (a := 22) (b := 13) (x := s) (y := 2) (fun hc10 => ?_) (fun hc10 => absurd (h3) hc10)
    refine e_go hk_81 1 (c := (23, [.ref 4, .int s], [.null], hp Z P L)) rfl ?_
    exact e_ret hk_81 rfl rfl rfl rfl rfl
theorem x_save_no {Z : Nat → Nat → Int32} {P : Nat → Nat} {L : Nat} {s : Int32} (hq : s < 0 ∨ 2 ≤ s) : m_r 77 [.ref 4, .int s] (hp Z P L) (some (.int (-2))) (hp Z P L) := by
  refine m_of (ls := [.ref 4, .int s, s_no]) hk_77 rfl rfl rfl ?_
  refine e_go hk_77 2 (c := (2, [.ref 4, .int s, s_no], [.int s, .ref 4], hp Z P L)) rfl ?_
  refine e_call hk_77 (as := [.ref 4, .int s]) (rest := []) rfl rfl hk_81 rfl (Nat.le_of_ble_eq_true rfl) rfl (x_slot_no hq) ?_
  show e_r 77 5 [.ref 4, .int s, s_no] [.null] (hp Z P L) _ _
  refine e_go hk_77 4 (c := (12, [.ref 4, .int s, .null], [.int ((-2))], hp Z P L)) rfl ?_
  exact e_ret hk_77 rfl rfl rfl rfl rfl
theorem x_rest_no {Z : Nat → Nat → Int32} {P : Nat → Nat} {L : Nat} {s : Int32} (hq : s < 0 ∨ 2 ≤ s) : m_r 78 [.ref 4, .int s] (hp Z P L) (some (.int (-2))) (hp Z P L) := by
  refine m_of (ls := [.ref 4, .int s, s_no]) hk_78 rfl rfl rfl ?_
  refine e_go hk_78 2 (c := (2, [.ref 4, .int s, s_no], [.int s, .ref 4], hp Z P L)) rfl ?_
  refine e_call hk_78 (as := [.ref 4, .int s]) (rest := []) rfl rfl hk_81 rfl (Nat.le_of_ble_eq_true rfl) rfl (x_slot_no hq) ?_
  show e_r 78 5 [.ref 4, .int s, s_no] [.null] (hp Z P L) _ _
  refine e_go hk_78 4 (c := (12, [.ref 4, .int s, .null], [.int ((-2))], hp Z P L)) rfl ?_
  exact e_ret hk_78 rfl rfl rfl rfl rfl
theorem t_bc_s {Z : Nat → Nat → Int32} {x y s : Nat} (hxy : y < x ∨ x + 12 < y) (hs : 6 ≤ s ∧ s ≤ 10) : t_bc Z x y x s = Z y s := by
  have e : ∀ (W : Nat → Nat → Int32) (s : Nat), t_bc5 W x y s y = W y := fun W s => s_upd_o (by omega)
  have g : ∀ (W : Nat → Nat → Int32) (s t : Nat), t_bc5 W x y s x t = if t = s then W y s else W x t := by
    intro W s t
    unfold t_bc5
    rw [s_upd_c]
    by_cases h : t = s
    · rw [if_pos ⟨rfl, h⟩, if_pos h]
    · rw [if_neg (fun z => h z.2), if_neg h]
  have f : t_bc6 Z x y y = Z y := by
    unfold t_bc6
    rw [t_cp_o (by omega), t_cp_o (by omega), t_cp_o (by omega), t_cp_o (by omega), t_cp_o (by omega), t_cp_o (by omega)]
  have hs2 : s = 6 ∨ s = 7 ∨ s = 8 ∨ s = 9 ∨ s = 10 := by omega
  unfold t_bc
  rcases hs2 with rfl | rfl | rfl | rfl | rfl <;> simp [g, e, f]
def c_save (Z : Nat → Nat → Int32) (c : Nat) : Nat → Nat → Int32 := s_upd (t_bc Z (c + 1) 5) c 1 1
def c_rest (Z : Nat → Nat → Int32) (P : Nat → Nat) (m c : Nat) : Nat → Nat → Int32 := t_bc (t_kZ Z P m) 5 (c + 1)
theorem x_save0 {Z : Nat → Nat → Int32} {P : Nat → Nat} {L n : Nat} (hN : Z 5 6 = nI n) (hn : n ≤ 60) : m_r 77 [.ref 4, .int 0] (hp Z P L) (some (.int (t_sm (Z 17) 0 n 0))) (hp (c_save Z 103) P L) := by
  have hN2 : c_save Z 103 5 6 = nI n := by unfold c_save; rw [s_upd_o (by decide), t_bc_o (by decide)]; exact hN
  have h17 : c_save Z 103 17 = Z 17 := by unfold c_save; rw [s_upd_o (by decide), t_bc_o (by decide)]
  refine m_of (ls := [.ref 4, .int 0, s_no]) hk_77 rfl rfl rfl ?_
  refine e_go hk_77 2 (c := (2, [.ref 4, .int 0, s_no], [.int 0, .ref 4], hp Z P L)) rfl ?_
  refine e_call hk_77 (as := [.ref 4, .int 0]) (rest := []) rfl rfl hk_81 rfl (Nat.le_of_ble_eq_true rfl) rfl x_slot0 ?_
  show e_r 77 5 [.ref 4, .int 0, s_no] [.ref 103] (hp Z P L) _ _
  refine e_go hk_77 7 (c := (21, [.ref 4, .int 0, .ref 103], [.ref 5, .ref 104], hp Z P L)) rfl ?_
  refine e_call hk_77 (as := [.ref 104, .ref 5]) (rest := []) rfl rfl hk_29 rfl (Nat.le_of_ble_eq_true rfl) rfl (x_tbec (x := 104) (y := 5) (h := hp Z P L) (t_at_is (show t_at 104 from by unfold t_at; omega)) (t_at_is (show t_at 5 from by unfold t_at; omega)) (t_at4 (show t_at 104 from by unfold t_at; omega)) (t_at4 (show t_at 5 from by unfold t_at; omega))) ?_
  show e_r 77 24 [.ref 4, .int 0, .ref 103] [] (hp ((t_bc Z 104 5)) P L) _ _
  refine e_go hk_77 5 (c := (33, [.ref 4, .int 0, .ref 103], [.ref 5], hp (s_upd ((t_bc Z 104 5)) 103 1 1) P L)) rfl ?_
  refine e_call hk_77 (as := [.ref 5]) (rest := []) rfl rfl hk_34 rfl (Nat.le_of_ble_eq_true rfl) rfl (show m_r 34 [.ref 5] (hp (c_save Z 103) P L) (some (.int (t_sm (Z 17) 0 n 0))) (hp (c_save Z 103) P L) from by have := x_all (Z := c_save Z 103) (P := P) (L := L) hN2 hn; rw [h17] at this; exact this) ?_
  show e_r 77 36 [.ref 4, .int 0, .ref 103] [.int (t_sm (Z 17) 0 n 0)] (hp (s_upd ((t_bc Z 104 5)) 103 1 1) P L) _ _
  exact e_ret hk_77 rfl rfl rfl rfl rfl
theorem x_rest0_e {Z : Nat → Nat → Int32} {P : Nat → Nat} {L : Nat} (hS : Z 103 1 = 0) : m_r 78 [.ref 4, .int 0] (hp Z P L) (some (.int (-5))) (hp Z P L) := by
  refine m_of (ls := [.ref 4, .int 0, s_no]) hk_78 rfl rfl rfl ?_
  refine e_go hk_78 2 (c := (2, [.ref 4, .int 0, s_no], [.int 0, .ref 4], hp Z P L)) rfl ?_
  refine e_call hk_78 (as := [.ref 4, .int 0]) (rest := []) rfl rfl hk_81 rfl (Nat.le_of_ble_eq_true rfl) rfl x_slot0 ?_
  show e_r 78 5 [.ref 4, .int 0, s_no] [.ref 103] (hp Z P L) _ _
  refine e_go hk_78 6 (c := (if s_cnd .ne (Z 103 1) 0 = true then 23 else 20, [.ref 4, .int 0, .ref 103], [], hp Z P L)) rfl ?_
  refine e_ne (a := 23) (b := 20) (x := Z 103 1) (y := 0) (fun hc17 => absurd (hS) hc17) (fun hc17 => ?_)
  refine e_go hk_78 1 (c := (22, [.ref 4, .int 0, .ref 103], [.int ((-5))], hp Z P L)) rfl ?_
  exact e_ret hk_78 rfl rfl rfl rfl rfl
theorem x_rest0 {Z : Nat → Nat → Int32} {P : Nat → Nat} {L n m : Nat} (hN : Z 5 6 = nI n) (hn : n ≤ 60) (hF : ∀ i, i < n → Z 17 i = 0 ∨ Z 17 i = 1) (hP : ∀ j, j < 6 → t_hs (P j)) (hM : Z 18 1 = nI m) (hm : m ≤ 6) {n2 : Nat} (hn2 : n2 ≤ 60) (hS : ¬ Z 103 1 = 0) (hT : Z 104 6 = nI n2) : m_r 78 [.ref 4, .int 0] (hp Z P L) (some (.int (t_sm (c_rest Z P m 103 17) 0 n2 0))) (hp (c_rest Z P m 103) (t_kP P m) L) := by
  have hN2 : c_rest Z P m 103 5 6 = nI n2 := by unfold c_rest; rw [t_bc_s (by omega) (by omega), t_kZ_o hP (by omega)]; exact hT
  refine m_of (ls := [.ref 4, .int 0, s_no]) hk_78 rfl rfl rfl ?_
  refine e_go hk_78 2 (c := (2, [.ref 4, .int 0, s_no], [.int 0, .ref 4], hp Z P L)) rfl ?_
  refine e_call hk_78 (as := [.ref 4, .int 0]) (rest := []) rfl rfl hk_81 rfl (Nat.le_of_ble_eq_true rfl) rfl x_slot0 ?_
  show e_r 78 5 [.ref 4, .int 0, s_no] [.ref 103] (hp Z P L) _ _
  refine e_go hk_78 6 (c := (if s_cnd .ne (Z 103 1) 0 = true then 23 else 20, [.ref 4, .int 0, .ref 103], [], hp Z P L)) rfl ?_
  refine e_ne (a := 23) (b := 20) (x := Z 103 1) (y := 0) (fun hc17 => ?_) (fun hc17 => absurd hc17 (hS))
  refine e_go hk_78 4 (c := (31, [.ref 4, .int 0, .ref 103], [.ref 5, .ref 18], hp Z P L)) rfl ?_
  refine e_call hk_78 (as := [.ref 18, .ref 5]) (rest := []) rfl rfl hk_1 rfl (Nat.le_of_ble_eq_true rfl) rfl (x_keep (fun j hj => t_hs_at (hP j hj)) hM hm) ?_
  show e_r 78 34 [.ref 4, .int 0, .ref 103] [] (hp ((t_kZ Z P m)) ((t_kP P m)) L) _ _
  refine e_go hk_78 4 (c := (42, [.ref 4, .int 0, .ref 103], [.ref 104, .ref 5], hp ((t_kZ Z P m)) ((t_kP P m)) L)) rfl ?_
  refine e_call hk_78 (as := [.ref 5, .ref 104]) (rest := []) rfl rfl hk_29 rfl (Nat.le_of_ble_eq_true rfl) rfl (x_tbec (x := 5) (y := 104) (h := hp ((t_kZ Z P m)) ((t_kP P m)) L) (t_at_is (show t_at 5 from by unfold t_at; omega)) (t_at_is (show t_at 104 from by unfold t_at; omega)) (t_at4 (show t_at 5 from by unfold t_at; omega)) (t_at4 (show t_at 104 from by unfold t_at; omega))) ?_
  show e_r 78 45 [.ref 4, .int 0, .ref 103] [] (hp ((t_bc ((t_kZ Z P m)) 5 104)) ((t_kP P m)) L) _ _
  refine e_go hk_78 2 (c := (49, [.ref 4, .int 0, .ref 103], [.ref 5], hp ((t_bc ((t_kZ Z P m)) 5 104)) ((t_kP P m)) L)) rfl ?_
  refine e_call hk_78 (as := [.ref 5]) (rest := []) rfl rfl hk_34 rfl (Nat.le_of_ble_eq_true rfl) rfl (x_all (Z := c_rest Z P m 103) hN2 hn2) ?_
  show e_r 78 52 [.ref 4, .int 0, .ref 103] [.int (t_sm (c_rest Z P m 103 17) 0 n2 0)] (hp ((t_bc ((t_kZ Z P m)) 5 104)) ((t_kP P m)) L) _ _
  exact e_ret hk_78 rfl rfl rfl rfl rfl
theorem x_save1 {Z : Nat → Nat → Int32} {P : Nat → Nat} {L n : Nat} (hN : Z 5 6 = nI n) (hn : n ≤ 60) : m_r 77 [.ref 4, .int 1] (hp Z P L) (some (.int (t_sm (Z 17) 0 n 0))) (hp (c_save Z 117) P L) := by
  have hN2 : c_save Z 117 5 6 = nI n := by unfold c_save; rw [s_upd_o (by decide), t_bc_o (by decide)]; exact hN
  have h17 : c_save Z 117 17 = Z 17 := by unfold c_save; rw [s_upd_o (by decide), t_bc_o (by decide)]
  refine m_of (ls := [.ref 4, .int 1, s_no]) hk_77 rfl rfl rfl ?_
  refine e_go hk_77 2 (c := (2, [.ref 4, .int 1, s_no], [.int 1, .ref 4], hp Z P L)) rfl ?_
  refine e_call hk_77 (as := [.ref 4, .int 1]) (rest := []) rfl rfl hk_81 rfl (Nat.le_of_ble_eq_true rfl) rfl x_slot1 ?_
  show e_r 77 5 [.ref 4, .int 1, s_no] [.ref 117] (hp Z P L) _ _
  refine e_go hk_77 7 (c := (21, [.ref 4, .int 1, .ref 117], [.ref 5, .ref 118], hp Z P L)) rfl ?_
  refine e_call hk_77 (as := [.ref 118, .ref 5]) (rest := []) rfl rfl hk_29 rfl (Nat.le_of_ble_eq_true rfl) rfl (x_tbec (x := 118) (y := 5) (h := hp Z P L) (t_at_is (show t_at 118 from by unfold t_at; omega)) (t_at_is (show t_at 5 from by unfold t_at; omega)) (t_at4 (show t_at 118 from by unfold t_at; omega)) (t_at4 (show t_at 5 from by unfold t_at; omega))) ?_
  show e_r 77 24 [.ref 4, .int 1, .ref 117] [] (hp ((t_bc Z 118 5)) P L) _ _
  refine e_go hk_77 5 (c := (33, [.ref 4, .int 1, .ref 117], [.ref 5], hp (s_upd ((t_bc Z 118 5)) 117 1 1) P L)) rfl ?_
  refine e_call hk_77 (as := [.ref 5]) (rest := []) rfl rfl hk_34 rfl (Nat.le_of_ble_eq_true rfl) rfl (show m_r 34 [.ref 5] (hp (c_save Z 117) P L) (some (.int (t_sm (Z 17) 0 n 0))) (hp (c_save Z 117) P L) from by have := x_all (Z := c_save Z 117) (P := P) (L := L) hN2 hn; rw [h17] at this; exact this) ?_
  show e_r 77 36 [.ref 4, .int 1, .ref 117] [.int (t_sm (Z 17) 0 n 0)] (hp (s_upd ((t_bc Z 118 5)) 117 1 1) P L) _ _
  exact e_ret hk_77 rfl rfl rfl rfl rfl
theorem x_rest1_e {Z : Nat → Nat → Int32} {P : Nat → Nat} {L : Nat} (hS : Z 117 1 = 0) : m_r 78 [.ref 4, .int 1] (hp Z P L) (some (.int (-5))) (hp Z P L) := by
  refine m_of (ls := [.ref 4, .int 1, s_no]) hk_78 rfl rfl rfl ?_
  refine e_go hk_78 2 (c := (2, [.ref 4, .int 1, s_no], [.int 1, .ref 4], hp Z P L)) rfl ?_
  refine e_call hk_78 (as := [.ref 4, .int 1]) (rest := []) rfl rfl hk_81 rfl (Nat.le_of_ble_eq_true rfl) rfl x_slot1 ?_
  show e_r 78 5 [.ref 4, .int 1, s_no] [.ref 117] (hp Z P L) _ _
  refine e_go hk_78 6 (c := (if s_cnd .ne (Z 117 1) 0 = true then 23 else 20, [.ref 4, .int 1, .ref 117], [], hp Z P L)) rfl ?_
  refine e_ne (a := 23) (b := 20) (x := Z 117 1) (y := 0) (fun hc17 => absurd (hS) hc17) (fun hc17 => ?_)
  refine e_go hk_78 1 (c := (22, [.ref 4, .int 1, .ref 117], [.int ((-5))], hp Z P L)) rfl ?_
  exact e_ret hk_78 rfl rfl rfl rfl rfl
theorem x_rest1 {Z : Nat → Nat → Int32} {P : Nat → Nat} {L n m : Nat} (hN : Z 5 6 = nI n) (hn : n ≤ 60) (hF : ∀ i, i < n → Z 17 i = 0 ∨ Z 17 i = 1) (hP : ∀ j, j < 6 → t_hs (P j)) (hM : Z 18 1 = nI m) (hm : m ≤ 6) {n2 : Nat} (hn2 : n2 ≤ 60) (hS : ¬ Z 117 1 = 0) (hT : Z 118 6 = nI n2) : m_r 78 [.ref 4, .int 1] (hp Z P L) (some (.int (t_sm (c_rest Z P m 117 17) 0 n2 0))) (hp (c_rest Z P m 117) (t_kP P m) L) := by
  have hN2 : c_rest Z P m 117 5 6 = nI n2 := by unfold c_rest; rw [t_bc_s (by omega) (by omega), t_kZ_o hP (by omega)]; exact hT
  refine m_of (ls := [.ref 4, .int 1, s_no]) hk_78 rfl rfl rfl ?_
  refine e_go hk_78 2 (c := (2, [.ref 4, .int 1, s_no], [.int 1, .ref 4], hp Z P L)) rfl ?_
  refine e_call hk_78 (as := [.ref 4, .int 1]) (rest := []) rfl rfl hk_81 rfl (Nat.le_of_ble_eq_true rfl) rfl x_slot1 ?_
  show e_r 78 5 [.ref 4, .int 1, s_no] [.ref 117] (hp Z P L) _ _
  refine e_go hk_78 6 (c := (if s_cnd .ne (Z 117 1) 0 = true then 23 else 20, [.ref 4, .int 1, .ref 117], [], hp Z P L)) rfl ?_
  refine e_ne (a := 23) (b := 20) (x := Z 117 1) (y := 0) (fun hc17 => ?_) (fun hc17 => absurd hc17 (hS))
  refine e_go hk_78 4 (c := (31, [.ref 4, .int 1, .ref 117], [.ref 5, .ref 18], hp Z P L)) rfl ?_
  refine e_call hk_78 (as := [.ref 18, .ref 5]) (rest := []) rfl rfl hk_1 rfl (Nat.le_of_ble_eq_true rfl) rfl (x_keep (fun j hj => t_hs_at (hP j hj)) hM hm) ?_
  show e_r 78 34 [.ref 4, .int 1, .ref 117] [] (hp ((t_kZ Z P m)) ((t_kP P m)) L) _ _
  refine e_go hk_78 4 (c := (42, [.ref 4, .int 1, .ref 117], [.ref 118, .ref 5], hp ((t_kZ Z P m)) ((t_kP P m)) L)) rfl ?_
  refine e_call hk_78 (as := [.ref 5, .ref 118]) (rest := []) rfl rfl hk_29 rfl (Nat.le_of_ble_eq_true rfl) rfl (x_tbec (x := 5) (y := 118) (h := hp ((t_kZ Z P m)) ((t_kP P m)) L) (t_at_is (show t_at 5 from by unfold t_at; omega)) (t_at_is (show t_at 118 from by unfold t_at; omega)) (t_at4 (show t_at 5 from by unfold t_at; omega)) (t_at4 (show t_at 118 from by unfold t_at; omega))) ?_
  show e_r 78 45 [.ref 4, .int 1, .ref 117] [] (hp ((t_bc ((t_kZ Z P m)) 5 118)) ((t_kP P m)) L) _ _
  refine e_go hk_78 2 (c := (49, [.ref 4, .int 1, .ref 117], [.ref 5], hp ((t_bc ((t_kZ Z P m)) 5 118)) ((t_kP P m)) L)) rfl ?_
  refine e_call hk_78 (as := [.ref 5]) (rest := []) rfl rfl hk_34 rfl (Nat.le_of_ble_eq_true rfl) rfl (x_all (Z := c_rest Z P m 117) hN2 hn2) ?_
  show e_r 78 52 [.ref 4, .int 1, .ref 117] [.int (t_sm (c_rest Z P m 117 17) 0 n2 0)] (hp ((t_bc ((t_kZ Z P m)) 5 118)) ((t_kP P m)) L) _ _
  exact e_ret hk_78 rfl rfl rfl rfl rfl
end
section
/-! The calls: node, count; printed by wip/whole/gen/calls4.py -/
def t_ktp (Z : Nat → Nat → Int32) (l u : Nat) (d : Int32) : Int32 := if u ≤ l then -6 else Z 9 (t_tp (Z 15) d l (u - 1 - l))
theorem x_ktp {Z : Nat → Nat → Int32} {P : Nat → Nat} {L : Nat} {l u : Nat} {d : Int32} (hl : l ≤ 60) (hu : u ≤ 60) : m_r 85 [.ref 4, .int (nI l), .int (nI u - 1), .int d] (hp Z P L) (some (.int (t_ktp Z l u d))) (hp Z P L) := by
  refine m_of (ls := [.ref 4, .int (nI l), .int (nI u - 1), .int d]) hk_85 rfl rfl rfl ?_
  refine e_go hk_85 3 (c := (if s_cnd .le (nI l) (nI u - 1) = true then 10 else 5, [.ref 4, .int (nI l), .int (nI u - 1), .int d], [], hp Z P L)) rfl ?_
  refine e_le (a := 10) (b := 5) (x := nI l) (y := nI u - 1) (fun hc2 => ?_) (fun hc2 => ?_)
  · skip
    have hul : ¬ u ≤ l := fun z => absurd hc2 (Int32.not_le.mpr ((y_m1lt (by omega) (by omega)).mpr z))
    refine e_go hk_85 8 (c := (24, [.ref 4, .int (nI l), .int (nI u - 1), .int d], [.int d, .int (nI u - 1), .int (nI l), .ref 5, .ref 8], hp Z P L)) rfl ?_
    rw [y_m1s (u := u) (by omega)]
    refine e_call hk_85 (as := [.ref 5, .int (nI l), .int (nI (u - 1)), .int d]) (rest := [.ref 8]) rfl rfl hk_39 rfl (Nat.le_of_ble_eq_true rfl) rfl (x_top (l := l) (u := u - 1) (by omega) (by omega)) ?_
    show e_r 85 27 [.ref 4, .int (nI l), .int (nI (u - 1)), .int d] [.int (nI (t_tp (Z 15) d l (u - 1 - l))), .ref 8] (hp Z P L) _ _
    have htp := t_tp_le (Z 15) d (u - 1 - l) l
    refine e_call hk_85 (as := [.ref 8, .int (nI (t_tp (Z 15) d l (u - 1 - l)))]) (rest := []) rfl rfl hk_22 rfl (Nat.le_of_ble_eq_true rfl) rfl (x_at (r := 8) (a := 9) (n := 60) rfl rfl rfl (by decide) (j := t_tp (Z 15) d l (u - 1 - l)) (by omega)) ?_
    show e_r 85 30 [.ref 4, .int (nI l), .int (nI (u - 1)), .int d] [.int (Z 9 (t_tp (Z 15) d l (u - 1 - l)))] (hp Z P L) _ _
    exact e_ret hk_85 rfl rfl rfl (by rw [t_ktp, if_neg hul]) rfl
  · skip
    have hul : u ≤ l := (y_m1lt (by omega) (by omega)).mp (Int32.not_le.mp hc2)
    refine e_go hk_85 2 (c := (30, [.ref 4, .int (nI l), .int (nI u - 1), .int d], [.int ((-6))], hp Z P L)) rfl ?_
    exact e_ret hk_85 rfl rfl rfl (by rw [t_ktp, if_pos hul]) rfl
def c_count (Z : Nat → Nat → Int32) (n : Nat) : Nat → Int32
  | 0 => nI n
  | 1 => t_sm (Z 17) 0 n 0
  | 2 => t_ktp Z 0 n 0
  | 3 => if n = 0 then -6 else t_mx (Z 15) 0 (n - 0) (Z 15 0)
  | 4 => Z 5 7
  | 5 => Z 5 8 + 1000000
  | 6 => t_sm (Z 13) 0 (n - 0) 0
  | 7 => Z 5 9
  | 8 => Z 5 10
  | 9 => t_lnc Z n 0 n 0
  | 10 => Z 7 0
  | 11 => Z 7 1
  | 12 => Z 7 2
  | 13 => Z 99 1
  | 14 => Z 18 1
  | _ => -2
theorem x_shape0 {Z : Nat → Nat → Int32} {P : Nat → Nat} {L n : Nat} (hN : Z 5 6 = nI n) (hn : n ≤ 60) : m_r 83 [.ref 4, .int 0] (hp Z P L) (some (.int (c_count Z n 0))) (hp Z P L) := by
  refine m_of (ls := [.ref 4, .int 0, s_no]) hk_83 rfl rfl rfl ?_
  refine e_go hk_83 6 (c := (10, [.ref 4, .int 0, .int ((Z 5 6) - 1)], [], hp Z P L)) rfl ?_
  rw [hN]
  refine e_go hk_83 5 (c := (43, [.ref 4, .int 0, .int (nI n - 1)], [.int (Z 5 6)], hp Z P L)) rfl ?_
  exact e_ret hk_83 rfl rfl rfl (by rw [hN]; rfl) rfl
theorem x_count0 {Z : Nat → Nat → Int32} {P : Nat → Nat} {L n : Nat} (hN : Z 5 6 = nI n) (hn : n ≤ 60) : m_r 63 [.ref 4, .int 0] (hp Z P L) (some (.int (c_count Z n 0))) (hp Z P L) := by
  refine m_of (ls := [.ref 4, .int 0]) hk_63 rfl rfl rfl ?_
  refine e_go hk_63 2 (c := (if s_cnd .lt 0 0 = true then 10 else 4, [.ref 4, .int 0], [], hp Z P L)) rfl ?_
  refine e_lt (a := 10) (b := 4) (x := 0) (y := 0) (fun hc1 => absurd hc1 (by decide)) (fun hc1 => ?_)
  refine e_go hk_63 3 (c := (if s_cnd .le 0 14 = true then 13 else 10, [.ref 4, .int 0], [], hp Z P L)) rfl ?_
  refine e_le (a := 13) (b := 10) (x := 0) (y := 14) (fun hc7 => ?_) (fun hc7 => absurd (by decide) hc7)
  refine e_go hk_63 5 (c := (if s_cnd .ge 0 4 = true then 69 else 61, [.ref 4, .int 0], [], hp Z P L)) rfl ?_
  refine e_ge (a := 69) (b := 61) (x := 0) (y := 4) (fun hc58 => absurd hc58 (by decide)) (fun hc58 => ?_)
  refine e_go hk_63 2 (c := (63, [.ref 4, .int 0], [.int 0, .ref 4], hp Z P L)) rfl ?_
  refine e_call hk_63 (as := [.ref 4, .int 0]) (rest := []) rfl rfl hk_83 rfl (Nat.le_of_ble_eq_true rfl) rfl (x_shape0 hN hn) ?_
  show e_r 63 66 [.ref 4, .int 0] [.int (c_count Z n 0)] (hp Z P L) _ _
  refine e_go hk_63 1 (c := (74, [.ref 4, .int 0], [.int (c_count Z n 0)], hp Z P L)) rfl ?_
  exact e_ret hk_63 rfl rfl rfl rfl rfl
theorem x_shape1 {Z : Nat → Nat → Int32} {P : Nat → Nat} {L n : Nat} (hN : Z 5 6 = nI n) (hn : n ≤ 60) : m_r 83 [.ref 4, .int 1] (hp Z P L) (some (.int (c_count Z n 1))) (hp Z P L) := by
  refine m_of (ls := [.ref 4, .int 1, s_no]) hk_83 rfl rfl rfl ?_
  refine e_go hk_83 6 (c := (10, [.ref 4, .int 1, .int ((Z 5 6) - 1)], [], hp Z P L)) rfl ?_
  rw [hN]
  refine e_go hk_83 4 (c := (48, [.ref 4, .int 1, .int (nI n - 1)], [.ref 5], hp Z P L)) rfl ?_
  refine e_call hk_83 (as := [.ref 5]) (rest := []) rfl rfl hk_34 rfl (Nat.le_of_ble_eq_true rfl) rfl (x_all hN hn) ?_
  show e_r 83 51 [.ref 4, .int 1, .int (nI n - 1)] [.int (t_sm (Z 17) 0 n 0)] (hp Z P L) _ _
  exact e_ret hk_83 rfl rfl rfl rfl rfl
theorem x_count1 {Z : Nat → Nat → Int32} {P : Nat → Nat} {L n : Nat} (hN : Z 5 6 = nI n) (hn : n ≤ 60) : m_r 63 [.ref 4, .int 1] (hp Z P L) (some (.int (c_count Z n 1))) (hp Z P L) := by
  refine m_of (ls := [.ref 4, .int 1]) hk_63 rfl rfl rfl ?_
  refine e_go hk_63 2 (c := (if s_cnd .lt 1 0 = true then 10 else 4, [.ref 4, .int 1], [], hp Z P L)) rfl ?_
  refine e_lt (a := 10) (b := 4) (x := 1) (y := 0) (fun hc1 => absurd hc1 (by decide)) (fun hc1 => ?_)
  refine e_go hk_63 3 (c := (if s_cnd .le 1 14 = true then 13 else 10, [.ref 4, .int 1], [], hp Z P L)) rfl ?_
  refine e_le (a := 13) (b := 10) (x := 1) (y := 14) (fun hc7 => ?_) (fun hc7 => absurd (by decide) hc7)
  refine e_go hk_63 5 (c := (if s_cnd .ge 1 4 = true then 69 else 61, [.ref 4, .int 1], [], hp Z P L)) rfl ?_
  refine e_ge (a := 69) (b := 61) (x := 1) (y := 4) (fun hc58 => absurd hc58 (by decide)) (fun hc58 => ?_)
  refine e_go hk_63 2 (c := (63, [.ref 4, .int 1], [.int 1, .ref 4], hp Z P L)) rfl ?_
  refine e_call hk_63 (as := [.ref 4, .int 1]) (rest := []) rfl rfl hk_83 rfl (Nat.le_of_ble_eq_true rfl) rfl (x_shape1 hN hn) ?_
  show e_r 63 66 [.ref 4, .int 1] [.int (c_count Z n 1)] (hp Z P L) _ _
  refine e_go hk_63 1 (c := (74, [.ref 4, .int 1], [.int (c_count Z n 1)], hp Z P L)) rfl ?_
  exact e_ret hk_63 rfl rfl rfl rfl rfl
theorem x_shape2 {Z : Nat → Nat → Int32} {P : Nat → Nat} {L n : Nat} (hN : Z 5 6 = nI n) (hn : n ≤ 60) : m_r 83 [.ref 4, .int 2] (hp Z P L) (some (.int (c_count Z n 2))) (hp Z P L) := by
  refine m_of (ls := [.ref 4, .int 2, s_no]) hk_83 rfl rfl rfl ?_
  refine e_go hk_83 6 (c := (10, [.ref 4, .int 2, .int ((Z 5 6) - 1)], [], hp Z P L)) rfl ?_
  rw [hN]
  refine e_go hk_83 6 (c := (56, [.ref 4, .int 2, .int (nI n - 1)], [.int 0, .int (nI n - 1), .int 0, .ref 4], hp Z P L)) rfl ?_
  refine e_call hk_83 (as := [.ref 4, .int (nI 0), .int (nI n - 1), .int 0]) (rest := []) rfl rfl hk_85 rfl (Nat.le_of_ble_eq_true rfl) rfl (x_ktp (l := 0) (u := n) (by omega) hn) ?_
  show e_r 83 59 [.ref 4, .int 2, .int (nI n - 1)] [.int (t_ktp Z 0 n 0)] (hp Z P L) _ _
  exact e_ret hk_83 rfl rfl rfl rfl rfl
theorem x_count2 {Z : Nat → Nat → Int32} {P : Nat → Nat} {L n : Nat} (hN : Z 5 6 = nI n) (hn : n ≤ 60) : m_r 63 [.ref 4, .int 2] (hp Z P L) (some (.int (c_count Z n 2))) (hp Z P L) := by
  refine m_of (ls := [.ref 4, .int 2]) hk_63 rfl rfl rfl ?_
  refine e_go hk_63 2 (c := (if s_cnd .lt 2 0 = true then 10 else 4, [.ref 4, .int 2], [], hp Z P L)) rfl ?_
  refine e_lt (a := 10) (b := 4) (x := 2) (y := 0) (fun hc1 => absurd hc1 (by decide)) (fun hc1 => ?_)
  refine e_go hk_63 3 (c := (if s_cnd .le 2 14 = true then 13 else 10, [.ref 4, .int 2], [], hp Z P L)) rfl ?_
  refine e_le (a := 13) (b := 10) (x := 2) (y := 14) (fun hc7 => ?_) (fun hc7 => absurd (by decide) hc7)
  refine e_go hk_63 5 (c := (if s_cnd .ge 2 4 = true then 69 else 61, [.ref 4, .int 2], [], hp Z P L)) rfl ?_
  refine e_ge (a := 69) (b := 61) (x := 2) (y := 4) (fun hc58 => absurd hc58 (by decide)) (fun hc58 => ?_)
  refine e_go hk_63 2 (c := (63, [.ref 4, .int 2], [.int 2, .ref 4], hp Z P L)) rfl ?_
  refine e_call hk_63 (as := [.ref 4, .int 2]) (rest := []) rfl rfl hk_83 rfl (Nat.le_of_ble_eq_true rfl) rfl (x_shape2 hN hn) ?_
  show e_r 63 66 [.ref 4, .int 2] [.int (c_count Z n 2)] (hp Z P L) _ _
  refine e_go hk_63 1 (c := (74, [.ref 4, .int 2], [.int (c_count Z n 2)], hp Z P L)) rfl ?_
  exact e_ret hk_63 rfl rfl rfl rfl rfl
theorem x_shape3 {Z : Nat → Nat → Int32} {P : Nat → Nat} {L n : Nat} (hN : Z 5 6 = nI n) (hn : n ≤ 60) : m_r 83 [.ref 4, .int 3] (hp Z P L) (some (.int (c_count Z n 3))) (hp Z P L) := by
  refine m_of (ls := [.ref 4, .int 3, s_no]) hk_83 rfl rfl rfl ?_
  refine e_go hk_83 6 (c := (10, [.ref 4, .int 3, .int ((Z 5 6) - 1)], [], hp Z P L)) rfl ?_
  rw [hN]
  refine e_go hk_83 6 (c := (if s_cnd .ne (Z 5 6) 0 = true then 75 else 70, [.ref 4, .int 3, .int (nI n - 1)], [], hp Z P L)) rfl ?_
  refine e_ne (a := 75) (b := 70) (x := Z 5 6) (y := 0) (fun hc67 => ?_) (fun hc67 => ?_)
  · skip
    have h0 : ¬ n = 0 := fun z => hc67 (by rw [hN, z]; rfl)
    refine e_go hk_83 5 (c := (84, [.ref 4, .int 3, .int (nI n - 1)], [.int (nI n - 1), .int 0, .ref 14], hp Z P L)) rfl ?_
    refine e_call hk_83 (as := [.ref 14, .int (nI 0), .int (nI n - 1)]) (rest := []) rfl rfl hk_26 rfl (Nat.le_of_ble_eq_true rfl) rfl (x_great (r := 14) (a := 15) (n := 60) rfl rfl rfl (by decide) (l := 0) (u := n) (by omega) hn) ?_
    show e_r 83 87 [.ref 4, .int 3, .int (nI n - 1)] [.int (t_mx (Z 15) 0 (n - 0) (Z 15 0))] (hp Z P L) _ _
    exact e_ret hk_83 rfl rfl rfl (by rw [c_count, if_neg h0]) rfl
  · skip
    have h0 : n = 0 := (nI_eq (by omega) (by decide)).mp (show nI n = nI 0 by rw [← hN]; exact hc67)
    refine e_go hk_83 2 (c := (87, [.ref 4, .int 3, .int (nI n - 1)], [.int ((-6))], hp Z P L)) rfl ?_
    exact e_ret hk_83 rfl rfl rfl (by rw [c_count, if_pos h0]) rfl
theorem x_count3 {Z : Nat → Nat → Int32} {P : Nat → Nat} {L n : Nat} (hN : Z 5 6 = nI n) (hn : n ≤ 60) : m_r 63 [.ref 4, .int 3] (hp Z P L) (some (.int (c_count Z n 3))) (hp Z P L) := by
  refine m_of (ls := [.ref 4, .int 3]) hk_63 rfl rfl rfl ?_
  refine e_go hk_63 2 (c := (if s_cnd .lt 3 0 = true then 10 else 4, [.ref 4, .int 3], [], hp Z P L)) rfl ?_
  refine e_lt (a := 10) (b := 4) (x := 3) (y := 0) (fun hc1 => absurd hc1 (by decide)) (fun hc1 => ?_)
  refine e_go hk_63 3 (c := (if s_cnd .le 3 14 = true then 13 else 10, [.ref 4, .int 3], [], hp Z P L)) rfl ?_
  refine e_le (a := 13) (b := 10) (x := 3) (y := 14) (fun hc7 => ?_) (fun hc7 => absurd (by decide) hc7)
  refine e_go hk_63 5 (c := (if s_cnd .ge 3 4 = true then 69 else 61, [.ref 4, .int 3], [], hp Z P L)) rfl ?_
  refine e_ge (a := 69) (b := 61) (x := 3) (y := 4) (fun hc58 => absurd hc58 (by decide)) (fun hc58 => ?_)
  refine e_go hk_63 2 (c := (63, [.ref 4, .int 3], [.int 3, .ref 4], hp Z P L)) rfl ?_
  refine e_call hk_63 (as := [.ref 4, .int 3]) (rest := []) rfl rfl hk_83 rfl (Nat.le_of_ble_eq_true rfl) rfl (x_shape3 hN hn) ?_
  show e_r 63 66 [.ref 4, .int 3] [.int (c_count Z n 3)] (hp Z P L) _ _
  refine e_go hk_63 1 (c := (74, [.ref 4, .int 3], [.int (c_count Z n 3)], hp Z P L)) rfl ?_
  exact e_ret hk_63 rfl rfl rfl rfl rfl
theorem x_books4 {Z : Nat → Nat → Int32} {P : Nat → Nat} {L n : Nat} (hN : Z 5 6 = nI n) (hn : n ≤ 60) : m_r 84 [.ref 4, .int 4] (hp Z P L) (some (.int (c_count Z n 4))) (hp Z P L) := by
  refine m_of (ls := [.ref 4, .int 4]) hk_84 rfl rfl rfl ?_
  refine e_go hk_84 5 (c := (47, [.ref 4, .int 4], [.int (Z 5 7)], hp Z P L)) rfl ?_
  exact e_ret hk_84 rfl rfl rfl rfl rfl
theorem x_count4 {Z : Nat → Nat → Int32} {P : Nat → Nat} {L n : Nat} (hN : Z 5 6 = nI n) (hn : n ≤ 60) : m_r 63 [.ref 4, .int 4] (hp Z P L) (some (.int (c_count Z n 4))) (hp Z P L) := by
  refine m_of (ls := [.ref 4, .int 4]) hk_63 rfl rfl rfl ?_
  refine e_go hk_63 2 (c := (if s_cnd .lt 4 0 = true then 10 else 4, [.ref 4, .int 4], [], hp Z P L)) rfl ?_
  refine e_lt (a := 10) (b := 4) (x := 4) (y := 0) (fun hc1 => absurd hc1 (by decide)) (fun hc1 => ?_)
  refine e_go hk_63 3 (c := (if s_cnd .le 4 14 = true then 13 else 10, [.ref 4, .int 4], [], hp Z P L)) rfl ?_
  refine e_le (a := 13) (b := 10) (x := 4) (y := 14) (fun hc7 => ?_) (fun hc7 => absurd (by decide) hc7)
  refine e_go hk_63 5 (c := (if s_cnd .ge 4 4 = true then 69 else 61, [.ref 4, .int 4], [], hp Z P L)) rfl ?_
  refine e_ge (a := 69) (b := 61) (x := 4) (y := 4) (fun hc58 => ?_) (fun hc58 => absurd (by decide) hc58)
  refine e_go hk_63 2 (c := (71, [.ref 4, .int 4], [.int 4, .ref 4], hp Z P L)) rfl ?_
  refine e_call hk_63 (as := [.ref 4, .int 4]) (rest := []) rfl rfl hk_84 rfl (Nat.le_of_ble_eq_true rfl) rfl (x_books4 hN hn) ?_
  show e_r 63 74 [.ref 4, .int 4] [.int (c_count Z n 4)] (hp Z P L) _ _
  exact e_ret hk_63 rfl rfl rfl rfl rfl
theorem x_books5 {Z : Nat → Nat → Int32} {P : Nat → Nat} {L n : Nat} (hN : Z 5 6 = nI n) (hn : n ≤ 60) : m_r 84 [.ref 4, .int 5] (hp Z P L) (some (.int (c_count Z n 5))) (hp Z P L) := by
  refine m_of (ls := [.ref 4, .int 5]) hk_84 rfl rfl rfl ?_
  refine e_go hk_84 7 (c := (58, [.ref 4, .int 5], [.int ((Z 5 8) + 1000000)], hp Z P L)) rfl ?_
  exact e_ret hk_84 rfl rfl rfl rfl rfl
theorem x_count5 {Z : Nat → Nat → Int32} {P : Nat → Nat} {L n : Nat} (hN : Z 5 6 = nI n) (hn : n ≤ 60) : m_r 63 [.ref 4, .int 5] (hp Z P L) (some (.int (c_count Z n 5))) (hp Z P L) := by
  refine m_of (ls := [.ref 4, .int 5]) hk_63 rfl rfl rfl ?_
  refine e_go hk_63 2 (c := (if s_cnd .lt 5 0 = true then 10 else 4, [.ref 4, .int 5], [], hp Z P L)) rfl ?_
  refine e_lt (a := 10) (b := 4) (x := 5) (y := 0) (fun hc1 => absurd hc1 (by decide)) (fun hc1 => ?_)
  refine e_go hk_63 3 (c := (if s_cnd .le 5 14 = true then 13 else 10, [.ref 4, .int 5], [], hp Z P L)) rfl ?_
  refine e_le (a := 13) (b := 10) (x := 5) (y := 14) (fun hc7 => ?_) (fun hc7 => absurd (by decide) hc7)
  refine e_go hk_63 5 (c := (if s_cnd .ge 5 4 = true then 69 else 61, [.ref 4, .int 5], [], hp Z P L)) rfl ?_
  refine e_ge (a := 69) (b := 61) (x := 5) (y := 4) (fun hc58 => ?_) (fun hc58 => absurd (by decide) hc58)
  refine e_go hk_63 2 (c := (71, [.ref 4, .int 5], [.int 5, .ref 4], hp Z P L)) rfl ?_
  refine e_call hk_63 (as := [.ref 4, .int 5]) (rest := []) rfl rfl hk_84 rfl (Nat.le_of_ble_eq_true rfl) rfl (x_books5 hN hn) ?_
  show e_r 63 74 [.ref 4, .int 5] [.int (c_count Z n 5)] (hp Z P L) _ _
  exact e_ret hk_63 rfl rfl rfl rfl rfl
theorem x_books6 {Z : Nat → Nat → Int32} {P : Nat → Nat} {L n : Nat} (hN : Z 5 6 = nI n) (hn : n ≤ 60) : m_r 84 [.ref 4, .int 6] (hp Z P L) (some (.int (c_count Z n 6))) (hp Z P L) := by
  refine m_of (ls := [.ref 4, .int 6]) hk_84 rfl rfl rfl ?_
  refine e_go hk_84 11 (c := (76, [.ref 4, .int 6], [.int ((Z 5 6) - 1), .int 0, .ref 12], hp Z P L)) rfl ?_
  rw [hN]
  refine e_call hk_84 (as := [.ref 12, .int (nI 0), .int (nI n - 1)]) (rest := []) rfl rfl hk_25 rfl (Nat.le_of_ble_eq_true rfl) rfl (x_total (r := 12) (a := 13) (n := 60) rfl rfl rfl (by decide) (l := 0) (u := n) (by omega) hn) ?_
  show e_r 84 79 [.ref 4, .int 6] [.int (t_sm (Z 13) 0 (n - 0) 0)] (hp Z P L) _ _
  exact e_ret hk_84 rfl rfl rfl rfl rfl
theorem x_count6 {Z : Nat → Nat → Int32} {P : Nat → Nat} {L n : Nat} (hN : Z 5 6 = nI n) (hn : n ≤ 60) : m_r 63 [.ref 4, .int 6] (hp Z P L) (some (.int (c_count Z n 6))) (hp Z P L) := by
  refine m_of (ls := [.ref 4, .int 6]) hk_63 rfl rfl rfl ?_
  refine e_go hk_63 2 (c := (if s_cnd .lt 6 0 = true then 10 else 4, [.ref 4, .int 6], [], hp Z P L)) rfl ?_
  refine e_lt (a := 10) (b := 4) (x := 6) (y := 0) (fun hc1 => absurd hc1 (by decide)) (fun hc1 => ?_)
  refine e_go hk_63 3 (c := (if s_cnd .le 6 14 = true then 13 else 10, [.ref 4, .int 6], [], hp Z P L)) rfl ?_
  refine e_le (a := 13) (b := 10) (x := 6) (y := 14) (fun hc7 => ?_) (fun hc7 => absurd (by decide) hc7)
  refine e_go hk_63 5 (c := (if s_cnd .ge 6 4 = true then 69 else 61, [.ref 4, .int 6], [], hp Z P L)) rfl ?_
  refine e_ge (a := 69) (b := 61) (x := 6) (y := 4) (fun hc58 => ?_) (fun hc58 => absurd (by decide) hc58)
  refine e_go hk_63 2 (c := (71, [.ref 4, .int 6], [.int 6, .ref 4], hp Z P L)) rfl ?_
  refine e_call hk_63 (as := [.ref 4, .int 6]) (rest := []) rfl rfl hk_84 rfl (Nat.le_of_ble_eq_true rfl) rfl (x_books6 hN hn) ?_
  show e_r 63 74 [.ref 4, .int 6] [.int (c_count Z n 6)] (hp Z P L) _ _
  exact e_ret hk_63 rfl rfl rfl rfl rfl
theorem x_books7 {Z : Nat → Nat → Int32} {P : Nat → Nat} {L n : Nat} (hN : Z 5 6 = nI n) (hn : n ≤ 60) : m_r 84 [.ref 4, .int 7] (hp Z P L) (some (.int (c_count Z n 7))) (hp Z P L) := by
  refine m_of (ls := [.ref 4, .int 7]) hk_84 rfl rfl rfl ?_
  refine e_go hk_84 5 (c := (87, [.ref 4, .int 7], [.int (Z 5 9)], hp Z P L)) rfl ?_
  exact e_ret hk_84 rfl rfl rfl rfl rfl
theorem x_count7 {Z : Nat → Nat → Int32} {P : Nat → Nat} {L n : Nat} (hN : Z 5 6 = nI n) (hn : n ≤ 60) : m_r 63 [.ref 4, .int 7] (hp Z P L) (some (.int (c_count Z n 7))) (hp Z P L) := by
  refine m_of (ls := [.ref 4, .int 7]) hk_63 rfl rfl rfl ?_
  refine e_go hk_63 2 (c := (if s_cnd .lt 7 0 = true then 10 else 4, [.ref 4, .int 7], [], hp Z P L)) rfl ?_
  refine e_lt (a := 10) (b := 4) (x := 7) (y := 0) (fun hc1 => absurd hc1 (by decide)) (fun hc1 => ?_)
  refine e_go hk_63 3 (c := (if s_cnd .le 7 14 = true then 13 else 10, [.ref 4, .int 7], [], hp Z P L)) rfl ?_
  refine e_le (a := 13) (b := 10) (x := 7) (y := 14) (fun hc7 => ?_) (fun hc7 => absurd (by decide) hc7)
  refine e_go hk_63 5 (c := (if s_cnd .ge 7 4 = true then 69 else 61, [.ref 4, .int 7], [], hp Z P L)) rfl ?_
  refine e_ge (a := 69) (b := 61) (x := 7) (y := 4) (fun hc58 => ?_) (fun hc58 => absurd (by decide) hc58)
  refine e_go hk_63 2 (c := (71, [.ref 4, .int 7], [.int 7, .ref 4], hp Z P L)) rfl ?_
  refine e_call hk_63 (as := [.ref 4, .int 7]) (rest := []) rfl rfl hk_84 rfl (Nat.le_of_ble_eq_true rfl) rfl (x_books7 hN hn) ?_
  show e_r 63 74 [.ref 4, .int 7] [.int (c_count Z n 7)] (hp Z P L) _ _
  exact e_ret hk_63 rfl rfl rfl rfl rfl
theorem x_books8 {Z : Nat → Nat → Int32} {P : Nat → Nat} {L n : Nat} (hN : Z 5 6 = nI n) (hn : n ≤ 60) : m_r 84 [.ref 4, .int 8] (hp Z P L) (some (.int (c_count Z n 8))) (hp Z P L) := by
  refine m_of (ls := [.ref 4, .int 8]) hk_84 rfl rfl rfl ?_
  refine e_go hk_84 5 (c := (95, [.ref 4, .int 8], [.int (Z 5 10)], hp Z P L)) rfl ?_
  exact e_ret hk_84 rfl rfl rfl rfl rfl
theorem x_count8 {Z : Nat → Nat → Int32} {P : Nat → Nat} {L n : Nat} (hN : Z 5 6 = nI n) (hn : n ≤ 60) : m_r 63 [.ref 4, .int 8] (hp Z P L) (some (.int (c_count Z n 8))) (hp Z P L) := by
  refine m_of (ls := [.ref 4, .int 8]) hk_63 rfl rfl rfl ?_
  refine e_go hk_63 2 (c := (if s_cnd .lt 8 0 = true then 10 else 4, [.ref 4, .int 8], [], hp Z P L)) rfl ?_
  refine e_lt (a := 10) (b := 4) (x := 8) (y := 0) (fun hc1 => absurd hc1 (by decide)) (fun hc1 => ?_)
  refine e_go hk_63 3 (c := (if s_cnd .le 8 14 = true then 13 else 10, [.ref 4, .int 8], [], hp Z P L)) rfl ?_
  refine e_le (a := 13) (b := 10) (x := 8) (y := 14) (fun hc7 => ?_) (fun hc7 => absurd (by decide) hc7)
  refine e_go hk_63 5 (c := (if s_cnd .ge 8 4 = true then 69 else 61, [.ref 4, .int 8], [], hp Z P L)) rfl ?_
  refine e_ge (a := 69) (b := 61) (x := 8) (y := 4) (fun hc58 => ?_) (fun hc58 => absurd (by decide) hc58)
  refine e_go hk_63 2 (c := (71, [.ref 4, .int 8], [.int 8, .ref 4], hp Z P L)) rfl ?_
  refine e_call hk_63 (as := [.ref 4, .int 8]) (rest := []) rfl rfl hk_84 rfl (Nat.le_of_ble_eq_true rfl) rfl (x_books8 hN hn) ?_
  show e_r 63 74 [.ref 4, .int 8] [.int (c_count Z n 8)] (hp Z P L) _ _
  exact e_ret hk_63 rfl rfl rfl rfl rfl
theorem x_books9 {Z : Nat → Nat → Int32} {P : Nat → Nat} {L n : Nat} (hN : Z 5 6 = nI n) (hn : n ≤ 60) : m_r 84 [.ref 4, .int 9] (hp Z P L) (some (.int (c_count Z n 9))) (hp Z P L) := by
  refine m_of (ls := [.ref 4, .int 9]) hk_84 rfl rfl rfl ?_
  refine e_go hk_84 4 (c := (100, [.ref 4, .int 9], [.ref 5], hp Z P L)) rfl ?_
  refine e_call hk_84 (as := [.ref 5]) (rest := []) rfl rfl hk_42 rfl (Nat.le_of_ble_eq_true rfl) rfl (x_lnodes hN hn) ?_
  show e_r 84 103 [.ref 4, .int 9] [.int (t_lnc Z n 0 n 0)] (hp Z P L) _ _
  exact e_ret hk_84 rfl rfl rfl rfl rfl
theorem x_count9 {Z : Nat → Nat → Int32} {P : Nat → Nat} {L n : Nat} (hN : Z 5 6 = nI n) (hn : n ≤ 60) : m_r 63 [.ref 4, .int 9] (hp Z P L) (some (.int (c_count Z n 9))) (hp Z P L) := by
  refine m_of (ls := [.ref 4, .int 9]) hk_63 rfl rfl rfl ?_
  refine e_go hk_63 2 (c := (if s_cnd .lt 9 0 = true then 10 else 4, [.ref 4, .int 9], [], hp Z P L)) rfl ?_
  refine e_lt (a := 10) (b := 4) (x := 9) (y := 0) (fun hc1 => absurd hc1 (by decide)) (fun hc1 => ?_)
  refine e_go hk_63 3 (c := (if s_cnd .le 9 14 = true then 13 else 10, [.ref 4, .int 9], [], hp Z P L)) rfl ?_
  refine e_le (a := 13) (b := 10) (x := 9) (y := 14) (fun hc7 => ?_) (fun hc7 => absurd (by decide) hc7)
  refine e_go hk_63 5 (c := (if s_cnd .ge 9 4 = true then 69 else 61, [.ref 4, .int 9], [], hp Z P L)) rfl ?_
  refine e_ge (a := 69) (b := 61) (x := 9) (y := 4) (fun hc58 => ?_) (fun hc58 => absurd (by decide) hc58)
  refine e_go hk_63 2 (c := (71, [.ref 4, .int 9], [.int 9, .ref 4], hp Z P L)) rfl ?_
  refine e_call hk_63 (as := [.ref 4, .int 9]) (rest := []) rfl rfl hk_84 rfl (Nat.le_of_ble_eq_true rfl) rfl (x_books9 hN hn) ?_
  show e_r 63 74 [.ref 4, .int 9] [.int (c_count Z n 9)] (hp Z P L) _ _
  exact e_ret hk_63 rfl rfl rfl rfl rfl
theorem x_books10 {Z : Nat → Nat → Int32} {P : Nat → Nat} {L n : Nat} (hN : Z 5 6 = nI n) (hn : n ≤ 60) : m_r 84 [.ref 4, .int 10] (hp Z P L) (some (.int (c_count Z n 10))) (hp Z P L) := by
  refine m_of (ls := [.ref 4, .int 10]) hk_84 rfl rfl rfl ?_
  refine e_go hk_84 8 (c := (115, [.ref 4, .int 10], [.int (10 - 10), .ref 6], hp Z P L)) rfl ?_
  refine e_call hk_84 (as := [.ref 6, .int (nI 0)]) (rest := []) rfl rfl hk_22 rfl (Nat.le_of_ble_eq_true rfl) rfl (x_at (r := 6) (a := 7) (n := 3) rfl rfl rfl (by decide) (j := 0) (by decide)) ?_
  show e_r 84 118 [.ref 4, .int 10] [.int (Z 7 0)] (hp Z P L) _ _
  exact e_ret hk_84 rfl rfl rfl rfl rfl
theorem x_count10 {Z : Nat → Nat → Int32} {P : Nat → Nat} {L n : Nat} (hN : Z 5 6 = nI n) (hn : n ≤ 60) : m_r 63 [.ref 4, .int 10] (hp Z P L) (some (.int (c_count Z n 10))) (hp Z P L) := by
  refine m_of (ls := [.ref 4, .int 10]) hk_63 rfl rfl rfl ?_
  refine e_go hk_63 2 (c := (if s_cnd .lt 10 0 = true then 10 else 4, [.ref 4, .int 10], [], hp Z P L)) rfl ?_
  refine e_lt (a := 10) (b := 4) (x := 10) (y := 0) (fun hc1 => absurd hc1 (by decide)) (fun hc1 => ?_)
  refine e_go hk_63 3 (c := (if s_cnd .le 10 14 = true then 13 else 10, [.ref 4, .int 10], [], hp Z P L)) rfl ?_
  refine e_le (a := 13) (b := 10) (x := 10) (y := 14) (fun hc7 => ?_) (fun hc7 => absurd (by decide) hc7)
  refine e_go hk_63 5 (c := (if s_cnd .ge 10 4 = true then 69 else 61, [.ref 4, .int 10], [], hp Z P L)) rfl ?_
  refine e_ge (a := 69) (b := 61) (x := 10) (y := 4) (fun hc58 => ?_) (fun hc58 => absurd (by decide) hc58)
  refine e_go hk_63 2 (c := (71, [.ref 4, .int 10], [.int 10, .ref 4], hp Z P L)) rfl ?_
  refine e_call hk_63 (as := [.ref 4, .int 10]) (rest := []) rfl rfl hk_84 rfl (Nat.le_of_ble_eq_true rfl) rfl (x_books10 hN hn) ?_
  show e_r 63 74 [.ref 4, .int 10] [.int (c_count Z n 10)] (hp Z P L) _ _
  exact e_ret hk_63 rfl rfl rfl rfl rfl
theorem x_books11 {Z : Nat → Nat → Int32} {P : Nat → Nat} {L n : Nat} (hN : Z 5 6 = nI n) (hn : n ≤ 60) : m_r 84 [.ref 4, .int 11] (hp Z P L) (some (.int (c_count Z n 11))) (hp Z P L) := by
  refine m_of (ls := [.ref 4, .int 11]) hk_84 rfl rfl rfl ?_
  refine e_go hk_84 8 (c := (115, [.ref 4, .int 11], [.int (11 - 10), .ref 6], hp Z P L)) rfl ?_
  refine e_call hk_84 (as := [.ref 6, .int (nI 1)]) (rest := []) rfl rfl hk_22 rfl (Nat.le_of_ble_eq_true rfl) rfl (x_at (r := 6) (a := 7) (n := 3) rfl rfl rfl (by decide) (j := 1) (by decide)) ?_
  show e_r 84 118 [.ref 4, .int 11] [.int (Z 7 1)] (hp Z P L) _ _
  exact e_ret hk_84 rfl rfl rfl rfl rfl
theorem x_count11 {Z : Nat → Nat → Int32} {P : Nat → Nat} {L n : Nat} (hN : Z 5 6 = nI n) (hn : n ≤ 60) : m_r 63 [.ref 4, .int 11] (hp Z P L) (some (.int (c_count Z n 11))) (hp Z P L) := by
  refine m_of (ls := [.ref 4, .int 11]) hk_63 rfl rfl rfl ?_
  refine e_go hk_63 2 (c := (if s_cnd .lt 11 0 = true then 10 else 4, [.ref 4, .int 11], [], hp Z P L)) rfl ?_
  refine e_lt (a := 10) (b := 4) (x := 11) (y := 0) (fun hc1 => absurd hc1 (by decide)) (fun hc1 => ?_)
  refine e_go hk_63 3 (c := (if s_cnd .le 11 14 = true then 13 else 10, [.ref 4, .int 11], [], hp Z P L)) rfl ?_
  refine e_le (a := 13) (b := 10) (x := 11) (y := 14) (fun hc7 => ?_) (fun hc7 => absurd (by decide) hc7)
  refine e_go hk_63 5 (c := (if s_cnd .ge 11 4 = true then 69 else 61, [.ref 4, .int 11], [], hp Z P L)) rfl ?_
  refine e_ge (a := 69) (b := 61) (x := 11) (y := 4) (fun hc58 => ?_) (fun hc58 => absurd (by decide) hc58)
  refine e_go hk_63 2 (c := (71, [.ref 4, .int 11], [.int 11, .ref 4], hp Z P L)) rfl ?_
  refine e_call hk_63 (as := [.ref 4, .int 11]) (rest := []) rfl rfl hk_84 rfl (Nat.le_of_ble_eq_true rfl) rfl (x_books11 hN hn) ?_
  show e_r 63 74 [.ref 4, .int 11] [.int (c_count Z n 11)] (hp Z P L) _ _
  exact e_ret hk_63 rfl rfl rfl rfl rfl
theorem x_books12 {Z : Nat → Nat → Int32} {P : Nat → Nat} {L n : Nat} (hN : Z 5 6 = nI n) (hn : n ≤ 60) : m_r 84 [.ref 4, .int 12] (hp Z P L) (some (.int (c_count Z n 12))) (hp Z P L) := by
  refine m_of (ls := [.ref 4, .int 12]) hk_84 rfl rfl rfl ?_
  refine e_go hk_84 8 (c := (115, [.ref 4, .int 12], [.int (12 - 10), .ref 6], hp Z P L)) rfl ?_
  refine e_call hk_84 (as := [.ref 6, .int (nI 2)]) (rest := []) rfl rfl hk_22 rfl (Nat.le_of_ble_eq_true rfl) rfl (x_at (r := 6) (a := 7) (n := 3) rfl rfl rfl (by decide) (j := 2) (by decide)) ?_
  show e_r 84 118 [.ref 4, .int 12] [.int (Z 7 2)] (hp Z P L) _ _
  exact e_ret hk_84 rfl rfl rfl rfl rfl
theorem x_count12 {Z : Nat → Nat → Int32} {P : Nat → Nat} {L n : Nat} (hN : Z 5 6 = nI n) (hn : n ≤ 60) : m_r 63 [.ref 4, .int 12] (hp Z P L) (some (.int (c_count Z n 12))) (hp Z P L) := by
  refine m_of (ls := [.ref 4, .int 12]) hk_63 rfl rfl rfl ?_
  refine e_go hk_63 2 (c := (if s_cnd .lt 12 0 = true then 10 else 4, [.ref 4, .int 12], [], hp Z P L)) rfl ?_
  refine e_lt (a := 10) (b := 4) (x := 12) (y := 0) (fun hc1 => absurd hc1 (by decide)) (fun hc1 => ?_)
  refine e_go hk_63 3 (c := (if s_cnd .le 12 14 = true then 13 else 10, [.ref 4, .int 12], [], hp Z P L)) rfl ?_
  refine e_le (a := 13) (b := 10) (x := 12) (y := 14) (fun hc7 => ?_) (fun hc7 => absurd (by decide) hc7)
  refine e_go hk_63 5 (c := (if s_cnd .ge 12 4 = true then 69 else 61, [.ref 4, .int 12], [], hp Z P L)) rfl ?_
  refine e_ge (a := 69) (b := 61) (x := 12) (y := 4) (fun hc58 => ?_) (fun hc58 => absurd (by decide) hc58)
  refine e_go hk_63 2 (c := (71, [.ref 4, .int 12], [.int 12, .ref 4], hp Z P L)) rfl ?_
  refine e_call hk_63 (as := [.ref 4, .int 12]) (rest := []) rfl rfl hk_84 rfl (Nat.le_of_ble_eq_true rfl) rfl (x_books12 hN hn) ?_
  show e_r 63 74 [.ref 4, .int 12] [.int (c_count Z n 12)] (hp Z P L) _ _
  exact e_ret hk_63 rfl rfl rfl rfl rfl
theorem x_count13 {Z : Nat → Nat → Int32} {P : Nat → Nat} {L n : Nat} (hN : Z 5 6 = nI n) (hn : n ≤ 60) : m_r 63 [.ref 4, .int 13] (hp Z P L) (some (.int (c_count Z n 13))) (hp Z P L) := by
  refine m_of (ls := [.ref 4, .int 13]) hk_63 rfl rfl rfl ?_
  refine e_go hk_63 2 (c := (if s_cnd .lt 13 0 = true then 10 else 4, [.ref 4, .int 13], [], hp Z P L)) rfl ?_
  refine e_lt (a := 10) (b := 4) (x := 13) (y := 0) (fun hc1 => absurd hc1 (by decide)) (fun hc1 => ?_)
  refine e_go hk_63 3 (c := (if s_cnd .le 13 14 = true then 13 else 10, [.ref 4, .int 13], [], hp Z P L)) rfl ?_
  refine e_le (a := 13) (b := 10) (x := 13) (y := 14) (fun hc7 => ?_) (fun hc7 => absurd (by decide) hc7)
  refine e_go hk_63 5 (c := (47, [.ref 4, .int 13], [.int (Z 99 1)], hp Z P L)) rfl ?_
  exact e_ret hk_63 rfl rfl rfl rfl rfl
theorem x_count14 {Z : Nat → Nat → Int32} {P : Nat → Nat} {L n : Nat} (hN : Z 5 6 = nI n) (hn : n ≤ 60) : m_r 63 [.ref 4, .int 14] (hp Z P L) (some (.int (c_count Z n 14))) (hp Z P L) := by
  refine m_of (ls := [.ref 4, .int 14]) hk_63 rfl rfl rfl ?_
  refine e_go hk_63 2 (c := (if s_cnd .lt 14 0 = true then 10 else 4, [.ref 4, .int 14], [], hp Z P L)) rfl ?_
  refine e_lt (a := 10) (b := 4) (x := 14) (y := 0) (fun hc1 => absurd hc1 (by decide)) (fun hc1 => ?_)
  refine e_go hk_63 3 (c := (if s_cnd .le 14 14 = true then 13 else 10, [.ref 4, .int 14], [], hp Z P L)) rfl ?_
  refine e_le (a := 13) (b := 10) (x := 14) (y := 14) (fun hc7 => ?_) (fun hc7 => absurd (by decide) hc7)
  refine e_go hk_63 5 (c := (55, [.ref 4, .int 14], [.int (Z 18 1)], hp Z P L)) rfl ?_
  exact e_ret hk_63 rfl rfl rfl rfl rfl
theorem x_count_no {Z : Nat → Nat → Int32} {P : Nat → Nat} {L : Nat} {k : Int32} (hk : k < 0 ∨ 14 < k) : m_r 63 [.ref 4, .int k] (hp Z P L) (some (.int (-2))) (hp Z P L) := by
  refine m_of (ls := [.ref 4, .int k]) hk_63 rfl rfl rfl ?_
  refine e_go hk_63 2 (c := (if s_cnd .lt k 0 = true then 10 else 4, [.ref 4, .int k], [], hp Z P L)) rfl ?_
  refine e_lt (a := 10) (b := 4) (x := k) (y := 0) (fun hc1 => ?_) (fun hc1 => ?_)
  · skip
    refine e_go hk_63 1 (c := (12, [.ref 4, .int k], [.int ((-2))], hp Z P L)) rfl ?_
    exact e_ret hk_63 rfl rfl rfl rfl rfl
  · skip
    have h3 : 14 < k := hk.elim (fun z => absurd z hc1) id
    refine e_go hk_63 3 (c := (if s_cnd .le k 14 = true then 13 else 10, [.ref 4, .int k], [], hp Z P L)) rfl ?_
    refine e_le (a := 13) (b := 10) (x := k) (y := 14) (fun hc7 => absurd hc7 (Int32.not_le.mpr h3)) (fun hc7 => ?_)
    refine e_go hk_63 1 (c := (12, [.ref 4, .int k], [.int ((-2))], hp Z P L)) rfl ?_
    exact e_ret hk_63 rfl rfl rfl rfl rfl
def c_abt (Z : Nat → Nat → Int32) (n j : Nat) : Nat → Int32
  | 0 => t_ktp Z (t_L Z j) j (Z 15 j + 1)
  | 1 => t_ktp Z (j + 1) (t_H Z n j + 1) (Z 15 j + 1)
  | 2 => t_wt Z n j
  | 3 => Z 15 j
  | 4 => Z 13 j
  | 5 => y_b (decide (Z 17 j = 1))
  | 6 => t_sm (Z 17) (t_L Z j) (t_H Z n j + 1 - t_L Z j) 0
  | 7 => y_b (t_ln Z n j)
  | 8 => t_mx (Z 15) (t_L Z j) (t_H Z n j + 1 - t_L Z j) (Z 15 (t_L Z j)) - Z 15 j
  | _ => -2
theorem x_abt0 {Z : Nat → Nat → Int32} {P : Nat → Nat} {L n : Nat} (hN : Z 5 6 = nI n) (hn : n ≤ 60) {j : Nat} (hj : j < n) : m_r 82 [.ref 4, .int (nI j), .int 0] (hp Z P L) (some (.int (c_abt Z n j 0))) (hp Z P L) := by
  have hlo : t_L Z j ≤ j := t_lo_le (Z 15) (Z 15 j) j
  have hhi : j ≤ t_H Z n j ∧ t_H Z n j ≤ j + (n - 1 - j) := t_hi_le (Z 15) (Z 15 j) (n - 1 - j) j
  refine m_of (ls := [.ref 4, .int (nI j), .int 0, s_no, s_no, s_no]) hk_82 rfl rfl rfl ?_
  refine e_go hk_82 3 (c := (5, [.ref 4, .int (nI j), .int 0, s_no, s_no, s_no], [.int (nI j), .ref 5], hp Z P L)) rfl ?_
  refine e_call hk_82 (as := [.ref 5, .int (nI j)]) (rest := []) rfl rfl hk_37 rfl (Nat.le_of_ble_eq_true rfl) rfl (x_low (j := j) (by omega)) ?_
  show e_r 82 8 [.ref 4, .int (nI j), .int 0, s_no, s_no, s_no] [.int (nI (t_L Z j))] (hp Z P L) _ _
  refine e_go hk_82 4 (c := (14, [.ref 4, .int (nI j), .int 0, .int (nI (t_L Z j)), s_no, s_no], [.int (nI j), .ref 5], hp Z P L)) rfl ?_
  refine e_call hk_82 (as := [.ref 5, .int (nI j)]) (rest := []) rfl rfl hk_38 rfl (Nat.le_of_ble_eq_true rfl) rfl (x_high hN hn (j := j) (by omega)) ?_
  show e_r 82 17 [.ref 4, .int (nI j), .int 0, .int (nI (t_L Z j)), s_no, s_no] [.int (nI (t_H Z n j))] (hp Z P L) _ _
  refine e_go hk_82 5 (c := (27, [.ref 4, .int (nI j), .int 0, .int (nI (t_L Z j)), .int (nI (t_H Z n j)), s_no], [.int (nI j), .ref 14], hp Z P L)) rfl ?_
  refine e_call hk_82 (as := [.ref 14, .int (nI j)]) (rest := []) rfl rfl hk_22 rfl (Nat.le_of_ble_eq_true rfl) rfl (x_at (r := 14) (a := 15) (n := 60) rfl rfl rfl (by decide) (j := j) (by omega)) ?_
  show e_r 82 30 [.ref 4, .int (nI j), .int 0, .int (nI (t_L Z j)), .int (nI (t_H Z n j)), s_no] [.int (Z 15 j)] (hp Z P L) _ _
  refine e_go hk_82 11 (c := (89, [.ref 4, .int (nI j), .int 0, .int (nI (t_L Z j)), .int (nI (t_H Z n j)), .int (Z 15 j)], [.int ((Z 15 j) + 1), .int ((nI j) - 1), .int (nI (t_L Z j)), .ref 4], hp Z P L)) rfl ?_
  refine e_call hk_82 (as := [.ref 4, .int (nI (t_L Z j)), .int ((nI j) - 1), .int ((Z 15 j) + 1)]) (rest := []) rfl rfl hk_85 rfl (Nat.le_of_ble_eq_true rfl) rfl (x_ktp (l := t_L Z j) (u := j) (by omega) (by omega)) ?_
  show e_r 82 92 [.ref 4, .int (nI j), .int 0, .int (nI (t_L Z j)), .int (nI (t_H Z n j)), .int (Z 15 j)] [.int (t_ktp Z (t_L Z j) j (Z 15 j + 1))] (hp Z P L) _ _
  exact e_ret hk_82 rfl rfl rfl rfl rfl
theorem x_abt1 {Z : Nat → Nat → Int32} {P : Nat → Nat} {L n : Nat} (hN : Z 5 6 = nI n) (hn : n ≤ 60) {j : Nat} (hj : j < n) : m_r 82 [.ref 4, .int (nI j), .int 1] (hp Z P L) (some (.int (c_abt Z n j 1))) (hp Z P L) := by
  have hlo : t_L Z j ≤ j := t_lo_le (Z 15) (Z 15 j) j
  have hhi : j ≤ t_H Z n j ∧ t_H Z n j ≤ j + (n - 1 - j) := t_hi_le (Z 15) (Z 15 j) (n - 1 - j) j
  refine m_of (ls := [.ref 4, .int (nI j), .int 1, s_no, s_no, s_no]) hk_82 rfl rfl rfl ?_
  refine e_go hk_82 3 (c := (5, [.ref 4, .int (nI j), .int 1, s_no, s_no, s_no], [.int (nI j), .ref 5], hp Z P L)) rfl ?_
  refine e_call hk_82 (as := [.ref 5, .int (nI j)]) (rest := []) rfl rfl hk_37 rfl (Nat.le_of_ble_eq_true rfl) rfl (x_low (j := j) (by omega)) ?_
  show e_r 82 8 [.ref 4, .int (nI j), .int 1, s_no, s_no, s_no] [.int (nI (t_L Z j))] (hp Z P L) _ _
  refine e_go hk_82 4 (c := (14, [.ref 4, .int (nI j), .int 1, .int (nI (t_L Z j)), s_no, s_no], [.int (nI j), .ref 5], hp Z P L)) rfl ?_
  refine e_call hk_82 (as := [.ref 5, .int (nI j)]) (rest := []) rfl rfl hk_38 rfl (Nat.le_of_ble_eq_true rfl) rfl (x_high hN hn (j := j) (by omega)) ?_
  show e_r 82 17 [.ref 4, .int (nI j), .int 1, .int (nI (t_L Z j)), s_no, s_no] [.int (nI (t_H Z n j))] (hp Z P L) _ _
  refine e_go hk_82 5 (c := (27, [.ref 4, .int (nI j), .int 1, .int (nI (t_L Z j)), .int (nI (t_H Z n j)), s_no], [.int (nI j), .ref 14], hp Z P L)) rfl ?_
  refine e_call hk_82 (as := [.ref 14, .int (nI j)]) (rest := []) rfl rfl hk_22 rfl (Nat.le_of_ble_eq_true rfl) rfl (x_at (r := 14) (a := 15) (n := 60) rfl rfl rfl (by decide) (j := j) (by omega)) ?_
  show e_r 82 30 [.ref 4, .int (nI j), .int 1, .int (nI (t_L Z j)), .int (nI (t_H Z n j)), s_no] [.int (Z 15 j)] (hp Z P L) _ _
  refine e_go hk_82 11 (c := (103, [.ref 4, .int (nI j), .int 1, .int (nI (t_L Z j)), .int (nI (t_H Z n j)), .int (Z 15 j)], [.int ((Z 15 j) + 1), .int (nI (t_H Z n j)), .int ((nI j) + 1), .ref 4], hp Z P L)) rfl ?_
  refine e_call hk_82 (as := [.ref 4, .int ((nI j) + 1), .int (nI (t_H Z n j)), .int ((Z 15 j) + 1)]) (rest := []) rfl rfl hk_85 rfl (Nat.le_of_ble_eq_true rfl) rfl (show m_r 85 [.ref 4, .int (nI j + 1), .int (nI (t_H Z n j)), .int (Z 15 j + 1)] (hp Z P L) (some (.int (t_ktp Z (j + 1) (t_H Z n j + 1) (Z 15 j + 1)))) (hp Z P L) from by have := x_ktp (Z := Z) (P := P) (L := L) (l := j + 1) (u := t_H Z n j + 1) (d := Z 15 j + 1) (by omega) (by omega); rw [nI_pred, ← nI_1 j] at this; exact this) ?_
  show e_r 82 106 [.ref 4, .int (nI j), .int 1, .int (nI (t_L Z j)), .int (nI (t_H Z n j)), .int (Z 15 j)] [.int (t_ktp Z (j + 1) (t_H Z n j + 1) (Z 15 j + 1))] (hp Z P L) _ _
  exact e_ret hk_82 rfl rfl rfl rfl rfl
theorem x_abt2 {Z : Nat → Nat → Int32} {P : Nat → Nat} {L n : Nat} (hN : Z 5 6 = nI n) (hn : n ≤ 60) {j : Nat} (hj : j < n) : m_r 82 [.ref 4, .int (nI j), .int 2] (hp Z P L) (some (.int (c_abt Z n j 2))) (hp Z P L) := by
  have hlo : t_L Z j ≤ j := t_lo_le (Z 15) (Z 15 j) j
  have hhi : j ≤ t_H Z n j ∧ t_H Z n j ≤ j + (n - 1 - j) := t_hi_le (Z 15) (Z 15 j) (n - 1 - j) j
  refine m_of (ls := [.ref 4, .int (nI j), .int 2, s_no, s_no, s_no]) hk_82 rfl rfl rfl ?_
  refine e_go hk_82 3 (c := (5, [.ref 4, .int (nI j), .int 2, s_no, s_no, s_no], [.int (nI j), .ref 5], hp Z P L)) rfl ?_
  refine e_call hk_82 (as := [.ref 5, .int (nI j)]) (rest := []) rfl rfl hk_37 rfl (Nat.le_of_ble_eq_true rfl) rfl (x_low (j := j) (by omega)) ?_
  show e_r 82 8 [.ref 4, .int (nI j), .int 2, s_no, s_no, s_no] [.int (nI (t_L Z j))] (hp Z P L) _ _
  refine e_go hk_82 4 (c := (14, [.ref 4, .int (nI j), .int 2, .int (nI (t_L Z j)), s_no, s_no], [.int (nI j), .ref 5], hp Z P L)) rfl ?_
  refine e_call hk_82 (as := [.ref 5, .int (nI j)]) (rest := []) rfl rfl hk_38 rfl (Nat.le_of_ble_eq_true rfl) rfl (x_high hN hn (j := j) (by omega)) ?_
  show e_r 82 17 [.ref 4, .int (nI j), .int 2, .int (nI (t_L Z j)), s_no, s_no] [.int (nI (t_H Z n j))] (hp Z P L) _ _
  refine e_go hk_82 5 (c := (27, [.ref 4, .int (nI j), .int 2, .int (nI (t_L Z j)), .int (nI (t_H Z n j)), s_no], [.int (nI j), .ref 14], hp Z P L)) rfl ?_
  refine e_call hk_82 (as := [.ref 14, .int (nI j)]) (rest := []) rfl rfl hk_22 rfl (Nat.le_of_ble_eq_true rfl) rfl (x_at (r := 14) (a := 15) (n := 60) rfl rfl rfl (by decide) (j := j) (by omega)) ?_
  show e_r 82 30 [.ref 4, .int (nI j), .int 2, .int (nI (t_L Z j)), .int (nI (t_H Z n j)), s_no] [.int (Z 15 j)] (hp Z P L) _ _
  refine e_go hk_82 8 (c := (113, [.ref 4, .int (nI j), .int 2, .int (nI (t_L Z j)), .int (nI (t_H Z n j)), .int (Z 15 j)], [.int (((nI (t_H Z n j)) - (nI (t_L Z j))) + 1)], hp Z P L)) rfl ?_
  exact e_ret hk_82 rfl rfl rfl rfl rfl
theorem x_abt3 {Z : Nat → Nat → Int32} {P : Nat → Nat} {L n : Nat} (hN : Z 5 6 = nI n) (hn : n ≤ 60) {j : Nat} (hj : j < n) : m_r 82 [.ref 4, .int (nI j), .int 3] (hp Z P L) (some (.int (c_abt Z n j 3))) (hp Z P L) := by
  have hlo : t_L Z j ≤ j := t_lo_le (Z 15) (Z 15 j) j
  have hhi : j ≤ t_H Z n j ∧ t_H Z n j ≤ j + (n - 1 - j) := t_hi_le (Z 15) (Z 15 j) (n - 1 - j) j
  refine m_of (ls := [.ref 4, .int (nI j), .int 3, s_no, s_no, s_no]) hk_82 rfl rfl rfl ?_
  refine e_go hk_82 3 (c := (5, [.ref 4, .int (nI j), .int 3, s_no, s_no, s_no], [.int (nI j), .ref 5], hp Z P L)) rfl ?_
  refine e_call hk_82 (as := [.ref 5, .int (nI j)]) (rest := []) rfl rfl hk_37 rfl (Nat.le_of_ble_eq_true rfl) rfl (x_low (j := j) (by omega)) ?_
  show e_r 82 8 [.ref 4, .int (nI j), .int 3, s_no, s_no, s_no] [.int (nI (t_L Z j))] (hp Z P L) _ _
  refine e_go hk_82 4 (c := (14, [.ref 4, .int (nI j), .int 3, .int (nI (t_L Z j)), s_no, s_no], [.int (nI j), .ref 5], hp Z P L)) rfl ?_
  refine e_call hk_82 (as := [.ref 5, .int (nI j)]) (rest := []) rfl rfl hk_38 rfl (Nat.le_of_ble_eq_true rfl) rfl (x_high hN hn (j := j) (by omega)) ?_
  show e_r 82 17 [.ref 4, .int (nI j), .int 3, .int (nI (t_L Z j)), s_no, s_no] [.int (nI (t_H Z n j))] (hp Z P L) _ _
  refine e_go hk_82 5 (c := (27, [.ref 4, .int (nI j), .int 3, .int (nI (t_L Z j)), .int (nI (t_H Z n j)), s_no], [.int (nI j), .ref 14], hp Z P L)) rfl ?_
  refine e_call hk_82 (as := [.ref 14, .int (nI j)]) (rest := []) rfl rfl hk_22 rfl (Nat.le_of_ble_eq_true rfl) rfl (x_at (r := 14) (a := 15) (n := 60) rfl rfl rfl (by decide) (j := j) (by omega)) ?_
  show e_r 82 30 [.ref 4, .int (nI j), .int 3, .int (nI (t_L Z j)), .int (nI (t_H Z n j)), s_no] [.int (Z 15 j)] (hp Z P L) _ _
  refine e_go hk_82 4 (c := (116, [.ref 4, .int (nI j), .int 3, .int (nI (t_L Z j)), .int (nI (t_H Z n j)), .int (Z 15 j)], [.int (Z 15 j)], hp Z P L)) rfl ?_
  exact e_ret hk_82 rfl rfl rfl rfl rfl
theorem x_abt4 {Z : Nat → Nat → Int32} {P : Nat → Nat} {L n : Nat} (hN : Z 5 6 = nI n) (hn : n ≤ 60) {j : Nat} (hj : j < n) : m_r 82 [.ref 4, .int (nI j), .int 4] (hp Z P L) (some (.int (c_abt Z n j 4))) (hp Z P L) := by
  have hlo : t_L Z j ≤ j := t_lo_le (Z 15) (Z 15 j) j
  have hhi : j ≤ t_H Z n j ∧ t_H Z n j ≤ j + (n - 1 - j) := t_hi_le (Z 15) (Z 15 j) (n - 1 - j) j
  refine m_of (ls := [.ref 4, .int (nI j), .int 4, s_no, s_no, s_no]) hk_82 rfl rfl rfl ?_
  refine e_go hk_82 3 (c := (5, [.ref 4, .int (nI j), .int 4, s_no, s_no, s_no], [.int (nI j), .ref 5], hp Z P L)) rfl ?_
  refine e_call hk_82 (as := [.ref 5, .int (nI j)]) (rest := []) rfl rfl hk_37 rfl (Nat.le_of_ble_eq_true rfl) rfl (x_low (j := j) (by omega)) ?_
  show e_r 82 8 [.ref 4, .int (nI j), .int 4, s_no, s_no, s_no] [.int (nI (t_L Z j))] (hp Z P L) _ _
  refine e_go hk_82 4 (c := (14, [.ref 4, .int (nI j), .int 4, .int (nI (t_L Z j)), s_no, s_no], [.int (nI j), .ref 5], hp Z P L)) rfl ?_
  refine e_call hk_82 (as := [.ref 5, .int (nI j)]) (rest := []) rfl rfl hk_38 rfl (Nat.le_of_ble_eq_true rfl) rfl (x_high hN hn (j := j) (by omega)) ?_
  show e_r 82 17 [.ref 4, .int (nI j), .int 4, .int (nI (t_L Z j)), s_no, s_no] [.int (nI (t_H Z n j))] (hp Z P L) _ _
  refine e_go hk_82 5 (c := (27, [.ref 4, .int (nI j), .int 4, .int (nI (t_L Z j)), .int (nI (t_H Z n j)), s_no], [.int (nI j), .ref 14], hp Z P L)) rfl ?_
  refine e_call hk_82 (as := [.ref 14, .int (nI j)]) (rest := []) rfl rfl hk_22 rfl (Nat.le_of_ble_eq_true rfl) rfl (x_at (r := 14) (a := 15) (n := 60) rfl rfl rfl (by decide) (j := j) (by omega)) ?_
  show e_r 82 30 [.ref 4, .int (nI j), .int 4, .int (nI (t_L Z j)), .int (nI (t_H Z n j)), s_no] [.int (Z 15 j)] (hp Z P L) _ _
  refine e_go hk_82 7 (c := (125, [.ref 4, .int (nI j), .int 4, .int (nI (t_L Z j)), .int (nI (t_H Z n j)), .int (Z 15 j)], [.int (nI j), .ref 12], hp Z P L)) rfl ?_
  refine e_call hk_82 (as := [.ref 12, .int (nI j)]) (rest := []) rfl rfl hk_22 rfl (Nat.le_of_ble_eq_true rfl) rfl (x_at (r := 12) (a := 13) (n := 60) rfl rfl rfl (by decide) (j := j) (by omega)) ?_
  show e_r 82 128 [.ref 4, .int (nI j), .int 4, .int (nI (t_L Z j)), .int (nI (t_H Z n j)), .int (Z 15 j)] [.int (Z 13 j)] (hp Z P L) _ _
  exact e_ret hk_82 rfl rfl rfl rfl rfl
theorem x_abt5 {Z : Nat → Nat → Int32} {P : Nat → Nat} {L n : Nat} (hN : Z 5 6 = nI n) (hn : n ≤ 60) {j : Nat} (hj : j < n) : m_r 82 [.ref 4, .int (nI j), .int 5] (hp Z P L) (some (.int (c_abt Z n j 5))) (hp Z P L) := by
  have hlo : t_L Z j ≤ j := t_lo_le (Z 15) (Z 15 j) j
  have hhi : j ≤ t_H Z n j ∧ t_H Z n j ≤ j + (n - 1 - j) := t_hi_le (Z 15) (Z 15 j) (n - 1 - j) j
  refine m_of (ls := [.ref 4, .int (nI j), .int 5, s_no, s_no, s_no]) hk_82 rfl rfl rfl ?_
  refine e_go hk_82 3 (c := (5, [.ref 4, .int (nI j), .int 5, s_no, s_no, s_no], [.int (nI j), .ref 5], hp Z P L)) rfl ?_
  refine e_call hk_82 (as := [.ref 5, .int (nI j)]) (rest := []) rfl rfl hk_37 rfl (Nat.le_of_ble_eq_true rfl) rfl (x_low (j := j) (by omega)) ?_
  show e_r 82 8 [.ref 4, .int (nI j), .int 5, s_no, s_no, s_no] [.int (nI (t_L Z j))] (hp Z P L) _ _
  refine e_go hk_82 4 (c := (14, [.ref 4, .int (nI j), .int 5, .int (nI (t_L Z j)), s_no, s_no], [.int (nI j), .ref 5], hp Z P L)) rfl ?_
  refine e_call hk_82 (as := [.ref 5, .int (nI j)]) (rest := []) rfl rfl hk_38 rfl (Nat.le_of_ble_eq_true rfl) rfl (x_high hN hn (j := j) (by omega)) ?_
  show e_r 82 17 [.ref 4, .int (nI j), .int 5, .int (nI (t_L Z j)), s_no, s_no] [.int (nI (t_H Z n j))] (hp Z P L) _ _
  refine e_go hk_82 5 (c := (27, [.ref 4, .int (nI j), .int 5, .int (nI (t_L Z j)), .int (nI (t_H Z n j)), s_no], [.int (nI j), .ref 14], hp Z P L)) rfl ?_
  refine e_call hk_82 (as := [.ref 14, .int (nI j)]) (rest := []) rfl rfl hk_22 rfl (Nat.le_of_ble_eq_true rfl) rfl (x_at (r := 14) (a := 15) (n := 60) rfl rfl rfl (by decide) (j := j) (by omega)) ?_
  show e_r 82 30 [.ref 4, .int (nI j), .int 5, .int (nI (t_L Z j)), .int (nI (t_H Z n j)), s_no] [.int (Z 15 j)] (hp Z P L) _ _
  refine e_go hk_82 6 (c := (134, [.ref 4, .int (nI j), .int 5, .int (nI (t_L Z j)), .int (nI (t_H Z n j)), .int (Z 15 j)], [.int (nI j), .ref 5], hp Z P L)) rfl ?_
  refine e_call hk_82 (as := [.ref 5, .int (nI j)]) (rest := []) rfl rfl hk_33 rfl (Nat.le_of_ble_eq_true rfl) rfl (x_isfull (j := j) (by omega)) ?_
  show e_r 82 137 [.ref 4, .int (nI j), .int 5, .int (nI (t_L Z j)), .int (nI (t_H Z n j)), .int (Z 15 j)] [.int (y_b (decide (Z 17 j = 1)))] (hp Z P L) _ _
  refine e_go hk_82 1 (c := (if s_cnd .eq (y_b (decide (Z 17 j = 1))) 0 = true then 144 else 140, [.ref 4, .int (nI j), .int 5, .int (nI (t_L Z j)), .int (nI (t_H Z n j)), .int (Z 15 j)], [], hp Z P L)) rfl ?_
  refine e_eq (a := 144) (b := 140) (x := y_b (decide (Z 17 j = 1))) (y := 0) (fun hc137 => ?_) (fun hc137 => ?_)
  · skip
    rw [y_d0] at hc137
    refine e_go hk_82 1 (c := (145, [.ref 4, .int (nI j), .int 5, .int (nI (t_L Z j)), .int (nI (t_H Z n j)), .int (Z 15 j)], [.int 0], hp Z P L)) rfl ?_
    exact e_ret hk_82 rfl rfl rfl (by rw [c_abt, y_cf hc137]) rfl
  · skip
    rw [y_d1] at hc137
    refine e_go hk_82 2 (c := (145, [.ref 4, .int (nI j), .int 5, .int (nI (t_L Z j)), .int (nI (t_H Z n j)), .int (Z 15 j)], [.int 1], hp Z P L)) rfl ?_
    exact e_ret hk_82 rfl rfl rfl (by rw [c_abt, y_ct hc137]) rfl
theorem x_abt6 {Z : Nat → Nat → Int32} {P : Nat → Nat} {L n : Nat} (hN : Z 5 6 = nI n) (hn : n ≤ 60) {j : Nat} (hj : j < n) : m_r 82 [.ref 4, .int (nI j), .int 6] (hp Z P L) (some (.int (c_abt Z n j 6))) (hp Z P L) := by
  have hlo : t_L Z j ≤ j := t_lo_le (Z 15) (Z 15 j) j
  have hhi : j ≤ t_H Z n j ∧ t_H Z n j ≤ j + (n - 1 - j) := t_hi_le (Z 15) (Z 15 j) (n - 1 - j) j
  refine m_of (ls := [.ref 4, .int (nI j), .int 6, s_no, s_no, s_no]) hk_82 rfl rfl rfl ?_
  refine e_go hk_82 3 (c := (5, [.ref 4, .int (nI j), .int 6, s_no, s_no, s_no], [.int (nI j), .ref 5], hp Z P L)) rfl ?_
  refine e_call hk_82 (as := [.ref 5, .int (nI j)]) (rest := []) rfl rfl hk_37 rfl (Nat.le_of_ble_eq_true rfl) rfl (x_low (j := j) (by omega)) ?_
  show e_r 82 8 [.ref 4, .int (nI j), .int 6, s_no, s_no, s_no] [.int (nI (t_L Z j))] (hp Z P L) _ _
  refine e_go hk_82 4 (c := (14, [.ref 4, .int (nI j), .int 6, .int (nI (t_L Z j)), s_no, s_no], [.int (nI j), .ref 5], hp Z P L)) rfl ?_
  refine e_call hk_82 (as := [.ref 5, .int (nI j)]) (rest := []) rfl rfl hk_38 rfl (Nat.le_of_ble_eq_true rfl) rfl (x_high hN hn (j := j) (by omega)) ?_
  show e_r 82 17 [.ref 4, .int (nI j), .int 6, .int (nI (t_L Z j)), s_no, s_no] [.int (nI (t_H Z n j))] (hp Z P L) _ _
  refine e_go hk_82 5 (c := (27, [.ref 4, .int (nI j), .int 6, .int (nI (t_L Z j)), .int (nI (t_H Z n j)), s_no], [.int (nI j), .ref 14], hp Z P L)) rfl ?_
  refine e_call hk_82 (as := [.ref 14, .int (nI j)]) (rest := []) rfl rfl hk_22 rfl (Nat.le_of_ble_eq_true rfl) rfl (x_at (r := 14) (a := 15) (n := 60) rfl rfl rfl (by decide) (j := j) (by omega)) ?_
  show e_r 82 30 [.ref 4, .int (nI j), .int 6, .int (nI (t_L Z j)), .int (nI (t_H Z n j)), s_no] [.int (Z 15 j)] (hp Z P L) _ _
  refine e_go hk_82 8 (c := (156, [.ref 4, .int (nI j), .int 6, .int (nI (t_L Z j)), .int (nI (t_H Z n j)), .int (Z 15 j)], [.int (nI (t_H Z n j)), .int (nI (t_L Z j)), .ref 16], hp Z P L)) rfl ?_
  refine e_call hk_82 (as := [.ref 16, .int (nI (t_L Z j)), .int (nI (t_H Z n j))]) (rest := []) rfl rfl hk_25 rfl (Nat.le_of_ble_eq_true rfl) rfl (x_total2 (r := 16) (a := 17) (n := 60) rfl rfl rfl (by decide) (l := t_L Z j) (u := t_H Z n j) (by omega) (by omega)) ?_
  show e_r 82 159 [.ref 4, .int (nI j), .int 6, .int (nI (t_L Z j)), .int (nI (t_H Z n j)), .int (Z 15 j)] [.int (t_sm (Z 17) (t_L Z j) (t_H Z n j + 1 - t_L Z j) 0)] (hp Z P L) _ _
  exact e_ret hk_82 rfl rfl rfl rfl rfl
theorem x_abt7 {Z : Nat → Nat → Int32} {P : Nat → Nat} {L n : Nat} (hN : Z 5 6 = nI n) (hn : n ≤ 60) {j : Nat} (hj : j < n) : m_r 82 [.ref 4, .int (nI j), .int 7] (hp Z P L) (some (.int (c_abt Z n j 7))) (hp Z P L) := by
  have hlo : t_L Z j ≤ j := t_lo_le (Z 15) (Z 15 j) j
  have hhi : j ≤ t_H Z n j ∧ t_H Z n j ≤ j + (n - 1 - j) := t_hi_le (Z 15) (Z 15 j) (n - 1 - j) j
  refine m_of (ls := [.ref 4, .int (nI j), .int 7, s_no, s_no, s_no]) hk_82 rfl rfl rfl ?_
  refine e_go hk_82 3 (c := (5, [.ref 4, .int (nI j), .int 7, s_no, s_no, s_no], [.int (nI j), .ref 5], hp Z P L)) rfl ?_
  refine e_call hk_82 (as := [.ref 5, .int (nI j)]) (rest := []) rfl rfl hk_37 rfl (Nat.le_of_ble_eq_true rfl) rfl (x_low (j := j) (by omega)) ?_
  show e_r 82 8 [.ref 4, .int (nI j), .int 7, s_no, s_no, s_no] [.int (nI (t_L Z j))] (hp Z P L) _ _
  refine e_go hk_82 4 (c := (14, [.ref 4, .int (nI j), .int 7, .int (nI (t_L Z j)), s_no, s_no], [.int (nI j), .ref 5], hp Z P L)) rfl ?_
  refine e_call hk_82 (as := [.ref 5, .int (nI j)]) (rest := []) rfl rfl hk_38 rfl (Nat.le_of_ble_eq_true rfl) rfl (x_high hN hn (j := j) (by omega)) ?_
  show e_r 82 17 [.ref 4, .int (nI j), .int 7, .int (nI (t_L Z j)), s_no, s_no] [.int (nI (t_H Z n j))] (hp Z P L) _ _
  refine e_go hk_82 5 (c := (27, [.ref 4, .int (nI j), .int 7, .int (nI (t_L Z j)), .int (nI (t_H Z n j)), s_no], [.int (nI j), .ref 14], hp Z P L)) rfl ?_
  refine e_call hk_82 (as := [.ref 14, .int (nI j)]) (rest := []) rfl rfl hk_22 rfl (Nat.le_of_ble_eq_true rfl) rfl (x_at (r := 14) (a := 15) (n := 60) rfl rfl rfl (by decide) (j := j) (by omega)) ?_
  show e_r 82 30 [.ref 4, .int (nI j), .int 7, .int (nI (t_L Z j)), .int (nI (t_H Z n j)), s_no] [.int (Z 15 j)] (hp Z P L) _ _
  refine e_go hk_82 6 (c := (165, [.ref 4, .int (nI j), .int 7, .int (nI (t_L Z j)), .int (nI (t_H Z n j)), .int (Z 15 j)], [.int (nI j), .ref 5], hp Z P L)) rfl ?_
  refine e_call hk_82 (as := [.ref 5, .int (nI j)]) (rest := []) rfl rfl hk_41 rfl (Nat.le_of_ble_eq_true rfl) rfl (x_leans hN hn (j := j) (by omega)) ?_
  show e_r 82 168 [.ref 4, .int (nI j), .int 7, .int (nI (t_L Z j)), .int (nI (t_H Z n j)), .int (Z 15 j)] [.int (y_b (t_ln Z n j))] (hp Z P L) _ _
  refine e_go hk_82 1 (c := (if s_cnd .eq (y_b (t_ln Z n j)) 0 = true then 175 else 171, [.ref 4, .int (nI j), .int 7, .int (nI (t_L Z j)), .int (nI (t_H Z n j)), .int (Z 15 j)], [], hp Z P L)) rfl ?_
  refine e_eq (a := 175) (b := 171) (x := y_b (t_ln Z n j)) (y := 0) (fun hc168 => ?_) (fun hc168 => ?_)
  · skip
    rw [y_b0] at hc168
    refine e_go hk_82 1 (c := (176, [.ref 4, .int (nI j), .int 7, .int (nI (t_L Z j)), .int (nI (t_H Z n j)), .int (Z 15 j)], [.int 0], hp Z P L)) rfl ?_
    exact e_ret hk_82 rfl rfl rfl (by rw [c_abt, hc168]; rfl) rfl
  · skip
    rw [y_b1] at hc168
    refine e_go hk_82 2 (c := (176, [.ref 4, .int (nI j), .int 7, .int (nI (t_L Z j)), .int (nI (t_H Z n j)), .int (Z 15 j)], [.int 1], hp Z P L)) rfl ?_
    exact e_ret hk_82 rfl rfl rfl (by rw [c_abt, hc168]; rfl) rfl
theorem x_abt8 {Z : Nat → Nat → Int32} {P : Nat → Nat} {L n : Nat} (hN : Z 5 6 = nI n) (hn : n ≤ 60) {j : Nat} (hj : j < n) : m_r 82 [.ref 4, .int (nI j), .int 8] (hp Z P L) (some (.int (c_abt Z n j 8))) (hp Z P L) := by
  have hlo : t_L Z j ≤ j := t_lo_le (Z 15) (Z 15 j) j
  have hhi : j ≤ t_H Z n j ∧ t_H Z n j ≤ j + (n - 1 - j) := t_hi_le (Z 15) (Z 15 j) (n - 1 - j) j
  refine m_of (ls := [.ref 4, .int (nI j), .int 8, s_no, s_no, s_no]) hk_82 rfl rfl rfl ?_
  refine e_go hk_82 3 (c := (5, [.ref 4, .int (nI j), .int 8, s_no, s_no, s_no], [.int (nI j), .ref 5], hp Z P L)) rfl ?_
  refine e_call hk_82 (as := [.ref 5, .int (nI j)]) (rest := []) rfl rfl hk_37 rfl (Nat.le_of_ble_eq_true rfl) rfl (x_low (j := j) (by omega)) ?_
  show e_r 82 8 [.ref 4, .int (nI j), .int 8, s_no, s_no, s_no] [.int (nI (t_L Z j))] (hp Z P L) _ _
  refine e_go hk_82 4 (c := (14, [.ref 4, .int (nI j), .int 8, .int (nI (t_L Z j)), s_no, s_no], [.int (nI j), .ref 5], hp Z P L)) rfl ?_
  refine e_call hk_82 (as := [.ref 5, .int (nI j)]) (rest := []) rfl rfl hk_38 rfl (Nat.le_of_ble_eq_true rfl) rfl (x_high hN hn (j := j) (by omega)) ?_
  show e_r 82 17 [.ref 4, .int (nI j), .int 8, .int (nI (t_L Z j)), s_no, s_no] [.int (nI (t_H Z n j))] (hp Z P L) _ _
  refine e_go hk_82 5 (c := (27, [.ref 4, .int (nI j), .int 8, .int (nI (t_L Z j)), .int (nI (t_H Z n j)), s_no], [.int (nI j), .ref 14], hp Z P L)) rfl ?_
  refine e_call hk_82 (as := [.ref 14, .int (nI j)]) (rest := []) rfl rfl hk_22 rfl (Nat.le_of_ble_eq_true rfl) rfl (x_at (r := 14) (a := 15) (n := 60) rfl rfl rfl (by decide) (j := j) (by omega)) ?_
  show e_r 82 30 [.ref 4, .int (nI j), .int 8, .int (nI (t_L Z j)), .int (nI (t_H Z n j)), s_no] [.int (Z 15 j)] (hp Z P L) _ _
  refine e_go hk_82 8 (c := (187, [.ref 4, .int (nI j), .int 8, .int (nI (t_L Z j)), .int (nI (t_H Z n j)), .int (Z 15 j)], [.int (nI (t_H Z n j)), .int (nI (t_L Z j)), .ref 14], hp Z P L)) rfl ?_
  refine e_call hk_82 (as := [.ref 14, .int (nI (t_L Z j)), .int (nI (t_H Z n j))]) (rest := []) rfl rfl hk_26 rfl (Nat.le_of_ble_eq_true rfl) rfl (show m_r 26 [.ref 14, .int (nI (t_L Z j)), .int (nI (t_H Z n j))] (hp Z P L) (some (.int (t_mx (Z 15) (t_L Z j) (t_H Z n j + 1 - t_L Z j) (Z 15 (t_L Z j))))) (hp Z P L) from by have := x_great (h := hp Z P L) (r := 14) (a := 15) (n := 60) rfl rfl rfl (by decide) (l := t_L Z j) (u := t_H Z n j + 1) (by omega) (by omega); rw [nI_pred] at this; exact this) ?_
  show e_r 82 190 [.ref 4, .int (nI j), .int 8, .int (nI (t_L Z j)), .int (nI (t_H Z n j)), .int (Z 15 j)] [.int (t_mx (Z 15) (t_L Z j) (t_H Z n j + 1 - t_L Z j) (Z 15 (t_L Z j)))] (hp Z P L) _ _
  refine e_go hk_82 2 (c := (193, [.ref 4, .int (nI j), .int 8, .int (nI (t_L Z j)), .int (nI (t_H Z n j)), .int (Z 15 j)], [.int ((t_mx (Z 15) (t_L Z j) (t_H Z n j + 1 - t_L Z j) (Z 15 (t_L Z j))) - (Z 15 j))], hp Z P L)) rfl ?_
  exact e_ret hk_82 rfl rfl rfl rfl rfl
def c_node (Z : Nat → Nat → Int32) (n : Nat) (key : Int32) (k : Nat) : Int32 := if y_nm key = true then (match t_nd (Z 9) n key with
  | none => -1
  | some j => c_abt Z n j k) else -2
theorem x_cnode0 {Z : Nat → Nat → Int32} {P : Nat → Nat} {L n : Nat} (hN : Z 5 6 = nI n) (hn : n ≤ 60) {key : Int32} : m_r 62 [.ref 4, .int key, .int 0] (hp Z P L) (some (.int (c_node Z n key 0))) (hp Z P L) := by
  refine m_of (ls := [.ref 4, .int key, .int 0, s_no]) hk_62 rfl rfl rfl ?_
  refine e_go hk_62 1 (c := (1, [.ref 4, .int key, .int 0, s_no], [.int key], hp Z P L)) rfl ?_
  refine e_call hk_62 (as := [.int key]) (rest := []) rfl rfl hk_79 rfl (Nat.le_of_ble_eq_true rfl) rfl (x_num (k := key)) ?_
  show e_r 62 4 [.ref 4, .int key, .int 0, s_no] [.int (y_b (y_nm key))] (hp Z P L) _ _
  refine e_go hk_62 1 (c := (if s_cnd .eq (y_b (y_nm key)) 0 = true then 17 else 7, [.ref 4, .int key, .int 0, s_no], [], hp Z P L)) rfl ?_
  refine e_eq (a := 17) (b := 7) (x := y_b (y_nm key)) (y := 0) (fun hc4 => ?_) (fun hc4 => ?_)
  · skip
    rw [y_b0] at hc4
    refine e_go hk_62 1 (c := (19, [.ref 4, .int key, .int 0, s_no], [.int ((-2))], hp Z P L)) rfl ?_
    exact e_ret hk_62 rfl rfl rfl (by rw [c_node, if_neg (by rw [hc4]; decide)]) rfl
  · skip
    rw [y_b1] at hc4
    refine e_go hk_62 2 (c := (if s_cnd .lt 0 0 = true then 17 else 11, [.ref 4, .int key, .int 0, s_no], [], hp Z P L)) rfl ?_
    refine e_lt (a := 17) (b := 11) (x := 0) (y := 0) (fun hc8 => absurd hc8 (by decide)) (fun hc8 => ?_)
    refine e_go hk_62 3 (c := (if s_cnd .le 0 8 = true then 20 else 17, [.ref 4, .int key, .int 0, s_no], [], hp Z P L)) rfl ?_
    refine e_le (a := 20) (b := 17) (x := 0) (y := 8) (fun hc14 => ?_) (fun hc14 => absurd (by decide) hc14)
    refine e_go hk_62 3 (c := (25, [.ref 4, .int key, .int 0, s_no], [.int key, .ref 5], hp Z P L)) rfl ?_
    refine e_call hk_62 (as := [.ref 5, .int key]) (rest := []) rfl rfl hk_31 rfl (Nat.le_of_ble_eq_true rfl) rfl (x_node hN hn) ?_
    show e_r 62 28 [.ref 4, .int key, .int 0, s_no] [.int (y_o (t_nd (Z 9) n key))] (hp Z P L) _ _
    refine e_go hk_62 4 (c := (if s_cnd .ne (y_o (t_nd (Z 9) n key)) ((-6)) = true then 39 else 35, [.ref 4, .int key, .int 0, .int (y_o (t_nd (Z 9) n key))], [], hp Z P L)) rfl ?_
    refine e_ne (a := 39) (b := 35) (x := y_o (t_nd (Z 9) n key)) (y := (-6)) (fun hc32 => ?_) (fun hc32 => ?_)
    · skip
      rw [y_o_none (fun j hj => by have := (t_nd_lt hj).1; omega)] at hc32
      refine e_go hk_62 3 (c := (42, [.ref 4, .int key, .int 0, .int (y_o (t_nd (Z 9) n key))], [.int 0, .int (y_o (t_nd (Z 9) n key)), .ref 4], hp Z P L)) rfl ?_
      obtain ⟨j, hj⟩ := Option.ne_none_iff_exists'.mp hc32
      have hjn := (fun z => (t_nd_lt z).1) hj
      rw [hj]
      refine e_call hk_62 (as := [.ref 4, .int (nI j), .int 0]) (rest := []) rfl rfl hk_82 rfl (Nat.le_of_ble_eq_true rfl) rfl (x_abt0 hN hn hjn) ?_
      show e_r 62 45 [.ref 4, .int key, .int 0, .int (nI j)] [.int (c_abt Z n j 0)] (hp Z P L) _ _
      exact e_ret hk_62 rfl rfl rfl (by rw [c_node, if_pos hc4, hj]) rfl
    · skip
      rw [y_o_none (fun j hj => by have := (t_nd_lt hj).1; omega)] at hc32
      refine e_go hk_62 2 (c := (45, [.ref 4, .int key, .int 0, .int (y_o (t_nd (Z 9) n key))], [.int ((-1))], hp Z P L)) rfl ?_
      exact e_ret hk_62 rfl rfl rfl (by rw [c_node, if_pos hc4, hc32]) rfl
theorem x_cnode1 {Z : Nat → Nat → Int32} {P : Nat → Nat} {L n : Nat} (hN : Z 5 6 = nI n) (hn : n ≤ 60) {key : Int32} : m_r 62 [.ref 4, .int key, .int 1] (hp Z P L) (some (.int (c_node Z n key 1))) (hp Z P L) := by
  refine m_of (ls := [.ref 4, .int key, .int 1, s_no]) hk_62 rfl rfl rfl ?_
  refine e_go hk_62 1 (c := (1, [.ref 4, .int key, .int 1, s_no], [.int key], hp Z P L)) rfl ?_
  refine e_call hk_62 (as := [.int key]) (rest := []) rfl rfl hk_79 rfl (Nat.le_of_ble_eq_true rfl) rfl (x_num (k := key)) ?_
  show e_r 62 4 [.ref 4, .int key, .int 1, s_no] [.int (y_b (y_nm key))] (hp Z P L) _ _
  refine e_go hk_62 1 (c := (if s_cnd .eq (y_b (y_nm key)) 0 = true then 17 else 7, [.ref 4, .int key, .int 1, s_no], [], hp Z P L)) rfl ?_
  refine e_eq (a := 17) (b := 7) (x := y_b (y_nm key)) (y := 0) (fun hc4 => ?_) (fun hc4 => ?_)
  · skip
    rw [y_b0] at hc4
    refine e_go hk_62 1 (c := (19, [.ref 4, .int key, .int 1, s_no], [.int ((-2))], hp Z P L)) rfl ?_
    exact e_ret hk_62 rfl rfl rfl (by rw [c_node, if_neg (by rw [hc4]; decide)]) rfl
  · skip
    rw [y_b1] at hc4
    refine e_go hk_62 2 (c := (if s_cnd .lt 1 0 = true then 17 else 11, [.ref 4, .int key, .int 1, s_no], [], hp Z P L)) rfl ?_
    refine e_lt (a := 17) (b := 11) (x := 1) (y := 0) (fun hc8 => absurd hc8 (by decide)) (fun hc8 => ?_)
    refine e_go hk_62 3 (c := (if s_cnd .le 1 8 = true then 20 else 17, [.ref 4, .int key, .int 1, s_no], [], hp Z P L)) rfl ?_
    refine e_le (a := 20) (b := 17) (x := 1) (y := 8) (fun hc14 => ?_) (fun hc14 => absurd (by decide) hc14)
    refine e_go hk_62 3 (c := (25, [.ref 4, .int key, .int 1, s_no], [.int key, .ref 5], hp Z P L)) rfl ?_
    refine e_call hk_62 (as := [.ref 5, .int key]) (rest := []) rfl rfl hk_31 rfl (Nat.le_of_ble_eq_true rfl) rfl (x_node hN hn) ?_
    show e_r 62 28 [.ref 4, .int key, .int 1, s_no] [.int (y_o (t_nd (Z 9) n key))] (hp Z P L) _ _
    refine e_go hk_62 4 (c := (if s_cnd .ne (y_o (t_nd (Z 9) n key)) ((-6)) = true then 39 else 35, [.ref 4, .int key, .int 1, .int (y_o (t_nd (Z 9) n key))], [], hp Z P L)) rfl ?_
    refine e_ne (a := 39) (b := 35) (x := y_o (t_nd (Z 9) n key)) (y := (-6)) (fun hc32 => ?_) (fun hc32 => ?_)
    · skip
      rw [y_o_none (fun j hj => by have := (t_nd_lt hj).1; omega)] at hc32
      refine e_go hk_62 3 (c := (42, [.ref 4, .int key, .int 1, .int (y_o (t_nd (Z 9) n key))], [.int 1, .int (y_o (t_nd (Z 9) n key)), .ref 4], hp Z P L)) rfl ?_
      obtain ⟨j, hj⟩ := Option.ne_none_iff_exists'.mp hc32
      have hjn := (fun z => (t_nd_lt z).1) hj
      rw [hj]
      refine e_call hk_62 (as := [.ref 4, .int (nI j), .int 1]) (rest := []) rfl rfl hk_82 rfl (Nat.le_of_ble_eq_true rfl) rfl (x_abt1 hN hn hjn) ?_
      show e_r 62 45 [.ref 4, .int key, .int 1, .int (nI j)] [.int (c_abt Z n j 1)] (hp Z P L) _ _
      exact e_ret hk_62 rfl rfl rfl (by rw [c_node, if_pos hc4, hj]) rfl
    · skip
      rw [y_o_none (fun j hj => by have := (t_nd_lt hj).1; omega)] at hc32
      refine e_go hk_62 2 (c := (45, [.ref 4, .int key, .int 1, .int (y_o (t_nd (Z 9) n key))], [.int ((-1))], hp Z P L)) rfl ?_
      exact e_ret hk_62 rfl rfl rfl (by rw [c_node, if_pos hc4, hc32]) rfl
theorem x_cnode2 {Z : Nat → Nat → Int32} {P : Nat → Nat} {L n : Nat} (hN : Z 5 6 = nI n) (hn : n ≤ 60) {key : Int32} : m_r 62 [.ref 4, .int key, .int 2] (hp Z P L) (some (.int (c_node Z n key 2))) (hp Z P L) := by
  refine m_of (ls := [.ref 4, .int key, .int 2, s_no]) hk_62 rfl rfl rfl ?_
  refine e_go hk_62 1 (c := (1, [.ref 4, .int key, .int 2, s_no], [.int key], hp Z P L)) rfl ?_
  refine e_call hk_62 (as := [.int key]) (rest := []) rfl rfl hk_79 rfl (Nat.le_of_ble_eq_true rfl) rfl (x_num (k := key)) ?_
  show e_r 62 4 [.ref 4, .int key, .int 2, s_no] [.int (y_b (y_nm key))] (hp Z P L) _ _
  refine e_go hk_62 1 (c := (if s_cnd .eq (y_b (y_nm key)) 0 = true then 17 else 7, [.ref 4, .int key, .int 2, s_no], [], hp Z P L)) rfl ?_
  refine e_eq (a := 17) (b := 7) (x := y_b (y_nm key)) (y := 0) (fun hc4 => ?_) (fun hc4 => ?_)
  · skip
    rw [y_b0] at hc4
    refine e_go hk_62 1 (c := (19, [.ref 4, .int key, .int 2, s_no], [.int ((-2))], hp Z P L)) rfl ?_
    exact e_ret hk_62 rfl rfl rfl (by rw [c_node, if_neg (by rw [hc4]; decide)]) rfl
  · skip
    rw [y_b1] at hc4
    refine e_go hk_62 2 (c := (if s_cnd .lt 2 0 = true then 17 else 11, [.ref 4, .int key, .int 2, s_no], [], hp Z P L)) rfl ?_
    refine e_lt (a := 17) (b := 11) (x := 2) (y := 0) (fun hc8 => absurd hc8 (by decide)) (fun hc8 => ?_)
    refine e_go hk_62 3 (c := (if s_cnd .le 2 8 = true then 20 else 17, [.ref 4, .int key, .int 2, s_no], [], hp Z P L)) rfl ?_
    refine e_le (a := 20) (b := 17) (x := 2) (y := 8) (fun hc14 => ?_) (fun hc14 => absurd (by decide) hc14)
    refine e_go hk_62 3 (c := (25, [.ref 4, .int key, .int 2, s_no], [.int key, .ref 5], hp Z P L)) rfl ?_
    refine e_call hk_62 (as := [.ref 5, .int key]) (rest := []) rfl rfl hk_31 rfl (Nat.le_of_ble_eq_true rfl) rfl (x_node hN hn) ?_
    show e_r 62 28 [.ref 4, .int key, .int 2, s_no] [.int (y_o (t_nd (Z 9) n key))] (hp Z P L) _ _
    refine e_go hk_62 4 (c := (if s_cnd .ne (y_o (t_nd (Z 9) n key)) ((-6)) = true then 39 else 35, [.ref 4, .int key, .int 2, .int (y_o (t_nd (Z 9) n key))], [], hp Z P L)) rfl ?_
    refine e_ne (a := 39) (b := 35) (x := y_o (t_nd (Z 9) n key)) (y := (-6)) (fun hc32 => ?_) (fun hc32 => ?_)
    · skip
      rw [y_o_none (fun j hj => by have := (t_nd_lt hj).1; omega)] at hc32
      refine e_go hk_62 3 (c := (42, [.ref 4, .int key, .int 2, .int (y_o (t_nd (Z 9) n key))], [.int 2, .int (y_o (t_nd (Z 9) n key)), .ref 4], hp Z P L)) rfl ?_
      obtain ⟨j, hj⟩ := Option.ne_none_iff_exists'.mp hc32
      have hjn := (fun z => (t_nd_lt z).1) hj
      rw [hj]
      refine e_call hk_62 (as := [.ref 4, .int (nI j), .int 2]) (rest := []) rfl rfl hk_82 rfl (Nat.le_of_ble_eq_true rfl) rfl (x_abt2 hN hn hjn) ?_
      show e_r 62 45 [.ref 4, .int key, .int 2, .int (nI j)] [.int (c_abt Z n j 2)] (hp Z P L) _ _
      exact e_ret hk_62 rfl rfl rfl (by rw [c_node, if_pos hc4, hj]) rfl
    · skip
      rw [y_o_none (fun j hj => by have := (t_nd_lt hj).1; omega)] at hc32
      refine e_go hk_62 2 (c := (45, [.ref 4, .int key, .int 2, .int (y_o (t_nd (Z 9) n key))], [.int ((-1))], hp Z P L)) rfl ?_
      exact e_ret hk_62 rfl rfl rfl (by rw [c_node, if_pos hc4, hc32]) rfl
theorem x_cnode3 {Z : Nat → Nat → Int32} {P : Nat → Nat} {L n : Nat} (hN : Z 5 6 = nI n) (hn : n ≤ 60) {key : Int32} : m_r 62 [.ref 4, .int key, .int 3] (hp Z P L) (some (.int (c_node Z n key 3))) (hp Z P L) := by
  refine m_of (ls := [.ref 4, .int key, .int 3, s_no]) hk_62 rfl rfl rfl ?_
  refine e_go hk_62 1 (c := (1, [.ref 4, .int key, .int 3, s_no], [.int key], hp Z P L)) rfl ?_
  refine e_call hk_62 (as := [.int key]) (rest := []) rfl rfl hk_79 rfl (Nat.le_of_ble_eq_true rfl) rfl (x_num (k := key)) ?_
  show e_r 62 4 [.ref 4, .int key, .int 3, s_no] [.int (y_b (y_nm key))] (hp Z P L) _ _
  refine e_go hk_62 1 (c := (if s_cnd .eq (y_b (y_nm key)) 0 = true then 17 else 7, [.ref 4, .int key, .int 3, s_no], [], hp Z P L)) rfl ?_
  refine e_eq (a := 17) (b := 7) (x := y_b (y_nm key)) (y := 0) (fun hc4 => ?_) (fun hc4 => ?_)
  · skip
    rw [y_b0] at hc4
    refine e_go hk_62 1 (c := (19, [.ref 4, .int key, .int 3, s_no], [.int ((-2))], hp Z P L)) rfl ?_
    exact e_ret hk_62 rfl rfl rfl (by rw [c_node, if_neg (by rw [hc4]; decide)]) rfl
  · skip
    rw [y_b1] at hc4
    refine e_go hk_62 2 (c := (if s_cnd .lt 3 0 = true then 17 else 11, [.ref 4, .int key, .int 3, s_no], [], hp Z P L)) rfl ?_
    refine e_lt (a := 17) (b := 11) (x := 3) (y := 0) (fun hc8 => absurd hc8 (by decide)) (fun hc8 => ?_)
    refine e_go hk_62 3 (c := (if s_cnd .le 3 8 = true then 20 else 17, [.ref 4, .int key, .int 3, s_no], [], hp Z P L)) rfl ?_
    refine e_le (a := 20) (b := 17) (x := 3) (y := 8) (fun hc14 => ?_) (fun hc14 => absurd (by decide) hc14)
    refine e_go hk_62 3 (c := (25, [.ref 4, .int key, .int 3, s_no], [.int key, .ref 5], hp Z P L)) rfl ?_
    refine e_call hk_62 (as := [.ref 5, .int key]) (rest := []) rfl rfl hk_31 rfl (Nat.le_of_ble_eq_true rfl) rfl (x_node hN hn) ?_
    show e_r 62 28 [.ref 4, .int key, .int 3, s_no] [.int (y_o (t_nd (Z 9) n key))] (hp Z P L) _ _
    refine e_go hk_62 4 (c := (if s_cnd .ne (y_o (t_nd (Z 9) n key)) ((-6)) = true then 39 else 35, [.ref 4, .int key, .int 3, .int (y_o (t_nd (Z 9) n key))], [], hp Z P L)) rfl ?_
    refine e_ne (a := 39) (b := 35) (x := y_o (t_nd (Z 9) n key)) (y := (-6)) (fun hc32 => ?_) (fun hc32 => ?_)
    · skip
      rw [y_o_none (fun j hj => by have := (t_nd_lt hj).1; omega)] at hc32
      refine e_go hk_62 3 (c := (42, [.ref 4, .int key, .int 3, .int (y_o (t_nd (Z 9) n key))], [.int 3, .int (y_o (t_nd (Z 9) n key)), .ref 4], hp Z P L)) rfl ?_
      obtain ⟨j, hj⟩ := Option.ne_none_iff_exists'.mp hc32
      have hjn := (fun z => (t_nd_lt z).1) hj
      rw [hj]
      refine e_call hk_62 (as := [.ref 4, .int (nI j), .int 3]) (rest := []) rfl rfl hk_82 rfl (Nat.le_of_ble_eq_true rfl) rfl (x_abt3 hN hn hjn) ?_
      show e_r 62 45 [.ref 4, .int key, .int 3, .int (nI j)] [.int (c_abt Z n j 3)] (hp Z P L) _ _
      exact e_ret hk_62 rfl rfl rfl (by rw [c_node, if_pos hc4, hj]) rfl
    · skip
      rw [y_o_none (fun j hj => by have := (t_nd_lt hj).1; omega)] at hc32
      refine e_go hk_62 2 (c := (45, [.ref 4, .int key, .int 3, .int (y_o (t_nd (Z 9) n key))], [.int ((-1))], hp Z P L)) rfl ?_
      exact e_ret hk_62 rfl rfl rfl (by rw [c_node, if_pos hc4, hc32]) rfl
theorem x_cnode4 {Z : Nat → Nat → Int32} {P : Nat → Nat} {L n : Nat} (hN : Z 5 6 = nI n) (hn : n ≤ 60) {key : Int32} : m_r 62 [.ref 4, .int key, .int 4] (hp Z P L) (some (.int (c_node Z n key 4))) (hp Z P L) := by
  refine m_of (ls := [.ref 4, .int key, .int 4, s_no]) hk_62 rfl rfl rfl ?_
  refine e_go hk_62 1 (c := (1, [.ref 4, .int key, .int 4, s_no], [.int key], hp Z P L)) rfl ?_
  refine e_call hk_62 (as := [.int key]) (rest := []) rfl rfl hk_79 rfl (Nat.le_of_ble_eq_true rfl) rfl (x_num (k := key)) ?_
  show e_r 62 4 [.ref 4, .int key, .int 4, s_no] [.int (y_b (y_nm key))] (hp Z P L) _ _
  refine e_go hk_62 1 (c := (if s_cnd .eq (y_b (y_nm key)) 0 = true then 17 else 7, [.ref 4, .int key, .int 4, s_no], [], hp Z P L)) rfl ?_
  refine e_eq (a := 17) (b := 7) (x := y_b (y_nm key)) (y := 0) (fun hc4 => ?_) (fun hc4 => ?_)
  · skip
    rw [y_b0] at hc4
    refine e_go hk_62 1 (c := (19, [.ref 4, .int key, .int 4, s_no], [.int ((-2))], hp Z P L)) rfl ?_
    exact e_ret hk_62 rfl rfl rfl (by rw [c_node, if_neg (by rw [hc4]; decide)]) rfl
  · skip
    rw [y_b1] at hc4
    refine e_go hk_62 2 (c := (if s_cnd .lt 4 0 = true then 17 else 11, [.ref 4, .int key, .int 4, s_no], [], hp Z P L)) rfl ?_
    refine e_lt (a := 17) (b := 11) (x := 4) (y := 0) (fun hc8 => absurd hc8 (by decide)) (fun hc8 => ?_)
    refine e_go hk_62 3 (c := (if s_cnd .le 4 8 = true then 20 else 17, [.ref 4, .int key, .int 4, s_no], [], hp Z P L)) rfl ?_
    refine e_le (a := 20) (b := 17) (x := 4) (y := 8) (fun hc14 => ?_) (fun hc14 => absurd (by decide) hc14)
    refine e_go hk_62 3 (c := (25, [.ref 4, .int key, .int 4, s_no], [.int key, .ref 5], hp Z P L)) rfl ?_
    refine e_call hk_62 (as := [.ref 5, .int key]) (rest := []) rfl rfl hk_31 rfl (Nat.le_of_ble_eq_true rfl) rfl (x_node hN hn) ?_
    show e_r 62 28 [.ref 4, .int key, .int 4, s_no] [.int (y_o (t_nd (Z 9) n key))] (hp Z P L) _ _
    refine e_go hk_62 4 (c := (if s_cnd .ne (y_o (t_nd (Z 9) n key)) ((-6)) = true then 39 else 35, [.ref 4, .int key, .int 4, .int (y_o (t_nd (Z 9) n key))], [], hp Z P L)) rfl ?_
    refine e_ne (a := 39) (b := 35) (x := y_o (t_nd (Z 9) n key)) (y := (-6)) (fun hc32 => ?_) (fun hc32 => ?_)
    · skip
      rw [y_o_none (fun j hj => by have := (t_nd_lt hj).1; omega)] at hc32
      refine e_go hk_62 3 (c := (42, [.ref 4, .int key, .int 4, .int (y_o (t_nd (Z 9) n key))], [.int 4, .int (y_o (t_nd (Z 9) n key)), .ref 4], hp Z P L)) rfl ?_
      obtain ⟨j, hj⟩ := Option.ne_none_iff_exists'.mp hc32
      have hjn := (fun z => (t_nd_lt z).1) hj
      rw [hj]
      refine e_call hk_62 (as := [.ref 4, .int (nI j), .int 4]) (rest := []) rfl rfl hk_82 rfl (Nat.le_of_ble_eq_true rfl) rfl (x_abt4 hN hn hjn) ?_
      show e_r 62 45 [.ref 4, .int key, .int 4, .int (nI j)] [.int (c_abt Z n j 4)] (hp Z P L) _ _
      exact e_ret hk_62 rfl rfl rfl (by rw [c_node, if_pos hc4, hj]) rfl
    · skip
      rw [y_o_none (fun j hj => by have := (t_nd_lt hj).1; omega)] at hc32
      refine e_go hk_62 2 (c := (45, [.ref 4, .int key, .int 4, .int (y_o (t_nd (Z 9) n key))], [.int ((-1))], hp Z P L)) rfl ?_
      exact e_ret hk_62 rfl rfl rfl (by rw [c_node, if_pos hc4, hc32]) rfl
theorem x_cnode5 {Z : Nat → Nat → Int32} {P : Nat → Nat} {L n : Nat} (hN : Z 5 6 = nI n) (hn : n ≤ 60) {key : Int32} : m_r 62 [.ref 4, .int key, .int 5] (hp Z P L) (some (.int (c_node Z n key 5))) (hp Z P L) := by
  refine m_of (ls := [.ref 4, .int key, .int 5, s_no]) hk_62 rfl rfl rfl ?_
  refine e_go hk_62 1 (c := (1, [.ref 4, .int key, .int 5, s_no], [.int key], hp Z P L)) rfl ?_
  refine e_call hk_62 (as := [.int key]) (rest := []) rfl rfl hk_79 rfl (Nat.le_of_ble_eq_true rfl) rfl (x_num (k := key)) ?_
  show e_r 62 4 [.ref 4, .int key, .int 5, s_no] [.int (y_b (y_nm key))] (hp Z P L) _ _
  refine e_go hk_62 1 (c := (if s_cnd .eq (y_b (y_nm key)) 0 = true then 17 else 7, [.ref 4, .int key, .int 5, s_no], [], hp Z P L)) rfl ?_
  refine e_eq (a := 17) (b := 7) (x := y_b (y_nm key)) (y := 0) (fun hc4 => ?_) (fun hc4 => ?_)
  · skip
    rw [y_b0] at hc4
    refine e_go hk_62 1 (c := (19, [.ref 4, .int key, .int 5, s_no], [.int ((-2))], hp Z P L)) rfl ?_
    exact e_ret hk_62 rfl rfl rfl (by rw [c_node, if_neg (by rw [hc4]; decide)]) rfl
  · skip
    rw [y_b1] at hc4
    refine e_go hk_62 2 (c := (if s_cnd .lt 5 0 = true then 17 else 11, [.ref 4, .int key, .int 5, s_no], [], hp Z P L)) rfl ?_
    refine e_lt (a := 17) (b := 11) (x := 5) (y := 0) (fun hc8 => absurd hc8 (by decide)) (fun hc8 => ?_)
    refine e_go hk_62 3 (c := (if s_cnd .le 5 8 = true then 20 else 17, [.ref 4, .int key, .int 5, s_no], [], hp Z P L)) rfl ?_
    refine e_le (a := 20) (b := 17) (x := 5) (y := 8) (fun hc14 => ?_) (fun hc14 => absurd (by decide) hc14)
    refine e_go hk_62 3 (c := (25, [.ref 4, .int key, .int 5, s_no], [.int key, .ref 5], hp Z P L)) rfl ?_
    refine e_call hk_62 (as := [.ref 5, .int key]) (rest := []) rfl rfl hk_31 rfl (Nat.le_of_ble_eq_true rfl) rfl (x_node hN hn) ?_
    show e_r 62 28 [.ref 4, .int key, .int 5, s_no] [.int (y_o (t_nd (Z 9) n key))] (hp Z P L) _ _
    refine e_go hk_62 4 (c := (if s_cnd .ne (y_o (t_nd (Z 9) n key)) ((-6)) = true then 39 else 35, [.ref 4, .int key, .int 5, .int (y_o (t_nd (Z 9) n key))], [], hp Z P L)) rfl ?_
    refine e_ne (a := 39) (b := 35) (x := y_o (t_nd (Z 9) n key)) (y := (-6)) (fun hc32 => ?_) (fun hc32 => ?_)
    · skip
      rw [y_o_none (fun j hj => by have := (t_nd_lt hj).1; omega)] at hc32
      refine e_go hk_62 3 (c := (42, [.ref 4, .int key, .int 5, .int (y_o (t_nd (Z 9) n key))], [.int 5, .int (y_o (t_nd (Z 9) n key)), .ref 4], hp Z P L)) rfl ?_
      obtain ⟨j, hj⟩ := Option.ne_none_iff_exists'.mp hc32
      have hjn := (fun z => (t_nd_lt z).1) hj
      rw [hj]
      refine e_call hk_62 (as := [.ref 4, .int (nI j), .int 5]) (rest := []) rfl rfl hk_82 rfl (Nat.le_of_ble_eq_true rfl) rfl (x_abt5 hN hn hjn) ?_
      show e_r 62 45 [.ref 4, .int key, .int 5, .int (nI j)] [.int (c_abt Z n j 5)] (hp Z P L) _ _
      exact e_ret hk_62 rfl rfl rfl (by rw [c_node, if_pos hc4, hj]) rfl
    · skip
      rw [y_o_none (fun j hj => by have := (t_nd_lt hj).1; omega)] at hc32
      refine e_go hk_62 2 (c := (45, [.ref 4, .int key, .int 5, .int (y_o (t_nd (Z 9) n key))], [.int ((-1))], hp Z P L)) rfl ?_
      exact e_ret hk_62 rfl rfl rfl (by rw [c_node, if_pos hc4, hc32]) rfl
theorem x_cnode6 {Z : Nat → Nat → Int32} {P : Nat → Nat} {L n : Nat} (hN : Z 5 6 = nI n) (hn : n ≤ 60) {key : Int32} : m_r 62 [.ref 4, .int key, .int 6] (hp Z P L) (some (.int (c_node Z n key 6))) (hp Z P L) := by
  refine m_of (ls := [.ref 4, .int key, .int 6, s_no]) hk_62 rfl rfl rfl ?_
  refine e_go hk_62 1 (c := (1, [.ref 4, .int key, .int 6, s_no], [.int key], hp Z P L)) rfl ?_
  refine e_call hk_62 (as := [.int key]) (rest := []) rfl rfl hk_79 rfl (Nat.le_of_ble_eq_true rfl) rfl (x_num (k := key)) ?_
  show e_r 62 4 [.ref 4, .int key, .int 6, s_no] [.int (y_b (y_nm key))] (hp Z P L) _ _
  refine e_go hk_62 1 (c := (if s_cnd .eq (y_b (y_nm key)) 0 = true then 17 else 7, [.ref 4, .int key, .int 6, s_no], [], hp Z P L)) rfl ?_
  refine e_eq (a := 17) (b := 7) (x := y_b (y_nm key)) (y := 0) (fun hc4 => ?_) (fun hc4 => ?_)
  · skip
    rw [y_b0] at hc4
    refine e_go hk_62 1 (c := (19, [.ref 4, .int key, .int 6, s_no], [.int ((-2))], hp Z P L)) rfl ?_
    exact e_ret hk_62 rfl rfl rfl (by rw [c_node, if_neg (by rw [hc4]; decide)]) rfl
  · skip
    rw [y_b1] at hc4
    refine e_go hk_62 2 (c := (if s_cnd .lt 6 0 = true then 17 else 11, [.ref 4, .int key, .int 6, s_no], [], hp Z P L)) rfl ?_
    refine e_lt (a := 17) (b := 11) (x := 6) (y := 0) (fun hc8 => absurd hc8 (by decide)) (fun hc8 => ?_)
    refine e_go hk_62 3 (c := (if s_cnd .le 6 8 = true then 20 else 17, [.ref 4, .int key, .int 6, s_no], [], hp Z P L)) rfl ?_
    refine e_le (a := 20) (b := 17) (x := 6) (y := 8) (fun hc14 => ?_) (fun hc14 => absurd (by decide) hc14)
    refine e_go hk_62 3 (c := (25, [.ref 4, .int key, .int 6, s_no], [.int key, .ref 5], hp Z P L)) rfl ?_
    refine e_call hk_62 (as := [.ref 5, .int key]) (rest := []) rfl rfl hk_31 rfl (Nat.le_of_ble_eq_true rfl) rfl (x_node hN hn) ?_
    show e_r 62 28 [.ref 4, .int key, .int 6, s_no] [.int (y_o (t_nd (Z 9) n key))] (hp Z P L) _ _
    refine e_go hk_62 4 (c := (if s_cnd .ne (y_o (t_nd (Z 9) n key)) ((-6)) = true then 39 else 35, [.ref 4, .int key, .int 6, .int (y_o (t_nd (Z 9) n key))], [], hp Z P L)) rfl ?_
    refine e_ne (a := 39) (b := 35) (x := y_o (t_nd (Z 9) n key)) (y := (-6)) (fun hc32 => ?_) (fun hc32 => ?_)
    · skip
      rw [y_o_none (fun j hj => by have := (t_nd_lt hj).1; omega)] at hc32
      refine e_go hk_62 3 (c := (42, [.ref 4, .int key, .int 6, .int (y_o (t_nd (Z 9) n key))], [.int 6, .int (y_o (t_nd (Z 9) n key)), .ref 4], hp Z P L)) rfl ?_
      obtain ⟨j, hj⟩ := Option.ne_none_iff_exists'.mp hc32
      have hjn := (fun z => (t_nd_lt z).1) hj
      rw [hj]
      refine e_call hk_62 (as := [.ref 4, .int (nI j), .int 6]) (rest := []) rfl rfl hk_82 rfl (Nat.le_of_ble_eq_true rfl) rfl (x_abt6 hN hn hjn) ?_
      show e_r 62 45 [.ref 4, .int key, .int 6, .int (nI j)] [.int (c_abt Z n j 6)] (hp Z P L) _ _
      exact e_ret hk_62 rfl rfl rfl (by rw [c_node, if_pos hc4, hj]) rfl
    · skip
      rw [y_o_none (fun j hj => by have := (t_nd_lt hj).1; omega)] at hc32
      refine e_go hk_62 2 (c := (45, [.ref 4, .int key, .int 6, .int (y_o (t_nd (Z 9) n key))], [.int ((-1))], hp Z P L)) rfl ?_
      exact e_ret hk_62 rfl rfl rfl (by rw [c_node, if_pos hc4, hc32]) rfl
theorem x_cnode7 {Z : Nat → Nat → Int32} {P : Nat → Nat} {L n : Nat} (hN : Z 5 6 = nI n) (hn : n ≤ 60) {key : Int32} : m_r 62 [.ref 4, .int key, .int 7] (hp Z P L) (some (.int (c_node Z n key 7))) (hp Z P L) := by
  refine m_of (ls := [.ref 4, .int key, .int 7, s_no]) hk_62 rfl rfl rfl ?_
  refine e_go hk_62 1 (c := (1, [.ref 4, .int key, .int 7, s_no], [.int key], hp Z P L)) rfl ?_
  refine e_call hk_62 (as := [.int key]) (rest := []) rfl rfl hk_79 rfl (Nat.le_of_ble_eq_true rfl) rfl (x_num (k := key)) ?_
  show e_r 62 4 [.ref 4, .int key, .int 7, s_no] [.int (y_b (y_nm key))] (hp Z P L) _ _
  refine e_go hk_62 1 (c := (if s_cnd .eq (y_b (y_nm key)) 0 = true then 17 else 7, [.ref 4, .int key, .int 7, s_no], [], hp Z P L)) rfl ?_
  refine e_eq (a := 17) (b := 7) (x := y_b (y_nm key)) (y := 0) (fun hc4 => ?_) (fun hc4 => ?_)
  · skip
    rw [y_b0] at hc4
    refine e_go hk_62 1 (c := (19, [.ref 4, .int key, .int 7, s_no], [.int ((-2))], hp Z P L)) rfl ?_
    exact e_ret hk_62 rfl rfl rfl (by rw [c_node, if_neg (by rw [hc4]; decide)]) rfl
  · skip
    rw [y_b1] at hc4
    refine e_go hk_62 2 (c := (if s_cnd .lt 7 0 = true then 17 else 11, [.ref 4, .int key, .int 7, s_no], [], hp Z P L)) rfl ?_
    refine e_lt (a := 17) (b := 11) (x := 7) (y := 0) (fun hc8 => absurd hc8 (by decide)) (fun hc8 => ?_)
    refine e_go hk_62 3 (c := (if s_cnd .le 7 8 = true then 20 else 17, [.ref 4, .int key, .int 7, s_no], [], hp Z P L)) rfl ?_
    refine e_le (a := 20) (b := 17) (x := 7) (y := 8) (fun hc14 => ?_) (fun hc14 => absurd (by decide) hc14)
    refine e_go hk_62 3 (c := (25, [.ref 4, .int key, .int 7, s_no], [.int key, .ref 5], hp Z P L)) rfl ?_
    refine e_call hk_62 (as := [.ref 5, .int key]) (rest := []) rfl rfl hk_31 rfl (Nat.le_of_ble_eq_true rfl) rfl (x_node hN hn) ?_
    show e_r 62 28 [.ref 4, .int key, .int 7, s_no] [.int (y_o (t_nd (Z 9) n key))] (hp Z P L) _ _
    refine e_go hk_62 4 (c := (if s_cnd .ne (y_o (t_nd (Z 9) n key)) ((-6)) = true then 39 else 35, [.ref 4, .int key, .int 7, .int (y_o (t_nd (Z 9) n key))], [], hp Z P L)) rfl ?_
    refine e_ne (a := 39) (b := 35) (x := y_o (t_nd (Z 9) n key)) (y := (-6)) (fun hc32 => ?_) (fun hc32 => ?_)
    · skip
      rw [y_o_none (fun j hj => by have := (t_nd_lt hj).1; omega)] at hc32
      refine e_go hk_62 3 (c := (42, [.ref 4, .int key, .int 7, .int (y_o (t_nd (Z 9) n key))], [.int 7, .int (y_o (t_nd (Z 9) n key)), .ref 4], hp Z P L)) rfl ?_
      obtain ⟨j, hj⟩ := Option.ne_none_iff_exists'.mp hc32
      have hjn := (fun z => (t_nd_lt z).1) hj
      rw [hj]
      refine e_call hk_62 (as := [.ref 4, .int (nI j), .int 7]) (rest := []) rfl rfl hk_82 rfl (Nat.le_of_ble_eq_true rfl) rfl (x_abt7 hN hn hjn) ?_
      show e_r 62 45 [.ref 4, .int key, .int 7, .int (nI j)] [.int (c_abt Z n j 7)] (hp Z P L) _ _
      exact e_ret hk_62 rfl rfl rfl (by rw [c_node, if_pos hc4, hj]) rfl
    · skip
      rw [y_o_none (fun j hj => by have := (t_nd_lt hj).1; omega)] at hc32
      refine e_go hk_62 2 (c := (45, [.ref 4, .int key, .int 7, .int (y_o (t_nd (Z 9) n key))], [.int ((-1))], hp Z P L)) rfl ?_
      exact e_ret hk_62 rfl rfl rfl (by rw [c_node, if_pos hc4, hc32]) rfl
theorem x_cnode8 {Z : Nat → Nat → Int32} {P : Nat → Nat} {L n : Nat} (hN : Z 5 6 = nI n) (hn : n ≤ 60) {key : Int32} : m_r 62 [.ref 4, .int key, .int 8] (hp Z P L) (some (.int (c_node Z n key 8))) (hp Z P L) := by
  refine m_of (ls := [.ref 4, .int key, .int 8, s_no]) hk_62 rfl rfl rfl ?_
  refine e_go hk_62 1 (c := (1, [.ref 4, .int key, .int 8, s_no], [.int key], hp Z P L)) rfl ?_
  refine e_call hk_62 (as := [.int key]) (rest := []) rfl rfl hk_79 rfl (Nat.le_of_ble_eq_true rfl) rfl (x_num (k := key)) ?_
  show e_r 62 4 [.ref 4, .int key, .int 8, s_no] [.int (y_b (y_nm key))] (hp Z P L) _ _
  refine e_go hk_62 1 (c := (if s_cnd .eq (y_b (y_nm key)) 0 = true then 17 else 7, [.ref 4, .int key, .int 8, s_no], [], hp Z P L)) rfl ?_
  refine e_eq (a := 17) (b := 7) (x := y_b (y_nm key)) (y := 0) (fun hc4 => ?_) (fun hc4 => ?_)
  · skip
    rw [y_b0] at hc4
    refine e_go hk_62 1 (c := (19, [.ref 4, .int key, .int 8, s_no], [.int ((-2))], hp Z P L)) rfl ?_
    exact e_ret hk_62 rfl rfl rfl (by rw [c_node, if_neg (by rw [hc4]; decide)]) rfl
  · skip
    rw [y_b1] at hc4
    refine e_go hk_62 2 (c := (if s_cnd .lt 8 0 = true then 17 else 11, [.ref 4, .int key, .int 8, s_no], [], hp Z P L)) rfl ?_
    refine e_lt (a := 17) (b := 11) (x := 8) (y := 0) (fun hc8 => absurd hc8 (by decide)) (fun hc8 => ?_)
    refine e_go hk_62 3 (c := (if s_cnd .le 8 8 = true then 20 else 17, [.ref 4, .int key, .int 8, s_no], [], hp Z P L)) rfl ?_
    refine e_le (a := 20) (b := 17) (x := 8) (y := 8) (fun hc14 => ?_) (fun hc14 => absurd (by decide) hc14)
    refine e_go hk_62 3 (c := (25, [.ref 4, .int key, .int 8, s_no], [.int key, .ref 5], hp Z P L)) rfl ?_
    refine e_call hk_62 (as := [.ref 5, .int key]) (rest := []) rfl rfl hk_31 rfl (Nat.le_of_ble_eq_true rfl) rfl (x_node hN hn) ?_
    show e_r 62 28 [.ref 4, .int key, .int 8, s_no] [.int (y_o (t_nd (Z 9) n key))] (hp Z P L) _ _
    refine e_go hk_62 4 (c := (if s_cnd .ne (y_o (t_nd (Z 9) n key)) ((-6)) = true then 39 else 35, [.ref 4, .int key, .int 8, .int (y_o (t_nd (Z 9) n key))], [], hp Z P L)) rfl ?_
    refine e_ne (a := 39) (b := 35) (x := y_o (t_nd (Z 9) n key)) (y := (-6)) (fun hc32 => ?_) (fun hc32 => ?_)
    · skip
      rw [y_o_none (fun j hj => by have := (t_nd_lt hj).1; omega)] at hc32
      refine e_go hk_62 3 (c := (42, [.ref 4, .int key, .int 8, .int (y_o (t_nd (Z 9) n key))], [.int 8, .int (y_o (t_nd (Z 9) n key)), .ref 4], hp Z P L)) rfl ?_
      obtain ⟨j, hj⟩ := Option.ne_none_iff_exists'.mp hc32
      have hjn := (fun z => (t_nd_lt z).1) hj
      rw [hj]
      refine e_call hk_62 (as := [.ref 4, .int (nI j), .int 8]) (rest := []) rfl rfl hk_82 rfl (Nat.le_of_ble_eq_true rfl) rfl (x_abt8 hN hn hjn) ?_
      show e_r 62 45 [.ref 4, .int key, .int 8, .int (nI j)] [.int (c_abt Z n j 8)] (hp Z P L) _ _
      exact e_ret hk_62 rfl rfl rfl (by rw [c_node, if_pos hc4, hj]) rfl
    · skip
      rw [y_o_none (fun j hj => by have := (t_nd_lt hj).1; omega)] at hc32
      refine e_go hk_62 2 (c := (45, [.ref 4, .int key, .int 8, .int (y_o (t_nd (Z 9) n key))], [.int ((-1))], hp Z P L)) rfl ?_
      exact e_ret hk_62 rfl rfl rfl (by rw [c_node, if_pos hc4, hc32]) rfl
theorem x_cnode_no {Z : Nat → Nat → Int32} {P : Nat → Nat} {L : Nat} {key k : Int32} (hk : k < 0 ∨ 8 < k) : m_r 62 [.ref 4, .int key, .int k] (hp Z P L) (some (.int (-2))) (hp Z P L) := by
  refine m_of (ls := [.ref 4, .int key, .int k, s_no]) hk_62 rfl rfl rfl ?_
  refine e_go hk_62 1 (c := (1, [.ref 4, .int key, .int k, s_no], [.int key], hp Z P L)) rfl ?_
  refine e_call hk_62 (as := [.int key]) (rest := []) rfl rfl hk_79 rfl (Nat.le_of_ble_eq_true rfl) rfl (x_num (k := key)) ?_
  show e_r 62 4 [.ref 4, .int key, .int k, s_no] [.int (y_b (y_nm key))] (hp Z P L) _ _
  refine e_go hk_62 1 (c := (if s_cnd .eq (y_b (y_nm key)) 0 = true then 17 else 7, [.ref 4, .int key, .int k, s_no], [], hp Z P L)) rfl ?_
  refine e_eq (a := 17) (b := 7) (x := y_b (y_nm key)) (y := 0) (fun hc4 => ?_) (fun hc4 => ?_)
  · skip
    refine e_go hk_62 1 (c := (19, [.ref 4, .int key, .int k, s_no], [.int ((-2))], hp Z P L)) rfl ?_
    exact e_ret hk_62 rfl rfl rfl rfl rfl
  · skip
    refine e_go hk_62 2 (c := (if s_cnd .lt k 0 = true then 17 else 11, [.ref 4, .int key, .int k, s_no], [], hp Z P L)) rfl ?_
    refine e_lt (a := 17) (b := 11) (x := k) (y := 0) (fun hc8 => ?_) (fun hc8 => ?_)
    · skip
      refine e_go hk_62 1 (c := (19, [.ref 4, .int key, .int k, s_no], [.int ((-2))], hp Z P L)) rfl ?_
      exact e_ret hk_62 rfl rfl rfl rfl rfl
    · skip
      have h3 : 8 < k := hk.elim (fun z => absurd z hc8) id
      refine e_go hk_62 3 (c := (if s_cnd .le k 8 = true then 20 else 17, [.ref 4, .int key, .int k, s_no], [], hp Z P L)) rfl ?_
      refine e_le (a := 20) (b := 17) (x := k) (y := 8) (fun hc14 => absurd hc14 (Int32.not_le.mpr h3)) (fun hc14 => ?_)
      refine e_go hk_62 1 (c := (19, [.ref 4, .int key, .int k, s_no], [.int ((-2))], hp Z P L)) rfl ?_
      exact e_ret hk_62 rfl rfl rfl rfl rfl
end
section
/-! The calls: carryOut; printed by wip/whole/gen/calls5.py -/
theorem t_ly_o {lo c q : Nat} {dep : Int32} (hq : q ≠ 15) (hq2 : q ≠ 13) : ∀ (k i : Nat) (Z : Nat → Nat → Int32), t_ly lo c dep k i Z q = Z q
  | 0, i, Z => rfl
  | k + 1, i, Z => by rw [t_ly, t_ly_o hq hq2 k, s_upd_o hq2, s_upd_o hq]
theorem t_dh_o {hi c : Nat} (hc : ¬ t_cl c) (h5 : c ≠ 5) : ∀ (k i q : Nat) (Z : Nat → Nat → Int32), t_dh hi k i q Z c = Z c
  | 0, i, q, Z => s_upd_o h5
  | k + 1, i, q, Z => by
    rw [t_dh]
    split
    · rw [t_dh_o hc h5 k, t_mv_o hc]
    · rw [t_dh_o hc h5 k]
/-- what stands in the columns stays 0 or 1 -/
def y_F (Z : Nat → Nat → Int32) (n : Nat) : Prop := ∀ i, i < n → Z 17 i = 0 ∨ Z 17 i = 1
theorem t_dh_T {hi n : Nat} : ∀ (k i q : Nat) (Z : Nat → Nat → Int32), i + k = n → q ≤ i → y_F Z n → ∃ n2 : Nat, n2 ≤ n ∧ t_dh hi k i q Z 5 6 = nI n2 ∧ y_F (t_dh hi k i q Z) n
  | 0, i, q, Z, h, hq, hF => ⟨q, by omega, by rw [t_dh, s_upd_c, if_pos ⟨rfl, rfl⟩], by unfold y_F; rw [t_dh, s_upd_o (by decide)]; exact hF⟩
  | k + 1, i, q, Z, h, hq, hF => by
    rw [t_dh]
    split
    · refine t_dh_T k (i + 1) (q + 1) _ (by omega) (by omega) ?_
      intro x hx
      rw [t_mv_get (by unfold t_cl; omega)]
      split
      · exact hF i (by omega)
      · exact hF x hx
    · exact t_dh_T k (i + 1) q Z (by omega) (by omega) hF
def y_T (Z : Nat → Nat → Int32) : Prop := ∃ n : Nat, n ≤ 60 ∧ Z 5 6 = nI n ∧ y_F Z n
theorem t_sp_o {Z : Nat → Nat → Int32} {pd w : Int32} {c : Nat} (h : c ≠ 5) : t_sp Z pd w c = Z c := by
  unfold t_sp
  rw [s_upd_o h, s_upd_o h, s_upd_o h, s_upd_o h]
theorem t_la_T {Z : Nat → Nat → Int32} {n j : Nat} (hn : n ≤ 60) (hF : y_F Z n) (hj : j < n) : y_T (t_la Z n j) := by
  have hlo : t_L Z j ≤ j := t_lo_le (Z 15) (Z 15 j) j
  unfold t_la
  obtain ⟨n2, h1, h2, h3⟩ := t_dh_T (hi := t_H Z n j) (n := n) (n - t_L Z j) (t_L Z j) (t_L Z j) (t_sp Z (t_sm (Z 13) (t_L Z j) (t_H Z n j + 1 - t_L Z j) 0) (t_wt Z n j)) (by omega) (Nat.le_refl _) (by unfold y_F; rw [t_sp_o (by decide)]; exact hF)
  refine ⟨n2, by omega, by rw [t_ly_o (by decide) (by decide)]; exact h2, ?_⟩
  intro x hx
  rw [t_ly_o (by decide) (by decide)]
  exact h3 x (by omega)
theorem t_la_o {Z : Nat → Nat → Int32} {n j c : Nat} (hc : 18 ≤ c) : t_la Z n j c = Z c := by
  have h1 : ¬ t_cl c := by unfold t_cl; omega
  unfold t_la
  rw [t_ly_o (by omega) (by omega), t_dh_o h1 (by omega), t_sp_o (by omega)]
theorem t_en_o {Z : Nat → Nat → Int32} {n c : Nat} {key value : Int32} (hc : 18 ≤ c) : (t_en Z n key value).2 c = Z c := by
  have h1 : ¬ t_cl c := by unfold t_cl; omega
  unfold t_en
  split
  · rfl
  split
  · show t_py _ 60 0 0 n _ c = _
    rw [t_py_o (by omega), s_upd_o (by omega), s_upd_o (by omega)]
  split
  · show t_py _ 60 0 0 (n + 1) _ c = _
    rw [t_py_o (by omega), t_mk_o h1 (by omega)]
  · show t_la _ _ _ c = _
    rw [t_la_o hc, t_py_o (by omega), t_mk_o h1 (by omega)]
theorem t_hl_o {Z : Nat → Nat → Int32} {n c : Nat} {key : Int32} (hc : 18 ≤ c) : (t_hl Z n key).2 c = Z c := by
  unfold t_hl
  split
  · rfl
  · unfold t_h2
    split
    · show t_la _ _ _ c = _
      rw [t_la_o hc, t_py_o (by omega), s_upd_o (by omega)]
    · show t_py _ 60 0 0 n _ c = _
      rw [t_py_o (by omega), s_upd_o (by omega)]
theorem t_lk_o {Z : Nat → Nat → Int32} {n c : Nat} {key : Int32} (hc : 18 ≤ c) : (t_lk Z n key).2 c = Z c := by
  unfold t_lk
  split
  · rfl
  · exact t_la_o hc
theorem t_lk_T {Z : Nat → Nat → Int32} {n : Nat} {key : Int32} (hn : n ≤ 60) (hN : Z 5 6 = nI n) (hF : y_F Z n) : y_T (t_lk Z n key).2 := by
  unfold t_lk
  split
  · exact ⟨n, hn, hN, hF⟩
  next j hj => exact t_la_T hn hF (t_nd_lt hj).1
theorem t_hl_T {Z : Nat → Nat → Int32} {n : Nat} {key : Int32} (hn : n ≤ 60) (hN : Z 5 6 = nI n) (hF : y_F Z n) : y_T (t_hl Z n key).2 := by
  unfold t_hl
  split
  · exact ⟨n, hn, hN, hF⟩
  next j hj =>
    have hjn := (t_fn_lt hj).1
    have hF2 : y_F (t_py j 60 0 0 n (s_upd Z 17 j 0)) n := by
      intro i hi
      rw [t_py_o (by decide), s_upd_c]
      split
      · exact Or.inl rfl
      · exact hF i hi
    unfold t_h2
    split
    · refine t_la_T hn hF2 ?_
      have := t_tp_le ((t_py j 60 0 0 n (s_upd Z 17 j 0)) 15) 0 (n - 1 - 0) 0
      omega
    · exact ⟨n, hn, by show t_py _ 60 0 0 n _ 5 6 = _; rw [t_py_o (by decide), s_upd_o (by decide)]; exact hN, hF2⟩
theorem t_en_T {Z : Nat → Nat → Int32} {n : Nat} {key value : Int32} (hn : n ≤ 60) (hN : Z 5 6 = nI n) (hF : y_F Z n) : y_T (t_en Z n key value).2 := by
  unfold t_en
  split
  · exact ⟨n, hn, hN, hF⟩
  next hr =>
  split
  next j hj =>
    refine ⟨n, hn, by show t_py _ 60 0 0 n _ 5 6 = _; rw [t_py_o (by decide), s_upd_o (by decide), s_upd_o (by decide)]; exact hN, ?_⟩
    intro i hi
    show t_py _ 60 0 0 n _ 17 i = 0 ∨ t_py _ 60 0 0 n _ 17 i = 1
    rw [t_py_o (by decide), s_upd_c]
    split
    · exact Or.inr rfl
    · rw [s_upd_o (by decide)]; exact hF i hi
  next hq =>
    have hlt : n < 60 := by
      rcases Nat.lt_or_ge n 60 with z | z
      · exact z
      · rw [t_rm, hq, decide_eq_false (by omega)] at hr; exact absurd rfl hr
    have hpl := (t_pl_le (Z 9) key n 0).2
    have hN2 : (t_py (t_pl (Z 9) key 0 n) 60 0 0 (n + 1) (t_mk Z n (t_pl (Z 9) key 0 n) key value)) 5 6 = nI (n + 1) := by rw [t_py_o (by decide)]; exact t_mk_N hN
    have hF2 : y_F (t_py (t_pl (Z 9) key 0 n) 60 0 0 (n + 1) (t_mk Z n (t_pl (Z 9) key 0 n) key value)) (n + 1) := by
      intro i hi
      rw [t_py_o (by decide), t_mk_get (by omega) (by omega) 17 (by unfold t_cl; omega)]
      split
      · exact hF i (by omega)
      · split
        · exact Or.inr rfl
        · exact hF (i - 1) (by omega)
    split
    · exact ⟨n + 1, by omega, hN2, hF2⟩
    next j hj =>
      have hjn := t_wl_lt (Nat.le_refl n) hj
      refine t_la_T (by omega) hF2 ?_
      split <;> omega
theorem e_lsw {k pc : Nat} {r : sM} {cn : Option Nat} {ls rest : List Value} {h h2 : sHp} {v : Option Value} (hk : s_T k = some (r, cn)) {e : sE} {d : Int} {ps : Array (Int × Int)} {x : Int32} {t : Nat} (hat : s_at (s_cd r) pc = some e) (hi : e.2.1 = .lookupswitch d ps) (ho : (Op.lookupswitch.offset ps.toList d x.toInt).toNat = t) (kk : e_r k t ls rest h v h2) : e_r k pc ls (.int x :: rest) h v h2 := by
  refine e_step (c := (t, ls, rest, h)) hk hat (by rw [hi]; rfl) (by rw [hi]; rfl) ?_ kk
  rw [hi]
  dsimp only [s_x]
  rw [ho]
def t_ak (Z : Nat → Nat → Int32) : Int32 := if Z 102 4 = 0 then Z 102 3 else Z 102 2
def y_n (Z : Nat → Nat → Int32) : Nat := (Z 5 6).toNatClampNeg
/-- the order that the reader has read is carried out -/
def t_ans (Z : Nat → Nat → Int32) : Int32 × (Nat → Nat → Int32) := if Z 102 0 = 43 then t_en Z (y_n Z) (t_ak Z) (Z 102 3) else if Z 102 0 = 45 then t_hl Z (y_n Z) (t_ak Z) else t_lk Z (y_n Z) (t_ak Z)
theorem t_ans_T {Z : Nat → Nat → Int32} (h : y_T Z) : y_T (t_ans Z).2 := by
  obtain ⟨n, hn, hN, hF⟩ := h
  have hy : y_n Z = n := by unfold y_n; rw [hN, nI_clamp (by omega)]
  unfold t_ans
  rw [hy]
  split
  · exact t_en_T hn hN hF
  split
  · exact t_hl_T hn hN hF
  · exact t_lk_T hn hN hF
theorem t_ans_o {Z : Nat → Nat → Int32} {c : Nat} (hc : 18 ≤ c) : (t_ans Z).2 c = Z c := by
  unfold t_ans
  split
  · exact t_en_o hc
  split
  · exact t_hl_o hc
  · exact t_lk_o hc
theorem x_ans_p {Z : Nat → Nat → Int32} {P : Nat → Nat} {L n : Nat} (hN : Z 5 6 = nI n) (hn : n ≤ 60) (hF : ∀ i, i < n → Z 17 i = 0 ∨ Z 17 i = 1) (hs : Z 102 0 = 43) : m_r 86 [.ref 4] (hp Z P L) (some (.int (t_ans Z).1)) (hp (t_ans Z).2 P L) := by
  have hy : y_n Z = n := by unfold y_n; rw [hN, nI_clamp (by omega)]
  refine m_of (ls := [.ref 4, s_no]) hk_86 rfl rfl rfl ?_
  refine e_go hk_86 2 (c := (4, [.ref 4, s_no], [.ref 102], hp Z P L)) rfl ?_
  refine e_call hk_86 (as := [.ref 102]) (rest := []) rfl rfl hk_9 rfl (Nat.le_of_ble_eq_true rfl) rfl x_okey ?_
  show e_r 86 7 [.ref 4, s_no] [.int (t_ak Z)] (hp Z P L) _ _
  refine e_go hk_86 4 (c := (15, [.ref 4, .int (t_ak Z)], [.int (Z 102 0)], hp Z P L)) rfl ?_
  rw [hs]
  refine e_go hk_86 6 (c := (49, [.ref 4, .int (t_ak Z)], [.ref 102, .int (t_ak Z), .ref 5], hp Z P L)) rfl ?_
  refine e_call hk_86 (as := [.ref 102]) (rest := [.int (t_ak Z), .ref 5]) rfl rfl hk_10 rfl (Nat.le_of_ble_eq_true rfl) rfl x_oval ?_
  show e_r 86 52 [.ref 4, .int (t_ak Z)] [.int (Z 102 3), .int (t_ak Z), .ref 5] (hp Z P L) _ _
  refine e_call hk_86 (as := [.ref 5, .int (t_ak Z), .int (Z 102 3)]) (rest := []) rfl rfl hk_46 rfl (Nat.le_of_ble_eq_true rfl) rfl (x_enter hN hn hF) ?_
  show e_r 86 55 [.ref 4, .int (t_ak Z)] [.int ((t_en Z n (t_ak Z) (Z 102 3)).1)] (hp ((t_en Z n (t_ak Z) (Z 102 3)).2) P L) _ _
  exact e_ret hk_86 rfl rfl rfl (by rw [t_ans, if_pos hs, hy]) (by rw [t_ans, if_pos hs, hy])
theorem x_ans_m {Z : Nat → Nat → Int32} {P : Nat → Nat} {L n : Nat} (hN : Z 5 6 = nI n) (hn : n ≤ 60) (hF : ∀ i, i < n → Z 17 i = 0 ∨ Z 17 i = 1) (hs : Z 102 0 = 45) : m_r 86 [.ref 4] (hp Z P L) (some (.int (t_ans Z).1)) (hp (t_ans Z).2 P L) := by
  have hy : y_n Z = n := by unfold y_n; rw [hN, nI_clamp (by omega)]
  refine m_of (ls := [.ref 4, s_no]) hk_86 rfl rfl rfl ?_
  refine e_go hk_86 2 (c := (4, [.ref 4, s_no], [.ref 102], hp Z P L)) rfl ?_
  refine e_call hk_86 (as := [.ref 102]) (rest := []) rfl rfl hk_9 rfl (Nat.le_of_ble_eq_true rfl) rfl x_okey ?_
  show e_r 86 7 [.ref 4, s_no] [.int (t_ak Z)] (hp Z P L) _ _
  refine e_go hk_86 4 (c := (15, [.ref 4, .int (t_ak Z)], [.int (Z 102 0)], hp Z P L)) rfl ?_
  rw [hs]
  refine e_go hk_86 4 (c := (61, [.ref 4, .int (t_ak Z)], [.int (t_ak Z), .ref 5], hp Z P L)) rfl ?_
  refine e_call hk_86 (as := [.ref 5, .int (t_ak Z)]) (rest := []) rfl rfl hk_47 rfl (Nat.le_of_ble_eq_true rfl) rfl (x_hollow hN hn hF) ?_
  show e_r 86 64 [.ref 4, .int (t_ak Z)] [.int ((t_hl Z n (t_ak Z)).1)] (hp ((t_hl Z n (t_ak Z)).2) P L) _ _
  exact e_ret hk_86 rfl rfl rfl (by rw [t_ans, if_neg (by rw [hs]; decide), if_pos hs, hy]) (by rw [t_ans, if_neg (by rw [hs]; decide), if_pos hs, hy])
theorem x_ans_o2 {Z : Nat → Nat → Int32} {P : Nat → Nat} {L n : Nat} (hN : Z 5 6 = nI n) (hn : n ≤ 60) (hF : ∀ i, i < n → Z 17 i = 0 ∨ Z 17 i = 1) (h1 : ¬ Z 102 0 = 43) (h2 : ¬ Z 102 0 = 45) : e_r 86 65 [.ref 4, .int (t_ak Z)] [] (hp Z P L) (some (.int (t_ans Z).1)) (hp (t_ans Z).2 P L) := by
  have hy : y_n Z = n := by unfold y_n; rw [hN, nI_clamp (by omega)]
  refine e_go hk_86 3 (c := (70, [.ref 4, .int (t_ak Z)], [.int (t_ak Z), .ref 5], hp Z P L)) rfl ?_
  refine e_call hk_86 (as := [.ref 5, .int (t_ak Z)]) (rest := []) rfl rfl hk_48 rfl (Nat.le_of_ble_eq_true rfl) rfl (x_lk hN hn hF) ?_
  show e_r 86 73 [.ref 4, .int (t_ak Z)] [.int ((t_lk Z n (t_ak Z)).1)] (hp ((t_lk Z n (t_ak Z)).2) P L) _ _
  exact e_ret hk_86 rfl rfl rfl (by rw [t_ans, if_neg h1, if_neg h2, hy]) (by rw [t_ans, if_neg h1, if_neg h2, hy])
theorem x_ans_o {Z : Nat → Nat → Int32} {P : Nat → Nat} {L n : Nat} (hN : Z 5 6 = nI n) (hn : n ≤ 60) (hF : ∀ i, i < n → Z 17 i = 0 ∨ Z 17 i = 1) (h1 : ¬ Z 102 0 = 43) (h2 : ¬ Z 102 0 = 45) : m_r 86 [.ref 4] (hp Z P L) (some (.int (t_ans Z).1)) (hp (t_ans Z).2 P L) := by
  have hy : y_n Z = n := by unfold y_n; rw [hN, nI_clamp (by omega)]
  refine m_of (ls := [.ref 4, s_no]) hk_86 rfl rfl rfl ?_
  refine e_go hk_86 2 (c := (4, [.ref 4, s_no], [.ref 102], hp Z P L)) rfl ?_
  refine e_call hk_86 (as := [.ref 102]) (rest := []) rfl rfl hk_9 rfl (Nat.le_of_ble_eq_true rfl) rfl x_okey ?_
  show e_r 86 7 [.ref 4, s_no] [.int (t_ak Z)] (hp Z P L) _ _
  refine e_go hk_86 4 (c := (15, [.ref 4, .int (t_ak Z)], [.int (Z 102 0)], hp Z P L)) rfl ?_
  refine e_lsw hk_86 (t := 65) rfl rfl ?_ ?_
  · show (Op.lookupswitch.offset [(43, 40), (45, 56)] 65 (Z 102 0).toInt).toNat = 65
    rw [Op.lookupswitch.offset_cons, if_neg (fun z => h1 (Int32.toInt_inj.mp z.symm)), Op.lookupswitch.offset_cons, if_neg (fun z => h2 (Int32.toInt_inj.mp z.symm))]
    rfl
  exact x_ans_o2 hN hn hF h1 h2
theorem x_ans {Z : Nat → Nat → Int32} {P : Nat → Nat} {L : Nat} (h : y_T Z) : m_r 86 [.ref 4] (hp Z P L) (some (.int (t_ans Z).1)) (hp (t_ans Z).2 P L) := by
  obtain ⟨n, hn, hN, hF⟩ := h
  by_cases h1 : Z 102 0 = 43
  · exact x_ans_p hN hn hF h1
  · by_cases h2 : Z 102 0 = 45
    · exact x_ans_m hN hn hF h2
    · exact x_ans_o hN hn hF h1 h2
end
section
/-! The calls: carryOut; printed by wip/whole/gen/calls6.py -/
def t_cd (Z : Nat → Nat → Int32) (g i : Nat) : Int32 := if i < g then Z 101 i else 59
def t_co (g : Nat) : Nat → Nat → (Nat → Nat → Int32) → Int32 → Int32 × (Nat → Nat → Int32)
  | 0, _, Z, a => (a, s_upd Z 99 1 0)
  | k + 1, i, Z, a => if t_cd Z g i = 59 then (if (t_ans Z).1 < 0 then (a, s_upd (t_ans Z).2 99 1 0) else t_co g k (i + 1) (t_rdr (t_ans Z).2 (t_cd Z g i)).2 (a + 1)) else t_co g k (i + 1) (t_rdr Z (t_cd Z g i)).2 a
theorem y_T_r {Z : Nat → Nat → Int32} {c : Int32} (h : y_T Z) : y_T (t_rdr Z c).2 := by
  obtain ⟨n, hn, hN, hF⟩ := h
  exact ⟨n, hn, by rw [t_r_o (by decide)]; exact hN, fun i hi => by rw [t_r_o (by decide)]; exact hF i hi⟩
theorem t_fa_o {c : Nat} (hc : c ≠ 102) : ∀ (k i : Nat) (Z : Nat → Nat → Int32), (t_fa i k Z).2 c = Z c
  | 0, i, Z => rfl
  | k + 1, i, Z => by
    rw [t_fa]
    split
    · rw [t_fa_o hc k, t_r_o hc]
    · exact t_r_o hc
theorem x_co_l {P : Nat → Nat} {L g : Nat} (hg : g ≤ 80)  : ∀ (k i : Nat) (Z : Nat → Nat → Int32) (a : Int32) (y3 : Value), y_T Z → Z 99 1 = nI g → (Z 102 1 = 0 ∨ Z 102 1 = 1 ∨ Z 102 1 = 2) → i + k = g + 1 → e_r 75 34 [.ref 4, .int a, .int (nI i), y3] [] (hp Z P L) (some (.int (t_co g k i Z a).1)) (hp (t_co g k i Z a).2 P L)
  | 0, i, Z, a, y3, hT, hG, hS, hi2 => by
    refine e_go hk_75 5 (c := (if s_cnd .gt (nI i) (Z 99 1) = true then 107 else 45, [.ref 4, .int a, .int (nI i), y3], [], hp Z P L)) rfl ?_
    refine e_gt (a := 107) (b := 45) (x := nI i) (y := Z 99 1) (fun hc42 => ?_) (fun hc42 => absurd (by rw [hG]; exact (y_lt (by omega) (by omega)).mpr (by omega)) hc42)
    refine e_go hk_75 5 (c := (116, [.ref 4, .int a, .int (nI i), y3], [.int a], hp (s_upd Z 99 1 0) P L)) rfl ?_
    exact e_ret hk_75 rfl rfl rfl rfl rfl
  | k + 1, i, Z, a, y3, hT, hG, hS, hi2 => by
    refine e_go hk_75 5 (c := (if s_cnd .gt (nI i) (Z 99 1) = true then 107 else 45, [.ref 4, .int a, .int (nI i), y3], [], hp Z P L)) rfl ?_
    refine e_gt (a := 107) (b := 45) (x := nI i) (y := Z 99 1) (fun hc42 => absurd hc42 (by rw [hG]; exact fun z => absurd ((y_lt (by omega) (by omega)).mp z) (by omega))) (fun hc42 => ?_)
    refine e_go hk_75 5 (c := (if s_cnd .ge (nI i) (Z 99 1) = true then 70 else 56, [.ref 4, .int a, .int (nI i), y3], [], hp Z P L)) rfl ?_
    refine e_ge (a := 70) (b := 56) (x := nI i) (y := Z 99 1) (fun hc53 => ?_) (fun hc53 => ?_)
    · skip
      have hig : ¬ i < g := fun z => by rw [hG] at hc53; exact absurd ((y_le (by omega) (by omega)).mp hc53) (by omega)
      refine e_go hk_75 1 (c := (72, [.ref 4, .int a, .int (nI i), y3], [.int 59], hp Z P L)) rfl ?_
      rw [show e_r 75 72 [.ref 4, .int a, .int (nI i), y3] [.int 59] (hp Z P L) = e_r 75 72 [.ref 4, .int a, .int (nI i), y3] [.int (t_cd Z g i)] (hp Z P L) from by rw [t_cd, if_neg hig]]
      refine e_go hk_75 4 (c := (if s_cnd .ne (t_cd Z g i) 59 = true then 92 else 79, [.ref 4, .int a, .int (nI i), .int (t_cd Z g i)], [], hp Z P L)) rfl ?_
      refine e_ne (a := 92) (b := 79) (x := t_cd Z g i) (y := 59) (fun hc76 => ?_) (fun hc76 => ?_)
      · skip
        refine e_go hk_75 3 (c := (97, [.ref 4, .int a, .int (nI i), .int (t_cd Z g i)], [.int (t_cd Z g i), .ref 102], hp Z P L)) rfl ?_
        refine e_call hk_75 (as := [.ref 102, .int (t_cd Z g i)]) (rest := []) rfl rfl hk_7 rfl (Nat.le_of_ble_eq_true rfl) rfl (x_rd (Z := Z) (c := t_cd Z g i) hS) ?_
        show e_r 75 100 [.ref 4, .int a, .int (nI i), .int (t_cd Z g i)] [.int (y_b (t_rdr Z (t_cd Z g i)).1)] (hp ((t_rdr Z (t_cd Z g i)).2) P L) _ _
        refine e_go hk_75 3 (c := (34, [.ref 4, .int a, .int ((nI i) + 1), .int (t_cd Z g i)], [], hp ((t_rdr Z (t_cd Z g i)).2) P L)) rfl ?_
        rw [t_co, if_neg hc76, nI_1]
        exact x_co_l hg k (i + 1) _ _ _ (y_T_r hT) (by rw [t_r_o (by decide)]; exact hG) (t_r_s hS) (by omega)
      · skip
        refine e_go hk_75 1 (c := (80, [.ref 4, .int a, .int (nI i), .int (t_cd Z g i)], [.ref 4], hp Z P L)) rfl ?_
        refine e_call hk_75 (as := [.ref 4]) (rest := []) rfl rfl hk_86 rfl (Nat.le_of_ble_eq_true rfl) rfl (x_ans hT) ?_
        show e_r 75 83 [.ref 4, .int a, .int (nI i), .int (t_cd Z g i)] [.int ((t_ans Z).1)] (hp ((t_ans Z).2) P L) _ _
        refine e_go hk_75 1 (c := (if s_cnd .ge ((t_ans Z).1) 0 = true then 89 else 86, [.ref 4, .int a, .int (nI i), .int (t_cd Z g i)], [], hp ((t_ans Z).2) P L)) rfl ?_
        refine e_ge (a := 89) (b := 86) (x := (t_ans Z).1) (y := 0) (fun hc83 => ?_) (fun hc83 => ?_)
        · skip
          refine e_go hk_75 4 (c := (97, [.ref 4, .int (a + 1), .int (nI i), .int (t_cd Z g i)], [.int (t_cd Z g i), .ref 102], hp ((t_ans Z).2) P L)) rfl ?_
          refine e_call hk_75 (as := [.ref 102, .int (t_cd Z g i)]) (rest := []) rfl rfl hk_7 rfl (Nat.le_of_ble_eq_true rfl) rfl (x_rd (Z := (t_ans Z).2) (c := t_cd Z g i) (by rw [t_ans_o (by decide)]; exact hS)) ?_
          show e_r 75 100 [.ref 4, .int (a + 1), .int (nI i), .int (t_cd Z g i)] [.int (y_b (t_rdr ((t_ans Z).2) (t_cd Z g i)).1)] (hp ((t_rdr ((t_ans Z).2) (t_cd Z g i)).2) P L) _ _
          refine e_go hk_75 3 (c := (34, [.ref 4, .int (a + 1), .int ((nI i) + 1), .int (t_cd Z g i)], [], hp ((t_rdr ((t_ans Z).2) (t_cd Z g i)).2) P L)) rfl ?_
          rw [t_co, if_pos hc76, if_neg (Int32.not_lt.mpr hc83), nI_1]
          exact x_co_l hg k (i + 1) _ _ _ (y_T_r (t_ans_T hT)) (by rw [t_r_o (by decide), t_ans_o (by decide)]; exact hG) (t_r_s (by rw [t_ans_o (by decide)]; exact hS)) (by omega)
        · skip
          refine e_go hk_75 6 (c := (116, [.ref 4, .int a, .int (nI i), .int (t_cd Z g i)], [.int a], hp (s_upd ((t_ans Z).2) 99 1 0) P L)) rfl ?_
          exact e_ret hk_75 rfl rfl rfl (by rw [t_co, if_pos hc76, if_pos (Int32.not_le.mp hc83)]) (by rw [t_co, if_pos hc76, if_pos (Int32.not_le.mp hc83)])
    · skip
      have hig : i < g := by rw [hG, y_le (by omega) (by omega)] at hc53; omega
      refine e_go hk_75 4 (c := (64, [.ref 4, .int a, .int (nI i), y3], [.int (nI i), .ref 100], hp Z P L)) rfl ?_
      refine e_call hk_75 (as := [.ref 100, .int (nI i)]) (rest := []) rfl rfl hk_22 rfl (Nat.le_of_ble_eq_true rfl) rfl (x_at (r := 100) (a := 101) (n := 80) rfl rfl rfl (by decide) (j := i) (by omega)) ?_
      show e_r 75 67 [.ref 4, .int a, .int (nI i), y3] [.int (Z 101 i)] (hp Z P L) _ _
      refine e_go hk_75 1 (c := (72, [.ref 4, .int a, .int (nI i), y3], [.int (Z 101 i)], hp Z P L)) rfl ?_
      rw [show e_r 75 72 [.ref 4, .int a, .int (nI i), y3] [.int (Z 101 i)] (hp Z P L) = e_r 75 72 [.ref 4, .int a, .int (nI i), y3] [.int (t_cd Z g i)] (hp Z P L) from by rw [t_cd, if_pos hig]]
      refine e_go hk_75 4 (c := (if s_cnd .ne (t_cd Z g i) 59 = true then 92 else 79, [.ref 4, .int a, .int (nI i), .int (t_cd Z g i)], [], hp Z P L)) rfl ?_
      refine e_ne (a := 92) (b := 79) (x := t_cd Z g i) (y := 59) (fun hc76 => ?_) (fun hc76 => ?_)
      · skip
        refine e_go hk_75 3 (c := (97, [.ref 4, .int a, .int (nI i), .int (t_cd Z g i)], [.int (t_cd Z g i), .ref 102], hp Z P L)) rfl ?_
        refine e_call hk_75 (as := [.ref 102, .int (t_cd Z g i)]) (rest := []) rfl rfl hk_7 rfl (Nat.le_of_ble_eq_true rfl) rfl (x_rd (Z := Z) (c := t_cd Z g i) hS) ?_
        show e_r 75 100 [.ref 4, .int a, .int (nI i), .int (t_cd Z g i)] [.int (y_b (t_rdr Z (t_cd Z g i)).1)] (hp ((t_rdr Z (t_cd Z g i)).2) P L) _ _
        refine e_go hk_75 3 (c := (34, [.ref 4, .int a, .int ((nI i) + 1), .int (t_cd Z g i)], [], hp ((t_rdr Z (t_cd Z g i)).2) P L)) rfl ?_
        rw [t_co, if_neg hc76, nI_1]
        exact x_co_l hg k (i + 1) _ _ _ (y_T_r hT) (by rw [t_r_o (by decide)]; exact hG) (t_r_s hS) (by omega)
      · skip
        refine e_go hk_75 1 (c := (80, [.ref 4, .int a, .int (nI i), .int (t_cd Z g i)], [.ref 4], hp Z P L)) rfl ?_
        refine e_call hk_75 (as := [.ref 4]) (rest := []) rfl rfl hk_86 rfl (Nat.le_of_ble_eq_true rfl) rfl (x_ans hT) ?_
        show e_r 75 83 [.ref 4, .int a, .int (nI i), .int (t_cd Z g i)] [.int ((t_ans Z).1)] (hp ((t_ans Z).2) P L) _ _
        refine e_go hk_75 1 (c := (if s_cnd .ge ((t_ans Z).1) 0 = true then 89 else 86, [.ref 4, .int a, .int (nI i), .int (t_cd Z g i)], [], hp ((t_ans Z).2) P L)) rfl ?_
        refine e_ge (a := 89) (b := 86) (x := (t_ans Z).1) (y := 0) (fun hc83 => ?_) (fun hc83 => ?_)
        · skip
          refine e_go hk_75 4 (c := (97, [.ref 4, .int (a + 1), .int (nI i), .int (t_cd Z g i)], [.int (t_cd Z g i), .ref 102], hp ((t_ans Z).2) P L)) rfl ?_
          refine e_call hk_75 (as := [.ref 102, .int (t_cd Z g i)]) (rest := []) rfl rfl hk_7 rfl (Nat.le_of_ble_eq_true rfl) rfl (x_rd (Z := (t_ans Z).2) (c := t_cd Z g i) (by rw [t_ans_o (by decide)]; exact hS)) ?_
          show e_r 75 100 [.ref 4, .int (a + 1), .int (nI i), .int (t_cd Z g i)] [.int (y_b (t_rdr ((t_ans Z).2) (t_cd Z g i)).1)] (hp ((t_rdr ((t_ans Z).2) (t_cd Z g i)).2) P L) _ _
          refine e_go hk_75 3 (c := (34, [.ref 4, .int (a + 1), .int ((nI i) + 1), .int (t_cd Z g i)], [], hp ((t_rdr ((t_ans Z).2) (t_cd Z g i)).2) P L)) rfl ?_
          rw [t_co, if_pos hc76, if_neg (Int32.not_lt.mpr hc83), nI_1]
          exact x_co_l hg k (i + 1) _ _ _ (y_T_r (t_ans_T hT)) (by rw [t_r_o (by decide), t_ans_o (by decide)]; exact hG) (t_r_s (by rw [t_ans_o (by decide)]; exact hS)) (by omega)
        · skip
          refine e_go hk_75 6 (c := (116, [.ref 4, .int a, .int (nI i), .int (t_cd Z g i)], [.int a], hp (s_upd ((t_ans Z).2) 99 1 0) P L)) rfl ?_
          exact e_ret hk_75 rfl rfl rfl (by rw [t_co, if_pos hc76, if_pos (Int32.not_le.mp hc83)]) (by rw [t_co, if_pos hc76, if_pos (Int32.not_le.mp hc83)])
def t_zf (Z : Nat → Nat → Int32) (g : Nat) : Int32 × (Nat → Nat → Int32) := t_fa 0 g (s_upd Z 102 1 0)
def c_carry (Z : Nat → Nat → Int32) (P : Nat → Nat) (m g : Nat) : Int32 × (Nat → Nat → Int32) × (Nat → Nat) := if (t_zf Z g).1 = -6 then ((t_co g (g + 1) 0 (s_upd (t_kZ (t_zf Z g).2 P m) 102 1 0) 0).1, (t_co g (g + 1) 0 (s_upd (t_kZ (t_zf Z g).2 P m) 102 1 0) 0).2, t_kP P m) else (-3, (t_zf Z g).2, P)
theorem t_zf_o {Z : Nat → Nat → Int32} {g c : Nat} (hc : c ≠ 102) : (t_zf Z g).2 c = Z c := by
  unfold t_zf
  rw [t_fa_o hc, s_upd_o hc]
theorem x_carry {Z : Nat → Nat → Int32} {P : Nat → Nat} {L : Nat} {m g : Nat} (hT : y_T Z) (hP : ∀ j, j < 6 → t_hs (P j)) (hM : Z 18 1 = nI m) (hm : m ≤ 6) (hG : Z 99 1 = nI g) (hg : g ≤ 80) : m_r 75 [.ref 4] (hp Z P L) (some (.int (c_carry Z P m g).1)) (hp (c_carry Z P m g).2.1 (c_carry Z P m g).2.2 L) := by
  refine m_of (ls := [.ref 4, s_no, s_no, s_no]) hk_75 rfl rfl rfl ?_
  refine e_go hk_75 1 (c := (1, [.ref 4, s_no, s_no, s_no], [.ref 4], hp Z P L)) rfl ?_
  refine e_call hk_75 (as := [.ref 4]) (rest := []) rfl rfl hk_74 rfl (Nat.le_of_ble_eq_true rfl) rfl (x_fault hG hg) ?_
  show e_r 75 4 [.ref 4, s_no, s_no, s_no] [.int ((t_zf Z g).1)] (hp ((t_zf Z g).2) P L) _ _
  refine e_go hk_75 2 (c := (if s_cnd .eq ((t_zf Z g).1) ((-6)) = true then 12 else 9, [.ref 4, s_no, s_no, s_no], [], hp ((t_zf Z g).2) P L)) rfl ?_
  refine e_eq (a := 12) (b := 9) (x := (t_zf Z g).1) (y := (-6)) (fun hc6 => ?_) (fun hc6 => ?_)
  · skip
    rw [c_carry, if_pos hc6]
    refine e_go hk_75 4 (c := (20, [.ref 4, s_no, s_no, s_no], [.ref 5, .ref 18], hp ((t_zf Z g).2) P L)) rfl ?_
    refine e_call hk_75 (as := [.ref 18, .ref 5]) (rest := []) rfl rfl hk_1 rfl (Nat.le_of_ble_eq_true rfl) rfl (x_keep (Z := (t_zf Z g).2) (fun j hj => t_hs_at (hP j hj)) (by rw [t_zf_o (by decide)]; exact hM) hm) ?_
    show e_r 75 23 [.ref 4, s_no, s_no, s_no] [] (hp ((t_kZ (t_zf Z g).2 P m)) ((t_kP P m)) L) _ _
    refine e_go hk_75 4 (c := (29, [.ref 4, .int 0, s_no, s_no], [.ref 102], hp ((t_kZ (t_zf Z g).2 P m)) ((t_kP P m)) L)) rfl ?_
    refine e_call hk_75 (as := [.ref 102]) (rest := []) rfl rfl hk_6 rfl (Nat.le_of_ble_eq_true rfl) rfl x_begin ?_
    show e_r 75 32 [.ref 4, .int 0, s_no, s_no] [] (hp (s_upd ((t_kZ (t_zf Z g).2 P m)) 102 1 0) ((t_kP P m)) L) _ _
    refine e_go hk_75 2 (c := (34, [.ref 4, .int 0, .int 0, s_no], [], hp (s_upd ((t_kZ (t_zf Z g).2 P m)) 102 1 0) ((t_kP P m)) L)) rfl ?_
    refine x_co_l hg (g + 1) 0 _ 0 _ ?_ ?_ (Or.inl rfl) (by omega)
    · obtain ⟨n, hn, hN, hF⟩ := hT
      exact ⟨n, hn, by rw [s_upd_o (by decide), t_kZ_o hP (by decide), t_zf_o (by decide)]; exact hN, fun i hi => by rw [s_upd_o (by decide), t_kZ_o hP (by decide), t_zf_o (by decide)]; exact hF i hi⟩
    · rw [s_upd_o (by decide), t_kZ_o hP (by decide), t_zf_o (by decide)]; exact hG
  · skip
    rw [c_carry, if_neg hc6]
    refine e_go hk_75 1 (c := (11, [.ref 4, s_no, s_no, s_no], [.int ((-3))], hp ((t_zf Z g).2) P L)) rfl ?_
    exact e_ret hk_75 rfl rfl rfl rfl rfl
end
section
/-! Floating numbers: rules; printed by wip/whole/gen/flt.py -/
theorem e_fdiv {k pc : Nat} {r : sM} {cn : Option Nat} {ls rest : List Value} {h h2 : sHp} {v : Option Value} (hk : s_T k = some (r, cn)) {e : sE} {x y : UInt32} (hat : s_at (s_cd r) pc = some e) (hi : e.2.1 = .fdiv) (hf : FP.fdiv x y &&& 0x7fffffff ≤ 0x7f800000) (kk : e_r k (pc + e.2.2.1) ls (.float (FP.fdiv x y) :: rest) h v h2) : e_r k pc ls (.float y :: .float x :: rest) h v h2 := by
  refine e_step (c := (pc + e.2.2.1, ls, .float (FP.fdiv x y) :: rest, h)) hk hat (by rw [hi]; rfl) (by rw [hi]; rfl) ?_ kk
  rw [hi]
  dsimp only [s_x]
  rw [if_pos hf]
theorem e_fmul {k pc : Nat} {r : sM} {cn : Option Nat} {ls rest : List Value} {h h2 : sHp} {v : Option Value} (hk : s_T k = some (r, cn)) {e : sE} {x y : UInt32} (hat : s_at (s_cd r) pc = some e) (hi : e.2.1 = .fmul) (hf : FP.fmul x y &&& 0x7fffffff ≤ 0x7f800000) (kk : e_r k (pc + e.2.2.1) ls (.float (FP.fmul x y) :: rest) h v h2) : e_r k pc ls (.float y :: .float x :: rest) h v h2 := by
  refine e_step (c := (pc + e.2.2.1, ls, .float (FP.fmul x y) :: rest, h)) hk hat (by rw [hi]; rfl) (by rw [hi]; rfl) ?_ kk
  rw [hi]
  dsimp only [s_x]
  rw [if_pos hf]
theorem e_fsub {k pc : Nat} {r : sM} {cn : Option Nat} {ls rest : List Value} {h h2 : sHp} {v : Option Value} (hk : s_T k = some (r, cn)) {e : sE} {x y : UInt32} (hat : s_at (s_cd r) pc = some e) (hi : e.2.1 = .fsub) (hf : FP.fsub x y &&& 0x7fffffff ≤ 0x7f800000) (kk : e_r k (pc + e.2.2.1) ls (.float (FP.fsub x y) :: rest) h v h2) : e_r k pc ls (.float y :: .float x :: rest) h v h2 := by
  refine e_step (c := (pc + e.2.2.1, ls, .float (FP.fsub x y) :: rest, h)) hk hat (by rw [hi]; rfl) (by rw [hi]; rfl) ?_ kk
  rw [hi]
  dsimp only [s_x]
  rw [if_pos hf]
theorem e_ddiv {k pc : Nat} {r : sM} {cn : Option Nat} {ls rest : List Value} {h h2 : sHp} {v : Option Value} (hk : s_T k = some (r, cn)) {e : sE} {x y : UInt64} (hat : s_at (s_cd r) pc = some e) (hi : e.2.1 = .ddiv) (hf : FP.ddiv x y &&& 0x7fffffffffffffff ≤ 0x7ff0000000000000) (kk : e_r k (pc + e.2.2.1) ls (.double (FP.ddiv x y) :: rest) h v h2) : e_r k pc ls (.double y :: .double x :: rest) h v h2 := by
  refine e_step (c := (pc + e.2.2.1, ls, .double (FP.ddiv x y) :: rest, h)) hk hat (by rw [hi]; rfl) (by rw [hi]; rfl) ?_ kk
  rw [hi]
  dsimp only [s_x]
  rw [if_pos hf]
theorem e_dmul {k pc : Nat} {r : sM} {cn : Option Nat} {ls rest : List Value} {h h2 : sHp} {v : Option Value} (hk : s_T k = some (r, cn)) {e : sE} {x y : UInt64} (hat : s_at (s_cd r) pc = some e) (hi : e.2.1 = .dmul) (hf : FP.dmul x y &&& 0x7fffffffffffffff ≤ 0x7ff0000000000000) (kk : e_r k (pc + e.2.2.1) ls (.double (FP.dmul x y) :: rest) h v h2) : e_r k pc ls (.double y :: .double x :: rest) h v h2 := by
  refine e_step (c := (pc + e.2.2.1, ls, .double (FP.dmul x y) :: rest, h)) hk hat (by rw [hi]; rfl) (by rw [hi]; rfl) ?_ kk
  rw [hi]
  dsimp only [s_x]
  rw [if_pos hf]
theorem e_dsub {k pc : Nat} {r : sM} {cn : Option Nat} {ls rest : List Value} {h h2 : sHp} {v : Option Value} (hk : s_T k = some (r, cn)) {e : sE} {x y : UInt64} (hat : s_at (s_cd r) pc = some e) (hi : e.2.1 = .dsub) (hf : FP.dsub x y &&& 0x7fffffffffffffff ≤ 0x7ff0000000000000) (kk : e_r k (pc + e.2.2.1) ls (.double (FP.dsub x y) :: rest) h v h2) : e_r k pc ls (.double y :: .double x :: rest) h v h2 := by
  refine e_step (c := (pc + e.2.2.1, ls, .double (FP.dsub x y) :: rest, h)) hk hat (by rw [hi]; rfl) (by rw [hi]; rfl) ?_ kk
  rw [hi]
  dsimp only [s_x]
  rw [if_pos hf]
def f_fin (x : UInt32) : Prop := x &&& 0x7fffffff ≤ 0x7f800000
def f_lp : Nat → UInt32 → Int32 → UInt32 × Int32
  | 0, x, p => (x, p)
  | k + 1, x, p => if 0 ≤ Op.cmpValue (FP.fcmp x FP.fconst1) .g then (x, p) else f_lp k (FP.fmul x FP.fconst2) (p + (-1))
def f_ok : Nat → UInt32 → Prop
  | 0, _ => True
  | k + 1, x => ¬ 0 ≤ Op.cmpValue (FP.fcmp x FP.fconst1) .g → f_fin (FP.fmul x FP.fconst2) ∧ f_ok k (FP.fmul x FP.fconst2)
def f_end (y : UInt32) : UInt32 := FP.fmul (FP.fsub y FP.fconst1) (UInt32.ofNat 1258291200)
def f_fok (y : UInt32) : Prop := f_fin (FP.fsub y FP.fconst1) ∧ f_fin (f_end y)
def f_bits (x : UInt32) : Int32 := if 0 < Op.cmpValue (FP.fcmp x FP.fconst0) .l then (((f_lp 64 x 0).2 + 127) <<< (23 &&& 31)) + FP.f2i (f_end (f_lp 64 x 0).1) else 0
theorem f_l {h : sHp} {x0 : UInt32} : ∀ (k i : Nat) (x : UInt32) (p : Int32), i + k = 64 → f_ok k x → f_fok (f_lp k x p).1 → e_r 88 14 [.float x0, .float x, .int p, .int (nI i)] [] h (some (.int ((((f_lp k x p).2 + 127) <<< (23 &&& 31)) + FP.f2i (f_end (f_lp k x p).1)))) h
  | 0, i, x, p, hi, hK, hE => by
    refine e_go hk_88 3 (c := (if s_cnd .ge (nI i) 64 = true then 39 else 20, [.float x0, .float x, .int p, .int (nI i)], [], h)) rfl ?_
    refine e_ge (a := 39) (b := 20) (x := nI i) (y := 64) (fun hc17 => ?_) (fun hc17 => absurd (by rw [show i = 64 by omega]; decide) hc17)
    refine e_go hk_88 7 (c := (48, [.float x0, .float x, .int p, .int (nI i)], [.float FP.fconst1, .float x, .int ((p + 127) <<< (23 &&& 31))], h)) rfl ?_
    refine e_fsub hk_88 (x := x) (y := FP.fconst1) rfl rfl hE.1 ?_
    show e_r 88 49 [.float x0, .float x, .int p, .int (nI i)] [.float (FP.fsub x FP.fconst1), .int ((p + 127) <<< (23 &&& 31))] h _ _
    refine e_go hk_88 1 (c := (52, [.float x0, .float x, .int p, .int (nI i)], [.float (UInt32.ofNat 1258291200), .float (FP.fsub x FP.fconst1), .int ((p + 127) <<< (23 &&& 31))], h)) rfl ?_
    refine e_fmul hk_88 (x := FP.fsub x FP.fconst1) (y := UInt32.ofNat 1258291200) rfl rfl hE.2 ?_
    show e_r 88 53 [.float x0, .float x, .int p, .int (nI i)] [.float (FP.fmul (FP.fsub x FP.fconst1) (UInt32.ofNat 1258291200)), .int ((p + 127) <<< (23 &&& 31))] h _ _
    refine e_go hk_88 2 (c := (55, [.float x0, .float x, .int p, .int (nI i)], [.int (((p + 127) <<< (23 &&& 31)) + (FP.f2i (FP.fmul (FP.fsub x FP.fconst1) (UInt32.ofNat 1258291200))))], h)) rfl ?_
    exact e_ret hk_88 rfl rfl rfl rfl rfl
  | k + 1, i, x, p, hi, hK, hE => by
    refine e_go hk_88 3 (c := (if s_cnd .ge (nI i) 64 = true then 39 else 20, [.float x0, .float x, .int p, .int (nI i)], [], h)) rfl ?_
    refine e_ge (a := 39) (b := 20) (x := nI i) (y := 64) (fun hc17 => absurd hc17 ((show ¬ nI 64 ≤ nI i from nI_ge (by omega) (by decide)))) (fun hc17 => ?_)
    refine e_go hk_88 4 (c := (if s_cnd .ge (Op.cmpValue (FP.fcmp x FP.fconst1) .g) 0 = true then 39 else 26, [.float x0, .float x, .int p, .int (nI i)], [], h)) rfl ?_
    refine e_ge (a := 39) (b := 26) (x := Op.cmpValue (FP.fcmp x FP.fconst1) .g) (y := 0) (fun hc23 => ?_) (fun hc23 => ?_)
    · skip
      rw [f_lp, if_pos hc23] at hE ⊢
      refine e_go hk_88 7 (c := (48, [.float x0, .float x, .int p, .int (nI i)], [.float FP.fconst1, .float x, .int ((p + 127) <<< (23 &&& 31))], h)) rfl ?_
      refine e_fsub hk_88 (x := x) (y := FP.fconst1) rfl rfl hE.1 ?_
      show e_r 88 49 [.float x0, .float x, .int p, .int (nI i)] [.float (FP.fsub x FP.fconst1), .int ((p + 127) <<< (23 &&& 31))] h _ _
      refine e_go hk_88 1 (c := (52, [.float x0, .float x, .int p, .int (nI i)], [.float (UInt32.ofNat 1258291200), .float (FP.fsub x FP.fconst1), .int ((p + 127) <<< (23 &&& 31))], h)) rfl ?_
      refine e_fmul hk_88 (x := FP.fsub x FP.fconst1) (y := UInt32.ofNat 1258291200) rfl rfl hE.2 ?_
      show e_r 88 53 [.float x0, .float x, .int p, .int (nI i)] [.float (FP.fmul (FP.fsub x FP.fconst1) (UInt32.ofNat 1258291200)), .int ((p + 127) <<< (23 &&& 31))] h _ _
      refine e_go hk_88 2 (c := (55, [.float x0, .float x, .int p, .int (nI i)], [.int (((p + 127) <<< (23 &&& 31)) + (FP.f2i (FP.fmul (FP.fsub x FP.fconst1) (UInt32.ofNat 1258291200))))], h)) rfl ?_
      exact e_ret hk_88 rfl rfl rfl rfl rfl
    · skip
      rw [f_lp, if_neg hc23] at hE ⊢
      refine e_go hk_88 2 (c := (28, [.float x0, .float x, .int p, .int (nI i)], [.float FP.fconst2, .float x], h)) rfl ?_
      refine e_fmul hk_88 (x := x) (y := FP.fconst2) rfl rfl (hK hc23).1 ?_
      show e_r 88 29 [.float x0, .float x, .int p, .int (nI i)] [.float (FP.fmul x FP.fconst2)] h _ _
      refine e_go hk_88 4 (c := (14, [.float x0, .float (FP.fmul x FP.fconst2), .int (p + (-1)), .int ((nI i) + 1)], [], h)) rfl ?_
      rw [nI_1]
      exact f_l k (i + 1) _ _ (by omega) (hK hc23).2 hE
theorem x_fbits {h : sHp} {x : UInt32} (hK : f_ok 64 x) (hE : f_fok (f_lp 64 x 0).1) : m_r 88 [.float x] h (some (.int (f_bits x))) h := by
  refine m_of (ls := [.float x, s_no, s_no, s_no]) hk_88 rfl rfl rfl ?_
  refine e_go hk_88 4 (c := (if s_cnd .gt (Op.cmpValue (FP.fcmp x FP.fconst0) .l) 0 = true then 8 else 6, [.float x, s_no, s_no, s_no], [], h)) rfl ?_
  refine e_gt (a := 8) (b := 6) (x := Op.cmpValue (FP.fcmp x FP.fconst0) .l) (y := 0) (fun hc3 => ?_) (fun hc3 => ?_)
  · skip
    rw [f_bits, if_pos hc3]
    refine e_go hk_88 6 (c := (14, [.float x, .float x, .int 0, .int 0], [], h)) rfl ?_
    exact f_l 64 0 _ _ rfl hK hE
  · skip
    rw [f_bits, if_neg hc3]
    refine e_go hk_88 1 (c := (7, [.float x, s_no, s_no, s_no], [.int 0], h)) rfl ?_
    exact e_ret hk_88 rfl rfl rfl rfl rfl
def f_lx (Z : Nat → Nat → Int32) (n j : Nat) : UInt32 := FP.fdiv (FP.i2f (if nI j - nI (t_L Z j) < nI (t_H Z n j) - nI j then nI (t_H Z n j) - nI j else nI j - nI (t_L Z j))) (FP.i2f (t_wt Z n j))
def c_lean (Z : Nat → Nat → Int32) (n : Nat) (key : Int32) : Int32 := if y_nm key = true then (match t_nd (Z 9) n key with
  | none => -1
  | some j => f_bits (f_lx Z n j)) else -2
def f_all (x : UInt32) : Prop := f_fin x ∧ f_ok 64 x ∧ f_fok (f_lp 64 x 0).1
theorem x_lean {Z : Nat → Nat → Int32} {P : Nat → Nat} {L n : Nat} (hN : Z 5 6 = nI n) (hn : n ≤ 60) {key : Int32} (hA : ∀ j, t_nd (Z 9) n key = some j → f_all (f_lx Z n j)) : m_r 65 [.ref 4, .int key] (hp Z P L) (some (.int (c_lean Z n key))) (hp Z P L) := by
  refine m_of (ls := [.ref 4, .int key, s_no, s_no, s_no, s_no]) hk_65 rfl rfl rfl ?_
  refine e_go hk_65 1 (c := (1, [.ref 4, .int key, s_no, s_no, s_no, s_no], [.int key], hp Z P L)) rfl ?_
  refine e_call hk_65 (as := [.int key]) (rest := []) rfl rfl hk_79 rfl (Nat.le_of_ble_eq_true rfl) rfl (x_num (k := key)) ?_
  show e_r 65 4 [.ref 4, .int key, s_no, s_no, s_no, s_no] [.int (y_b (y_nm key))] (hp Z P L) _ _
  refine e_go hk_65 1 (c := (if s_cnd .ne (y_b (y_nm key)) 0 = true then 10 else 7, [.ref 4, .int key, s_no, s_no, s_no, s_no], [], hp Z P L)) rfl ?_
  refine e_ne (a := 10) (b := 7) (x := y_b (y_nm key)) (y := 0) (fun hc4 => ?_) (fun hc4 => ?_)
  · skip
    rw [y_b1] at hc4
    refine e_go hk_65 3 (c := (15, [.ref 4, .int key, s_no, s_no, s_no, s_no], [.int key, .ref 5], hp Z P L)) rfl ?_
    refine e_call hk_65 (as := [.ref 5, .int key]) (rest := []) rfl rfl hk_31 rfl (Nat.le_of_ble_eq_true rfl) rfl (x_node hN hn) ?_
    show e_r 65 18 [.ref 4, .int key, s_no, s_no, s_no, s_no] [.int (y_o (t_nd (Z 9) n key))] (hp Z P L) _ _
    refine e_go hk_65 4 (c := (if s_cnd .ne (y_o (t_nd (Z 9) n key)) ((-6)) = true then 27 else 25, [.ref 4, .int key, .int (y_o (t_nd (Z 9) n key)), s_no, s_no, s_no], [], hp Z P L)) rfl ?_
    refine e_ne (a := 27) (b := 25) (x := y_o (t_nd (Z 9) n key)) (y := (-6)) (fun hc22 => ?_) (fun hc22 => ?_)
    · skip
      rw [y_o_none (fun j hj => by have := (t_nd_lt hj).1; omega)] at hc22
      obtain ⟨j, hj⟩ := Option.ne_none_iff_exists'.mp hc22
      have hjn := (fun z => (t_nd_lt z).1) hj
      rw [hj]
      obtain ⟨hf1, hf2, hf3⟩ := hA j hj
      have hlo : t_L Z j ≤ j := t_lo_le (Z 15) (Z 15 j) j
      have hhi : j ≤ t_H Z n j ∧ t_H Z n j ≤ j + (n - 1 - j) := t_hi_le (Z 15) (Z 15 j) (n - 1 - j) j
      have hwt : 0 < nI (t_H Z n j) - nI (t_L Z j) + 1 := by
        rw [pk_sub (by omega), nI_1]
        exact (nI_ltI (by decide) (by omega)).mpr (by omega : 0 < t_H Z n j - t_L Z j + 1)
      refine e_go hk_65 3 (c := (32, [.ref 4, .int key, .int (nI j), s_no, s_no, s_no], [.int (nI j), .ref 5], hp Z P L)) rfl ?_
      refine e_call hk_65 (as := [.ref 5, .int (nI j)]) (rest := []) rfl rfl hk_37 rfl (Nat.le_of_ble_eq_true rfl) rfl (x_low (j := j) (by omega)) ?_
      show e_r 65 35 [.ref 4, .int key, .int (nI j), s_no, s_no, s_no] [.int (nI (t_L Z j))] (hp Z P L) _ _
      refine e_go hk_65 4 (c := (41, [.ref 4, .int key, .int (nI j), .int (nI (t_L Z j)), s_no, s_no], [.int (nI j), .ref 5], hp Z P L)) rfl ?_
      refine e_call hk_65 (as := [.ref 5, .int (nI j)]) (rest := []) rfl rfl hk_38 rfl (Nat.le_of_ble_eq_true rfl) rfl (x_high hN hn (j := j) (by omega)) ?_
      show e_r 65 44 [.ref 4, .int key, .int (nI j), .int (nI (t_L Z j)), s_no, s_no] [.int (nI (t_H Z n j))] (hp Z P L) _ _
      refine e_go hk_65 9 (c := (if s_cnd .gt (((nI (t_H Z n j)) - (nI (t_L Z j))) + 1) 0 = true then 61 else 59, [.ref 4, .int key, .int (nI j), .int (nI (t_L Z j)), .int (nI (t_H Z n j)), .int (((nI (t_H Z n j)) - (nI (t_L Z j))) + 1)], [], hp Z P L)) rfl ?_
      refine e_gt (a := 61) (b := 59) (x := ((nI (t_H Z n j)) - (nI (t_L Z j))) + 1) (y := 0) (fun hc56 => ?_) (fun hc56 => absurd (hwt) hc56)
      refine e_go hk_65 10 (c := (75, [.ref 4, .int key, .int (nI j), .int (nI (t_L Z j)), .int (nI (t_H Z n j)), .int (((nI (t_H Z n j)) - (nI (t_L Z j))) + 1)], [.float (FP.i2f (((nI (t_H Z n j)) - (nI (t_L Z j))) + 1)), .float (FP.i2f (if (nI j) - (nI (t_L Z j)) < (nI (t_H Z n j)) - (nI j) then (nI (t_H Z n j)) - (nI j) else (nI j) - (nI (t_L Z j))))], hp Z P L)) rfl ?_
      refine e_fdiv hk_65 (x := FP.i2f (if (nI j) - (nI (t_L Z j)) < (nI (t_H Z n j)) - (nI j) then (nI (t_H Z n j)) - (nI j) else (nI j) - (nI (t_L Z j)))) (y := FP.i2f (((nI (t_H Z n j)) - (nI (t_L Z j))) + 1)) rfl rfl hf1 ?_
      show e_r 65 76 [.ref 4, .int key, .int (nI j), .int (nI (t_L Z j)), .int (nI (t_H Z n j)), .int (((nI (t_H Z n j)) - (nI (t_L Z j))) + 1)] [.float (FP.fdiv (FP.i2f (if (nI j) - (nI (t_L Z j)) < (nI (t_H Z n j)) - (nI j) then (nI (t_H Z n j)) - (nI j) else (nI j) - (nI (t_L Z j)))) (FP.i2f (((nI (t_H Z n j)) - (nI (t_L Z j))) + 1)))] (hp Z P L) _ _
      refine e_call hk_65 (as := [.float (FP.fdiv (FP.i2f (if (nI j) - (nI (t_L Z j)) < (nI (t_H Z n j)) - (nI j) then (nI (t_H Z n j)) - (nI j) else (nI j) - (nI (t_L Z j)))) (FP.i2f (((nI (t_H Z n j)) - (nI (t_L Z j))) + 1)))]) (rest := []) rfl rfl hk_88 rfl (Nat.le_of_ble_eq_true rfl) rfl (x_fbits (x := f_lx Z n j) hf2 hf3) ?_
      show e_r 65 79 [.ref 4, .int key, .int (nI j), .int (nI (t_L Z j)), .int (nI (t_H Z n j)), .int (((nI (t_H Z n j)) - (nI (t_L Z j))) + 1)] [.int (f_bits (f_lx Z n j))] (hp Z P L) _ _
      exact e_ret hk_65 rfl rfl rfl (by rw [c_lean, if_pos hc4, hj]) rfl
    · skip
      rw [y_o_none (fun j hj => by have := (t_nd_lt hj).1; omega)] at hc22
      refine e_go hk_65 1 (c := (26, [.ref 4, .int key, .int (y_o (t_nd (Z 9) n key)), s_no, s_no, s_no], [.int ((-1))], hp Z P L)) rfl ?_
      exact e_ret hk_65 rfl rfl rfl (by rw [c_lean, if_pos hc4, hc22]) rfl
  · skip
    rw [y_b0] at hc4
    refine e_go hk_65 1 (c := (9, [.ref 4, .int key, s_no, s_no, s_no, s_no], [.int ((-2))], hp Z P L)) rfl ?_
    exact e_ret hk_65 rfl rfl rfl (by rw [c_lean, if_neg (by rw [hc4]; decide)]) rfl
end
section
/-! meanDepth, bitsOfDouble; printed by wip/whole/gen/dbl.py -/
def g_fin (x : UInt64) : Prop := x &&& 0x7fffffffffffffff ≤ 0x7ff0000000000000
def g_l1 : Nat → UInt64 → Int32 → UInt64 × Int32
  | 0, x, p => (x, p)
  | k + 1, x, p => if Op.cmpValue (FP.dcmp x (UInt64.ofNat 4611686018427387904)) .l < 0 then (x, p) else g_l1 k (FP.ddiv x (UInt64.ofNat 4611686018427387904)) (p + 1)
def g_l2 : Nat → UInt64 → Int32 → UInt64 × Int32
  | 0, x, p => (x, p)
  | k + 1, x, p => if 0 ≤ Op.cmpValue (FP.dcmp x FP.dconst1) .g then (x, p) else g_l2 k (FP.dmul x (UInt64.ofNat 4611686018427387904)) (p + (-1))
def g_ok1 : Nat → UInt64 → Prop
  | 0, _ => True
  | k + 1, x => ¬ Op.cmpValue (FP.dcmp x (UInt64.ofNat 4611686018427387904)) .l < 0 → g_fin (FP.ddiv x (UInt64.ofNat 4611686018427387904)) ∧ g_ok1 k (FP.ddiv x (UInt64.ofNat 4611686018427387904))
def g_ok2 : Nat → UInt64 → Prop
  | 0, _ => True
  | k + 1, x => ¬ 0 ≤ Op.cmpValue (FP.dcmp x FP.dconst1) .g → g_fin (FP.dmul x (UInt64.ofNat 4611686018427387904)) ∧ g_ok2 k (FP.dmul x (UInt64.ofNat 4611686018427387904))
def g_end (y : UInt64) : UInt64 := FP.dmul (FP.dsub y FP.dconst1) (UInt64.ofNat 4841369599423283200)
def g_fok (y : UInt64) : Prop := g_fin (FP.dsub y FP.dconst1) ∧ g_fin (g_end y)
def g_res (q : UInt64 × Int32) : Int64 := ((q.2 + 1023).toInt64 <<< ((52 : Int32).toInt64 &&& 63)) + FP.d2l (g_end q.1)
def g_fst (x : UInt64) : UInt64 × Int32 := g_l1 64 x 0
def g_snd (x : UInt64) : UInt64 × Int32 := g_l2 64 (g_fst x).1 (g_fst x).2
def g_bits (x : UInt64) : Int64 := if 0 < Op.cmpValue (FP.dcmp x FP.dconst0) .l then g_res (g_snd x) else 0
def g_all (x : UInt64) : Prop := g_ok1 64 x ∧ g_ok2 64 (g_fst x).1 ∧ g_fok (g_snd x).1
theorem g_w2 {h : sHp} {x0 : UInt64} : ∀ (k i : Nat) (x : UInt64) (p : Int32), i + k = 64 → g_ok2 k x → g_fok (g_l2 k x p).1 → e_r 87 49 [.double x0, s_no, .double x, s_no, .int p, .int (nI i)] [] h (some (.long (g_res (g_l2 k x p)))) h
  | 0, i, x, p, hi, hK, hE => by
    refine e_go hk_87 3 (c := (if s_cnd .ge (nI i) 64 = true then 77 else 56, [.double x0, s_no, .double x, s_no, .int p, .int (nI i)], [], h)) rfl ?_
    refine e_ge (a := 77) (b := 56) (x := nI i) (y := 64) (fun hc53 => ?_) (fun hc53 => absurd (by rw [show i = 64 by omega]; decide) hc53)
    refine e_go hk_87 8 (c := (89, [.double x0, s_no, .double x, s_no, .int p, .int (nI i)], [.double FP.dconst1, .double x, .long (((p + 1023).toInt64) <<< ((52 : Int32).toInt64 &&& 63))], h)) rfl ?_
    refine e_dsub hk_87 (x := x) (y := FP.dconst1) rfl rfl hE.1 ?_
    show e_r 87 90 [.double x0, s_no, .double x, s_no, .int p, .int (nI i)] [.double (FP.dsub x FP.dconst1), .long (((p + 1023).toInt64) <<< ((52 : Int32).toInt64 &&& 63))] h _ _
    refine e_go hk_87 1 (c := (93, [.double x0, s_no, .double x, s_no, .int p, .int (nI i)], [.double (UInt64.ofNat 4841369599423283200), .double (FP.dsub x FP.dconst1), .long (((p + 1023).toInt64) <<< ((52 : Int32).toInt64 &&& 63))], h)) rfl ?_
    refine e_dmul hk_87 (x := FP.dsub x FP.dconst1) (y := UInt64.ofNat 4841369599423283200) rfl rfl hE.2 ?_
    show e_r 87 94 [.double x0, s_no, .double x, s_no, .int p, .int (nI i)] [.double (FP.dmul (FP.dsub x FP.dconst1) (UInt64.ofNat 4841369599423283200)), .long (((p + 1023).toInt64) <<< ((52 : Int32).toInt64 &&& 63))] h _ _
    refine e_go hk_87 2 (c := (96, [.double x0, s_no, .double x, s_no, .int p, .int (nI i)], [.long ((((p + 1023).toInt64) <<< ((52 : Int32).toInt64 &&& 63)) + (FP.d2l (FP.dmul (FP.dsub x FP.dconst1) (UInt64.ofNat 4841369599423283200))))], h)) rfl ?_
    exact e_ret hk_87 rfl rfl rfl rfl rfl
  | k + 1, i, x, p, hi, hK, hE => by
    refine e_go hk_87 3 (c := (if s_cnd .ge (nI i) 64 = true then 77 else 56, [.double x0, s_no, .double x, s_no, .int p, .int (nI i)], [], h)) rfl ?_
    refine e_ge (a := 77) (b := 56) (x := nI i) (y := 64) (fun hc53 => absurd hc53 ((show ¬ nI 64 ≤ nI i from nI_ge (by omega) (by decide)))) (fun hc53 => ?_)
    refine e_go hk_87 4 (c := (if s_cnd .ge (Op.cmpValue (FP.dcmp x FP.dconst1) .g) 0 = true then 77 else 62, [.double x0, s_no, .double x, s_no, .int p, .int (nI i)], [], h)) rfl ?_
    refine e_ge (a := 77) (b := 62) (x := Op.cmpValue (FP.dcmp x FP.dconst1) .g) (y := 0) (fun hc59 => ?_) (fun hc59 => ?_)
    · skip
      rw [g_l2, if_pos hc59] at hE ⊢
      refine e_go hk_87 8 (c := (89, [.double x0, s_no, .double x, s_no, .int p, .int (nI i)], [.double FP.dconst1, .double x, .long (((p + 1023).toInt64) <<< ((52 : Int32).toInt64 &&& 63))], h)) rfl ?_
      refine e_dsub hk_87 (x := x) (y := FP.dconst1) rfl rfl hE.1 ?_
      show e_r 87 90 [.double x0, s_no, .double x, s_no, .int p, .int (nI i)] [.double (FP.dsub x FP.dconst1), .long (((p + 1023).toInt64) <<< ((52 : Int32).toInt64 &&& 63))] h _ _
      refine e_go hk_87 1 (c := (93, [.double x0, s_no, .double x, s_no, .int p, .int (nI i)], [.double (UInt64.ofNat 4841369599423283200), .double (FP.dsub x FP.dconst1), .long (((p + 1023).toInt64) <<< ((52 : Int32).toInt64 &&& 63))], h)) rfl ?_
      refine e_dmul hk_87 (x := FP.dsub x FP.dconst1) (y := UInt64.ofNat 4841369599423283200) rfl rfl hE.2 ?_
      show e_r 87 94 [.double x0, s_no, .double x, s_no, .int p, .int (nI i)] [.double (FP.dmul (FP.dsub x FP.dconst1) (UInt64.ofNat 4841369599423283200)), .long (((p + 1023).toInt64) <<< ((52 : Int32).toInt64 &&& 63))] h _ _
      refine e_go hk_87 2 (c := (96, [.double x0, s_no, .double x, s_no, .int p, .int (nI i)], [.long ((((p + 1023).toInt64) <<< ((52 : Int32).toInt64 &&& 63)) + (FP.d2l (FP.dmul (FP.dsub x FP.dconst1) (UInt64.ofNat 4841369599423283200))))], h)) rfl ?_
      exact e_ret hk_87 rfl rfl rfl rfl rfl
    · skip
      rw [g_l2, if_neg hc59] at hE ⊢
      refine e_go hk_87 2 (c := (66, [.double x0, s_no, .double x, s_no, .int p, .int (nI i)], [.double (UInt64.ofNat 4611686018427387904), .double x], h)) rfl ?_
      refine e_dmul hk_87 (x := x) (y := UInt64.ofNat 4611686018427387904) rfl rfl (hK hc59).1 ?_
      show e_r 87 67 [.double x0, s_no, .double x, s_no, .int p, .int (nI i)] [.double (FP.dmul x (UInt64.ofNat 4611686018427387904))] h _ _
      refine e_go hk_87 4 (c := (49, [.double x0, s_no, .double (FP.dmul x (UInt64.ofNat 4611686018427387904)), s_no, .int (p + (-1)), .int ((nI i) + 1)], [], h)) rfl ?_
      rw [nI_1]
      exact g_w2 k (i + 1) _ _ (by omega) (hK hc59).2 hE
theorem g_w1 {h : sHp} {x0 : UInt64} : ∀ (k i : Nat) (x : UInt64) (p : Int32), i + k = 64 → g_ok1 k x → g_ok2 64 (g_l1 k x p).1 → g_fok (g_l2 64 (g_l1 k x p).1 (g_l1 k x p).2).1 → e_r 87 16 [.double x0, s_no, .double x, s_no, .int p, .int (nI i)] [] h (some (.long (g_res (g_l2 64 (g_l1 k x p).1 (g_l1 k x p).2)))) h
  | 0, i, x, p, hi, hK, hK2, hE => by
    refine e_go hk_87 3 (c := (if s_cnd .ge (nI i) 64 = true then 46 else 23, [.double x0, s_no, .double x, s_no, .int p, .int (nI i)], [], h)) rfl ?_
    refine e_ge (a := 46) (b := 23) (x := nI i) (y := 64) (fun hc20 => ?_) (fun hc20 => absurd (by rw [show i = 64 by omega]; decide) hc20)
    refine e_go hk_87 2 (c := (49, [.double x0, s_no, .double x, s_no, .int p, .int 0], [], h)) rfl ?_
    exact g_w2 64 0 _ _ rfl hK2 hE
  | k + 1, i, x, p, hi, hK, hK2, hE => by
    refine e_go hk_87 3 (c := (if s_cnd .ge (nI i) 64 = true then 46 else 23, [.double x0, s_no, .double x, s_no, .int p, .int (nI i)], [], h)) rfl ?_
    refine e_ge (a := 46) (b := 23) (x := nI i) (y := 64) (fun hc20 => absurd hc20 ((show ¬ nI 64 ≤ nI i from nI_ge (by omega) (by decide)))) (fun hc20 => ?_)
    refine e_go hk_87 4 (c := (if s_cnd .lt (Op.cmpValue (FP.dcmp x (UInt64.ofNat 4611686018427387904)) .l) 0 = true then 46 else 31, [.double x0, s_no, .double x, s_no, .int p, .int (nI i)], [], h)) rfl ?_
    refine e_lt (a := 46) (b := 31) (x := Op.cmpValue (FP.dcmp x (UInt64.ofNat 4611686018427387904)) .l) (y := 0) (fun hc28 => ?_) (fun hc28 => ?_)
    · skip
      rw [g_l1, if_pos hc28] at hK2 hE ⊢
      refine e_go hk_87 2 (c := (49, [.double x0, s_no, .double x, s_no, .int p, .int 0], [], h)) rfl ?_
      exact g_w2 64 0 _ _ rfl hK2 hE
    · skip
      rw [g_l1, if_neg hc28] at hK2 hE ⊢
      refine e_go hk_87 2 (c := (35, [.double x0, s_no, .double x, s_no, .int p, .int (nI i)], [.double (UInt64.ofNat 4611686018427387904), .double x], h)) rfl ?_
      refine e_ddiv hk_87 (x := x) (y := UInt64.ofNat 4611686018427387904) rfl rfl (hK hc28).1 ?_
      show e_r 87 36 [.double x0, s_no, .double x, s_no, .int p, .int (nI i)] [.double (FP.ddiv x (UInt64.ofNat 4611686018427387904))] h _ _
      refine e_go hk_87 4 (c := (16, [.double x0, s_no, .double (FP.ddiv x (UInt64.ofNat 4611686018427387904)), s_no, .int (p + 1), .int ((nI i) + 1)], [], h)) rfl ?_
      rw [nI_1]
      exact g_w1 k (i + 1) _ _ (by omega) (hK hc28).2 hK2 hE
theorem x_gbits {h : sHp} {x : UInt64} (hA : g_all x) : m_r 87 [.double x] h (some (.long (g_bits x))) h := by
  refine m_of (ls := [.double x, s_no, s_no, s_no, s_no, s_no]) hk_87 rfl rfl rfl ?_
  refine e_go hk_87 4 (c := (if s_cnd .gt (Op.cmpValue (FP.dcmp x FP.dconst0) .l) 0 = true then 8 else 6, [.double x, s_no, s_no, s_no, s_no, s_no], [], h)) rfl ?_
  refine e_gt (a := 8) (b := 6) (x := Op.cmpValue (FP.dcmp x FP.dconst0) .l) (y := 0) (fun hc3 => ?_) (fun hc3 => ?_)
  · skip
    rw [g_bits, if_pos hc3]
    refine e_go hk_87 6 (c := (16, [.double x, s_no, .double x, s_no, .int 0, .int 0], [], h)) rfl ?_
    exact g_w1 64 0 _ _ rfl hA.1 hA.2.1 hA.2.2
  · skip
    rw [g_bits, if_neg hc3]
    refine e_go hk_87 1 (c := (7, [.double x, s_no, s_no, s_no, s_no, s_no], [.long 0], h)) rfl ?_
    exact e_ret hk_87 rfl rfl rfl rfl rfl
def g_mean (Z : Nat → Nat → Int32) (n : Nat) : UInt64 := FP.ddiv (FP.i2d (t_sm (Z 15) 0 (n - 0) 0)) (FP.i2d (nI n))
def g_rest (x : UInt64) : UInt64 := FP.dsub x (FP.l2d (FP.d2l x))
def c_mean (Z : Nat → Nat → Int32) (n : Nat) (what : Int32) : Int64 := if what = 0 ∨ what = 1 then (if n = 0 then 0 else if what = 0 then g_bits (g_mean Z n) else g_bits (g_rest (g_mean Z n))) else -2
theorem x_mean {Z : Nat → Nat → Int32} {P : Nat → Nat} {L n : Nat} (hN : Z 5 6 = nI n) (hn : n ≤ 60) {what : Int32} (hA : ¬ n = 0 → g_fin (g_mean Z n) ∧ g_all (g_mean Z n) ∧ g_fin (g_rest (g_mean Z n)) ∧ g_all (g_rest (g_mean Z n))) : m_r 64 [.ref 4, .int what] (hp Z P L) (some (.long (c_mean Z n what))) (hp Z P L) := by
  refine m_of (ls := [.ref 4, .int what, s_no, s_no]) hk_64 rfl rfl rfl ?_
  refine e_go hk_64 2 (c := (if s_cnd .eq what 0 = true then 13 else 4, [.ref 4, .int what, s_no, s_no], [], hp Z P L)) rfl ?_
  refine e_eq (a := 13) (b := 4) (x := what) (y := 0) (fun hc1 => ?_) (fun hc1 => ?_)
  · skip
    refine e_go hk_64 4 (c := (if s_cnd .gt (Z 5 6) 0 = true then 25 else 23, [.ref 4, .int what, s_no, s_no], [], hp Z P L)) rfl ?_
    refine e_gt (a := 25) (b := 23) (x := Z 5 6) (y := 0) (fun hc20 => ?_) (fun hc20 => ?_)
    · skip
      have h0 : ¬ n = 0 := fun z => by rw [hN, z] at hc20; exact absurd hc20 (by decide)
      rw [hN] at hc20
      refine e_go hk_64 9 (c := (42, [.ref 4, .int what, s_no, s_no], [.int ((Z 5 6) - 1), .int 0, .ref 14], hp Z P L)) rfl ?_
      rw [hN]
      refine e_call hk_64 (as := [.ref 14, .int (nI 0), .int (nI n - 1)]) (rest := []) rfl rfl hk_25 rfl (Nat.le_of_ble_eq_true rfl) rfl (x_total (r := 14) (a := 15) (n := 60) rfl rfl rfl (by decide) (l := 0) (u := n) (by omega) hn) ?_
      show e_r 64 45 [.ref 4, .int what, s_no, s_no] [.int (t_sm (Z 15) 0 (n - 0) 0)] (hp Z P L) _ _
      refine e_go hk_64 1 (c := (46, [.ref 4, .int what, s_no, s_no], [.double (FP.i2d (t_sm (Z 15) 0 (n - 0) 0))], hp Z P L)) rfl ?_
      refine e_go hk_64 3 (c := (53, [.ref 4, .int what, s_no, s_no], [.int (Z 5 6), .double (FP.i2d (t_sm (Z 15) 0 (n - 0) 0))], hp Z P L)) rfl ?_
      rw [hN]
      refine e_go hk_64 1 (c := (54, [.ref 4, .int what, s_no, s_no], [.double (FP.i2d (nI n)), .double (FP.i2d (t_sm (Z 15) 0 (n - 0) 0))], hp Z P L)) rfl ?_
      refine e_ddiv hk_64 (x := FP.i2d (t_sm (Z 15) 0 (n - 0) 0)) (y := FP.i2d (nI n)) rfl rfl (hA h0).1 ?_
      show e_r 64 55 [.ref 4, .int what, s_no, s_no] [.double (FP.ddiv (FP.i2d (t_sm (Z 15) 0 (n - 0) 0)) (FP.i2d (nI n)))] (hp Z P L) _ _
      refine e_go hk_64 3 (c := (if s_cnd .ne what 0 = true then 64 else 60, [.ref 4, .int what, .double (FP.ddiv (FP.i2d (t_sm (Z 15) 0 (n - 0) 0)) (FP.i2d (nI n))), s_no], [], hp Z P L)) rfl ?_
      refine e_ne (a := 64) (b := 60) (x := what) (y := 0) (fun hc57 => absurd (hc1) hc57) (fun hc57 => ?_)
      refine e_go hk_64 2 (c := (69, [.ref 4, .int what, .double (FP.ddiv (FP.i2d (t_sm (Z 15) 0 (n - 0) 0)) (FP.i2d (nI n))), s_no], [.double (FP.ddiv (FP.i2d (t_sm (Z 15) 0 (n - 0) 0)) (FP.i2d (nI n)))], hp Z P L)) rfl ?_
      refine e_call hk_64 (as := [.double (FP.ddiv (FP.i2d (t_sm (Z 15) 0 (n - 0) 0)) (FP.i2d (nI n)))]) (rest := []) rfl rfl hk_87 rfl (Nat.le_of_ble_eq_true rfl) rfl (x_gbits (x := g_mean Z n) (hA h0).2.1) ?_
      show e_r 64 72 [.ref 4, .int what, .double (FP.ddiv (FP.i2d (t_sm (Z 15) 0 (n - 0) 0)) (FP.i2d (nI n))), s_no] [.long (g_bits (g_mean Z n))] (hp Z P L) _ _
      exact e_ret hk_64 rfl rfl rfl (by rw [c_mean, if_pos (Or.inl hc1), if_neg h0, if_pos hc1]) rfl
    · skip
      have h0 : n = 0 := by
        rcases Nat.eq_zero_or_pos n with z | z
        · exact z
        · exact absurd (by rw [hN]; exact (nI_ltI (by decide) (by omega)).mpr z : (0 : Int32) < Z 5 6) hc20
      refine e_go hk_64 1 (c := (24, [.ref 4, .int what, s_no, s_no], [.long 0], hp Z P L)) rfl ?_
      exact e_ret hk_64 rfl rfl rfl (by rw [c_mean, if_pos (Or.inl hc1), if_pos h0]) rfl
  · skip
    refine e_go hk_64 3 (c := (if s_cnd .eq what 1 = true then 13 else 9, [.ref 4, .int what, s_no, s_no], [], hp Z P L)) rfl ?_
    refine e_eq (a := 13) (b := 9) (x := what) (y := 1) (fun hc6 => ?_) (fun hc6 => ?_)
    · skip
      refine e_go hk_64 4 (c := (if s_cnd .gt (Z 5 6) 0 = true then 25 else 23, [.ref 4, .int what, s_no, s_no], [], hp Z P L)) rfl ?_
      refine e_gt (a := 25) (b := 23) (x := Z 5 6) (y := 0) (fun hc20 => ?_) (fun hc20 => ?_)
      · skip
        have h0 : ¬ n = 0 := fun z => by rw [hN, z] at hc20; exact absurd hc20 (by decide)
        rw [hN] at hc20
        refine e_go hk_64 9 (c := (42, [.ref 4, .int what, s_no, s_no], [.int ((Z 5 6) - 1), .int 0, .ref 14], hp Z P L)) rfl ?_
        rw [hN]
        refine e_call hk_64 (as := [.ref 14, .int (nI 0), .int (nI n - 1)]) (rest := []) rfl rfl hk_25 rfl (Nat.le_of_ble_eq_true rfl) rfl (x_total (r := 14) (a := 15) (n := 60) rfl rfl rfl (by decide) (l := 0) (u := n) (by omega) hn) ?_
        show e_r 64 45 [.ref 4, .int what, s_no, s_no] [.int (t_sm (Z 15) 0 (n - 0) 0)] (hp Z P L) _ _
        refine e_go hk_64 1 (c := (46, [.ref 4, .int what, s_no, s_no], [.double (FP.i2d (t_sm (Z 15) 0 (n - 0) 0))], hp Z P L)) rfl ?_
        refine e_go hk_64 3 (c := (53, [.ref 4, .int what, s_no, s_no], [.int (Z 5 6), .double (FP.i2d (t_sm (Z 15) 0 (n - 0) 0))], hp Z P L)) rfl ?_
        rw [hN]
        refine e_go hk_64 1 (c := (54, [.ref 4, .int what, s_no, s_no], [.double (FP.i2d (nI n)), .double (FP.i2d (t_sm (Z 15) 0 (n - 0) 0))], hp Z P L)) rfl ?_
        refine e_ddiv hk_64 (x := FP.i2d (t_sm (Z 15) 0 (n - 0) 0)) (y := FP.i2d (nI n)) rfl rfl (hA h0).1 ?_
        show e_r 64 55 [.ref 4, .int what, s_no, s_no] [.double (FP.ddiv (FP.i2d (t_sm (Z 15) 0 (n - 0) 0)) (FP.i2d (nI n)))] (hp Z P L) _ _
        refine e_go hk_64 3 (c := (if s_cnd .ne what 0 = true then 64 else 60, [.ref 4, .int what, .double (FP.ddiv (FP.i2d (t_sm (Z 15) 0 (n - 0) 0)) (FP.i2d (nI n))), s_no], [], hp Z P L)) rfl ?_
        refine e_ne (a := 64) (b := 60) (x := what) (y := 0) (fun hc57 => ?_) (fun hc57 => absurd hc57 (hc1))
        refine e_go hk_64 4 (c := (68, [.ref 4, .int what, .double (FP.ddiv (FP.i2d (t_sm (Z 15) 0 (n - 0) 0)) (FP.i2d (nI n))), s_no], [.double (FP.l2d (FP.d2l (FP.ddiv (FP.i2d (t_sm (Z 15) 0 (n - 0) 0)) (FP.i2d (nI n))))), .double (FP.ddiv (FP.i2d (t_sm (Z 15) 0 (n - 0) 0)) (FP.i2d (nI n)))], hp Z P L)) rfl ?_
        refine e_dsub hk_64 (x := FP.ddiv (FP.i2d (t_sm (Z 15) 0 (n - 0) 0)) (FP.i2d (nI n))) (y := FP.l2d (FP.d2l (FP.ddiv (FP.i2d (t_sm (Z 15) 0 (n - 0) 0)) (FP.i2d (nI n))))) rfl rfl (hA h0).2.2.1 ?_
        show e_r 64 69 [.ref 4, .int what, .double (FP.ddiv (FP.i2d (t_sm (Z 15) 0 (n - 0) 0)) (FP.i2d (nI n))), s_no] [.double (FP.dsub (FP.ddiv (FP.i2d (t_sm (Z 15) 0 (n - 0) 0)) (FP.i2d (nI n))) (FP.l2d (FP.d2l (FP.ddiv (FP.i2d (t_sm (Z 15) 0 (n - 0) 0)) (FP.i2d (nI n))))))] (hp Z P L) _ _
        refine e_call hk_64 (as := [.double (FP.dsub (FP.ddiv (FP.i2d (t_sm (Z 15) 0 (n - 0) 0)) (FP.i2d (nI n))) (FP.l2d (FP.d2l (FP.ddiv (FP.i2d (t_sm (Z 15) 0 (n - 0) 0)) (FP.i2d (nI n))))))]) (rest := []) rfl rfl hk_87 rfl (Nat.le_of_ble_eq_true rfl) rfl (x_gbits (x := g_rest (g_mean Z n)) (hA h0).2.2.2) ?_
        show e_r 64 72 [.ref 4, .int what, .double (FP.ddiv (FP.i2d (t_sm (Z 15) 0 (n - 0) 0)) (FP.i2d (nI n))), s_no] [.long (g_bits (g_rest (g_mean Z n)))] (hp Z P L) _ _
        exact e_ret hk_64 rfl rfl rfl (by rw [c_mean, if_pos (Or.inr hc6), if_neg h0, if_neg hc1]) rfl
      · skip
        have h0 : n = 0 := by
          rcases Nat.eq_zero_or_pos n with z | z
          · exact z
          · exact absurd (by rw [hN]; exact (nI_ltI (by decide) (by omega)).mpr z : (0 : Int32) < Z 5 6) hc20
        refine e_go hk_64 1 (c := (24, [.ref 4, .int what, s_no, s_no], [.long 0], hp Z P L)) rfl ?_
        exact e_ret hk_64 rfl rfl rfl (by rw [c_mean, if_pos (Or.inr hc6), if_pos h0]) rfl
    · skip
      refine e_go hk_64 1 (c := (12, [.ref 4, .int what, s_no, s_no], [.long ((-2))], hp Z P L)) rfl ?_
      exact e_ret hk_64 rfl rfl rfl (by rw [c_mean, if_neg (by rw [not_or]; exact ⟨hc1, hc6⟩)]) rfl
end
section
/-! Floating numbers of shares: each is looked at; printed by wip/whole/gen/num32.py -/
def f_finb (x : UInt32) : Bool := Nat.ble (x &&& 0x7fffffff).toNat 0x7f800000
def f_okb : Nat → UInt32 → Bool
  | 0, _ => true
  | k + 1, x => if 0 ≤ Op.cmpValue (FP.fcmp x FP.fconst1) .g then true else f_finb (FP.fmul x FP.fconst2) && f_okb k (FP.fmul x FP.fconst2)
theorem f_finb_ok {x : UInt32} (h : f_finb x = true) : f_fin x := by
  unfold f_finb at h
  exact UInt32.le_iff_toNat_le.mpr (Nat.le_of_ble_eq_true h)
theorem f_okb_ok : ∀ (k : Nat) (x : UInt32), f_okb k x = true → f_ok k x
  | 0, x, h => trivial
  | k + 1, x, h => by
    intro hn
    unfold f_okb at h
    rw [if_neg hn, Bool.and_eq_true] at h
    exact ⟨f_finb_ok h.1, f_okb_ok k _ h.2⟩
def f_sh (a w : Nat) : UInt32 := FP.fdiv (FP.i2f (nI a)) (FP.i2f (nI w))
def f_chk (a w : Nat) : Bool := f_finb (f_sh a w) && (f_okb 64 (f_sh a w) && (f_finb (FP.fsub (f_lp 64 (f_sh a w) 0).1 FP.fconst1) && (f_finb (f_end (f_lp 64 (f_sh a w) 0).1) && decide (f_bits (f_sh a w) = (f_sh a w).toInt32))))
theorem f_chks : (List.range 61).all (fun w => (List.range w).all (fun a => f_chk a w)) = true := by decide +kernel
/-- a share below one of at most 60: its bits are told rightly, and no NaN comes up on the way -/
theorem f_share {a w : Nat} (h : a < w) (hw : w ≤ 60) : f_all (f_sh a w) ∧ f_bits (f_sh a w) = (f_sh a w).toInt32 := by
  have h1 := List.all_eq_true.mp f_chks w (List.mem_range.mpr (by omega))
  have h2 := List.all_eq_true.mp h1 a (List.mem_range.mpr h)
  unfold f_chk at h2
  simp only [Bool.and_eq_true] at h2
  obtain ⟨q1, q2, q3, q4, q5⟩ := h2
  exact ⟨⟨f_finb_ok q1, f_okb_ok _ _ q2, f_finb_ok q3, f_finb_ok q4⟩, of_decide_eq_true q5⟩
end
