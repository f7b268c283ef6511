-- ===== PART A: goes FIRST, ahead of the names: the tables' words, and 'selects' of the private methods out of them =====
/-- a private method of a class that the tables say can be made, by its rows of tables_1 -/
def lw_okq (q : MethodName × Nat) : Prop := (q.1.cls ≠ "java/lang/invoke/MethodHandle" ∧ q.1.cls ≠ "java/lang/invoke/VarHandle") ∧ Cond.instantiable q.1.cls q.2 ∈ tables_1 ∧ Cond.privateMethod q.1 ∈ tables_1 ∧ Cond.instanceMethod q.1 ∈ tables_1
theorem lw_p0 : lw_okq (⟨"LeaningTrees$History", "turn", "()V"⟩, 2) := ⟨⟨by decide +kernel, by decide +kernel⟩, List.mem_of_getElem? (i := 90) (by decide +kernel), List.mem_of_getElem? (i := 195) (by decide +kernel), List.mem_of_getElem? (i := 196) (by decide +kernel)⟩
theorem lw_p1 : lw_okq (⟨"LeaningTrees$History", "stateAt", "(I)LLeaningTrees$Tree;"⟩, 2) := ⟨⟨by decide +kernel, by decide +kernel⟩, List.mem_of_getElem? (i := 90) (by decide +kernel), List.mem_of_getElem? (i := 199) (by decide +kernel), List.mem_of_getElem? (i := 200) (by decide +kernel)⟩
theorem lw_p2 : lw_okq (⟨"LeaningTrees$Tree", "payOnWayTo", "(I)V"⟩, 11) := ⟨⟨by decide +kernel, by decide +kernel⟩, List.mem_of_getElem? (i := 22) (by decide +kernel), List.mem_of_getElem? (i := 247) (by decide +kernel), List.mem_of_getElem? (i := 248) (by decide +kernel)⟩
theorem lw_p3 : lw_okq (⟨"LeaningTrees$Tree", "makeNode", "(III)V"⟩, 11) := ⟨⟨by decide +kernel, by decide +kernel⟩, List.mem_of_getElem? (i := 22) (by decide +kernel), List.mem_of_getElem? (i := 266) (by decide +kernel), List.mem_of_getElem? (i := 267) (by decide +kernel)⟩
theorem lw_p4 : lw_okq (⟨"LeaningTrees$Tree", "moveNode", "(II)V"⟩, 11) := ⟨⟨by decide +kernel, by decide +kernel⟩, List.mem_of_getElem? (i := 22) (by decide +kernel), List.mem_of_getElem? (i := 270) (by decide +kernel), List.mem_of_getElem? (i := 271) (by decide +kernel)⟩
theorem lw_p5 : lw_okq (⟨"LeaningTrees$Tree", "layAnew", "(I)I"⟩, 11) := ⟨⟨by decide +kernel, by decide +kernel⟩, List.mem_of_getElem? (i := 22) (by decide +kernel), List.mem_of_getElem? (i := 274) (by decide +kernel), List.mem_of_getElem? (i := 275) (by decide +kernel)⟩
theorem lw_p6 : lw_okq (⟨"LeaningTrees$Tree", "spend", "(II)V"⟩, 11) := ⟨⟨by decide +kernel, by decide +kernel⟩, List.mem_of_getElem? (i := 22) (by decide +kernel), List.mem_of_getElem? (i := 291) (by decide +kernel), List.mem_of_getElem? (i := 292) (by decide +kernel)⟩
theorem lw_p7 : lw_okq (⟨"LeaningTrees$Tree", "dropHollow", "(II)V"⟩, 11) := ⟨⟨by decide +kernel, by decide +kernel⟩, List.mem_of_getElem? (i := 22) (by decide +kernel), List.mem_of_getElem? (i := 295) (by decide +kernel), List.mem_of_getElem? (i := 296) (by decide +kernel)⟩
theorem lw_p8 : lw_okq (⟨"LeaningTrees", "aboutNode", "(II)I"⟩, 5) := ⟨⟨by decide +kernel, by decide +kernel⟩, List.mem_of_getElem? (i := 14) (by decide +kernel), List.mem_of_getElem? (i := 340) (by decide +kernel), List.mem_of_getElem? (i := 341) (by decide +kernel)⟩
theorem lw_p9 : lw_okq (⟨"LeaningTrees", "keyOfTop", "(III)I"⟩, 5) := ⟨⟨by decide +kernel, by decide +kernel⟩, List.mem_of_getElem? (i := 14) (by decide +kernel), List.mem_of_getElem? (i := 346) (by decide +kernel), List.mem_of_getElem? (i := 347) (by decide +kernel)⟩
theorem lw_p10 : lw_okq (⟨"LeaningTrees", "shapeOfTree", "(I)I"⟩, 5) := ⟨⟨by decide +kernel, by decide +kernel⟩, List.mem_of_getElem? (i := 14) (by decide +kernel), List.mem_of_getElem? (i := 366) (by decide +kernel), List.mem_of_getElem? (i := 367) (by decide +kernel)⟩
theorem lw_p11 : lw_okq (⟨"LeaningTrees", "booksOfTree", "(I)I"⟩, 5) := ⟨⟨by decide +kernel, by decide +kernel⟩, List.mem_of_getElem? (i := 14) (by decide +kernel), List.mem_of_getElem? (i := 371) (by decide +kernel), List.mem_of_getElem? (i := 372) (by decide +kernel)⟩
theorem lw_p12 : lw_okq (⟨"LeaningTrees$OrderReader", "takesSign", "(I)Z"⟩, 5) := ⟨⟨by decide +kernel, by decide +kernel⟩, List.mem_of_getElem? (i := 126) (by decide +kernel), List.mem_of_getElem? (i := 468) (by decide +kernel), List.mem_of_getElem? (i := 469) (by decide +kernel)⟩
theorem lw_p13 : lw_okq (⟨"LeaningTrees$OrderReader", "takesFirstDigit", "(I)Z"⟩, 5) := ⟨⟨by decide +kernel, by decide +kernel⟩, List.mem_of_getElem? (i := 126) (by decide +kernel), List.mem_of_getElem? (i := 472) (by decide +kernel), List.mem_of_getElem? (i := 473) (by decide +kernel)⟩
theorem lw_p14 : lw_okq (⟨"LeaningTrees$OrderReader", "takesDigit", "(I)Z"⟩, 5) := ⟨⟨by decide +kernel, by decide +kernel⟩, List.mem_of_getElem? (i := 126) (by decide +kernel), List.mem_of_getElem? (i := 479) (by decide +kernel), List.mem_of_getElem? (i := 480) (by decide +kernel)⟩
theorem lw_p15 : lw_okq (⟨"LeaningTrees$OrderReader", "takesEqualsSign", "(I)Z"⟩, 5) := ⟨⟨by decide +kernel, by decide +kernel⟩, List.mem_of_getElem? (i := 126) (by decide +kernel), List.mem_of_getElem? (i := 483) (by decide +kernel), List.mem_of_getElem? (i := 484) (by decide +kernel)⟩
def lw_privs_1 : List (MethodName × Nat) := [(⟨"LeaningTrees$History", "turn", "()V"⟩, 2), (⟨"LeaningTrees$History", "stateAt", "(I)LLeaningTrees$Tree;"⟩, 2), (⟨"LeaningTrees$Tree", "payOnWayTo", "(I)V"⟩, 11), (⟨"LeaningTrees$Tree", "makeNode", "(III)V"⟩, 11), (⟨"LeaningTrees$Tree", "moveNode", "(II)V"⟩, 11), (⟨"LeaningTrees$Tree", "layAnew", "(I)I"⟩, 11), (⟨"LeaningTrees$Tree", "spend", "(II)V"⟩, 11), (⟨"LeaningTrees$Tree", "dropHollow", "(II)V"⟩, 11), (⟨"LeaningTrees", "aboutNode", "(II)I"⟩, 5), (⟨"LeaningTrees", "keyOfTop", "(III)I"⟩, 5), (⟨"LeaningTrees", "shapeOfTree", "(I)I"⟩, 5), (⟨"LeaningTrees", "booksOfTree", "(I)I"⟩, 5), (⟨"LeaningTrees$OrderReader", "takesSign", "(I)Z"⟩, 5), (⟨"LeaningTrees$OrderReader", "takesFirstDigit", "(I)Z"⟩, 5), (⟨"LeaningTrees$OrderReader", "takesDigit", "(I)Z"⟩, 5), (⟨"LeaningTrees$OrderReader", "takesEqualsSign", "(I)Z"⟩, 5)]
theorem lw_r1 : ∀ q ∈ lw_privs_1, lw_okq q := List.forall_mem_cons.mpr ⟨lw_p0, List.forall_mem_cons.mpr ⟨lw_p1, List.forall_mem_cons.mpr ⟨lw_p2, List.forall_mem_cons.mpr ⟨lw_p3, List.forall_mem_cons.mpr ⟨lw_p4, List.forall_mem_cons.mpr ⟨lw_p5, List.forall_mem_cons.mpr ⟨lw_p6, List.forall_mem_cons.mpr ⟨lw_p7, List.forall_mem_cons.mpr ⟨lw_p8, List.forall_mem_cons.mpr ⟨lw_p9, List.forall_mem_cons.mpr ⟨lw_p10, List.forall_mem_cons.mpr ⟨lw_p11, List.forall_mem_cons.mpr ⟨lw_p12, List.forall_mem_cons.mpr ⟨lw_p13, List.forall_mem_cons.mpr ⟨lw_p14, List.forall_mem_cons.mpr ⟨lw_p15, fun _ h => absurd h List.not_mem_nil⟩⟩⟩⟩⟩⟩⟩⟩⟩⟩⟩⟩⟩⟩⟩⟩
theorem lw_p16 : lw_okq (⟨"LeaningTrees$OrderReader", "takesEndOfOrder", "(I)Z"⟩, 5) := ⟨⟨by decide +kernel, by decide +kernel⟩, List.mem_of_getElem? (i := 126) (by decide +kernel), List.mem_of_getElem? (i := 487) (by decide +kernel), List.mem_of_getElem? (i := 488) (by decide +kernel)⟩
theorem lw_p17 : lw_okq (⟨"LeaningTrees", "answerToOrder", "()I"⟩, 5) := ⟨⟨by decide +kernel, by decide +kernel⟩, List.mem_of_getElem? (i := 14) (by decide +kernel), List.mem_of_getElem? (i := 500) (by decide +kernel), List.mem_of_getElem? (i := 501) (by decide +kernel)⟩
theorem lw_p18 : lw_okq (⟨"LeaningTrees", "slotAt", "(I)LLeaningTrees$Slot;"⟩, 5) := ⟨⟨by decide +kernel, by decide +kernel⟩, List.mem_of_getElem? (i := 14) (by decide +kernel), List.mem_of_getElem? (i := 524) (by decide +kernel), List.mem_of_getElem? (i := 525) (by decide +kernel)⟩
theorem lw_p19 : lw_okq (⟨"LeaningTreesModel", "keep", "()V"⟩, 16) := ⟨⟨by decide +kernel, by decide +kernel⟩, List.mem_of_getElem? (i := 533) (by decide +kernel), List.mem_of_getElem? (i := 592) (by decide +kernel), List.mem_of_getElem? (i := 593) (by decide +kernel)⟩
theorem lw_p20 : lw_okq (⟨"LeaningTreesModel", "doSet", "(II)I"⟩, 16) := ⟨⟨by decide +kernel, by decide +kernel⟩, List.mem_of_getElem? (i := 533) (by decide +kernel), List.mem_of_getElem? (i := 596) (by decide +kernel), List.mem_of_getElem? (i := 597) (by decide +kernel)⟩
theorem lw_p21 : lw_okq (⟨"LeaningTreesModel", "changed", "(I)I"⟩, 16) := ⟨⟨by decide +kernel, by decide +kernel⟩, List.mem_of_getElem? (i := 533) (by decide +kernel), List.mem_of_getElem? (i := 608) (by decide +kernel), List.mem_of_getElem? (i := 609) (by decide +kernel)⟩
theorem lw_p22 : lw_okq (⟨"LeaningTreesModel", "doPutIn", "(II)I"⟩, 16) := ⟨⟨by decide +kernel, by decide +kernel⟩, List.mem_of_getElem? (i := 533) (by decide +kernel), List.mem_of_getElem? (i := 616) (by decide +kernel), List.mem_of_getElem? (i := 617) (by decide +kernel)⟩
theorem lw_p23 : lw_okq (⟨"LeaningTreesModel", "find", "(I)I"⟩, 16) := ⟨⟨by decide +kernel, by decide +kernel⟩, List.mem_of_getElem? (i := 533) (by decide +kernel), List.mem_of_getElem? (i := 624) (by decide +kernel), List.mem_of_getElem? (i := 625) (by decide +kernel)⟩
theorem lw_p24 : lw_okq (⟨"LeaningTreesModel", "pays", "(I)V"⟩, 16) := ⟨⟨by decide +kernel, by decide +kernel⟩, List.mem_of_getElem? (i := 533) (by decide +kernel), List.mem_of_getElem? (i := 628) (by decide +kernel), List.mem_of_getElem? (i := 629) (by decide +kernel)⟩
theorem lw_p25 : lw_okq (⟨"LeaningTreesModel", "isUnder", "(II)Z"⟩, 16) := ⟨⟨by decide +kernel, by decide +kernel⟩, List.mem_of_getElem? (i := 533) (by decide +kernel), List.mem_of_getElem? (i := 632) (by decide +kernel), List.mem_of_getElem? (i := 633) (by decide +kernel)⟩
theorem lw_p26 : lw_okq (⟨"LeaningTreesModel", "first", "(I)I"⟩, 16) := ⟨⟨by decide +kernel, by decide +kernel⟩, List.mem_of_getElem? (i := 533) (by decide +kernel), List.mem_of_getElem? (i := 636) (by decide +kernel), List.mem_of_getElem? (i := 637) (by decide +kernel)⟩
theorem lw_p27 : lw_okq (⟨"LeaningTreesModel", "depth", "(I)I"⟩, 16) := ⟨⟨by decide +kernel, by decide +kernel⟩, List.mem_of_getElem? (i := 533) (by decide +kernel), List.mem_of_getElem? (i := 640) (by decide +kernel), List.mem_of_getElem? (i := 641) (by decide +kernel)⟩
theorem lw_p28 : lw_okq (⟨"LeaningTreesModel", "last", "(I)I"⟩, 16) := ⟨⟨by decide +kernel, by decide +kernel⟩, List.mem_of_getElem? (i := 533) (by decide +kernel), List.mem_of_getElem? (i := 644) (by decide +kernel), List.mem_of_getElem? (i := 645) (by decide +kernel)⟩
theorem lw_p29 : lw_okq (⟨"LeaningTreesModel", "comes", "(II)V"⟩, 16) := ⟨⟨by decide +kernel, by decide +kernel⟩, List.mem_of_getElem? (i := 533) (by decide +kernel), List.mem_of_getElem? (i := 648) (by decide +kernel), List.mem_of_getElem? (i := 649) (by decide +kernel)⟩
theorem lw_p30 : lw_okq (⟨"LeaningTreesModel", "newDepth", "(I)I"⟩, 16) := ⟨⟨by decide +kernel, by decide +kernel⟩, List.mem_of_getElem? (i := 533) (by decide +kernel), List.mem_of_getElem? (i := 652) (by decide +kernel), List.mem_of_getElem? (i := 653) (by decide +kernel)⟩
theorem lw_p31 : lw_okq (⟨"LeaningTreesModel", "leaningAbove", "(I)I"⟩, 16) := ⟨⟨by decide +kernel, by decide +kernel⟩, List.mem_of_getElem? (i := 533) (by decide +kernel), List.mem_of_getElem? (i := 656) (by decide +kernel), List.mem_of_getElem? (i := 657) (by decide +kernel)⟩
def lw_privs_2 : List (MethodName × Nat) := [(⟨"LeaningTrees$OrderReader", "takesEndOfOrder", "(I)Z"⟩, 5), (⟨"LeaningTrees", "answerToOrder", "()I"⟩, 5), (⟨"LeaningTrees", "slotAt", "(I)LLeaningTrees$Slot;"⟩, 5), (⟨"LeaningTreesModel", "keep", "()V"⟩, 16), (⟨"LeaningTreesModel", "doSet", "(II)I"⟩, 16), (⟨"LeaningTreesModel", "changed", "(I)I"⟩, 16), (⟨"LeaningTreesModel", "doPutIn", "(II)I"⟩, 16), (⟨"LeaningTreesModel", "find", "(I)I"⟩, 16), (⟨"LeaningTreesModel", "pays", "(I)V"⟩, 16), (⟨"LeaningTreesModel", "isUnder", "(II)Z"⟩, 16), (⟨"LeaningTreesModel", "first", "(I)I"⟩, 16), (⟨"LeaningTreesModel", "depth", "(I)I"⟩, 16), (⟨"LeaningTreesModel", "last", "(I)I"⟩, 16), (⟨"LeaningTreesModel", "comes", "(II)V"⟩, 16), (⟨"LeaningTreesModel", "newDepth", "(I)I"⟩, 16), (⟨"LeaningTreesModel", "leaningAbove", "(I)I"⟩, 16)]
theorem lw_r2 : ∀ q ∈ lw_privs_2, lw_okq q := List.forall_mem_cons.mpr ⟨lw_p16, List.forall_mem_cons.mpr ⟨lw_p17, List.forall_mem_cons.mpr ⟨lw_p18, List.forall_mem_cons.mpr ⟨lw_p19, List.forall_mem_cons.mpr ⟨lw_p20, List.forall_mem_cons.mpr ⟨lw_p21, List.forall_mem_cons.mpr ⟨lw_p22, List.forall_mem_cons.mpr ⟨lw_p23, List.forall_mem_cons.mpr ⟨lw_p24, List.forall_mem_cons.mpr ⟨lw_p25, List.forall_mem_cons.mpr ⟨lw_p26, List.forall_mem_cons.mpr ⟨lw_p27, List.forall_mem_cons.mpr ⟨lw_p28, List.forall_mem_cons.mpr ⟨lw_p29, List.forall_mem_cons.mpr ⟨lw_p30, List.forall_mem_cons.mpr ⟨lw_p31, fun _ h => absurd h List.not_mem_nil⟩⟩⟩⟩⟩⟩⟩⟩⟩⟩⟩⟩⟩⟩⟩⟩
theorem lw_p32 : lw_okq (⟨"LeaningTreesModel", "leans", "(I)Z"⟩, 16) := ⟨⟨by decide +kernel, by decide +kernel⟩, List.mem_of_getElem? (i := 533) (by decide +kernel), List.mem_of_getElem? (i := 660) (by decide +kernel), List.mem_of_getElem? (i := 661) (by decide +kernel)⟩
theorem lw_p33 : lw_okq (⟨"LeaningTreesModel", "heavier", "(I)I"⟩, 16) := ⟨⟨by decide +kernel, by decide +kernel⟩, List.mem_of_getElem? (i := 533) (by decide +kernel), List.mem_of_getElem? (i := 664) (by decide +kernel), List.mem_of_getElem? (i := 665) (by decide +kernel)⟩
theorem lw_p34 : lw_okq (⟨"LeaningTreesModel", "childWeight", "(II)I"⟩, 16) := ⟨⟨by decide +kernel, by decide +kernel⟩, List.mem_of_getElem? (i := 533) (by decide +kernel), List.mem_of_getElem? (i := 668) (by decide +kernel), List.mem_of_getElem? (i := 669) (by decide +kernel)⟩
theorem lw_p35 : lw_okq (⟨"LeaningTreesModel", "weight", "(I)I"⟩, 16) := ⟨⟨by decide +kernel, by decide +kernel⟩, List.mem_of_getElem? (i := 533) (by decide +kernel), List.mem_of_getElem? (i := 672) (by decide +kernel), List.mem_of_getElem? (i := 673) (by decide +kernel)⟩
theorem lw_p36 : lw_okq (⟨"LeaningTreesModel", "rebuilds", "(I)I"⟩, 16) := ⟨⟨by decide +kernel, by decide +kernel⟩, List.mem_of_getElem? (i := 533) (by decide +kernel), List.mem_of_getElem? (i := 676) (by decide +kernel), List.mem_of_getElem? (i := 677) (by decide +kernel)⟩
theorem lw_p37 : lw_okq (⟨"LeaningTreesModel", "sumOf", "(III)I"⟩, 16) := ⟨⟨by decide +kernel, by decide +kernel⟩, List.mem_of_getElem? (i := 533) (by decide +kernel), List.mem_of_getElem? (i := 680) (by decide +kernel), List.mem_of_getElem? (i := 681) (by decide +kernel)⟩
theorem lw_p38 : lw_okq (⟨"LeaningTreesModel", "takesOut", "(I)V"⟩, 16) := ⟨⟨by decide +kernel, by decide +kernel⟩, List.mem_of_getElem? (i := 533) (by decide +kernel), List.mem_of_getElem? (i := 684) (by decide +kernel), List.mem_of_getElem? (i := 685) (by decide +kernel)⟩
theorem lw_p39 : lw_okq (⟨"LeaningTreesModel", "lays", "(III)V"⟩, 16) := ⟨⟨by decide +kernel, by decide +kernel⟩, List.mem_of_getElem? (i := 533) (by decide +kernel), List.mem_of_getElem? (i := 688) (by decide +kernel), List.mem_of_getElem? (i := 689) (by decide +kernel)⟩
theorem lw_p40 : lw_okq (⟨"LeaningTreesModel", "doRemove", "(I)I"⟩, 16) := ⟨⟨by decide +kernel, by decide +kernel⟩, List.mem_of_getElem? (i := 533) (by decide +kernel), List.mem_of_getElem? (i := 696) (by decide +kernel), List.mem_of_getElem? (i := 697) (by decide +kernel)⟩
theorem lw_p41 : lw_okq (⟨"LeaningTreesModel", "fulls", "()I"⟩, 16) := ⟨⟨by decide +kernel, by decide +kernel⟩, List.mem_of_getElem? (i := 533) (by decide +kernel), List.mem_of_getElem? (i := 700) (by decide +kernel), List.mem_of_getElem? (i := 701) (by decide +kernel)⟩
theorem lw_p42 : lw_okq (⟨"LeaningTreesModel", "root", "()I"⟩, 16) := ⟨⟨by decide +kernel, by decide +kernel⟩, List.mem_of_getElem? (i := 533) (by decide +kernel), List.mem_of_getElem? (i := 704) (by decide +kernel), List.mem_of_getElem? (i := 705) (by decide +kernel)⟩
theorem lw_p43 : lw_okq (⟨"LeaningTreesModel", "doRebuild", "(I)I"⟩, 16) := ⟨⟨by decide +kernel, by decide +kernel⟩, List.mem_of_getElem? (i := 533) (by decide +kernel), List.mem_of_getElem? (i := 712) (by decide +kernel), List.mem_of_getElem? (i := 713) (by decide +kernel)⟩
theorem lw_p44 : lw_okq (⟨"LeaningTreesModel", "nodeValue", "(II)I"⟩, 16) := ⟨⟨by decide +kernel, by decide +kernel⟩, List.mem_of_getElem? (i := 533) (by decide +kernel), List.mem_of_getElem? (i := 725) (by decide +kernel), List.mem_of_getElem? (i := 726) (by decide +kernel)⟩
theorem lw_p45 : lw_okq (⟨"LeaningTreesModel", "child", "(II)I"⟩, 16) := ⟨⟨by decide +kernel, by decide +kernel⟩, List.mem_of_getElem? (i := 533) (by decide +kernel), List.mem_of_getElem? (i := 729) (by decide +kernel), List.mem_of_getElem? (i := 730) (by decide +kernel)⟩
theorem lw_p46 : lw_okq (⟨"LeaningTreesModel", "keyOf", "(I)I"⟩, 16) := ⟨⟨by decide +kernel, by decide +kernel⟩, List.mem_of_getElem? (i := 533) (by decide +kernel), List.mem_of_getElem? (i := 733) (by decide +kernel), List.mem_of_getElem? (i := 734) (by decide +kernel)⟩
theorem lw_p47 : lw_okq (⟨"LeaningTreesModel", "deepest", "(II)I"⟩, 16) := ⟨⟨by decide +kernel, by decide +kernel⟩, List.mem_of_getElem? (i := 533) (by decide +kernel), List.mem_of_getElem? (i := 737) (by decide +kernel), List.mem_of_getElem? (i := 738) (by decide +kernel)⟩
def lw_privs_3 : List (MethodName × Nat) := [(⟨"LeaningTreesModel", "leans", "(I)Z"⟩, 16), (⟨"LeaningTreesModel", "heavier", "(I)I"⟩, 16), (⟨"LeaningTreesModel", "childWeight", "(II)I"⟩, 16), (⟨"LeaningTreesModel", "weight", "(I)I"⟩, 16), (⟨"LeaningTreesModel", "rebuilds", "(I)I"⟩, 16), (⟨"LeaningTreesModel", "sumOf", "(III)I"⟩, 16), (⟨"LeaningTreesModel", "takesOut", "(I)V"⟩, 16), (⟨"LeaningTreesModel", "lays", "(III)V"⟩, 16), (⟨"LeaningTreesModel", "doRemove", "(I)I"⟩, 16), (⟨"LeaningTreesModel", "fulls", "()I"⟩, 16), (⟨"LeaningTreesModel", "root", "()I"⟩, 16), (⟨"LeaningTreesModel", "doRebuild", "(I)I"⟩, 16), (⟨"LeaningTreesModel", "nodeValue", "(II)I"⟩, 16), (⟨"LeaningTreesModel", "child", "(II)I"⟩, 16), (⟨"LeaningTreesModel", "keyOf", "(I)I"⟩, 16), (⟨"LeaningTreesModel", "deepest", "(II)I"⟩, 16)]
theorem lw_r3 : ∀ q ∈ lw_privs_3, lw_okq q := List.forall_mem_cons.mpr ⟨lw_p32, List.forall_mem_cons.mpr ⟨lw_p33, List.forall_mem_cons.mpr ⟨lw_p34, List.forall_mem_cons.mpr ⟨lw_p35, List.forall_mem_cons.mpr ⟨lw_p36, List.forall_mem_cons.mpr ⟨lw_p37, List.forall_mem_cons.mpr ⟨lw_p38, List.forall_mem_cons.mpr ⟨lw_p39, List.forall_mem_cons.mpr ⟨lw_p40, List.forall_mem_cons.mpr ⟨lw_p41, List.forall_mem_cons.mpr ⟨lw_p42, List.forall_mem_cons.mpr ⟨lw_p43, List.forall_mem_cons.mpr ⟨lw_p44, List.forall_mem_cons.mpr ⟨lw_p45, List.forall_mem_cons.mpr ⟨lw_p46, List.forall_mem_cons.mpr ⟨lw_p47, fun _ h => absurd h List.not_mem_nil⟩⟩⟩⟩⟩⟩⟩⟩⟩⟩⟩⟩⟩⟩⟩⟩
theorem lw_p48 : lw_okq (⟨"LeaningTreesModel", "leaningNodes", "()I"⟩, 16) := ⟨⟨by decide +kernel, by decide +kernel⟩, List.mem_of_getElem? (i := 533) (by decide +kernel), List.mem_of_getElem? (i := 747) (by decide +kernel), List.mem_of_getElem? (i := 748) (by decide +kernel)⟩
theorem lw_p49 : lw_okq (⟨"LeaningTreesModel", "below", "(I)I"⟩, 16) := ⟨⟨by decide +kernel, by decide +kernel⟩, List.mem_of_getElem? (i := 533) (by decide +kernel), List.mem_of_getElem? (i := 784) (by decide +kernel), List.mem_of_getElem? (i := 785) (by decide +kernel)⟩
theorem lw_p50 : lw_okq (⟨"LeaningTreesModel", "keyAt", "(I)I"⟩, 16) := ⟨⟨by decide +kernel, by decide +kernel⟩, List.mem_of_getElem? (i := 533) (by decide +kernel), List.mem_of_getElem? (i := 792) (by decide +kernel), List.mem_of_getElem? (i := 793) (by decide +kernel)⟩
theorem lw_p51 : lw_okq (⟨"LeaningTreesModel", "giveBack", "()V"⟩, 16) := ⟨⟨by decide +kernel, by decide +kernel⟩, List.mem_of_getElem? (i := 533) (by decide +kernel), List.mem_of_getElem? (i := 808) (by decide +kernel), List.mem_of_getElem? (i := 809) (by decide +kernel)⟩
theorem lw_p52 : lw_okq (⟨"LeaningTreesModel", "readsOrder", "()Z"⟩, 16) := ⟨⟨by decide +kernel, by decide +kernel⟩, List.mem_of_getElem? (i := 533) (by decide +kernel), List.mem_of_getElem? (i := 832) (by decide +kernel), List.mem_of_getElem? (i := 833) (by decide +kernel)⟩
theorem lw_p53 : lw_okq (⟨"LeaningTreesModel", "readsNumber", "()Z"⟩, 16) := ⟨⟨by decide +kernel, by decide +kernel⟩, List.mem_of_getElem? (i := 533) (by decide +kernel), List.mem_of_getElem? (i := 836) (by decide +kernel), List.mem_of_getElem? (i := 837) (by decide +kernel)⟩
theorem lw_p54 : lw_okq (⟨"LeaningTreesModel", "isHere", "(II)Z"⟩, 16) := ⟨⟨by decide +kernel, by decide +kernel⟩, List.mem_of_getElem? (i := 533) (by decide +kernel), List.mem_of_getElem? (i := 840) (by decide +kernel), List.mem_of_getElem? (i := 841) (by decide +kernel)⟩
theorem lw_p55 : lw_okq (⟨"LeaningTreesModel", "takes", "(I)Z"⟩, 16) := ⟨⟨by decide +kernel, by decide +kernel⟩, List.mem_of_getElem? (i := 533) (by decide +kernel), List.mem_of_getElem? (i := 844) (by decide +kernel), List.mem_of_getElem? (i := 845) (by decide +kernel)⟩
theorem lw_p56 : lw_okq (⟨"LeaningTreesModel", "doOrder", "()I"⟩, 16) := ⟨⟨by decide +kernel, by decide +kernel⟩, List.mem_of_getElem? (i := 533) (by decide +kernel), List.mem_of_getElem? (i := 853) (by decide +kernel), List.mem_of_getElem? (i := 854) (by decide +kernel)⟩
def lw_privs_4 : List (MethodName × Nat) := [(⟨"LeaningTreesModel", "leaningNodes", "()I"⟩, 16), (⟨"LeaningTreesModel", "below", "(I)I"⟩, 16), (⟨"LeaningTreesModel", "keyAt", "(I)I"⟩, 16), (⟨"LeaningTreesModel", "giveBack", "()V"⟩, 16), (⟨"LeaningTreesModel", "readsOrder", "()Z"⟩, 16), (⟨"LeaningTreesModel", "readsNumber", "()Z"⟩, 16), (⟨"LeaningTreesModel", "isHere", "(II)Z"⟩, 16), (⟨"LeaningTreesModel", "takes", "(I)Z"⟩, 16), (⟨"LeaningTreesModel", "doOrder", "()I"⟩, 16)]
theorem lw_r4 : ∀ q ∈ lw_privs_4, lw_okq q := List.forall_mem_cons.mpr ⟨lw_p48, List.forall_mem_cons.mpr ⟨lw_p49, List.forall_mem_cons.mpr ⟨lw_p50, List.forall_mem_cons.mpr ⟨lw_p51, List.forall_mem_cons.mpr ⟨lw_p52, List.forall_mem_cons.mpr ⟨lw_p53, List.forall_mem_cons.mpr ⟨lw_p54, List.forall_mem_cons.mpr ⟨lw_p55, List.forall_mem_cons.mpr ⟨lw_p56, fun _ h => absurd h List.not_mem_nil⟩⟩⟩⟩⟩⟩⟩⟩⟩
def lw_privs : List (MethodName × Nat) := lw_privs_1 ++ (lw_privs_2 ++ (lw_privs_3 ++ (lw_privs_4)))
def lw_tbl : List Cond := k2_sels lw_privs ++ tables_1
theorem lw_privs_ok : ∀ q ∈ lw_privs, lw_okq q := by
  show ∀ q ∈ lw_privs_1 ++ (lw_privs_2 ++ (lw_privs_3 ++ (lw_privs_4))), lw_okq q
  exact List.forall_mem_append.mpr ⟨lw_r1, List.forall_mem_append.mpr ⟨lw_r2, List.forall_mem_append.mpr ⟨lw_r3, lw_r4⟩⟩⟩
/-- the streams that the claim lets the run draw from -/
abbrev lw_cs : List Choice := [Jvm.Choice.named "NaN.bits"]
theorem lw_bits : nanBits ∈ lw_cs := by first | decide | exact List.mem_cons_self | simp [lw_cs, nanBits]
def RX0 : String := "LeaningTrees$History"
def TX0 : u_T := fun k => match k with
  | 0 => ("LeaningTrees$History", "states", "[LLeaningTrees$Tree;", true)
  | _ => ("LeaningTrees$History", "length", "I", false)
def tyX0 : Nat → FieldType := fun k => match k with
  | 0 => .array (.object "LeaningTrees$Tree")
  | _ => .int
theorem nmX0 : ∀ a, a < 2 → ∀ b, b < 2 → a ≠ b → (TX0 a).2.1 ≠ (TX0 b).2.1 := by decide +kernel
theorem tyX0_ok : ∀ k, k < 2 → parseFieldDescriptor (TX0 k).2.2.1 = some (tyX0 k) := by decide +kernel
abbrev cX0_init : ByteArray := prog_2_method_1_code
def yX0_init : MethodName := ⟨RX0, "<init>", "()V"⟩
abbrev cX0_keep : ByteArray := prog_2_method_2_code
def yX0_keep : MethodName := ⟨RX0, "keep", "(LLeaningTrees$Tree;)V"⟩
abbrev cX0_takeBackInto : ByteArray := prog_2_method_3_code
def yX0_takeBackInto : MethodName := ⟨RX0, "takeBackInto", "(LLeaningTrees$Tree;)Z"⟩
abbrev cX0_turn : ByteArray := prog_2_method_4_code
def yX0_turn : MethodName := ⟨RX0, "turn", "()V"⟩
abbrev cX0_stateAt : ByteArray := prog_2_method_5_code
def yX0_stateAt : MethodName := ⟨RX0, "stateAt", "(I)LLeaningTrees$Tree;"⟩
def RX1 : String := "LeaningTrees$OrderReader"
def TX1 : u_T := fun k => match k with
  | 0 => ("LeaningTrees$OrderReader", "sign", "I", false)
  | 1 => ("LeaningTrees$OrderReader", "stage", "I", false)
  | 2 => ("LeaningTrees$OrderReader", "key", "I", false)
  | 3 => ("LeaningTrees$OrderReader", "number", "I", false)
  | _ => ("LeaningTrees$OrderReader", "hasValue", "Z", false)
def tyX1 : Nat → FieldType := fun k => match k with
  | 0 => .int
  | 1 => .int
  | 2 => .int
  | 3 => .int
  | _ => .boolean
theorem nmX1 : ∀ a, a < 5 → ∀ b, b < 5 → a ≠ b → (TX1 a).2.1 ≠ (TX1 b).2.1 := by decide +kernel
theorem tyX1_ok : ∀ k, k < 5 → parseFieldDescriptor (TX1 k).2.2.1 = some (tyX1 k) := by decide +kernel
abbrev cX1_init : ByteArray := prog_3_method_1_code
def yX1_init : MethodName := ⟨RX1, "<init>", "()V"⟩
abbrev cX1_begin : ByteArray := prog_3_method_2_code
def yX1_begin : MethodName := ⟨RX1, "begin", "()V"⟩
abbrev cX1_takes : ByteArray := prog_3_method_3_code
def yX1_takes : MethodName := ⟨RX1, "takes", "(I)Z"⟩
abbrev cX1_hasWholeOrder : ByteArray := prog_3_method_4_code
def yX1_hasWholeOrder : MethodName := ⟨RX1, "hasWholeOrder", "()Z"⟩
abbrev cX1_keyOfOrder : ByteArray := prog_3_method_5_code
def yX1_keyOfOrder : MethodName := ⟨RX1, "keyOfOrder", "()I"⟩
abbrev cX1_valueOfOrder : ByteArray := prog_3_method_6_code
def yX1_valueOfOrder : MethodName := ⟨RX1, "valueOfOrder", "()I"⟩
abbrev cX1_takesSign : ByteArray := prog_3_method_7_code
def yX1_takesSign : MethodName := ⟨RX1, "takesSign", "(I)Z"⟩
abbrev cX1_takesFirstDigit : ByteArray := prog_3_method_8_code
def yX1_takesFirstDigit : MethodName := ⟨RX1, "takesFirstDigit", "(I)Z"⟩
abbrev cX1_takesDigit : ByteArray := prog_3_method_9_code
def yX1_takesDigit : MethodName := ⟨RX1, "takesDigit", "(I)Z"⟩
abbrev cX1_takesEqualsSign : ByteArray := prog_3_method_10_code
def yX1_takesEqualsSign : MethodName := ⟨RX1, "takesEqualsSign", "(I)Z"⟩
abbrev cX1_takesEndOfOrder : ByteArray := prog_3_method_11_code
def yX1_takesEndOfOrder : MethodName := ⟨RX1, "takesEndOfOrder", "(I)Z"⟩
abbrev cX1_isDigit : ByteArray := prog_3_method_12_code
def yX1_isDigit : MethodName := ⟨RX1, "isDigit", "(I)Z"⟩
def RX2 : String := "LeaningTrees$Pad"
def TX2 : u_T := fun k => match k with
  | 0 => ("LeaningTrees$Pad", "codes", "LLeaningTrees$Row;", true)
  | _ => ("LeaningTrees$Pad", "length", "I", false)
def tyX2 : Nat → FieldType := fun k => match k with
  | 0 => .object "LeaningTrees$Row"
  | _ => .int
theorem nmX2 : ∀ a, a < 2 → ∀ b, b < 2 → a ≠ b → (TX2 a).2.1 ≠ (TX2 b).2.1 := by decide +kernel
theorem tyX2_ok : ∀ k, k < 2 → parseFieldDescriptor (TX2 k).2.2.1 = some (tyX2 k) := by decide +kernel
abbrev cX2_init : ByteArray := prog_4_method_1_code
def yX2_init : MethodName := ⟨RX2, "<init>", "()V"⟩
abbrev cX2_charactersIn : ByteArray := prog_4_method_2_code
def yX2_charactersIn : MethodName := ⟨RX2, "charactersIn", "(J)I"⟩
abbrev cX2_append : ByteArray := prog_4_method_3_code
def yX2_append : MethodName := ⟨RX2, "append", "(JI)V"⟩
abbrev cX2_codeFromEnd : ByteArray := prog_4_method_4_code
def yX2_codeFromEnd : MethodName := ⟨RX2, "codeFromEnd", "(JI)I"⟩
def RX3 : String := "LeaningTrees$Row"
def TX3 : u_T := fun k => match k with
  | _ => ("LeaningTrees$Row", "cells", "[I", true)
def tyX3 : Nat → FieldType := fun k => match k with
  | _ => .array .int
theorem nmX3 : ∀ a, a < 1 → ∀ b, b < 1 → a ≠ b → (TX3 a).2.1 ≠ (TX3 b).2.1 := by decide +kernel
theorem tyX3_ok : ∀ k, k < 1 → parseFieldDescriptor (TX3 k).2.2.1 = some (tyX3 k) := by decide +kernel
abbrev cX3_init : ByteArray := prog_5_method_1_code
def yX3_init : MethodName := ⟨RX3, "<init>", "(I)V"⟩
abbrev cX3_at : ByteArray := prog_5_method_2_code
def yX3_at : MethodName := ⟨RX3, "at", "(I)I"⟩
abbrev cX3_write : ByteArray := prog_5_method_3_code
def yX3_write : MethodName := ⟨RX3, "write", "(II)V"⟩
abbrev cX3_become : ByteArray := prog_5_method_4_code
def yX3_become : MethodName := ⟨RX3, "become", "(LLeaningTrees$Row;)V"⟩
abbrev cX3_total : ByteArray := prog_5_method_5_code
def yX3_total : MethodName := ⟨RX3, "total", "(II)I"⟩
abbrev cX3_greatest : ByteArray := prog_5_method_6_code
def yX3_greatest : MethodName := ⟨RX3, "greatest", "(II)I"⟩
def RX4 : String := "LeaningTrees$Slot"
def TX4 : u_T := fun k => match k with
  | 0 => ("LeaningTrees$Slot", "tree", "LLeaningTrees$Tree;", true)
  | _ => ("LeaningTrees$Slot", "isSaved", "Z", false)
def tyX4 : Nat → FieldType := fun k => match k with
  | 0 => .object "LeaningTrees$Tree"
  | _ => .boolean
theorem nmX4 : ∀ a, a < 2 → ∀ b, b < 2 → a ≠ b → (TX4 a).2.1 ≠ (TX4 b).2.1 := by decide +kernel
theorem tyX4_ok : ∀ k, k < 2 → parseFieldDescriptor (TX4 k).2.2.1 = some (tyX4 k) := by decide +kernel
abbrev cX4_init : ByteArray := prog_6_method_1_code
def yX4_init : MethodName := ⟨RX4, "<init>", "()V"⟩
def RX5 : String := "LeaningTrees$Tree"
def TX5 : u_T := fun k => match k with
  | 0 => ("LeaningTrees$Tree", "settings", "LLeaningTrees$Row;", true)
  | 1 => ("LeaningTrees$Tree", "keys", "LLeaningTrees$Row;", true)
  | 2 => ("LeaningTrees$Tree", "values", "LLeaningTrees$Row;", true)
  | 3 => ("LeaningTrees$Tree", "paid", "LLeaningTrees$Row;", true)
  | 4 => ("LeaningTrees$Tree", "depths", "LLeaningTrees$Row;", true)
  | 5 => ("LeaningTrees$Tree", "full", "LLeaningTrees$Row;", true)
  | 6 => ("LeaningTrees$Tree", "nodes", "I", false)
  | 7 => ("LeaningTrees$Tree", "work", "I", false)
  | 8 => ("LeaningTrees$Tree", "funds", "I", false)
  | 9 => ("LeaningTrees$Tree", "rebuildings", "I", false)
  | _ => ("LeaningTrees$Tree", "heaviest", "I", false)
def tyX5 : Nat → FieldType := fun k => match k with
  | 0 => .object "LeaningTrees$Row"
  | 1 => .object "LeaningTrees$Row"
  | 2 => .object "LeaningTrees$Row"
  | 3 => .object "LeaningTrees$Row"
  | 4 => .object "LeaningTrees$Row"
  | 5 => .object "LeaningTrees$Row"
  | 6 => .int
  | 7 => .int
  | 8 => .int
  | 9 => .int
  | _ => .int
theorem nmX5 : ∀ a, a < 11 → ∀ b, b < 11 → a ≠ b → (TX5 a).2.1 ≠ (TX5 b).2.1 := by decide +kernel
theorem tyX5_ok : ∀ k, k < 11 → parseFieldDescriptor (TX5 k).2.2.1 = some (tyX5 k) := by decide +kernel
abbrev cX5_init : ByteArray := prog_7_method_1_code
def yX5_init : MethodName := ⟨RX5, "<init>", "()V"⟩
abbrev cX5_become : ByteArray := prog_7_method_2_code
def yX5_become : MethodName := ⟨RX5, "become", "(LLeaningTrees$Tree;)V"⟩
abbrev cX5_placeOf : ByteArray := prog_7_method_3_code
def yX5_placeOf : MethodName := ⟨RX5, "placeOf", "(I)I"⟩
abbrev cX5_nodeOf : ByteArray := prog_7_method_4_code
def yX5_nodeOf : MethodName := ⟨RX5, "nodeOf", "(I)I"⟩
abbrev cX5_fullNodeOf : ByteArray := prog_7_method_5_code
def yX5_fullNodeOf : MethodName := ⟨RX5, "fullNodeOf", "(I)I"⟩
abbrev cX5_isFull : ByteArray := prog_7_method_6_code
def yX5_isFull : MethodName := ⟨RX5, "isFull", "(I)Z"⟩
abbrev cX5_allKeys : ByteArray := prog_7_method_7_code
def yX5_allKeys : MethodName := ⟨RX5, "allKeys", "()I"⟩
abbrev cX5_keysAhead : ByteArray := prog_7_method_8_code
def yX5_keysAhead : MethodName := ⟨RX5, "keysAhead", "(I)I"⟩
abbrev cX5_placeOfKth : ByteArray := prog_7_method_9_code
def yX5_placeOfKth : MethodName := ⟨RX5, "placeOfKth", "(I)I"⟩
abbrev cX5_lowestOf : ByteArray := prog_7_method_10_code
def yX5_lowestOf : MethodName := ⟨RX5, "lowestOf", "(I)I"⟩
abbrev cX5_highestOf : ByteArray := prog_7_method_11_code
def yX5_highestOf : MethodName := ⟨RX5, "highestOf", "(I)I"⟩
abbrev cX5_topBetween : ByteArray := prog_7_method_12_code
def yX5_topBetween : MethodName := ⟨RX5, "topBetween", "(III)I"⟩
abbrev cX5_isTooHeavy : ByteArray := prog_7_method_13_code
def yX5_isTooHeavy : MethodName := ⟨RX5, "isTooHeavy", "(II)Z"⟩
abbrev cX5_leans : ByteArray := prog_7_method_14_code
def yX5_leans : MethodName := ⟨RX5, "leans", "(I)Z"⟩
abbrev cX5_leaningNodes : ByteArray := prog_7_method_15_code
def yX5_leaningNodes : MethodName := ⟨RX5, "leaningNodes", "()I"⟩
abbrev cX5_wouldLeanWithNewAt : ByteArray := prog_7_method_16_code
def yX5_wouldLeanWithNewAt : MethodName := ⟨RX5, "wouldLeanWithNewAt", "(I)I"⟩
abbrev cX5_costOf : ByteArray := prog_7_method_17_code
def yX5_costOf : MethodName := ⟨RX5, "costOf", "(I)I"⟩
abbrev cX5_hasRoomFor : ByteArray := prog_7_method_18_code
def yX5_hasRoomFor : MethodName := ⟨RX5, "hasRoomFor", "(I)Z"⟩
abbrev cX5_enter : ByteArray := prog_7_method_19_code
def yX5_enter : MethodName := ⟨RX5, "enter", "(II)I"⟩
abbrev cX5_hollowOut : ByteArray := prog_7_method_20_code
def yX5_hollowOut : MethodName := ⟨RX5, "hollowOut", "(I)I"⟩
abbrev cX5_layAnewFromKey : ByteArray := prog_7_method_21_code
def yX5_layAnewFromKey : MethodName := ⟨RX5, "layAnewFromKey", "(I)I"⟩
abbrev cX5_payOnWayTo : ByteArray := prog_7_method_22_code
def yX5_payOnWayTo : MethodName := ⟨RX5, "payOnWayTo", "(I)V"⟩
abbrev cX5_makeNode : ByteArray := prog_7_method_23_code
def yX5_makeNode : MethodName := ⟨RX5, "makeNode", "(III)V"⟩
abbrev cX5_moveNode : ByteArray := prog_7_method_24_code
def yX5_moveNode : MethodName := ⟨RX5, "moveNode", "(II)V"⟩
abbrev cX5_layAnew : ByteArray := prog_7_method_25_code
def yX5_layAnew : MethodName := ⟨RX5, "layAnew", "(I)I"⟩
abbrev cX5_spend : ByteArray := prog_7_method_26_code
def yX5_spend : MethodName := ⟨RX5, "spend", "(II)V"⟩
abbrev cX5_dropHollow : ByteArray := prog_7_method_27_code
def yX5_dropHollow : MethodName := ⟨RX5, "dropHollow", "(II)V"⟩
abbrev cX5_depthLaidEvenly : ByteArray := prog_7_method_28_code
def yX5_depthLaidEvenly : MethodName := ⟨RX5, "depthLaidEvenly", "(II)I"⟩
def RX6 : String := "LeaningTrees"
def TX6 : u_T := fun k => match k with
  | 0 => ("LeaningTrees", "now", "LLeaningTrees$Tree;", true)
  | 1 => ("LeaningTrees", "history", "LLeaningTrees$History;", true)
  | 2 => ("LeaningTrees", "slots", "[LLeaningTrees$Slot;", true)
  | 3 => ("LeaningTrees", "pad", "LLeaningTrees$Pad;", true)
  | _ => ("LeaningTrees", "reader", "LLeaningTrees$OrderReader;", true)
def tyX6 : Nat → FieldType := fun k => match k with
  | 0 => .object "LeaningTrees$Tree"
  | 1 => .object "LeaningTrees$History"
  | 2 => .array (.object "LeaningTrees$Slot")
  | 3 => .object "LeaningTrees$Pad"
  | _ => .object "LeaningTrees$OrderReader"
theorem nmX6 : ∀ a, a < 5 → ∀ b, b < 5 → a ≠ b → (TX6 a).2.1 ≠ (TX6 b).2.1 := by decide +kernel
theorem tyX6_ok : ∀ k, k < 5 → parseFieldDescriptor (TX6 k).2.2.1 = some (tyX6 k) := by decide +kernel
abbrev cX6_init : ByteArray := prog_1_method_1_code
def yX6_init : MethodName := ⟨RX6, "<init>", "()V"⟩
abbrev cX6_set : ByteArray := prog_1_method_2_code
def yX6_set : MethodName := ⟨RX6, "set", "(II)I"⟩
abbrev cX6_putIn : ByteArray := prog_1_method_3_code
def yX6_putIn : MethodName := ⟨RX6, "putIn", "(II)I"⟩
abbrev cX6_remove : ByteArray := prog_1_method_4_code
def yX6_remove : MethodName := ⟨RX6, "remove", "(I)I"⟩
abbrev cX6_rebuild : ByteArray := prog_1_method_5_code
def yX6_rebuild : MethodName := ⟨RX6, "rebuild", "(I)I"⟩
abbrev cX6_value : ByteArray := prog_1_method_6_code
def yX6_value : MethodName := ⟨RX6, "value", "(I)I"⟩
abbrev cX6_node : ByteArray := prog_1_method_7_code
def yX6_node : MethodName := ⟨RX6, "node", "(II)I"⟩
abbrev cX6_count : ByteArray := prog_1_method_8_code
def yX6_count : MethodName := ⟨RX6, "count", "(I)I"⟩
abbrev cX6_meanDepth : ByteArray := prog_1_method_9_code
def yX6_meanDepth : MethodName := ⟨RX6, "meanDepth", "(I)J"⟩
abbrev cX6_leaning : ByteArray := prog_1_method_10_code
def yX6_leaning : MethodName := ⟨RX6, "leaning", "(I)I"⟩
abbrev cX6_rank : ByteArray := prog_1_method_11_code
def yX6_rank : MethodName := ⟨RX6, "rank", "(I)I"⟩
abbrev cX6_kth : ByteArray := prog_1_method_12_code
def yX6_kth : MethodName := ⟨RX6, "kth", "(I)I"⟩
abbrev cX6_neighbour : ByteArray := prog_1_method_13_code
def yX6_neighbour : MethodName := ⟨RX6, "neighbour", "(II)I"⟩
abbrev cX6_sum : ByteArray := prog_1_method_14_code
def yX6_sum : MethodName := ⟨RX6, "sum", "(II)I"⟩
abbrev cX6_wouldCost : ByteArray := prog_1_method_15_code
def yX6_wouldCost : MethodName := ⟨RX6, "wouldCost", "(I)I"⟩
abbrev cX6_worst : ByteArray := prog_1_method_16_code
def yX6_worst : MethodName := ⟨RX6, "worst", "(I)I"⟩
abbrev cX6_put : ByteArray := prog_1_method_17_code
def yX6_put : MethodName := ⟨RX6, "put", "(J)I"⟩
abbrev cX6_wipe : ByteArray := prog_1_method_18_code
def yX6_wipe : MethodName := ⟨RX6, "wipe", "()I"⟩
abbrev cX6_fault : ByteArray := prog_1_method_19_code
def yX6_fault : MethodName := ⟨RX6, "fault", "()I"⟩
abbrev cX6_carryOut : ByteArray := prog_1_method_20_code
def yX6_carryOut : MethodName := ⟨RX6, "carryOut", "()I"⟩
abbrev cX6_undo : ByteArray := prog_1_method_21_code
def yX6_undo : MethodName := ⟨RX6, "undo", "()I"⟩
abbrev cX6_save : ByteArray := prog_1_method_22_code
def yX6_save : MethodName := ⟨RX6, "save", "(I)I"⟩
abbrev cX6_restore : ByteArray := prog_1_method_23_code
def yX6_restore : MethodName := ⟨RX6, "restore", "(I)I"⟩
abbrev cX6_isNumber : ByteArray := prog_1_method_24_code
def yX6_isNumber : MethodName := ⟨RX6, "isNumber", "(I)Z"⟩
abbrev cX6_isSetting : ByteArray := prog_1_method_25_code
def yX6_isSetting : MethodName := ⟨RX6, "isSetting", "(II)Z"⟩
abbrev cX6_slotAt : ByteArray := prog_1_method_26_code
def yX6_slotAt : MethodName := ⟨RX6, "slotAt", "(I)LLeaningTrees$Slot;"⟩
abbrev cX6_aboutNode : ByteArray := prog_1_method_27_code
def yX6_aboutNode : MethodName := ⟨RX6, "aboutNode", "(II)I"⟩
abbrev cX6_shapeOfTree : ByteArray := prog_1_method_28_code
def yX6_shapeOfTree : MethodName := ⟨RX6, "shapeOfTree", "(I)I"⟩
abbrev cX6_booksOfTree : ByteArray := prog_1_method_29_code
def yX6_booksOfTree : MethodName := ⟨RX6, "booksOfTree", "(I)I"⟩
abbrev cX6_keyOfTop : ByteArray := prog_1_method_30_code
def yX6_keyOfTop : MethodName := ⟨RX6, "keyOfTop", "(III)I"⟩
abbrev cX6_answerToOrder : ByteArray := prog_1_method_31_code
def yX6_answerToOrder : MethodName := ⟨RX6, "answerToOrder", "()I"⟩
abbrev cX6_bitsOfDouble : ByteArray := prog_1_method_32_code
def yX6_bitsOfDouble : MethodName := ⟨RX6, "bitsOfDouble", "(D)J"⟩
abbrev cX6_bitsOfFloat : ByteArray := prog_1_method_33_code
def yX6_bitsOfFloat : MethodName := ⟨RX6, "bitsOfFloat", "(F)I"⟩
def RX7 : String := "LeaningTreesModel"
def TX7 : u_T := fun k => match k with
  | 0 => ("LeaningTreesModel", "all", "[I", true)
  | 1 => ("LeaningTreesModel", "kept", "[I", true)
  | 2 => ("LeaningTreesModel", "history", "[I", true)
  | 3 => ("LeaningTreesModel", "historyLong", "I", false)
  | 4 => ("LeaningTreesModel", "slots", "[I", true)
  | 5 => ("LeaningTreesModel", "isSaved", "[I", true)
  | 6 => ("LeaningTreesModel", "begins", "[I", true)
  | 7 => ("LeaningTreesModel", "ends", "[I", true)
  | 8 => ("LeaningTreesModel", "levels", "[I", true)
  | 9 => ("LeaningTreesModel", "pad", "[I", true)
  | 10 => ("LeaningTreesModel", "padLong", "I", false)
  | 11 => ("LeaningTreesModel", "spot", "I", false)
  | 12 => ("LeaningTreesModel", "order", "I", false)
  | 13 => ("LeaningTreesModel", "readKey", "I", false)
  | 14 => ("LeaningTreesModel", "readValue", "I", false)
  | _ => ("LeaningTreesModel", "number", "I", false)
def tyX7 : Nat → FieldType := fun k => match k with
  | 0 => .array .int
  | 1 => .array .int
  | 2 => .array .int
  | 3 => .int
  | 4 => .array .int
  | 5 => .array .int
  | 6 => .array .int
  | 7 => .array .int
  | 8 => .array .int
  | 9 => .array .int
  | 10 => .int
  | 11 => .int
  | 12 => .int
  | 13 => .int
  | 14 => .int
  | _ => .int
theorem nmX7 : ∀ a, a < 16 → ∀ b, b < 16 → a ≠ b → (TX7 a).2.1 ≠ (TX7 b).2.1 := by decide +kernel
theorem tyX7_ok : ∀ k, k < 16 → parseFieldDescriptor (TX7 k).2.2.1 = some (tyX7 k) := by decide +kernel
abbrev cX7_init : ByteArray := prog_9_method_1_code
def yX7_init : MethodName := ⟨RX7, "<init>", "()V"⟩
abbrev cX7_in : ByteArray := prog_9_method_3_code
def yX7_in : MethodName := ⟨RX7, "in", "(JJJ)Z"⟩
abbrev cX7_keep : ByteArray := prog_9_method_4_code
def yX7_keep : MethodName := ⟨RX7, "keep", "()V"⟩
abbrev cX7_giveBack : ByteArray := prog_9_method_5_code
def yX7_giveBack : MethodName := ⟨RX7, "giveBack", "()V"⟩
abbrev cX7_changed : ByteArray := prog_9_method_6_code
def yX7_changed : MethodName := ⟨RX7, "changed", "(I)I"⟩
abbrev cX7_isKey : ByteArray := prog_9_method_7_code
def yX7_isKey : MethodName := ⟨RX7, "isKey", "(I)Z"⟩
abbrev cX7_depth : ByteArray := prog_9_method_8_code
def yX7_depth : MethodName := ⟨RX7, "depth", "(I)I"⟩
abbrev cX7_find : ByteArray := prog_9_method_9_code
def yX7_find : MethodName := ⟨RX7, "find", "(I)I"⟩
abbrev cX7_first : ByteArray := prog_9_method_10_code
def yX7_first : MethodName := ⟨RX7, "first", "(I)I"⟩
abbrev cX7_last : ByteArray := prog_9_method_11_code
def yX7_last : MethodName := ⟨RX7, "last", "(I)I"⟩
abbrev cX7_weight : ByteArray := prog_9_method_12_code
def yX7_weight : MethodName := ⟨RX7, "weight", "(I)I"⟩
abbrev cX7_isUnder : ByteArray := prog_9_method_13_code
def yX7_isUnder : MethodName := ⟨RX7, "isUnder", "(II)Z"⟩
abbrev cX7_child : ByteArray := prog_9_method_14_code
def yX7_child : MethodName := ⟨RX7, "child", "(II)I"⟩
abbrev cX7_childWeight : ByteArray := prog_9_method_15_code
def yX7_childWeight : MethodName := ⟨RX7, "childWeight", "(II)I"⟩
abbrev cX7_heavier : ByteArray := prog_9_method_16_code
def yX7_heavier : MethodName := ⟨RX7, "heavier", "(I)I"⟩
abbrev cX7_leans : ByteArray := prog_9_method_17_code
def yX7_leans : MethodName := ⟨RX7, "leans", "(I)Z"⟩
abbrev cX7_sumOf : ByteArray := prog_9_method_18_code
def yX7_sumOf : MethodName := ⟨RX7, "sumOf", "(III)I"⟩
abbrev cX7_lays : ByteArray := prog_9_method_19_code
def yX7_lays : MethodName := ⟨RX7, "lays", "(III)V"⟩
abbrev cX7_takesOut : ByteArray := prog_9_method_20_code
def yX7_takesOut : MethodName := ⟨RX7, "takesOut", "(I)V"⟩
abbrev cX7_rebuilds : ByteArray := prog_9_method_21_code
def yX7_rebuilds : MethodName := ⟨RX7, "rebuilds", "(I)I"⟩
abbrev cX7_pays : ByteArray := prog_9_method_22_code
def yX7_pays : MethodName := ⟨RX7, "pays", "(I)V"⟩
abbrev cX7_newDepth : ByteArray := prog_9_method_23_code
def yX7_newDepth : MethodName := ⟨RX7, "newDepth", "(I)I"⟩
abbrev cX7_comes : ByteArray := prog_9_method_24_code
def yX7_comes : MethodName := ⟨RX7, "comes", "(II)V"⟩
abbrev cX7_leaningAbove : ByteArray := prog_9_method_25_code
def yX7_leaningAbove : MethodName := ⟨RX7, "leaningAbove", "(I)I"⟩
abbrev cX7_doPutIn : ByteArray := prog_9_method_26_code
def yX7_doPutIn : MethodName := ⟨RX7, "doPutIn", "(II)I"⟩
abbrev cX7_root : ByteArray := prog_9_method_27_code
def yX7_root : MethodName := ⟨RX7, "root", "()I"⟩
abbrev cX7_fulls : ByteArray := prog_9_method_28_code
def yX7_fulls : MethodName := ⟨RX7, "fulls", "()I"⟩
abbrev cX7_doRemove : ByteArray := prog_9_method_29_code
def yX7_doRemove : MethodName := ⟨RX7, "doRemove", "(I)I"⟩
abbrev cX7_doRebuild : ByteArray := prog_9_method_30_code
def yX7_doRebuild : MethodName := ⟨RX7, "doRebuild", "(I)I"⟩
abbrev cX7_doSet : ByteArray := prog_9_method_31_code
def yX7_doSet : MethodName := ⟨RX7, "doSet", "(II)I"⟩
abbrev cX7_set : ByteArray := prog_9_method_32_code
def yX7_set : MethodName := ⟨RX7, "set", "(II)I"⟩
abbrev cX7_putIn : ByteArray := prog_9_method_33_code
def yX7_putIn : MethodName := ⟨RX7, "putIn", "(II)I"⟩
abbrev cX7_remove : ByteArray := prog_9_method_34_code
def yX7_remove : MethodName := ⟨RX7, "remove", "(I)I"⟩
abbrev cX7_rebuild : ByteArray := prog_9_method_35_code
def yX7_rebuild : MethodName := ⟨RX7, "rebuild", "(I)I"⟩
abbrev cX7_value : ByteArray := prog_9_method_36_code
def yX7_value : MethodName := ⟨RX7, "value", "(I)I"⟩
abbrev cX7_keyOf : ByteArray := prog_9_method_37_code
def yX7_keyOf : MethodName := ⟨RX7, "keyOf", "(I)I"⟩
abbrev cX7_deepest : ByteArray := prog_9_method_38_code
def yX7_deepest : MethodName := ⟨RX7, "deepest", "(II)I"⟩
abbrev cX7_nodeValue : ByteArray := prog_9_method_39_code
def yX7_nodeValue : MethodName := ⟨RX7, "nodeValue", "(II)I"⟩
abbrev cX7_node : ByteArray := prog_9_method_40_code
def yX7_node : MethodName := ⟨RX7, "node", "(II)I"⟩
abbrev cX7_leaningNodes : ByteArray := prog_9_method_41_code
def yX7_leaningNodes : MethodName := ⟨RX7, "leaningNodes", "()I"⟩
abbrev cX7_count : ByteArray := prog_9_method_42_code
def yX7_count : MethodName := ⟨RX7, "count", "(I)I"⟩
abbrev cX7_meanDepth : ByteArray := prog_9_method_43_code
def yX7_meanDepth : MethodName := ⟨RX7, "meanDepth", "(I)J"⟩
abbrev cX7_leaning : ByteArray := prog_9_method_44_code
def yX7_leaning : MethodName := ⟨RX7, "leaning", "(I)I"⟩
abbrev cX7_below : ByteArray := prog_9_method_45_code
def yX7_below : MethodName := ⟨RX7, "below", "(I)I"⟩
abbrev cX7_rank : ByteArray := prog_9_method_46_code
def yX7_rank : MethodName := ⟨RX7, "rank", "(I)I"⟩
abbrev cX7_keyAt : ByteArray := prog_9_method_47_code
def yX7_keyAt : MethodName := ⟨RX7, "keyAt", "(I)I"⟩
abbrev cX7_kth : ByteArray := prog_9_method_48_code
def yX7_kth : MethodName := ⟨RX7, "kth", "(I)I"⟩
abbrev cX7_neighbour : ByteArray := prog_9_method_49_code
def yX7_neighbour : MethodName := ⟨RX7, "neighbour", "(II)I"⟩
abbrev cX7_sum : ByteArray := prog_9_method_50_code
def yX7_sum : MethodName := ⟨RX7, "sum", "(II)I"⟩
abbrev cX7_wouldCost : ByteArray := prog_9_method_51_code
def yX7_wouldCost : MethodName := ⟨RX7, "wouldCost", "(I)I"⟩
abbrev cX7_worst : ByteArray := prog_9_method_52_code
def yX7_worst : MethodName := ⟨RX7, "worst", "(I)I"⟩
abbrev cX7_put : ByteArray := prog_9_method_53_code
def yX7_put : MethodName := ⟨RX7, "put", "(J)I"⟩
abbrev cX7_wipe : ByteArray := prog_9_method_54_code
def yX7_wipe : MethodName := ⟨RX7, "wipe", "()I"⟩
abbrev cX7_isHere : ByteArray := prog_9_method_55_code
def yX7_isHere : MethodName := ⟨RX7, "isHere", "(II)Z"⟩
abbrev cX7_takes : ByteArray := prog_9_method_56_code
def yX7_takes : MethodName := ⟨RX7, "takes", "(I)Z"⟩
abbrev cX7_readsNumber : ByteArray := prog_9_method_57_code
def yX7_readsNumber : MethodName := ⟨RX7, "readsNumber", "()Z"⟩
abbrev cX7_readsOrder : ByteArray := prog_9_method_58_code
def yX7_readsOrder : MethodName := ⟨RX7, "readsOrder", "()Z"⟩
abbrev cX7_fault : ByteArray := prog_9_method_59_code
def yX7_fault : MethodName := ⟨RX7, "fault", "()I"⟩
abbrev cX7_doOrder : ByteArray := prog_9_method_60_code
def yX7_doOrder : MethodName := ⟨RX7, "doOrder", "()I"⟩
abbrev cX7_carryOut : ByteArray := prog_9_method_61_code
def yX7_carryOut : MethodName := ⟨RX7, "carryOut", "()I"⟩
abbrev cX7_undo : ByteArray := prog_9_method_62_code
def yX7_undo : MethodName := ⟨RX7, "undo", "()I"⟩
abbrev cX7_save : ByteArray := prog_9_method_63_code
def yX7_save : MethodName := ⟨RX7, "save", "(I)I"⟩
abbrev cX7_restore : ByteArray := prog_9_method_64_code
def yX7_restore : MethodName := ⟨RX7, "restore", "(I)I"⟩
abbrev s_host : String := "LeaningTrees"
def s_j0 : MethodName := ⟨"java/lang/Double", "doubleToLongBits", "(D)J"⟩
def s_j1 : MethodName := ⟨"java/lang/Double", "isNaN", "(D)Z"⟩
def s_j2 : MethodName := ⟨"java/lang/Float", "floatToIntBits", "(F)I"⟩
def s_j3 : MethodName := ⟨"java/lang/Float", "isNaN", "(F)Z"⟩
def s_vw : List vw_C := [(RX0, TX0, 2), (RX1, TX1, 5), (RX2, TX2, 2), (RX3, TX3, 1), (RX4, TX4, 2), (RX5, TX5, 11), (RX6, TX6, 5), (RX7, TX7, 16)]
def s_tyf : Nat → Nat → FieldType := fun c => match c with
  | 0 => tyX0
  | 1 => tyX1
  | 2 => tyX2
  | 3 => tyX3
  | 4 => tyX4
  | 5 => tyX5
  | 6 => tyX6
  | _ => tyX7
def s_snf : Nat → String × String × String := fun j => match j with
  | 0 => ("LeaningTrees", "FIRST_SETTINGS", "[I")
  | 1 => ("LeaningTrees", "LEAST_SETTINGS", "[I")
  | _ => ("LeaningTrees", "GREATEST_SETTINGS", "[I")
def s_nwl : List Jvm.Cond := [.methodLinkNest "LeaningTrees" 31 yX2_init "LeaningTrees", .methodLinkNest "LeaningTrees" 38 yX1_init "LeaningTrees", .methodLinkNest "LeaningTrees" 43 yX4_init "LeaningTrees", .fieldLinkNest "LeaningTrees$Tree" 11 "LeaningTrees" "FIRST_SETTINGS" "[I" "LeaningTrees", .arrayOver (.object RX4), .arrayOver (.object RX5)]
abbrev s_rkl : List Nat := [4, 5]
