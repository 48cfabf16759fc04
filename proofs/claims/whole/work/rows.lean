section
-- ===== PART A: goes FIRST, ahead of the names: the tables' words, and 'selects' of the private methods out of them =====
/-- a private method of a class that the tables say can be made, by its rows of tables_1 -/
def lw_okq (q : MethodName × Nat) : Prop := (q.1.cls ≠ "java/lang/invoke/MethodHandle" ∧ q.1.cls ≠ "java/lang/invoke/VarHandle") ∧ Cond.instantiable q.1.cls q.2 ∈ tables_1 ∧ Cond.privateMethod q.1 ∈ tables_1 ∧ Cond.instanceMethod q.1 ∈ tables_1
theorem lw_p0 : lw_okq (⟨"TreeVersions", "addCommit", "(II)I"⟩, 11) := ⟨⟨by decide +kernel, by decide +kernel⟩, List.mem_of_getElem? (i := 17) (by decide +kernel), List.mem_of_getElem? (i := 210) (by decide +kernel), List.mem_of_getElem? (i := 211) (by decide +kernel)⟩
theorem lw_p1 : lw_okq (⟨"TreeVersions", "lineOf", "(I)J"⟩, 11) := ⟨⟨by decide +kernel, by decide +kernel⟩, List.mem_of_getElem? (i := 17) (by decide +kernel), List.mem_of_getElem? (i := 214) (by decide +kernel), List.mem_of_getElem? (i := 215) (by decide +kernel)⟩
theorem lw_p2 : lw_okq (⟨"TreeVersions", "tableBefore", "(II)LTreeVersions$Table;"⟩, 11) := ⟨⟨by decide +kernel, by decide +kernel⟩, List.mem_of_getElem? (i := 17) (by decide +kernel), List.mem_of_getElem? (i := 243) (by decide +kernel), List.mem_of_getElem? (i := 244) (by decide +kernel)⟩
theorem lw_p3 : lw_okq (⟨"TreeVersions", "tableOf", "(II)LTreeVersions$Table;"⟩, 11) := ⟨⟨by decide +kernel, by decide +kernel⟩, List.mem_of_getElem? (i := 17) (by decide +kernel), List.mem_of_getElem? (i := 247) (by decide +kernel), List.mem_of_getElem? (i := 248) (by decide +kernel)⟩
theorem lw_p4 : lw_okq (⟨"TreeVersions", "commitAt", "(I)LTreeVersions$Commit;"⟩, 11) := ⟨⟨by decide +kernel, by decide +kernel⟩, List.mem_of_getElem? (i := 17) (by decide +kernel), List.mem_of_getElem? (i := 254) (by decide +kernel), List.mem_of_getElem? (i := 255) (by decide +kernel)⟩
theorem lw_p5 : lw_okq (⟨"TreeVersions", "treeOf", "(II)LTreeVersions$Table;"⟩, 11) := ⟨⟨by decide +kernel, by decide +kernel⟩, List.mem_of_getElem? (i := 17) (by decide +kernel), List.mem_of_getElem? (i := 266) (by decide +kernel), List.mem_of_getElem? (i := 267) (by decide +kernel)⟩
theorem lw_p6 : lw_okq (⟨"TreeVersions$TreeBuilder", "writeEntries", "(LTreeVersions$Table;I)I"⟩, 1) := ⟨⟨by decide +kernel, by decide +kernel⟩, List.mem_of_getElem? (i := 90) (by decide +kernel), List.mem_of_getElem? (i := 366) (by decide +kernel), List.mem_of_getElem? (i := 367) (by decide +kernel)⟩
theorem lw_p7 : lw_okq (⟨"TreeVersions$NodePool", "addNode", "(LTreeVersions$Node;LTreeVersions$Rows;)LTreeVersions$Node;"⟩, 2) := ⟨⟨by decide +kernel, by decide +kernel⟩, List.mem_of_getElem? (i := 100) (by decide +kernel), List.mem_of_getElem? (i := 417) (by decide +kernel), List.mem_of_getElem? (i := 418) (by decide +kernel)⟩
theorem lw_p8 : lw_okq (⟨"TreeVersions$Rows", "makeRoom", "(I)Z"⟩, 2) := ⟨⟨by decide +kernel, by decide +kernel⟩, List.mem_of_getElem? (i := 28) (by decide +kernel), List.mem_of_getElem? (i := 493) (by decide +kernel), List.mem_of_getElem? (i := 494) (by decide +kernel)⟩
theorem lw_p9 : lw_okq (⟨"TreeVersions", "countUnseenOfWork", "(I)I"⟩, 11) := ⟨⟨by decide +kernel, by decide +kernel⟩, List.mem_of_getElem? (i := 17) (by decide +kernel), List.mem_of_getElem? (i := 603) (by decide +kernel), List.mem_of_getElem? (i := 604) (by decide +kernel)⟩
theorem lw_p10 : lw_okq (⟨"TreeVersions", "isInWorkBefore", "(ILTreeVersions$Node;)Z"⟩, 11) := ⟨⟨by decide +kernel, by decide +kernel⟩, List.mem_of_getElem? (i := 17) (by decide +kernel), List.mem_of_getElem? (i := 609) (by decide +kernel), List.mem_of_getElem? (i := 610) (by decide +kernel)⟩
theorem lw_p11 : lw_okq (⟨"TreeVersions", "isHere", "(I)Z"⟩, 11) := ⟨⟨by decide +kernel, by decide +kernel⟩, List.mem_of_getElem? (i := 17) (by decide +kernel), List.mem_of_getElem? (i := 620) (by decide +kernel), List.mem_of_getElem? (i := 621) (by decide +kernel)⟩
theorem lw_p12 : lw_okq (⟨"TreeVersions", "isClean", "()Z"⟩, 11) := ⟨⟨by decide +kernel, by decide +kernel⟩, List.mem_of_getElem? (i := 17) (by decide +kernel), List.mem_of_getElem? (i := 628) (by decide +kernel), List.mem_of_getElem? (i := 629) (by decide +kernel)⟩
theorem lw_p13 : lw_okq (⟨"TreeVersions", "headAtHand", "()LTreeVersions$Commit;"⟩, 11) := ⟨⟨by decide +kernel, by decide +kernel⟩, List.mem_of_getElem? (i := 17) (by decide +kernel), List.mem_of_getElem? (i := 632) (by decide +kernel), List.mem_of_getElem? (i := 633) (by decide +kernel)⟩
theorem lw_p14 : lw_okq (⟨"TreeVersions", "loadWork", "()V"⟩, 11) := ⟨⟨by decide +kernel, by decide +kernel⟩, List.mem_of_getElem? (i := 17) (by decide +kernel), List.mem_of_getElem? (i := 636) (by decide +kernel), List.mem_of_getElem? (i := 637) (by decide +kernel)⟩
theorem lw_p15 : lw_okq (⟨"TreeVersions", "greatestOf", "(J)I"⟩, 11) := ⟨⟨by decide +kernel, by decide +kernel⟩, List.mem_of_getElem? (i := 17) (by decide +kernel), List.mem_of_getElem? (i := 679) (by decide +kernel), List.mem_of_getElem? (i := 680) (by decide +kernel)⟩
def lw_privs_1 : List (MethodName × Nat) := [(⟨"TreeVersions", "addCommit", "(II)I"⟩, 11), (⟨"TreeVersions", "lineOf", "(I)J"⟩, 11), (⟨"TreeVersions", "tableBefore", "(II)LTreeVersions$Table;"⟩, 11), (⟨"TreeVersions", "tableOf", "(II)LTreeVersions$Table;"⟩, 11), (⟨"TreeVersions", "commitAt", "(I)LTreeVersions$Commit;"⟩, 11), (⟨"TreeVersions", "treeOf", "(II)LTreeVersions$Table;"⟩, 11), (⟨"TreeVersions$TreeBuilder", "writeEntries", "(LTreeVersions$Table;I)I"⟩, 1), (⟨"TreeVersions$NodePool", "addNode", "(LTreeVersions$Node;LTreeVersions$Rows;)LTreeVersions$Node;"⟩, 2), (⟨"TreeVersions$Rows", "makeRoom", "(I)Z"⟩, 2), (⟨"TreeVersions", "countUnseenOfWork", "(I)I"⟩, 11), (⟨"TreeVersions", "isInWorkBefore", "(ILTreeVersions$Node;)Z"⟩, 11), (⟨"TreeVersions", "isHere", "(I)Z"⟩, 11), (⟨"TreeVersions", "isClean", "()Z"⟩, 11), (⟨"TreeVersions", "headAtHand", "()LTreeVersions$Commit;"⟩, 11), (⟨"TreeVersions", "loadWork", "()V"⟩, 11), (⟨"TreeVersions", "greatestOf", "(J)I"⟩, 11)]
theorem lw_r1 : ∀ q ∈ lw_privs_1, lw_okq q := List.forall_mem_cons.mpr ⟨lw_p0, List.forall_mem_cons.mpr ⟨lw_p1, List.forall_mem_cons.mpr ⟨lw_p2, List.forall_mem_cons.mpr ⟨lw_p3, List.forall_mem_cons.mpr ⟨lw_p4, List.forall_mem_cons.mpr ⟨lw_p5, List.forall_mem_cons.mpr ⟨lw_p6, List.forall_mem_cons.mpr ⟨lw_p7, List.forall_mem_cons.mpr ⟨lw_p8, List.forall_mem_cons.mpr ⟨lw_p9, List.forall_mem_cons.mpr ⟨lw_p10, List.forall_mem_cons.mpr ⟨lw_p11, List.forall_mem_cons.mpr ⟨lw_p12, List.forall_mem_cons.mpr ⟨lw_p13, List.forall_mem_cons.mpr ⟨lw_p14, List.forall_mem_cons.mpr ⟨lw_p15, fun _ h => absurd h List.not_mem_nil⟩⟩⟩⟩⟩⟩⟩⟩⟩⟩⟩⟩⟩⟩⟩⟩
theorem lw_p16 : lw_okq (⟨"TreeVersions$Differences", "add", "(II)V"⟩, 3) := ⟨⟨by decide +kernel, by decide +kernel⟩, List.mem_of_getElem? (i := 119) (by decide +kernel), List.mem_of_getElem? (i := 708) (by decide +kernel), List.mem_of_getElem? (i := 709) (by decide +kernel)⟩
theorem lw_p17 : lw_okq (⟨"TreeVersions", "isAncestor", "(II)Z"⟩, 11) := ⟨⟨by decide +kernel, by decide +kernel⟩, List.mem_of_getElem? (i := 17) (by decide +kernel), List.mem_of_getElem? (i := 728) (by decide +kernel), List.mem_of_getElem? (i := 729) (by decide +kernel)⟩
theorem lw_p18 : lw_okq (⟨"TreeVersions", "beginMerge", "(III)I"⟩, 11) := ⟨⟨by decide +kernel, by decide +kernel⟩, List.mem_of_getElem? (i := 17) (by decide +kernel), List.mem_of_getElem? (i := 732) (by decide +kernel), List.mem_of_getElem? (i := 733) (by decide +kernel)⟩
theorem lw_p19 : lw_okq (⟨"TreeVersions$Merge", "bringTable", "(ILTreeVersions$Rows;LTreeVersions$Rows;LTreeVersions$Rows;)Z"⟩, 11) := ⟨⟨by decide +kernel, by decide +kernel⟩, List.mem_of_getElem? (i := 138) (by decide +kernel), List.mem_of_getElem? (i := 740) (by decide +kernel), List.mem_of_getElem? (i := 741) (by decide +kernel)⟩
theorem lw_p20 : lw_okq (⟨"TreeVersions$Merge", "bringKey", "(IILTreeVersions$Rows;LTreeVersions$Rows;LTreeVersions$Rows;)Z"⟩, 11) := ⟨⟨by decide +kernel, by decide +kernel⟩, List.mem_of_getElem? (i := 138) (by decide +kernel), List.mem_of_getElem? (i := 747) (by decide +kernel), List.mem_of_getElem? (i := 748) (by decide +kernel)⟩
theorem lw_p21 : lw_okq (⟨"TreeVersions$Merge", "mixColumns", "(LTreeVersions$Rows;LTreeVersions$Rows;LTreeVersions$Rows;)Z"⟩, 11) := ⟨⟨by decide +kernel, by decide +kernel⟩, List.mem_of_getElem? (i := 138) (by decide +kernel), List.mem_of_getElem? (i := 759) (by decide +kernel), List.mem_of_getElem? (i := 760) (by decide +kernel)⟩
theorem lw_p22 : lw_okq (⟨"TreeVersions$Merge", "addConflict", "(II)V"⟩, 11) := ⟨⟨by decide +kernel, by decide +kernel⟩, List.mem_of_getElem? (i := 138) (by decide +kernel), List.mem_of_getElem? (i := 763) (by decide +kernel), List.mem_of_getElem? (i := 764) (by decide +kernel)⟩
theorem lw_p23 : lw_okq (⟨"TreeVersions", "refusalOfPick", "(I)I"⟩, 11) := ⟨⟨by decide +kernel, by decide +kernel⟩, List.mem_of_getElem? (i := 17) (by decide +kernel), List.mem_of_getElem? (i := 771) (by decide +kernel), List.mem_of_getElem? (i := 772) (by decide +kernel)⟩
theorem lw_p24 : lw_okq (⟨"TreeVersionsModel", "cut", "(II)V"⟩, 34) := ⟨⟨by decide +kernel, by decide +kernel⟩, List.mem_of_getElem? (i := 839) (by decide +kernel), List.mem_of_getElem? (i := 849) (by decide +kernel), List.mem_of_getElem? (i := 850) (by decide +kernel)⟩
theorem lw_p25 : lw_okq (⟨"TreeVersionsModel", "layLevel", "(IIIII)I"⟩, 34) := ⟨⟨by decide +kernel, by decide +kernel⟩, List.mem_of_getElem? (i := 839) (by decide +kernel), List.mem_of_getElem? (i := 853) (by decide +kernel), List.mem_of_getElem? (i := 854) (by decide +kernel)⟩
theorem lw_p26 : lw_okq (⟨"TreeVersionsModel", "rowAt", "(III)I"⟩, 34) := ⟨⟨by decide +kernel, by decide +kernel⟩, List.mem_of_getElem? (i := 839) (by decide +kernel), List.mem_of_getElem? (i := 857) (by decide +kernel), List.mem_of_getElem? (i := 858) (by decide +kernel)⟩
theorem lw_p27 : lw_okq (⟨"TreeVersionsModel", "layBytes", "(JI)V"⟩, 34) := ⟨⟨by decide +kernel, by decide +kernel⟩, List.mem_of_getElem? (i := 839) (by decide +kernel), List.mem_of_getElem? (i := 861) (by decide +kernel), List.mem_of_getElem? (i := 862) (by decide +kernel)⟩
theorem lw_p28 : lw_okq (⟨"TreeVersionsModel", "node", "(IIIIII)V"⟩, 34) := ⟨⟨by decide +kernel, by decide +kernel⟩, List.mem_of_getElem? (i := 839) (by decide +kernel), List.mem_of_getElem? (i := 873) (by decide +kernel), List.mem_of_getElem? (i := 874) (by decide +kernel)⟩
theorem lw_p29 : lw_okq (⟨"TreeVersionsModel", "find", "(III)I"⟩, 34) := ⟨⟨by decide +kernel, by decide +kernel⟩, List.mem_of_getElem? (i := 839) (by decide +kernel), List.mem_of_getElem? (i := 989) (by decide +kernel), List.mem_of_getElem? (i := 990) (by decide +kernel)⟩
theorem lw_p30 : lw_okq (⟨"TreeVersionsModel", "rankOf", "(III)I"⟩, 34) := ⟨⟨by decide +kernel, by decide +kernel⟩, List.mem_of_getElem? (i := 839) (by decide +kernel), List.mem_of_getElem? (i := 993) (by decide +kernel), List.mem_of_getElem? (i := 994) (by decide +kernel)⟩
theorem lw_p31 : lw_okq (⟨"TreeVersionsModel", "lay", "(IIIIII)Z"⟩, 34) := ⟨⟨by decide +kernel, by decide +kernel⟩, List.mem_of_getElem? (i := 839) (by decide +kernel), List.mem_of_getElem? (i := 997) (by decide +kernel), List.mem_of_getElem? (i := 998) (by decide +kernel)⟩
def lw_privs_2 : List (MethodName × Nat) := [(⟨"TreeVersions$Differences", "add", "(II)V"⟩, 3), (⟨"TreeVersions", "isAncestor", "(II)Z"⟩, 11), (⟨"TreeVersions", "beginMerge", "(III)I"⟩, 11), (⟨"TreeVersions$Merge", "bringTable", "(ILTreeVersions$Rows;LTreeVersions$Rows;LTreeVersions$Rows;)Z"⟩, 11), (⟨"TreeVersions$Merge", "bringKey", "(IILTreeVersions$Rows;LTreeVersions$Rows;LTreeVersions$Rows;)Z"⟩, 11), (⟨"TreeVersions$Merge", "mixColumns", "(LTreeVersions$Rows;LTreeVersions$Rows;LTreeVersions$Rows;)Z"⟩, 11), (⟨"TreeVersions$Merge", "addConflict", "(II)V"⟩, 11), (⟨"TreeVersions", "refusalOfPick", "(I)I"⟩, 11), (⟨"TreeVersionsModel", "cut", "(II)V"⟩, 34), (⟨"TreeVersionsModel", "layLevel", "(IIIII)I"⟩, 34), (⟨"TreeVersionsModel", "rowAt", "(III)I"⟩, 34), (⟨"TreeVersionsModel", "layBytes", "(JI)V"⟩, 34), (⟨"TreeVersionsModel", "node", "(IIIIII)V"⟩, 34), (⟨"TreeVersionsModel", "find", "(III)I"⟩, 34), (⟨"TreeVersionsModel", "rankOf", "(III)I"⟩, 34), (⟨"TreeVersionsModel", "lay", "(IIIIII)Z"⟩, 34)]
theorem lw_r2 : ∀ q ∈ lw_privs_2, lw_okq q := List.forall_mem_cons.mpr ⟨lw_p16, List.forall_mem_cons.mpr ⟨lw_p17, List.forall_mem_cons.mpr ⟨lw_p18, List.forall_mem_cons.mpr ⟨lw_p19, List.forall_mem_cons.mpr ⟨lw_p20, List.forall_mem_cons.mpr ⟨lw_p21, List.forall_mem_cons.mpr ⟨lw_p22, List.forall_mem_cons.mpr ⟨lw_p23, List.forall_mem_cons.mpr ⟨lw_p24, List.forall_mem_cons.mpr ⟨lw_p25, List.forall_mem_cons.mpr ⟨lw_p26, List.forall_mem_cons.mpr ⟨lw_p27, List.forall_mem_cons.mpr ⟨lw_p28, List.forall_mem_cons.mpr ⟨lw_p29, List.forall_mem_cons.mpr ⟨lw_p30, List.forall_mem_cons.mpr ⟨lw_p31, fun _ h => absurd h List.not_mem_nil⟩⟩⟩⟩⟩⟩⟩⟩⟩⟩⟩⟩⟩⟩⟩⟩
theorem lw_p32 : lw_okq (⟨"TreeVersionsModel", "copyRow", "(II)V"⟩, 34) := ⟨⟨by decide +kernel, by decide +kernel⟩, List.mem_of_getElem? (i := 839) (by decide +kernel), List.mem_of_getElem? (i := 1001) (by decide +kernel), List.mem_of_getElem? (i := 1002) (by decide +kernel)⟩
theorem lw_p33 : lw_okq (⟨"TreeVersionsModel", "takeAway", "(III)Z"⟩, 34) := ⟨⟨by decide +kernel, by decide +kernel⟩, List.mem_of_getElem? (i := 839) (by decide +kernel), List.mem_of_getElem? (i := 1017) (by decide +kernel), List.mem_of_getElem? (i := 1018) (by decide +kernel)⟩
theorem lw_p34 : lw_okq (⟨"TreeVersionsModel", "treeOf", "(II)I"⟩, 34) := ⟨⟨by decide +kernel, by decide +kernel⟩, List.mem_of_getElem? (i := 839) (by decide +kernel), List.mem_of_getElem? (i := 1049) (by decide +kernel), List.mem_of_getElem? (i := 1050) (by decide +kernel)⟩
theorem lw_p35 : lw_okq (⟨"TreeVersionsModel", "placeOf", "(I)I"⟩, 34) := ⟨⟨by decide +kernel, by decide +kernel⟩, List.mem_of_getElem? (i := 839) (by decide +kernel), List.mem_of_getElem? (i := 1053) (by decide +kernel), List.mem_of_getElem? (i := 1054) (by decide +kernel)⟩
theorem lw_p36 : lw_okq (⟨"TreeVersionsModel", "isCommit", "(I)Z"⟩, 34) := ⟨⟨by decide +kernel, by decide +kernel⟩, List.mem_of_getElem? (i := 839) (by decide +kernel), List.mem_of_getElem? (i := 1057) (by decide +kernel), List.mem_of_getElem? (i := 1058) (by decide +kernel)⟩
theorem lw_p37 : lw_okq (⟨"TreeVersionsModel", "nodeAt", "(IIII)I"⟩, 34) := ⟨⟨by decide +kernel, by decide +kernel⟩, List.mem_of_getElem? (i := 839) (by decide +kernel), List.mem_of_getElem? (i := 1069) (by decide +kernel), List.mem_of_getElem? (i := 1070) (by decide +kernel)⟩
theorem lw_p38 : lw_okq (⟨"TreeVersionsModel", "lastRow", "(I)I"⟩, 34) := ⟨⟨by decide +kernel, by decide +kernel⟩, List.mem_of_getElem? (i := 839) (by decide +kernel), List.mem_of_getElem? (i := 1078) (by decide +kernel), List.mem_of_getElem? (i := 1079) (by decide +kernel)⟩
theorem lw_p39 : lw_okq (⟨"TreeVersionsModel", "areSame", "(II)Z"⟩, 34) := ⟨⟨by decide +kernel, by decide +kernel⟩, List.mem_of_getElem? (i := 839) (by decide +kernel), List.mem_of_getElem? (i := 1086) (by decide +kernel), List.mem_of_getElem? (i := 1087) (by decide +kernel)⟩
theorem lw_p40 : lw_okq (⟨"TreeVersionsModel", "isRowAlike", "(II)Z"⟩, 34) := ⟨⟨by decide +kernel, by decide +kernel⟩, List.mem_of_getElem? (i := 839) (by decide +kernel), List.mem_of_getElem? (i := 1090) (by decide +kernel), List.mem_of_getElem? (i := 1091) (by decide +kernel)⟩
theorem lw_p41 : lw_okq (⟨"TreeVersionsModel", "distinct", "(JZ)I"⟩, 34) := ⟨⟨by decide +kernel, by decide +kernel⟩, List.mem_of_getElem? (i := 839) (by decide +kernel), List.mem_of_getElem? (i := 1098) (by decide +kernel), List.mem_of_getElem? (i := 1099) (by decide +kernel)⟩
theorem lw_p42 : lw_okq (⟨"TreeVersionsModel", "cutWork", "()V"⟩, 34) := ⟨⟨by decide +kernel, by decide +kernel⟩, List.mem_of_getElem? (i := 839) (by decide +kernel), List.mem_of_getElem? (i := 1102) (by decide +kernel), List.mem_of_getElem? (i := 1103) (by decide +kernel)⟩
theorem lw_p43 : lw_okq (⟨"TreeVersionsModel", "isNew", "(I)Z"⟩, 34) := ⟨⟨by decide +kernel, by decide +kernel⟩, List.mem_of_getElem? (i := 839) (by decide +kernel), List.mem_of_getElem? (i := 1106) (by decide +kernel), List.mem_of_getElem? (i := 1107) (by decide +kernel)⟩
theorem lw_p44 : lw_okq (⟨"TreeVersionsModel", "isBranch", "(I)Z"⟩, 34) := ⟨⟨by decide +kernel, by decide +kernel⟩, List.mem_of_getElem? (i := 839) (by decide +kernel), List.mem_of_getElem? (i := 1122) (by decide +kernel), List.mem_of_getElem? (i := 1123) (by decide +kernel)⟩
theorem lw_p45 : lw_okq (⟨"TreeVersionsModel", "isClean", "()Z"⟩, 34) := ⟨⟨by decide +kernel, by decide +kernel⟩, List.mem_of_getElem? (i := 839) (by decide +kernel), List.mem_of_getElem? (i := 1126) (by decide +kernel), List.mem_of_getElem? (i := 1127) (by decide +kernel)⟩
theorem lw_p46 : lw_okq (⟨"TreeVersionsModel", "isAlike", "(II)Z"⟩, 34) := ⟨⟨by decide +kernel, by decide +kernel⟩, List.mem_of_getElem? (i := 839) (by decide +kernel), List.mem_of_getElem? (i := 1130) (by decide +kernel), List.mem_of_getElem? (i := 1131) (by decide +kernel)⟩
theorem lw_p47 : lw_okq (⟨"TreeVersionsModel", "copy", "(II)V"⟩, 34) := ⟨⟨by decide +kernel, by decide +kernel⟩, List.mem_of_getElem? (i := 839) (by decide +kernel), List.mem_of_getElem? (i := 1134) (by decide +kernel), List.mem_of_getElem? (i := 1135) (by decide +kernel)⟩
def lw_privs_3 : List (MethodName × Nat) := [(⟨"TreeVersionsModel", "copyRow", "(II)V"⟩, 34), (⟨"TreeVersionsModel", "takeAway", "(III)Z"⟩, 34), (⟨"TreeVersionsModel", "treeOf", "(II)I"⟩, 34), (⟨"TreeVersionsModel", "placeOf", "(I)I"⟩, 34), (⟨"TreeVersionsModel", "isCommit", "(I)Z"⟩, 34), (⟨"TreeVersionsModel", "nodeAt", "(IIII)I"⟩, 34), (⟨"TreeVersionsModel", "lastRow", "(I)I"⟩, 34), (⟨"TreeVersionsModel", "areSame", "(II)Z"⟩, 34), (⟨"TreeVersionsModel", "isRowAlike", "(II)Z"⟩, 34), (⟨"TreeVersionsModel", "distinct", "(JZ)I"⟩, 34), (⟨"TreeVersionsModel", "cutWork", "()V"⟩, 34), (⟨"TreeVersionsModel", "isNew", "(I)Z"⟩, 34), (⟨"TreeVersionsModel", "isBranch", "(I)Z"⟩, 34), (⟨"TreeVersionsModel", "isClean", "()Z"⟩, 34), (⟨"TreeVersionsModel", "isAlike", "(II)Z"⟩, 34), (⟨"TreeVersionsModel", "copy", "(II)V"⟩, 34)]
theorem lw_r3 : ∀ q ∈ lw_privs_3, lw_okq q := List.forall_mem_cons.mpr ⟨lw_p32, List.forall_mem_cons.mpr ⟨lw_p33, List.forall_mem_cons.mpr ⟨lw_p34, List.forall_mem_cons.mpr ⟨lw_p35, List.forall_mem_cons.mpr ⟨lw_p36, List.forall_mem_cons.mpr ⟨lw_p37, List.forall_mem_cons.mpr ⟨lw_p38, List.forall_mem_cons.mpr ⟨lw_p39, List.forall_mem_cons.mpr ⟨lw_p40, List.forall_mem_cons.mpr ⟨lw_p41, List.forall_mem_cons.mpr ⟨lw_p42, List.forall_mem_cons.mpr ⟨lw_p43, List.forall_mem_cons.mpr ⟨lw_p44, List.forall_mem_cons.mpr ⟨lw_p45, List.forall_mem_cons.mpr ⟨lw_p46, List.forall_mem_cons.mpr ⟨lw_p47, fun _ h => absurd h List.not_mem_nil⟩⟩⟩⟩⟩⟩⟩⟩⟩⟩⟩⟩⟩⟩⟩⟩
theorem lw_p48 : lw_okq (⟨"TreeVersionsModel", "copyTable", "(III)V"⟩, 34) := ⟨⟨by decide +kernel, by decide +kernel⟩, List.mem_of_getElem? (i := 839) (by decide +kernel), List.mem_of_getElem? (i := 1138) (by decide +kernel), List.mem_of_getElem? (i := 1139) (by decide +kernel)⟩
theorem lw_p49 : lw_okq (⟨"TreeVersionsModel", "openConflicts", "()I"⟩, 34) := ⟨⟨by decide +kernel, by decide +kernel⟩, List.mem_of_getElem? (i := 839) (by decide +kernel), List.mem_of_getElem? (i := 1154) (by decide +kernel), List.mem_of_getElem? (i := 1155) (by decide +kernel)⟩
theorem lw_p50 : lw_okq (⟨"TreeVersionsModel", "over", "()V"⟩, 34) := ⟨⟨by decide +kernel, by decide +kernel⟩, List.mem_of_getElem? (i := 839) (by decide +kernel), List.mem_of_getElem? (i := 1158) (by decide +kernel), List.mem_of_getElem? (i := 1159) (by decide +kernel)⟩
theorem lw_p51 : lw_okq (⟨"TreeVersionsModel", "baseOf", "(II)I"⟩, 34) := ⟨⟨by decide +kernel, by decide +kernel⟩, List.mem_of_getElem? (i := 839) (by decide +kernel), List.mem_of_getElem? (i := 1177) (by decide +kernel), List.mem_of_getElem? (i := 1178) (by decide +kernel)⟩
theorem lw_p52 : lw_okq (⟨"TreeVersionsModel", "isAncestor", "(II)Z"⟩, 34) := ⟨⟨by decide +kernel, by decide +kernel⟩, List.mem_of_getElem? (i := 839) (by decide +kernel), List.mem_of_getElem? (i := 1181) (by decide +kernel), List.mem_of_getElem? (i := 1182) (by decide +kernel)⟩
theorem lw_p53 : lw_okq (⟨"TreeVersionsModel", "together", "(III)I"⟩, 34) := ⟨⟨by decide +kernel, by decide +kernel⟩, List.mem_of_getElem? (i := 839) (by decide +kernel), List.mem_of_getElem? (i := 1210) (by decide +kernel), List.mem_of_getElem? (i := 1211) (by decide +kernel)⟩
theorem lw_p54 : lw_okq (⟨"TreeVersionsModel", "nextKey", "(IJIII)J"⟩, 34) := ⟨⟨by decide +kernel, by decide +kernel⟩, List.mem_of_getElem? (i := 839) (by decide +kernel), List.mem_of_getElem? (i := 1215) (by decide +kernel), List.mem_of_getElem? (i := 1216) (by decide +kernel)⟩
theorem lw_p55 : lw_okq (⟨"TreeVersionsModel", "bringKey", "(IIIII)Z"⟩, 34) := ⟨⟨by decide +kernel, by decide +kernel⟩, List.mem_of_getElem? (i := 839) (by decide +kernel), List.mem_of_getElem? (i := 1219) (by decide +kernel), List.mem_of_getElem? (i := 1220) (by decide +kernel)⟩
theorem lw_p56 : lw_okq (⟨"TreeVersionsModel", "areAlike", "(II)Z"⟩, 34) := ⟨⟨by decide +kernel, by decide +kernel⟩, List.mem_of_getElem? (i := 839) (by decide +kernel), List.mem_of_getElem? (i := 1223) (by decide +kernel), List.mem_of_getElem? (i := 1224) (by decide +kernel)⟩
theorem lw_p57 : lw_okq (⟨"TreeVersionsModel", "bring", "(III)Z"⟩, 34) := ⟨⟨by decide +kernel, by decide +kernel⟩, List.mem_of_getElem? (i := 839) (by decide +kernel), List.mem_of_getElem? (i := 1227) (by decide +kernel), List.mem_of_getElem? (i := 1228) (by decide +kernel)⟩
theorem lw_p58 : lw_okq (⟨"TreeVersionsModel", "change", "(IZ)I"⟩, 34) := ⟨⟨by decide +kernel, by decide +kernel⟩, List.mem_of_getElem? (i := 839) (by decide +kernel), List.mem_of_getElem? (i := 1235) (by decide +kernel), List.mem_of_getElem? (i := 1236) (by decide +kernel)⟩
theorem lw_p59 : lw_okq (⟨"TreeVersionsModel", "rowOf", "(II)I"⟩, 34) := ⟨⟨by decide +kernel, by decide +kernel⟩, List.mem_of_getElem? (i := 839) (by decide +kernel), List.mem_of_getElem? (i := 1259) (by decide +kernel), List.mem_of_getElem? (i := 1260) (by decide +kernel)⟩
def lw_privs_4 : List (MethodName × Nat) := [(⟨"TreeVersionsModel", "copyTable", "(III)V"⟩, 34), (⟨"TreeVersionsModel", "openConflicts", "()I"⟩, 34), (⟨"TreeVersionsModel", "over", "()V"⟩, 34), (⟨"TreeVersionsModel", "baseOf", "(II)I"⟩, 34), (⟨"TreeVersionsModel", "isAncestor", "(II)Z"⟩, 34), (⟨"TreeVersionsModel", "together", "(III)I"⟩, 34), (⟨"TreeVersionsModel", "nextKey", "(IJIII)J"⟩, 34), (⟨"TreeVersionsModel", "bringKey", "(IIIII)Z"⟩, 34), (⟨"TreeVersionsModel", "areAlike", "(II)Z"⟩, 34), (⟨"TreeVersionsModel", "bring", "(III)Z"⟩, 34), (⟨"TreeVersionsModel", "change", "(IZ)I"⟩, 34), (⟨"TreeVersionsModel", "rowOf", "(II)I"⟩, 34)]
theorem lw_r4 : ∀ q ∈ lw_privs_4, lw_okq q := List.forall_mem_cons.mpr ⟨lw_p48, List.forall_mem_cons.mpr ⟨lw_p49, List.forall_mem_cons.mpr ⟨lw_p50, List.forall_mem_cons.mpr ⟨lw_p51, List.forall_mem_cons.mpr ⟨lw_p52, List.forall_mem_cons.mpr ⟨lw_p53, List.forall_mem_cons.mpr ⟨lw_p54, List.forall_mem_cons.mpr ⟨lw_p55, List.forall_mem_cons.mpr ⟨lw_p56, List.forall_mem_cons.mpr ⟨lw_p57, List.forall_mem_cons.mpr ⟨lw_p58, List.forall_mem_cons.mpr ⟨lw_p59, fun _ h => absurd h List.not_mem_nil⟩⟩⟩⟩⟩⟩⟩⟩⟩⟩⟩⟩
def lw_privs : List (MethodName × Nat) := lw_privs_1 ++ (lw_privs_2 ++ (lw_privs_3 ++ (lw_privs_4)))
def lw_tbl : List Cond := k2_sels lw_privs ++ tables_1
theorem lw_privs_ok : ∀ q ∈ lw_privs, lw_okq q := by
  show ∀ q ∈ lw_privs_1 ++ (lw_privs_2 ++ (lw_privs_3 ++ (lw_privs_4))), lw_okq q
  exact List.forall_mem_append.mpr ⟨lw_r1, List.forall_mem_append.mpr ⟨lw_r2, List.forall_mem_append.mpr ⟨lw_r3, lw_r4⟩⟩⟩
-- ===== end of PART A; then your names; then what follows =====
end
section
def RX0 : String := "TreeVersions$Commit"
def TX0 : u_T := fun k => match k with
  | 0 => ("TreeVersions$Commit", "firstParent", "I", true)
  | 1 => ("TreeVersions$Commit", "secondParent", "I", true)
  | 2 => ("TreeVersions$Commit", "line", "J", true)
  | _ => ("TreeVersions$Commit", "tables", "[LTreeVersions$Table;", true)
def tyX0 : Nat → FieldType := fun k => match k with
  | 0 => .int
  | 1 => .int
  | 2 => .long
  | _ => .array (.object "TreeVersions$Table")
theorem nmX0 : ∀ a, a < 4 → ∀ b, b < 4 → a ≠ b → (TX0 a).2.1 ≠ (TX0 b).2.1 := by decide +kernel
theorem tyX0_ok : ∀ k, k < 4 → parseFieldDescriptor (TX0 k).2.2.1 = some (tyX0 k) := by decide +kernel
abbrev cX0_init : ByteArray := prog_2_method_1_code
def yX0_init : MethodName := ⟨RX0, "<init>", "(IIJ)V"⟩
def RX1 : String := "TreeVersions$Differences"
def TX1 : u_T := fun k => match k with
  | 0 => ("TreeVersions$Differences", "keys", "[I", true)
  | 1 => ("TreeVersions$Differences", "kinds", "[I", true)
  | _ => ("TreeVersions$Differences", "count", "I", false)
def tyX1 : Nat → FieldType := fun k => match k with
  | 0 => .array .int
  | 1 => .array .int
  | _ => .int
theorem nmX1 : ∀ a, a < 3 → ∀ b, b < 3 → a ≠ b → (TX1 a).2.1 ≠ (TX1 b).2.1 := by decide +kernel
theorem tyX1_ok : ∀ k, k < 3 → parseFieldDescriptor (TX1 k).2.2.1 = some (tyX1 k) := by decide +kernel
abbrev cX1_init : ByteArray := prog_3_method_1_code
def yX1_init : MethodName := ⟨RX1, "<init>", "()V"⟩
abbrev cX1_has : ByteArray := prog_3_method_2_code
def yX1_has : MethodName := ⟨RX1, "has", "(I)Z"⟩
abbrev cX1_list : ByteArray := prog_3_method_3_code
def yX1_list : MethodName := ⟨RX1, "list", "(LTreeVersions$Rows;LTreeVersions$Rows;)V"⟩
abbrev cX1_add : ByteArray := prog_3_method_4_code
def yX1_add : MethodName := ⟨RX1, "add", "(II)V"⟩
abbrev cX1_kindOfChange : ByteArray := prog_3_method_5_code
def yX1_kindOfChange : MethodName := ⟨RX1, "kindOfChange", "(LTreeVersions$Rows;ILTreeVersions$Rows;I)I"⟩
def RX2 : String := "TreeVersions$Merge"
def TX2 : u_T := fun k => match k with
  | 0 => ("TreeVersions$Merge", "active", "Z", false)
  | 1 => ("TreeVersions$Merge", "secondParent", "I", false)
  | 2 => ("TreeVersions$Merge", "versions", "[LTreeVersions$Commit;", true)
  | 3 => ("TreeVersions$Merge", "result", "[LTreeVersions$Rows;", true)
  | 4 => ("TreeVersions$Merge", "places", "[I", true)
  | 5 => ("TreeVersions$Merge", "mixed", "LTreeVersions$Rows;", true)
  | 6 => ("TreeVersions$Merge", "tables", "[I", true)
  | 7 => ("TreeVersions$Merge", "keys", "[I", true)
  | 8 => ("TreeVersions$Merge", "isOpen", "[Z", true)
  | 9 => ("TreeVersions$Merge", "count", "I", false)
  | _ => ("TreeVersions$Merge", "openCount", "I", false)
def tyX2 : Nat → FieldType := fun k => match k with
  | 0 => .boolean
  | 1 => .int
  | 2 => .array (.object "TreeVersions$Commit")
  | 3 => .array (.object "TreeVersions$Rows")
  | 4 => .array .int
  | 5 => .object "TreeVersions$Rows"
  | 6 => .array .int
  | 7 => .array .int
  | 8 => .array .boolean
  | 9 => .int
  | _ => .int
theorem nmX2 : ∀ a, a < 11 → ∀ b, b < 11 → a ≠ b → (TX2 a).2.1 ≠ (TX2 b).2.1 := by decide +kernel
theorem tyX2_ok : ∀ k, k < 11 → parseFieldDescriptor (TX2 k).2.2.1 = some (tyX2 k) := by decide +kernel
abbrev cX2_init : ByteArray := prog_4_method_1_code
def yX2_init : MethodName := ⟨RX2, "<init>", "()V"⟩
abbrev cX2_end : ByteArray := prog_4_method_2_code
def yX2_end : MethodName := ⟨RX2, "end", "()V"⟩
abbrev cX2_has : ByteArray := prog_4_method_3_code
def yX2_has : MethodName := ⟨RX2, "has", "(I)Z"⟩
abbrev cX2_rowsOf : ByteArray := prog_4_method_4_code
def yX2_rowsOf : MethodName := ⟨RX2, "rowsOf", "(II)LTreeVersions$Rows;"⟩
abbrev cX2_closeConflict : ByteArray := prog_4_method_5_code
def yX2_closeConflict : MethodName := ⟨RX2, "closeConflict", "(I)Z"⟩
abbrev cX2_bringTogether : ByteArray := prog_4_method_6_code
def yX2_bringTogether : MethodName := ⟨RX2, "bringTogether", "(LTreeVersions$Commit;LTreeVersions$Commit;LTreeVersions$Commit;)Z"⟩
abbrev cX2_bringTable : ByteArray := prog_4_method_7_code
def yX2_bringTable : MethodName := ⟨RX2, "bringTable", "(ILTreeVersions$Rows;LTreeVersions$Rows;LTreeVersions$Rows;)Z"⟩
abbrev cX2_bringKey : ByteArray := prog_4_method_8_code
def yX2_bringKey : MethodName := ⟨RX2, "bringKey", "(IILTreeVersions$Rows;LTreeVersions$Rows;LTreeVersions$Rows;)Z"⟩
abbrev cX2_mixColumns : ByteArray := prog_4_method_9_code
def yX2_mixColumns : MethodName := ⟨RX2, "mixColumns", "(LTreeVersions$Rows;LTreeVersions$Rows;LTreeVersions$Rows;)Z"⟩
abbrev cX2_addConflict : ByteArray := prog_4_method_10_code
def yX2_addConflict : MethodName := ⟨RX2, "addConflict", "(II)V"⟩
def RX3 : String := "TreeVersions$Node"
def TX3 : u_T := fun k => match k with
  | 0 => ("TreeVersions$Node", "rows", "LTreeVersions$Rows;", false)
  | 1 => ("TreeVersions$Node", "level", "I", false)
  | 2 => ("TreeVersions$Node", "firstRow", "I", false)
  | 3 => ("TreeVersions$Node", "below", "I", false)
  | 4 => ("TreeVersions$Node", "entries", "I", false)
  | 5 => ("TreeVersions$Node", "hash", "J", false)
  | 6 => ("TreeVersions$Node", "next", "LTreeVersions$Node;", false)
  | 7 => ("TreeVersions$Node", "seenIn", "I", false)
  | _ => ("TreeVersions$Node", "isThere", "Z", false)
def tyX3 : Nat → FieldType := fun k => match k with
  | 0 => .object "TreeVersions$Rows"
  | 1 => .int
  | 2 => .int
  | 3 => .int
  | 4 => .int
  | 5 => .long
  | 6 => .object "TreeVersions$Node"
  | 7 => .int
  | _ => .boolean
theorem nmX3 : ∀ a, a < 9 → ∀ b, b < 9 → a ≠ b → (TX3 a).2.1 ≠ (TX3 b).2.1 := by decide +kernel
theorem tyX3_ok : ∀ k, k < 9 → parseFieldDescriptor (TX3 k).2.2.1 = some (tyX3 k) := by decide +kernel
abbrev cX3_init : ByteArray := prog_5_method_1_code
def yX3_init : MethodName := ⟨RX3, "<init>", "()V"⟩
abbrev cX3_set : ByteArray := prog_5_method_2_code
def yX3_set : MethodName := ⟨RX3, "set", "(LTreeVersions$Rows;IIIIJ)V"⟩
abbrev cX3_lastKey : ByteArray := prog_5_method_3_code
def yX3_lastKey : MethodName := ⟨RX3, "lastKey", "()J"⟩
abbrev cX3_isSame : ByteArray := prog_5_method_4_code
def yX3_isSame : MethodName := ⟨RX3, "isSame", "(LTreeVersions$Node;)Z"⟩
def RX4 : String := "TreeVersions$NodePool"
def TX4 : u_T := fun k => match k with
  | 0 => ("TreeVersions$NodePool", "buckets", "[LTreeVersions$Node;", true)
  | _ => ("TreeVersions$NodePool", "pass", "I", false)
def tyX4 : Nat → FieldType := fun k => match k with
  | 0 => .array (.object "TreeVersions$Node")
  | _ => .int
theorem nmX4 : ∀ a, a < 2 → ∀ b, b < 2 → a ≠ b → (TX4 a).2.1 ≠ (TX4 b).2.1 := by decide +kernel
theorem tyX4_ok : ∀ k, k < 2 → parseFieldDescriptor (TX4 k).2.2.1 = some (tyX4 k) := by decide +kernel
abbrev cX4_init : ByteArray := prog_6_method_1_code
def yX4_init : MethodName := ⟨RX4, "<init>", "()V"⟩
abbrev cX4_find : ByteArray := prog_6_method_2_code
def yX4_find : MethodName := ⟨RX4, "find", "(LTreeVersions$Node;)LTreeVersions$Node;"⟩
abbrev cX4_keepTable : ByteArray := prog_6_method_3_code
def yX4_keepTable : MethodName := ⟨RX4, "keepTable", "(LTreeVersions$Table;)LTreeVersions$Table;"⟩
abbrev cX4_beginCount : ByteArray := prog_6_method_4_code
def yX4_beginCount : MethodName := ⟨RX4, "beginCount", "()V"⟩
abbrev cX4_see : ByteArray := prog_6_method_5_code
def yX4_see : MethodName := ⟨RX4, "see", "(LTreeVersions$Node;)Z"⟩
abbrev cX4_countUnseen : ByteArray := prog_6_method_6_code
def yX4_countUnseen : MethodName := ⟨RX4, "countUnseen", "(LTreeVersions$Table;)I"⟩
abbrev cX4_addNode : ByteArray := prog_6_method_7_code
def yX4_addNode : MethodName := ⟨RX4, "addNode", "(LTreeVersions$Node;LTreeVersions$Rows;)LTreeVersions$Node;"⟩
abbrev cX4_bucketOf : ByteArray := prog_6_method_8_code
def yX4_bucketOf : MethodName := ⟨RX4, "bucketOf", "(LTreeVersions$Node;)I"⟩
def RX5 : String := "TreeVersions$OtherStore"
def TX5 : u_T := fun k => match k with
  | 0 => ("TreeVersions$OtherStore", "heads", "[I", true)
  | 1 => ("TreeVersions$OtherStore", "line", "J", false)
  | _ => ("TreeVersions$OtherStore", "nodeCount", "I", false)
def tyX5 : Nat → FieldType := fun k => match k with
  | 0 => .array .int
  | 1 => .long
  | _ => .int
theorem nmX5 : ∀ a, a < 3 → ∀ b, b < 3 → a ≠ b → (TX5 a).2.1 ≠ (TX5 b).2.1 := by decide +kernel
theorem tyX5_ok : ∀ k, k < 3 → parseFieldDescriptor (TX5 k).2.2.1 = some (tyX5 k) := by decide +kernel
abbrev cX5_init : ByteArray := prog_7_method_1_code
def yX5_init : MethodName := ⟨RX5, "<init>", "()V"⟩
abbrev cX5_hasBranch : ByteArray := prog_7_method_2_code
def yX5_hasBranch : MethodName := ⟨RX5, "hasBranch", "(I)Z"⟩
abbrev cX5_takeAll : ByteArray := prog_7_method_3_code
def yX5_takeAll : MethodName := ⟨RX5, "takeAll", "([LTreeVersions$Commit;J)I"⟩
abbrev cX5_takeNodes : ByteArray := prog_7_method_4_code
def yX5_takeNodes : MethodName := ⟨RX5, "takeNodes", "(LTreeVersions$Table;)I"⟩
def RX6 : String := "TreeVersions$Rows"
def TX6 : u_T := fun k => match k with
  | 0 => ("TreeVersions$Rows", "words", "[I", true)
  | _ => ("TreeVersions$Rows", "count", "I", false)
def tyX6 : Nat → FieldType := fun k => match k with
  | 0 => .array .int
  | _ => .int
theorem nmX6 : ∀ a, a < 2 → ∀ b, b < 2 → a ≠ b → (TX6 a).2.1 ≠ (TX6 b).2.1 := by decide +kernel
theorem tyX6_ok : ∀ k, k < 2 → parseFieldDescriptor (TX6 k).2.2.1 = some (tyX6 k) := by decide +kernel
abbrev cX6_init : ByteArray := prog_8_method_1_code
def yX6_init : MethodName := ⟨RX6, "<init>", "(I)V"⟩
abbrev cX6_keyAt : ByteArray := prog_8_method_2_code
def yX6_keyAt : MethodName := ⟨RX6, "keyAt", "(I)J"⟩
abbrev cX6_placeOf : ByteArray := prog_8_method_3_code
def yX6_placeOf : MethodName := ⟨RX6, "placeOf", "(I)I"⟩
abbrev cX6_find : ByteArray := prog_8_method_4_code
def yX6_find : MethodName := ⟨RX6, "find", "(I)I"⟩
abbrev cX6_columnOf : ByteArray := prog_8_method_5_code
def yX6_columnOf : MethodName := ⟨RX6, "columnOf", "(II)J"⟩
abbrev cX6_setColumn : ByteArray := prog_8_method_6_code
def yX6_setColumn : MethodName := ⟨RX6, "setColumn", "(III)Z"⟩
abbrev cX6_setRow : ByteArray := prog_8_method_7_code
def yX6_setRow : MethodName := ⟨RX6, "setRow", "(IIII)I"⟩
abbrev cX6_removeRow : ByteArray := prog_8_method_8_code
def yX6_removeRow : MethodName := ⟨RX6, "removeRow", "(I)Z"⟩
abbrev cX6_takeRow : ByteArray := prog_8_method_9_code
def yX6_takeRow : MethodName := ⟨RX6, "takeRow", "(LTreeVersions$Rows;I)Z"⟩
abbrev cX6_append : ByteArray := prog_8_method_10_code
def yX6_append : MethodName := ⟨RX6, "append", "(LTreeVersions$Rows;I)Z"⟩
abbrev cX6_become : ByteArray := prog_8_method_11_code
def yX6_become : MethodName := ⟨RX6, "become", "(LTreeVersions$Rows;)V"⟩
abbrev cX6_isSame : ByteArray := prog_8_method_12_code
def yX6_isSame : MethodName := ⟨RX6, "isSame", "(LTreeVersions$Rows;)Z"⟩
abbrev cX6_isSameRow : ByteArray := prog_8_method_13_code
def yX6_isSameRow : MethodName := ⟨RX6, "isSameRow", "(ILTreeVersions$Rows;I)Z"⟩
abbrev cX6_matches : ByteArray := prog_8_method_14_code
def yX6_matches : MethodName := ⟨RX6, "matches", "(ILTreeVersions$Rows;II)Z"⟩
abbrev cX6_makeRoom : ByteArray := prog_8_method_15_code
def yX6_makeRoom : MethodName := ⟨RX6, "makeRoom", "(I)Z"⟩
def RX7 : String := "TreeVersions$Table"
def TX7 : u_T := fun k => match k with
  | 0 => ("TreeVersions$Table", "rows", "LTreeVersions$Rows;", true)
  | 1 => ("TreeVersions$Table", "nodes", "[LTreeVersions$Node;", true)
  | 2 => ("TreeVersions$Table", "starts", "[I", true)
  | 3 => ("TreeVersions$Table", "levels", "I", false)
  | 4 => ("TreeVersions$Table", "stale", "Z", false)
  | _ => ("TreeVersions$Table", "seenIn", "I", false)
def tyX7 : Nat → FieldType := fun k => match k with
  | 0 => .object "TreeVersions$Rows"
  | 1 => .array (.object "TreeVersions$Node")
  | 2 => .array .int
  | 3 => .int
  | 4 => .boolean
  | _ => .int
theorem nmX7 : ∀ a, a < 6 → ∀ b, b < 6 → a ≠ b → (TX7 a).2.1 ≠ (TX7 b).2.1 := by decide +kernel
theorem tyX7_ok : ∀ k, k < 6 → parseFieldDescriptor (TX7 k).2.2.1 = some (tyX7 k) := by decide +kernel
abbrev cX7_init : ByteArray := prog_9_method_1_code
def yX7_init : MethodName := ⟨RX7, "<init>", "(LTreeVersions$Rows;[LTreeVersions$Node;[I)V"⟩
abbrev cX7_become : ByteArray := prog_9_method_2_code
def yX7_become : MethodName := ⟨RX7, "become", "(LTreeVersions$Rows;)V"⟩
abbrev cX7_hasLevel : ByteArray := prog_9_method_3_code
def yX7_hasLevel : MethodName := ⟨RX7, "hasLevel", "(I)Z"⟩
abbrev cX7_nodesOn : ByteArray := prog_9_method_4_code
def yX7_nodesOn : MethodName := ⟨RX7, "nodesOn", "(I)I"⟩
abbrev cX7_nodesInAll : ByteArray := prog_9_method_5_code
def yX7_nodesInAll : MethodName := ⟨RX7, "nodesInAll", "()I"⟩
abbrev cX7_nodeAt : ByteArray := prog_9_method_6_code
def yX7_nodeAt : MethodName := ⟨RX7, "nodeAt", "(II)LTreeVersions$Node;"⟩
abbrev cX7_hasSame : ByteArray := prog_9_method_7_code
def yX7_hasSame : MethodName := ⟨RX7, "hasSame", "(LTreeVersions$Node;)Z"⟩
abbrev cX7_clearNodes : ByteArray := prog_9_method_8_code
def yX7_clearNodes : MethodName := ⟨RX7, "clearNodes", "()V"⟩
abbrev cX7_beginLevel : ByteArray := prog_9_method_9_code
def yX7_beginLevel : MethodName := ⟨RX7, "beginLevel", "()I"⟩
abbrev cX7_addNode : ByteArray := prog_9_method_10_code
def yX7_addNode : MethodName := ⟨RX7, "addNode", "(IIIJ)V"⟩
def RX8 : String := "TreeVersions$TreeBuilder"
def TX8 : u_T := fun k => match k with
  | _ => ("TreeVersions$TreeBuilder", "upper", "[I", true)
def tyX8 : Nat → FieldType := fun k => match k with
  | _ => .array .int
theorem nmX8 : ∀ a, a < 1 → ∀ b, b < 1 → a ≠ b → (TX8 a).2.1 ≠ (TX8 b).2.1 := by decide +kernel
theorem tyX8_ok : ∀ k, k < 1 → parseFieldDescriptor (TX8 k).2.2.1 = some (tyX8 k) := by decide +kernel
abbrev cX8_init : ByteArray := prog_10_method_1_code
def yX8_init : MethodName := ⟨RX8, "<init>", "()V"⟩
abbrev cX8_build : ByteArray := prog_10_method_2_code
def yX8_build : MethodName := ⟨RX8, "build", "(LTreeVersions$Table;)V"⟩
abbrev cX8_writeEntries : ByteArray := prog_10_method_3_code
def yX8_writeEntries : MethodName := ⟨RX8, "writeEntries", "(LTreeVersions$Table;I)I"⟩
abbrev cX8_cutLevel : ByteArray := prog_10_method_4_code
def yX8_cutLevel : MethodName := ⟨RX8, "cutLevel", "(LTreeVersions$Table;[II)V"⟩
abbrev cX8_endsNode : ByteArray := prog_10_method_5_code
def yX8_endsNode : MethodName := ⟨RX8, "endsNode", "(II)Z"⟩
abbrev cX8_rowsBelow : ByteArray := prog_10_method_6_code
def yX8_rowsBelow : MethodName := ⟨RX8, "rowsBelow", "(I[III)I"⟩
abbrev cX8_rollEntry : ByteArray := prog_10_method_7_code
def yX8_rollEntry : MethodName := ⟨RX8, "rollEntry", "(I[III)I"⟩
abbrev cX8_spread : ByteArray := prog_10_method_8_code
def yX8_spread : MethodName := ⟨RX8, "spread", "(I)I"⟩
abbrev cX8_turned : ByteArray := prog_10_method_9_code
def yX8_turned : MethodName := ⟨RX8, "turned", "(II)I"⟩
abbrev cX8_hashOf : ByteArray := prog_10_method_10_code
def yX8_hashOf : MethodName := ⟨RX8, "hashOf", "(I[III)J"⟩
def RX9 : String := "TreeVersions"
def TX9 : u_T := fun k => match k with
  | 0 => ("TreeVersions", "work", "[LTreeVersions$Table;", true)
  | 1 => ("TreeVersions", "builder", "LTreeVersions$TreeBuilder;", true)
  | 2 => ("TreeVersions", "pool", "LTreeVersions$NodePool;", true)
  | 3 => ("TreeVersions", "commits", "[LTreeVersions$Commit;", true)
  | 4 => ("TreeVersions", "made", "I", false)
  | 5 => ("TreeVersions", "present", "J", false)
  | 6 => ("TreeVersions", "heads", "[I", true)
  | 7 => ("TreeVersions", "atHand", "I", false)
  | 8 => ("TreeVersions", "differences", "LTreeVersions$Differences;", true)
  | 9 => ("TreeVersions", "underWay", "LTreeVersions$Merge;", true)
  | _ => ("TreeVersions", "other", "LTreeVersions$OtherStore;", true)
def tyX9 : Nat → FieldType := fun k => match k with
  | 0 => .array (.object "TreeVersions$Table")
  | 1 => .object "TreeVersions$TreeBuilder"
  | 2 => .object "TreeVersions$NodePool"
  | 3 => .array (.object "TreeVersions$Commit")
  | 4 => .int
  | 5 => .long
  | 6 => .array .int
  | 7 => .int
  | 8 => .object "TreeVersions$Differences"
  | 9 => .object "TreeVersions$Merge"
  | _ => .object "TreeVersions$OtherStore"
theorem nmX9 : ∀ a, a < 11 → ∀ b, b < 11 → a ≠ b → (TX9 a).2.1 ≠ (TX9 b).2.1 := by decide +kernel
theorem tyX9_ok : ∀ k, k < 11 → parseFieldDescriptor (TX9 k).2.2.1 = some (tyX9 k) := by decide +kernel
abbrev cX9_init : ByteArray := prog_1_method_1_code
def yX9_init : MethodName := ⟨RX9, "<init>", "()V"⟩
abbrev cX9_put : ByteArray := prog_1_method_2_code
def yX9_put : MethodName := ⟨RX9, "put", "(IIIII)I"⟩
abbrev cX9_cell : ByteArray := prog_1_method_3_code
def yX9_cell : MethodName := ⟨RX9, "cell", "(IIII)I"⟩
abbrev cX9_drop : ByteArray := prog_1_method_4_code
def yX9_drop : MethodName := ⟨RX9, "drop", "(II)I"⟩
abbrev cX9_fill : ByteArray := prog_1_method_5_code
def yX9_fill : MethodName := ⟨RX9, "fill", "(IIIII)I"⟩
abbrev cX9_get : ByteArray := prog_1_method_6_code
def yX9_get : MethodName := ⟨RX9, "get", "(III)J"⟩
abbrev cX9_size : ByteArray := prog_1_method_7_code
def yX9_size : MethodName := ⟨RX9, "size", "(I)I"⟩
abbrev cX9_kth : ByteArray := prog_1_method_8_code
def yX9_kth : MethodName := ⟨RX9, "kth", "(II)J"⟩
abbrev cX9_rank : ByteArray := prog_1_method_9_code
def yX9_rank : MethodName := ⟨RX9, "rank", "(II)I"⟩
abbrev cX9_root : ByteArray := prog_1_method_10_code
def yX9_root : MethodName := ⟨RX9, "root", "(II)J"⟩
abbrev cX9_height : ByteArray := prog_1_method_11_code
def yX9_height : MethodName := ⟨RX9, "height", "(II)I"⟩
abbrev cX9_nodes : ByteArray := prog_1_method_12_code
def yX9_nodes : MethodName := ⟨RX9, "nodes", "(III)I"⟩
abbrev cX9_node : ByteArray := prog_1_method_13_code
def yX9_node : MethodName := ⟨RX9, "node", "(IIIII)J"⟩
abbrev cX9_shared : ByteArray := prog_1_method_14_code
def yX9_shared : MethodName := ⟨RX9, "shared", "(III)I"⟩
abbrev cX9_stored : ByteArray := prog_1_method_15_code
def yX9_stored : MethodName := ⟨RX9, "stored", "()I"⟩
abbrev cX9_open : ByteArray := prog_1_method_16_code
def yX9_open : MethodName := ⟨RX9, "open", "(I)I"⟩
abbrev cX9_go : ByteArray := prog_1_method_17_code
def yX9_go : MethodName := ⟨RX9, "go", "(I)I"⟩
abbrev cX9_close : ByteArray := prog_1_method_18_code
def yX9_close : MethodName := ⟨RX9, "close", "(I)I"⟩
abbrev cX9_head : ByteArray := prog_1_method_19_code
def yX9_head : MethodName := ⟨RX9, "head", "(I)I"⟩
abbrev cX9_commit : ByteArray := prog_1_method_20_code
def yX9_commit : MethodName := ⟨RX9, "commit", "()I"⟩
abbrev cX9_parent : ByteArray := prog_1_method_21_code
def yX9_parent : MethodName := ⟨RX9, "parent", "(II)I"⟩
abbrev cX9_ancestors : ByteArray := prog_1_method_22_code
def yX9_ancestors : MethodName := ⟨RX9, "ancestors", "(I)I"⟩
abbrev cX9_base : ByteArray := prog_1_method_23_code
def yX9_base : MethodName := ⟨RX9, "base", "(II)I"⟩
abbrev cX9_reset : ByteArray := prog_1_method_24_code
def yX9_reset : MethodName := ⟨RX9, "reset", "()I"⟩
abbrev cX9_sweep : ByteArray := prog_1_method_25_code
def yX9_sweep : MethodName := ⟨RX9, "sweep", "()I"⟩
abbrev cX9_diff : ByteArray := prog_1_method_26_code
def yX9_diff : MethodName := ⟨RX9, "diff", "(III)I"⟩
abbrev cX9_diffKey : ByteArray := prog_1_method_27_code
def yX9_diffKey : MethodName := ⟨RX9, "diffKey", "(I)J"⟩
abbrev cX9_diffKind : ByteArray := prog_1_method_28_code
def yX9_diffKind : MethodName := ⟨RX9, "diffKind", "(I)I"⟩
abbrev cX9_merge : ByteArray := prog_1_method_29_code
def yX9_merge : MethodName := ⟨RX9, "merge", "(I)I"⟩
abbrev cX9_pick : ByteArray := prog_1_method_30_code
def yX9_pick : MethodName := ⟨RX9, "pick", "(I)I"⟩
abbrev cX9_undo : ByteArray := prog_1_method_31_code
def yX9_undo : MethodName := ⟨RX9, "undo", "(I)I"⟩
abbrev cX9_merging : ByteArray := prog_1_method_32_code
def yX9_merging : MethodName := ⟨RX9, "merging", "()Z"⟩
abbrev cX9_conflicts : ByteArray := prog_1_method_33_code
def yX9_conflicts : MethodName := ⟨RX9, "conflicts", "(I)I"⟩
abbrev cX9_conflict : ByteArray := prog_1_method_34_code
def yX9_conflict : MethodName := ⟨RX9, "conflict", "(II)J"⟩
abbrev cX9_version : ByteArray := prog_1_method_35_code
def yX9_version : MethodName := ⟨RX9, "version", "(III)J"⟩
abbrev cX9_settle : ByteArray := prog_1_method_36_code
def yX9_settle : MethodName := ⟨RX9, "settle", "(II)I"⟩
abbrev cX9_send : ByteArray := prog_1_method_37_code
def yX9_send : MethodName := ⟨RX9, "send", "(I)I"⟩
abbrev cX9_fetch : ByteArray := prog_1_method_38_code
def yX9_fetch : MethodName := ⟨RX9, "fetch", "(I)I"⟩
abbrev cX9_there : ByteArray := prog_1_method_39_code
def yX9_there : MethodName := ⟨RX9, "there", "(I)I"⟩
abbrev cX9_kept : ByteArray := prog_1_method_40_code
def yX9_kept : MethodName := ⟨RX9, "kept", "(I)I"⟩
abbrev cX9_isTable : ByteArray := prog_1_method_41_code
def yX9_isTable : MethodName := ⟨RX9, "isTable", "(I)Z"⟩
abbrev cX9_isColumn : ByteArray := prog_1_method_42_code
def yX9_isColumn : MethodName := ⟨RX9, "isColumn", "(I)Z"⟩
abbrev cX9_isBranch : ByteArray := prog_1_method_43_code
def yX9_isBranch : MethodName := ⟨RX9, "isBranch", "(I)Z"⟩
abbrev cX9_isHere : ByteArray := prog_1_method_44_code
def yX9_isHere : MethodName := ⟨RX9, "isHere", "(I)Z"⟩
abbrev cX9_nextSeed : ByteArray := prog_1_method_45_code
def yX9_nextSeed : MethodName := ⟨RX9, "nextSeed", "(I)I"⟩
abbrev cX9_countNewKeys : ByteArray := prog_1_method_46_code
def yX9_countNewKeys : MethodName := ⟨RX9, "countNewKeys", "(LTreeVersions$Rows;III)I"⟩
abbrev cX9_commitAt : ByteArray := prog_1_method_47_code
def yX9_commitAt : MethodName := ⟨RX9, "commitAt", "(I)LTreeVersions$Commit;"⟩
abbrev cX9_lineOf : ByteArray := prog_1_method_48_code
def yX9_lineOf : MethodName := ⟨RX9, "lineOf", "(I)J"⟩
abbrev cX9_isAncestor : ByteArray := prog_1_method_49_code
def yX9_isAncestor : MethodName := ⟨RX9, "isAncestor", "(II)Z"⟩
abbrev cX9_greatestOf : ByteArray := prog_1_method_50_code
def yX9_greatestOf : MethodName := ⟨RX9, "greatestOf", "(J)I"⟩
abbrev cX9_tableOf : ByteArray := prog_1_method_51_code
def yX9_tableOf : MethodName := ⟨RX9, "tableOf", "(II)LTreeVersions$Table;"⟩
abbrev cX9_treeOf : ByteArray := prog_1_method_52_code
def yX9_treeOf : MethodName := ⟨RX9, "treeOf", "(II)LTreeVersions$Table;"⟩
abbrev cX9_countUnseenOfWork : ByteArray := prog_1_method_53_code
def yX9_countUnseenOfWork : MethodName := ⟨RX9, "countUnseenOfWork", "(I)I"⟩
abbrev cX9_isInWorkBefore : ByteArray := prog_1_method_54_code
def yX9_isInWorkBefore : MethodName := ⟨RX9, "isInWorkBefore", "(ILTreeVersions$Node;)Z"⟩
abbrev cX9_headAtHand : ByteArray := prog_1_method_55_code
def yX9_headAtHand : MethodName := ⟨RX9, "headAtHand", "()LTreeVersions$Commit;"⟩
abbrev cX9_isClean : ByteArray := prog_1_method_56_code
def yX9_isClean : MethodName := ⟨RX9, "isClean", "()Z"⟩
abbrev cX9_loadWork : ByteArray := prog_1_method_57_code
def yX9_loadWork : MethodName := ⟨RX9, "loadWork", "()V"⟩
abbrev cX9_addCommit : ByteArray := prog_1_method_58_code
def yX9_addCommit : MethodName := ⟨RX9, "addCommit", "(II)I"⟩
abbrev cX9_tableBefore : ByteArray := prog_1_method_59_code
def yX9_tableBefore : MethodName := ⟨RX9, "tableBefore", "(II)LTreeVersions$Table;"⟩
abbrev cX9_refusalOfPick : ByteArray := prog_1_method_60_code
def yX9_refusalOfPick : MethodName := ⟨RX9, "refusalOfPick", "(I)I"⟩
abbrev cX9_beginMerge : ByteArray := prog_1_method_61_code
def yX9_beginMerge : MethodName := ⟨RX9, "beginMerge", "(III)I"⟩
def RX10 : String := "TreeVersionsModel"
def TX10 : u_T := fun k => match k with
  | 0 => ("TreeVersionsModel", "thrown", "I", false)
  | 1 => ("TreeVersionsModel", "keys", "[I", true)
  | 2 => ("TreeVersionsModel", "columns", "[I", true)
  | 3 => ("TreeVersionsModel", "sizes", "[I", true)
  | 4 => ("TreeVersionsModel", "nodeCounts", "[I", true)
  | 5 => ("TreeVersionsModel", "heights", "[I", true)
  | 6 => ("TreeVersionsModel", "levels", "[I", true)
  | 7 => ("TreeVersionsModel", "entries", "[I", true)
  | 8 => ("TreeVersionsModel", "firsts", "[I", true)
  | 9 => ("TreeVersionsModel", "below", "[I", true)
  | 10 => ("TreeVersionsModel", "hashes", "[J", true)
  | 11 => ("TreeVersionsModel", "bytes", "[I", true)
  | 12 => ("TreeVersionsModel", "byteCounts", "[I", true)
  | 13 => ("TreeVersionsModel", "made", "I", false)
  | 14 => ("TreeVersionsModel", "here", "J", false)
  | 15 => ("TreeVersionsModel", "firstParents", "[I", true)
  | 16 => ("TreeVersionsModel", "secondParents", "[I", true)
  | 17 => ("TreeVersionsModel", "ancestors", "[J", true)
  | 18 => ("TreeVersionsModel", "heads", "[I", true)
  | 19 => ("TreeVersionsModel", "hand", "I", false)
  | 20 => ("TreeVersionsModel", "merging", "I", false)
  | 21 => ("TreeVersionsModel", "theirs", "I", false)
  | 22 => ("TreeVersionsModel", "oldOne", "I", false)
  | 23 => ("TreeVersionsModel", "conflictCount", "I", false)
  | 24 => ("TreeVersionsModel", "conflictTables", "[I", true)
  | 25 => ("TreeVersionsModel", "conflictKeys", "[I", true)
  | 26 => ("TreeVersionsModel", "conflictOpen", "[Z", true)
  | 27 => ("TreeVersionsModel", "listed", "I", false)
  | 28 => ("TreeVersionsModel", "listKeys", "[I", true)
  | 29 => ("TreeVersionsModel", "listKinds", "[I", true)
  | 30 => ("TreeVersionsModel", "there", "J", false)
  | 31 => ("TreeVersionsModel", "thereHeads", "[I", true)
  | 32 => ("TreeVersionsModel", "table", "[I", true)
  | _ => ("TreeVersionsModel", "three", "[I", true)
def tyX10 : Nat → FieldType := fun k => match k with
  | 0 => .int
  | 1 => .array .int
  | 2 => .array .int
  | 3 => .array .int
  | 4 => .array .int
  | 5 => .array .int
  | 6 => .array .int
  | 7 => .array .int
  | 8 => .array .int
  | 9 => .array .int
  | 10 => .array .long
  | 11 => .array .int
  | 12 => .array .int
  | 13 => .int
  | 14 => .long
  | 15 => .array .int
  | 16 => .array .int
  | 17 => .array .long
  | 18 => .array .int
  | 19 => .int
  | 20 => .int
  | 21 => .int
  | 22 => .int
  | 23 => .int
  | 24 => .array .int
  | 25 => .array .int
  | 26 => .array .boolean
  | 27 => .int
  | 28 => .array .int
  | 29 => .array .int
  | 30 => .long
  | 31 => .array .int
  | 32 => .array .int
  | _ => .array .int
theorem nmX10 : ∀ a, a < 34 → ∀ b, b < 34 → a ≠ b → (TX10 a).2.1 ≠ (TX10 b).2.1 := by decide +kernel
theorem tyX10_ok : ∀ k, k < 34 → parseFieldDescriptor (TX10 k).2.2.1 = some (tyX10 k) := by decide +kernel
abbrev cX10_init : ByteArray := prog_12_method_1_code
def yX10_init : MethodName := ⟨RX10, "<init>", "()V"⟩
abbrev cX10_isIn : ByteArray := prog_12_method_3_code
def yX10_isIn : MethodName := ⟨RX10, "isIn", "(JJJ)Z"⟩
abbrev cX10_isTable : ByteArray := prog_12_method_4_code
def yX10_isTable : MethodName := ⟨RX10, "isTable", "(I)Z"⟩
abbrev cX10_isCommit : ByteArray := prog_12_method_5_code
def yX10_isCommit : MethodName := ⟨RX10, "isCommit", "(I)Z"⟩
abbrev cX10_placeOf : ByteArray := prog_12_method_6_code
def yX10_placeOf : MethodName := ⟨RX10, "placeOf", "(I)I"⟩
abbrev cX10_rowAt : ByteArray := prog_12_method_7_code
def yX10_rowAt : MethodName := ⟨RX10, "rowAt", "(III)I"⟩
abbrev cX10_rankOf : ByteArray := prog_12_method_8_code
def yX10_rankOf : MethodName := ⟨RX10, "rankOf", "(III)I"⟩
abbrev cX10_find : ByteArray := prog_12_method_9_code
def yX10_find : MethodName := ⟨RX10, "find", "(III)I"⟩
abbrev cX10_copyRow : ByteArray := prog_12_method_10_code
def yX10_copyRow : MethodName := ⟨RX10, "copyRow", "(II)V"⟩
abbrev cX10_copyTable : ByteArray := prog_12_method_11_code
def yX10_copyTable : MethodName := ⟨RX10, "copyTable", "(III)V"⟩
abbrev cX10_copy : ByteArray := prog_12_method_12_code
def yX10_copy : MethodName := ⟨RX10, "copy", "(II)V"⟩
abbrev cX10_lay : ByteArray := prog_12_method_13_code
def yX10_lay : MethodName := ⟨RX10, "lay", "(IIIIII)Z"⟩
abbrev cX10_takeAway : ByteArray := prog_12_method_14_code
def yX10_takeAway : MethodName := ⟨RX10, "takeAway", "(III)Z"⟩
abbrev cX10_isRowAlike : ByteArray := prog_12_method_15_code
def yX10_isRowAlike : MethodName := ⟨RX10, "isRowAlike", "(II)Z"⟩
abbrev cX10_isAlike : ByteArray := prog_12_method_16_code
def yX10_isAlike : MethodName := ⟨RX10, "isAlike", "(II)Z"⟩
abbrev cX10_isClean : ByteArray := prog_12_method_17_code
def yX10_isClean : MethodName := ⟨RX10, "isClean", "()Z"⟩
abbrev cX10_turned : ByteArray := prog_12_method_18_code
def yX10_turned : MethodName := ⟨RX10, "turned", "(II)I"⟩
abbrev cX10_toll : ByteArray := prog_12_method_19_code
def yX10_toll : MethodName := ⟨RX10, "toll", "(I)I"⟩
abbrev cX10_layBytes : ByteArray := prog_12_method_20_code
def yX10_layBytes : MethodName := ⟨RX10, "layBytes", "(JI)V"⟩
abbrev cX10_layLevel : ByteArray := prog_12_method_21_code
def yX10_layLevel : MethodName := ⟨RX10, "layLevel", "(IIIII)I"⟩
abbrev cX10_node : ByteArray := prog_12_method_22_code
def yX10_node : MethodName := ⟨RX10, "node", "(IIIIII)V"⟩
abbrev cX10_cut : ByteArray := prog_12_method_23_code
def yX10_cut : MethodName := ⟨RX10, "cut", "(II)V"⟩
abbrev cX10_cutWork : ByteArray := prog_12_method_24_code
def yX10_cutWork : MethodName := ⟨RX10, "cutWork", "()V"⟩
abbrev cX10_nodeAt : ByteArray := prog_12_method_25_code
def yX10_nodeAt : MethodName := ⟨RX10, "nodeAt", "(IIII)I"⟩
abbrev cX10_lastRow : ByteArray := prog_12_method_26_code
def yX10_lastRow : MethodName := ⟨RX10, "lastRow", "(I)I"⟩
abbrev cX10_areSame : ByteArray := prog_12_method_27_code
def yX10_areSame : MethodName := ⟨RX10, "areSame", "(II)Z"⟩
abbrev cX10_put : ByteArray := prog_12_method_28_code
def yX10_put : MethodName := ⟨RX10, "put", "(IIIII)I"⟩
abbrev cX10_cell : ByteArray := prog_12_method_29_code
def yX10_cell : MethodName := ⟨RX10, "cell", "(IIII)I"⟩
abbrev cX10_drop : ByteArray := prog_12_method_30_code
def yX10_drop : MethodName := ⟨RX10, "drop", "(II)I"⟩
abbrev cX10_fill : ByteArray := prog_12_method_31_code
def yX10_fill : MethodName := ⟨RX10, "fill", "(IIIII)I"⟩
abbrev cX10_get : ByteArray := prog_12_method_32_code
def yX10_get : MethodName := ⟨RX10, "get", "(III)J"⟩
abbrev cX10_size : ByteArray := prog_12_method_33_code
def yX10_size : MethodName := ⟨RX10, "size", "(I)I"⟩
abbrev cX10_kth : ByteArray := prog_12_method_34_code
def yX10_kth : MethodName := ⟨RX10, "kth", "(II)J"⟩
abbrev cX10_rank : ByteArray := prog_12_method_35_code
def yX10_rank : MethodName := ⟨RX10, "rank", "(II)I"⟩
abbrev cX10_treeOf : ByteArray := prog_12_method_36_code
def yX10_treeOf : MethodName := ⟨RX10, "treeOf", "(II)I"⟩
abbrev cX10_root : ByteArray := prog_12_method_37_code
def yX10_root : MethodName := ⟨RX10, "root", "(II)J"⟩
abbrev cX10_height : ByteArray := prog_12_method_38_code
def yX10_height : MethodName := ⟨RX10, "height", "(II)I"⟩
abbrev cX10_nodes : ByteArray := prog_12_method_39_code
def yX10_nodes : MethodName := ⟨RX10, "nodes", "(III)I"⟩
abbrev cX10_node_ : ByteArray := prog_12_method_40_code
def yX10_node_ : MethodName := ⟨RX10, "node", "(IIIII)J"⟩
abbrev cX10_shared : ByteArray := prog_12_method_41_code
def yX10_shared : MethodName := ⟨RX10, "shared", "(III)I"⟩
abbrev cX10_isNew : ByteArray := prog_12_method_42_code
def yX10_isNew : MethodName := ⟨RX10, "isNew", "(I)Z"⟩
abbrev cX10_distinct : ByteArray := prog_12_method_43_code
def yX10_distinct : MethodName := ⟨RX10, "distinct", "(JZ)I"⟩
abbrev cX10_stored : ByteArray := prog_12_method_44_code
def yX10_stored : MethodName := ⟨RX10, "stored", "()I"⟩
abbrev cX10_isNumber : ByteArray := prog_12_method_45_code
def yX10_isNumber : MethodName := ⟨RX10, "isNumber", "(I)Z"⟩
abbrev cX10_isBranch : ByteArray := prog_12_method_46_code
def yX10_isBranch : MethodName := ⟨RX10, "isBranch", "(I)Z"⟩
abbrev cX10_open : ByteArray := prog_12_method_47_code
def yX10_open : MethodName := ⟨RX10, "open", "(I)I"⟩
abbrev cX10_go : ByteArray := prog_12_method_48_code
def yX10_go : MethodName := ⟨RX10, "go", "(I)I"⟩
abbrev cX10_close : ByteArray := prog_12_method_49_code
def yX10_close : MethodName := ⟨RX10, "close", "(I)I"⟩
abbrev cX10_head : ByteArray := prog_12_method_50_code
def yX10_head : MethodName := ⟨RX10, "head", "(I)I"⟩
abbrev cX10_openConflicts : ByteArray := prog_12_method_51_code
def yX10_openConflicts : MethodName := ⟨RX10, "openConflicts", "()I"⟩
abbrev cX10_over : ByteArray := prog_12_method_52_code
def yX10_over : MethodName := ⟨RX10, "over", "()V"⟩
abbrev cX10_commit : ByteArray := prog_12_method_53_code
def yX10_commit : MethodName := ⟨RX10, "commit", "()I"⟩
abbrev cX10_parent : ByteArray := prog_12_method_54_code
def yX10_parent : MethodName := ⟨RX10, "parent", "(II)I"⟩
abbrev cX10_bits : ByteArray := prog_12_method_55_code
def yX10_bits : MethodName := ⟨RX10, "bits", "(J)I"⟩
abbrev cX10_ancestors : ByteArray := prog_12_method_56_code
def yX10_ancestors : MethodName := ⟨RX10, "ancestors", "(I)I"⟩
abbrev cX10_isAncestor : ByteArray := prog_12_method_57_code
def yX10_isAncestor : MethodName := ⟨RX10, "isAncestor", "(II)Z"⟩
abbrev cX10_baseOf : ByteArray := prog_12_method_58_code
def yX10_baseOf : MethodName := ⟨RX10, "baseOf", "(II)I"⟩
abbrev cX10_base : ByteArray := prog_12_method_59_code
def yX10_base : MethodName := ⟨RX10, "base", "(II)I"⟩
abbrev cX10_reset : ByteArray := prog_12_method_60_code
def yX10_reset : MethodName := ⟨RX10, "reset", "()I"⟩
abbrev cX10_sweep : ByteArray := prog_12_method_61_code
def yX10_sweep : MethodName := ⟨RX10, "sweep", "()I"⟩
abbrev cX10_diff : ByteArray := prog_12_method_62_code
def yX10_diff : MethodName := ⟨RX10, "diff", "(III)I"⟩
abbrev cX10_diffKey : ByteArray := prog_12_method_63_code
def yX10_diffKey : MethodName := ⟨RX10, "diffKey", "(I)J"⟩
abbrev cX10_diffKind : ByteArray := prog_12_method_64_code
def yX10_diffKind : MethodName := ⟨RX10, "diffKind", "(I)I"⟩
abbrev cX10_areAlike : ByteArray := prog_12_method_65_code
def yX10_areAlike : MethodName := ⟨RX10, "areAlike", "(II)Z"⟩
abbrev cX10_bring : ByteArray := prog_12_method_66_code
def yX10_bring : MethodName := ⟨RX10, "bring", "(III)Z"⟩
abbrev cX10_bringKey : ByteArray := prog_12_method_67_code
def yX10_bringKey : MethodName := ⟨RX10, "bringKey", "(IIIII)Z"⟩
abbrev cX10_nextKey : ByteArray := prog_12_method_68_code
def yX10_nextKey : MethodName := ⟨RX10, "nextKey", "(IJIII)J"⟩
abbrev cX10_together : ByteArray := prog_12_method_69_code
def yX10_together : MethodName := ⟨RX10, "together", "(III)I"⟩
abbrev cX10_merge : ByteArray := prog_12_method_70_code
def yX10_merge : MethodName := ⟨RX10, "merge", "(I)I"⟩
abbrev cX10_change : ByteArray := prog_12_method_71_code
def yX10_change : MethodName := ⟨RX10, "change", "(IZ)I"⟩
abbrev cX10_pick : ByteArray := prog_12_method_72_code
def yX10_pick : MethodName := ⟨RX10, "pick", "(I)I"⟩
abbrev cX10_undo : ByteArray := prog_12_method_73_code
def yX10_undo : MethodName := ⟨RX10, "undo", "(I)I"⟩
abbrev cX10_merging : ByteArray := prog_12_method_74_code
def yX10_merging : MethodName := ⟨RX10, "merging", "()Z"⟩
abbrev cX10_conflicts : ByteArray := prog_12_method_75_code
def yX10_conflicts : MethodName := ⟨RX10, "conflicts", "(I)I"⟩
abbrev cX10_conflict : ByteArray := prog_12_method_76_code
def yX10_conflict : MethodName := ⟨RX10, "conflict", "(II)J"⟩
abbrev cX10_rowOf : ByteArray := prog_12_method_77_code
def yX10_rowOf : MethodName := ⟨RX10, "rowOf", "(II)I"⟩
abbrev cX10_version : ByteArray := prog_12_method_78_code
def yX10_version : MethodName := ⟨RX10, "version", "(III)J"⟩
abbrev cX10_settle : ByteArray := prog_12_method_79_code
def yX10_settle : MethodName := ⟨RX10, "settle", "(II)I"⟩
abbrev cX10_send : ByteArray := prog_12_method_80_code
def yX10_send : MethodName := ⟨RX10, "send", "(I)I"⟩
abbrev cX10_fetch : ByteArray := prog_12_method_81_code
def yX10_fetch : MethodName := ⟨RX10, "fetch", "(I)I"⟩
abbrev cX10_there : ByteArray := prog_12_method_82_code
def yX10_there : MethodName := ⟨RX10, "there", "(I)I"⟩
abbrev cX10_kept : ByteArray := prog_12_method_83_code
def yX10_kept : MethodName := ⟨RX10, "kept", "(I)I"⟩
def RJx8e188 : String := "java/lang/Cloneable"
def RJ13 : String := "java/lang/Long"
abbrev cJ13_bitCount_95d88 : ByteArray := prog_14_method_50_code
def yJ13_bitCount_95d88 : MethodName := ⟨RJ13, "bitCount", "(J)I"⟩
def RJ9 : String := "java/lang/Math"
abbrev cJ9_max_7cf53 : ByteArray := prog_15_method_65_code
def yJ9_max_7cf53 : MethodName := ⟨RJ9, "max", "(II)I"⟩
abbrev cJ9_min_7cf53 : ByteArray := prog_15_method_69_code
def yJ9_min_7cf53 : MethodName := ⟨RJ9, "min", "(II)I"⟩
abbrev cJ9_min_f86c9 : ByteArray := prog_15_method_70_code
def yJ9_min_f86c9 : MethodName := ⟨RJ9, "min", "(JJ)J"⟩
def RJ10 : String := "java/lang/System"
def RJ7 : String := "java/util/Arrays"
abbrev cJ7_fill_53178 : ByteArray := prog_17_method_103_code
def yJ7_fill_53178 : MethodName := ⟨RJ7, "fill", "([II)V"⟩
abbrev cJ7_copyOf_59c91 : ByteArray := prog_17_method_123_code
def yJ7_copyOf_59c91 : MethodName := ⟨RJ7, "copyOf", "([II)[I"⟩
def RL : String := "TreeVersionsLaw"
abbrev cL_law : ByteArray := code
def yL_law : MethodName := ⟨RL, "law", "([I)Z"⟩
abbrev jj_cl : List vw_C := [(RX0, TX0, 4), (RX1, TX1, 3), (RX2, TX2, 11), (RX3, TX3, 9), (RX4, TX4, 2), (RX5, TX5, 3), (RX6, TX6, 2), (RX7, TX7, 6), (RX8, TX8, 1), (RX9, TX9, 11), (RX10, TX10, 34)]
/-- the fields of a class, by their types: 0 int, 1 long, 2 a reference, 3 boolean -/
def jj_T : Nat → List Nat
  | 0 => [0, 0, 1, 2]
  | 1 => [2, 2, 0]
  | 2 => [3, 0, 2, 2, 2, 2, 2, 2, 2, 0, 0]
  | 3 => [2, 0, 0, 0, 0, 1, 2, 0, 3]
  | 4 => [2, 0]
  | 5 => [2, 1, 0]
  | 6 => [2, 0]
  | 7 => [2, 2, 2, 0, 3, 0]
  | 8 => [2]
  | 9 => [2, 2, 2, 2, 0, 1, 2, 0, 2, 2, 2]
  | 10 => [0, 2, 2, 2, 2, 2, 2, 2, 2, 2, 2, 2, 2, 0, 1, 2, 2, 2, 2, 0, 0, 0, 0, 0, 2, 2, 2, 0, 2, 2, 1, 2, 2, 2]
  | _ => []
/-- a method: name, code, locals, what it answers, frames and locals that its calls want -/
abbrev jj_M : Type := MethodName × ByteArray × Nat × Option FieldType × Nat × Nat
abbrev mX0_init : jj_M := (yX0_init, cX0_init, 5, none, 1, 20)
abbrev mX1_init : jj_M := (yX1_init, cX1_init, 1, none, 1, 20)
abbrev mX1_has : jj_M := (yX1_has, cX1_has, 2, (some .boolean), 0, 0)
abbrev mX1_list : jj_M := (yX1_list, cX1_list, 10, none, 1, 25)
abbrev mX1_add : jj_M := (yX1_add, cX1_add, 3, none, 0, 0)
abbrev mX1_kindOfChange : jj_M := (yX1_kindOfChange, cX1_kindOfChange, 6, (some .int), 0, 0)
abbrev mX2_init : jj_M := (yX2_init, cX2_init, 2, none, 2, 42)
abbrev mX2_end : jj_M := (yX2_end, cX2_end, 1, none, 0, 0)
abbrev mX2_has : jj_M := (yX2_has, cX2_has, 2, (some .boolean), 0, 0)
abbrev mX2_rowsOf : jj_M := (yX2_rowsOf, cX2_rowsOf, 3, (some (.object "TreeVersions$Rows")), 1, 21)
abbrev mX2_closeConflict : jj_M := (yX2_closeConflict, cX2_closeConflict, 2, (some .boolean), 1, 21)
abbrev mX2_bringTogether : jj_M := (yX2_bringTogether, cX2_bringTogether, 5, (some .boolean), 4, 141)
abbrev mX2_bringTable : jj_M := (yX2_bringTable, cX2_bringTable, 11, (some .boolean), 3, 111)
abbrev mX2_bringKey : jj_M := (yX2_bringKey, cX2_bringKey, 10, (some .boolean), 2, 82)
abbrev mX2_mixColumns : jj_M := (yX2_mixColumns, cX2_mixColumns, 8, (some .boolean), 0, 0)
abbrev mX2_addConflict : jj_M := (yX2_addConflict, cX2_addConflict, 3, none, 0, 0)
abbrev mX3_init : jj_M := (yX3_init, cX3_init, 1, none, 1, 20)
abbrev mX3_set : jj_M := (yX3_set, cX3_set, 8, none, 0, 0)
abbrev mX3_lastKey : jj_M := (yX3_lastKey, cX3_lastKey, 1, (some .long), 1, 21)
abbrev mX3_isSame : jj_M := (yX3_isSame, cX3_isSame, 2, (some .boolean), 1, 26)
abbrev mX4_init : jj_M := (yX4_init, cX4_init, 1, none, 1, 20)
abbrev mX4_find : jj_M := (yX4_find, cX4_find, 3, (some (.object "TreeVersions$Node")), 2, 47)
abbrev mX4_keepTable : jj_M := (yX4_keepTable, cX4_keepTable, 6, (some (.object "TreeVersions$Table")), 3, 82)
abbrev mX4_beginCount : jj_M := (yX4_beginCount, cX4_beginCount, 1, none, 0, 0)
abbrev mX4_see : jj_M := (yX4_see, cX4_see, 3, (some .boolean), 0, 0)
abbrev mX4_countUnseen : jj_M := (yX4_countUnseen, cX4_countUnseen, 4, (some .int), 1, 22)
abbrev mX4_addNode : jj_M := (yX4_addNode, cX4_addNode, 5, (some (.object "TreeVersions$Node")), 2, 40)
abbrev mX4_bucketOf : jj_M := (yX4_bucketOf, cX4_bucketOf, 1, (some .int), 0, 0)
abbrev mX5_init : jj_M := (yX5_init, cX5_init, 1, none, 1, 23)
abbrev mX5_hasBranch : jj_M := (yX5_hasBranch, cX5_hasBranch, 2, (some .boolean), 1, 20)
abbrev mX5_takeAll : jj_M := (yX5_takeAll, cX5_takeAll, 8, (some .int), 2, 42)
abbrev mX5_takeNodes : jj_M := (yX5_takeNodes, cX5_takeNodes, 3, (some .int), 1, 20)
abbrev mX6_init : jj_M := (yX6_init, cX6_init, 2, none, 1, 21)
abbrev mX6_keyAt : jj_M := (yX6_keyAt, cX6_keyAt, 2, (some .long), 0, 0)
abbrev mX6_placeOf : jj_M := (yX6_placeOf, cX6_placeOf, 4, (some .int), 0, 0)
abbrev mX6_find : jj_M := (yX6_find, cX6_find, 3, (some .int), 1, 23)
abbrev mX6_columnOf : jj_M := (yX6_columnOf, cX6_columnOf, 4, (some .long), 2, 45)
abbrev mX6_setColumn : jj_M := (yX6_setColumn, cX6_setColumn, 5, (some .boolean), 2, 45)
abbrev mX6_setRow : jj_M := (yX6_setRow, cX6_setRow, 8, (some .int), 2, 82)
abbrev mX6_removeRow : jj_M := (yX6_removeRow, cX6_removeRow, 4, (some .boolean), 2, 60)
abbrev mX6_takeRow : jj_M := (yX6_takeRow, cX6_takeRow, 5, (some .boolean), 3, 109)
abbrev mX6_append : jj_M := (yX6_append, cX6_append, 3, (some .boolean), 1, 60)
abbrev mX6_become : jj_M := (yX6_become, cX6_become, 3, none, 1, 60)
abbrev mX6_isSame : jj_M := (yX6_isSame, cX6_isSame, 2, (some .boolean), 1, 26)
abbrev mX6_isSameRow : jj_M := (yX6_isSameRow, cX6_isSameRow, 4, (some .boolean), 1, 26)
abbrev mX6_matches : jj_M := (yX6_matches, cX6_matches, 7, (some .boolean), 0, 0)
abbrev mX6_makeRoom : jj_M := (yX6_makeRoom, cX6_makeRoom, 3, (some .boolean), 1, 60)
abbrev mX7_init : jj_M := (yX7_init, cX7_init, 4, none, 1, 20)
abbrev mX7_become : jj_M := (yX7_become, cX7_become, 2, none, 2, 82)
abbrev mX7_hasLevel : jj_M := (yX7_hasLevel, cX7_hasLevel, 2, (some .boolean), 0, 0)
abbrev mX7_nodesOn : jj_M := (yX7_nodesOn, cX7_nodesOn, 2, (some .int), 1, 21)
abbrev mX7_nodesInAll : jj_M := (yX7_nodesInAll, cX7_nodesInAll, 1, (some .int), 0, 0)
abbrev mX7_nodeAt : jj_M := (yX7_nodeAt, cX7_nodeAt, 3, (some (.object "TreeVersions$Node")), 2, 42)
abbrev mX7_hasSame : jj_M := (yX7_hasSame, cX7_hasSame, 3, (some .boolean), 2, 47)
abbrev mX7_clearNodes : jj_M := (yX7_clearNodes, cX7_clearNodes, 1, none, 0, 0)
abbrev mX7_beginLevel : jj_M := (yX7_beginLevel, cX7_beginLevel, 1, (some .int), 0, 0)
abbrev mX7_addNode : jj_M := (yX7_addNode, cX7_addNode, 7, none, 2, 40)
abbrev mX8_init : jj_M := (yX8_init, cX8_init, 1, none, 1, 20)
abbrev mX8_build : jj_M := (yX8_build, cX8_build, 4, none, 4, 94)
abbrev mX8_writeEntries : jj_M := (yX8_writeEntries, cX8_writeEntries, 6, (some .int), 3, 64)
abbrev mX8_cutLevel : jj_M := (yX8_cutLevel, cX8_cutLevel, 9, none, 3, 66)
abbrev mX8_endsNode : jj_M := (yX8_endsNode, cX8_endsNode, 2, (some .boolean), 0, 0)
abbrev mX8_rowsBelow : jj_M := (yX8_rowsBelow, cX8_rowsBelow, 6, (some .int), 0, 0)
abbrev mX8_rollEntry : jj_M := (yX8_rollEntry, cX8_rollEntry, 10, (some .int), 1, 21)
abbrev mX8_spread : jj_M := (yX8_spread, cX8_spread, 1, (some .int), 0, 0)
abbrev mX8_turned : jj_M := (yX8_turned, cX8_turned, 2, (some .int), 0, 0)
abbrev mX8_hashOf : jj_M := (yX8_hashOf, cX8_hashOf, 9, (some .long), 0, 0)
abbrev mX9_init : jj_M := (yX9_init, cX9_init, 2, none, 7, 169)
abbrev mX9_put : jj_M := (yX9_put, cX9_put, 6, (some .int), 3, 109)
abbrev mX9_cell : jj_M := (yX9_cell, cX9_cell, 5, (some .int), 3, 69)
abbrev mX9_drop : jj_M := (yX9_drop, cX9_drop, 3, (some .int), 3, 83)
abbrev mX9_fill : jj_M := (yX9_fill, cX9_fill, 12, (some .int), 3, 109)
abbrev mX9_get : jj_M := (yX9_get, cX9_get, 4, (some .long), 3, 68)
abbrev mX9_size : jj_M := (yX9_size, cX9_size, 2, (some .int), 1, 20)
abbrev mX9_kth : jj_M := (yX9_kth, cX9_kth, 3, (some .long), 1, 21)
abbrev mX9_rank : jj_M := (yX9_rank, cX9_rank, 3, (some .int), 1, 23)
abbrev mX9_root : jj_M := (yX9_root, cX9_root, 5, (some .long), 6, 140)
abbrev mX9_height : jj_M := (yX9_height, cX9_height, 4, (some .int), 6, 140)
abbrev mX9_nodes : jj_M := (yX9_nodes, cX9_nodes, 5, (some .int), 6, 140)
abbrev mX9_node : jj_M := (yX9_node, cX9_node, 8, (some .long), 6, 140)
abbrev mX9_shared : jj_M := (yX9_shared, cX9_shared, 8, (some .int), 6, 140)
abbrev mX9_stored : jj_M := (yX9_stored, cX9_stored, 5, (some .int), 7, 166)
abbrev mX9_open : jj_M := (yX9_open, cX9_open, 2, (some .int), 2, 41)
abbrev mX9_go : jj_M := (yX9_go, cX9_go, 2, (some .int), 4, 125)
abbrev mX9_close : jj_M := (yX9_close, cX9_close, 3, (some .int), 2, 41)
abbrev mX9_head : jj_M := (yX9_head, cX9_head, 2, (some .int), 2, 41)
abbrev mX9_commit : jj_M := (yX9_commit, cX9_commit, 1, (some .int), 7, 169)
abbrev mX9_parent : jj_M := (yX9_parent, cX9_parent, 4, (some .int), 1, 21)
abbrev mX9_ancestors : jj_M := (yX9_ancestors, cX9_ancestors, 3, (some .int), 1, 21)
abbrev mX9_base : jj_M := (yX9_base, cX9_base, 5, (some .int), 1, 23)
abbrev mX9_reset : jj_M := (yX9_reset, cX9_reset, 2, (some .int), 4, 125)
abbrev mX9_sweep : jj_M := (yX9_sweep, cX9_sweep, 4, (some .int), 1, 21)
abbrev mX9_diff : jj_M := (yX9_diff, cX9_diff, 6, (some .int), 2, 54)
abbrev mX9_diffKey : jj_M := (yX9_diffKey, cX9_diffKey, 2, (some .long), 1, 21)
abbrev mX9_diffKind : jj_M := (yX9_diffKind, cX9_diffKind, 2, (some .int), 1, 21)
abbrev mX9_merge : jj_M := (yX9_merge, cX9_merge, 4, (some .int), 6, 189)
abbrev mX9_pick : jj_M := (yX9_pick, cX9_pick, 3, (some .int), 6, 189)
abbrev mX9_undo : jj_M := (yX9_undo, cX9_undo, 3, (some .int), 6, 189)
abbrev mX9_merging : jj_M := (yX9_merging, cX9_merging, 1, (some .boolean), 0, 0)
abbrev mX9_conflicts : jj_M := (yX9_conflicts, cX9_conflicts, 2, (some .int), 0, 0)
abbrev mX9_conflict : jj_M := (yX9_conflict, cX9_conflict, 3, (some .long), 1, 21)
abbrev mX9_version : jj_M := (yX9_version, cX9_version, 5, (some .long), 3, 68)
abbrev mX9_settle : jj_M := (yX9_settle, cX9_settle, 5, (some .int), 4, 133)
abbrev mX9_send : jj_M := (yX9_send, cX9_send, 3, (some .int), 3, 69)
abbrev mX9_fetch : jj_M := (yX9_fetch, cX9_fetch, 4, (some .int), 4, 125)
abbrev mX9_there : jj_M := (yX9_there, cX9_there, 2, (some .int), 2, 41)
abbrev mX9_kept : jj_M := (yX9_kept, cX9_kept, 2, (some .int), 1, 21)
abbrev mX9_isTable : jj_M := (yX9_isTable, cX9_isTable, 1, (some .boolean), 0, 0)
abbrev mX9_isColumn : jj_M := (yX9_isColumn, cX9_isColumn, 1, (some .boolean), 0, 0)
abbrev mX9_isBranch : jj_M := (yX9_isBranch, cX9_isBranch, 1, (some .boolean), 0, 0)
abbrev mX9_isHere : jj_M := (yX9_isHere, cX9_isHere, 2, (some .boolean), 1, 20)
abbrev mX9_nextSeed : jj_M := (yX9_nextSeed, cX9_nextSeed, 1, (some .int), 0, 0)
abbrev mX9_countNewKeys : jj_M := (yX9_countNewKeys, cX9_countNewKeys, 6, (some .int), 2, 45)
abbrev mX9_commitAt : jj_M := (yX9_commitAt, cX9_commitAt, 2, (some (.object "TreeVersions$Commit")), 0, 0)
abbrev mX9_lineOf : jj_M := (yX9_lineOf, cX9_lineOf, 2, (some .long), 0, 0)
abbrev mX9_isAncestor : jj_M := (yX9_isAncestor, cX9_isAncestor, 3, (some .boolean), 1, 21)
abbrev mX9_greatestOf : jj_M := (yX9_greatestOf, cX9_greatestOf, 4, (some .int), 0, 0)
abbrev mX9_tableOf : jj_M := (yX9_tableOf, cX9_tableOf, 4, (some (.object "TreeVersions$Table")), 1, 21)
abbrev mX9_treeOf : jj_M := (yX9_treeOf, cX9_treeOf, 4, (some (.object "TreeVersions$Table")), 5, 117)
abbrev mX9_countUnseenOfWork : jj_M := (yX9_countUnseenOfWork, cX9_countUnseenOfWork, 7, (some .int), 6, 140)
abbrev mX9_isInWorkBefore : jj_M := (yX9_isInWorkBefore, cX9_isInWorkBefore, 4, (some .boolean), 3, 69)
abbrev mX9_headAtHand : jj_M := (yX9_headAtHand, cX9_headAtHand, 1, (some (.object "TreeVersions$Commit")), 0, 0)
abbrev mX9_isClean : jj_M := (yX9_isClean, cX9_isClean, 3, (some .boolean), 2, 47)
abbrev mX9_loadWork : jj_M := (yX9_loadWork, cX9_loadWork, 3, none, 3, 103)
abbrev mX9_addCommit : jj_M := (yX9_addCommit, cX9_addCommit, 10, (some .int), 6, 140)
abbrev mX9_tableBefore : jj_M := (yX9_tableBefore, cX9_tableBefore, 3, (some (.object "TreeVersions$Table")), 2, 44)
abbrev mX9_refusalOfPick : jj_M := (yX9_refusalOfPick, cX9_refusalOfPick, 3, (some .int), 3, 69)
abbrev mX9_beginMerge : jj_M := (yX9_beginMerge, cX9_beginMerge, 5, (some .int), 5, 165)
abbrev mX10_init : jj_M := (yX10_init, cX10_init, 2, none, 3, 84)
abbrev mX10_isIn : jj_M := (yX10_isIn, cX10_isIn, 6, (some .boolean), 0, 0)
abbrev mX10_isTable : jj_M := (yX10_isTable, cX10_isTable, 1, (some .boolean), 0, 0)
abbrev mX10_isCommit : jj_M := (yX10_isCommit, cX10_isCommit, 2, (some .boolean), 0, 0)
abbrev mX10_placeOf : jj_M := (yX10_placeOf, cX10_placeOf, 2, (some .int), 1, 21)
abbrev mX10_rowAt : jj_M := (yX10_rowAt, cX10_rowAt, 4, (some .int), 0, 0)
abbrev mX10_rankOf : jj_M := (yX10_rankOf, cX10_rankOf, 5, (some .int), 1, 23)
abbrev mX10_find : jj_M := (yX10_find, cX10_find, 6, (some .int), 2, 47)
abbrev mX10_copyRow : jj_M := (yX10_copyRow, cX10_copyRow, 3, none, 0, 0)
abbrev mX10_copyTable : jj_M := (yX10_copyTable, cX10_copyTable, 5, none, 1, 23)
abbrev mX10_copy : jj_M := (yX10_copy, cX10_copy, 4, none, 2, 47)
abbrev mX10_lay : jj_M := (yX10_lay, cX10_lay, 11, (some .boolean), 3, 72)
abbrev mX10_takeAway : jj_M := (yX10_takeAway, cX10_takeAway, 6, (some .boolean), 3, 72)
abbrev mX10_isRowAlike : jj_M := (yX10_isRowAlike, cX10_isRowAlike, 3, (some .boolean), 0, 0)
abbrev mX10_isAlike : jj_M := (yX10_isAlike, cX10_isAlike, 6, (some .boolean), 1, 23)
abbrev mX10_isClean : jj_M := (yX10_isClean, cX10_isClean, 1, (some .boolean), 2, 48)
abbrev mX10_turned : jj_M := (yX10_turned, cX10_turned, 2, (some .int), 0, 0)
abbrev mX10_toll : jj_M := (yX10_toll, cX10_toll, 1, (some .int), 0, 0)
abbrev mX10_layBytes : jj_M := (yX10_layBytes, cX10_layBytes, 5, none, 0, 0)
abbrev mX10_layLevel : jj_M := (yX10_layLevel, cX10_layLevel, 9, (some .int), 1, 24)
abbrev mX10_node : jj_M := (yX10_node, cX10_node, 14, none, 0, 0)
abbrev mX10_cut : jj_M := (yX10_cut, cX10_cut, 13, none, 2, 52)
abbrev mX10_cutWork : jj_M := (yX10_cutWork, cX10_cutWork, 2, none, 3, 84)
abbrev mX10_nodeAt : jj_M := (yX10_nodeAt, cX10_nodeAt, 8, (some .int), 0, 0)
abbrev mX10_lastRow : jj_M := (yX10_lastRow, cX10_lastRow, 3, (some .int), 0, 0)
abbrev mX10_areSame : jj_M := (yX10_areSame, cX10_areSame, 7, (some .boolean), 1, 22)
abbrev mX10_put : jj_M := (yX10_put, cX10_put, 6, (some .int), 4, 102)
abbrev mX10_cell : jj_M := (yX10_cell, cX10_cell, 6, (some .int), 3, 72)
abbrev mX10_drop : jj_M := (yX10_drop, cX10_drop, 3, (some .int), 4, 97)
abbrev mX10_fill : jj_M := (yX10_fill, cX10_fill, 13, (some .int), 4, 102)
abbrev mX10_get : jj_M := (yX10_get, cX10_get, 5, (some .long), 3, 72)
abbrev mX10_size : jj_M := (yX10_size, cX10_size, 2, (some .int), 1, 20)
abbrev mX10_kth : jj_M := (yX10_kth, cX10_kth, 3, (some .long), 1, 25)
abbrev mX10_rank : jj_M := (yX10_rank, cX10_rank, 3, (some .int), 2, 47)
abbrev mX10_treeOf : jj_M := (yX10_treeOf, cX10_treeOf, 4, (some .int), 3, 84)
abbrev mX10_root : jj_M := (yX10_root, cX10_root, 4, (some .long), 4, 107)
abbrev mX10_height : jj_M := (yX10_height, cX10_height, 4, (some .int), 4, 107)
abbrev mX10_nodes : jj_M := (yX10_nodes, cX10_nodes, 6, (some .int), 4, 107)
abbrev mX10_node_ : jj_M := (yX10_node_, cX10_node_, 8, (some .long), 4, 107)
abbrev mX10_shared : jj_M := (yX10_shared, cX10_shared, 10, (some .int), 4, 107)
abbrev mX10_isNew : jj_M := (yX10_isNew, cX10_isNew, 3, (some .boolean), 2, 48)
abbrev mX10_distinct : jj_M := (yX10_distinct, cX10_distinct, 8, (some .int), 4, 105)
abbrev mX10_stored : jj_M := (yX10_stored, cX10_stored, 1, (some .int), 5, 132)
abbrev mX10_isNumber : jj_M := (yX10_isNumber, cX10_isNumber, 1, (some .boolean), 0, 0)
abbrev mX10_isBranch : jj_M := (yX10_isBranch, cX10_isBranch, 2, (some .boolean), 1, 20)
abbrev mX10_open : jj_M := (yX10_open, cX10_open, 2, (some .int), 1, 20)
abbrev mX10_go : jj_M := (yX10_go, cX10_go, 2, (some .int), 3, 70)
abbrev mX10_close : jj_M := (yX10_close, cX10_close, 3, (some .int), 2, 41)
abbrev mX10_head : jj_M := (yX10_head, cX10_head, 2, (some .int), 2, 41)
abbrev mX10_openConflicts : jj_M := (yX10_openConflicts, cX10_openConflicts, 3, (some .int), 0, 0)
abbrev mX10_over : jj_M := (yX10_over, cX10_over, 1, none, 0, 0)
abbrev mX10_commit : jj_M := (yX10_commit, cX10_commit, 3, (some .int), 3, 84)
abbrev mX10_parent : jj_M := (yX10_parent, cX10_parent, 3, (some .int), 1, 21)
abbrev mX10_bits : jj_M := (yX10_bits, cX10_bits, 4, (some .int), 0, 0)
abbrev mX10_ancestors : jj_M := (yX10_ancestors, cX10_ancestors, 2, (some .int), 1, 23)
abbrev mX10_isAncestor : jj_M := (yX10_isAncestor, cX10_isAncestor, 3, (some .boolean), 0, 0)
abbrev mX10_baseOf : jj_M := (yX10_baseOf, cX10_baseOf, 8, (some .int), 1, 22)
abbrev mX10_base : jj_M := (yX10_base, cX10_base, 3, (some .int), 2, 49)
abbrev mX10_reset : jj_M := (yX10_reset, cX10_reset, 2, (some .int), 3, 70)
abbrev mX10_sweep : jj_M := (yX10_sweep, cX10_sweep, 4, (some .int), 1, 23)
abbrev mX10_diff : jj_M := (yX10_diff, cX10_diff, 14, (some .int), 2, 42)
abbrev mX10_diffKey : jj_M := (yX10_diffKey, cX10_diffKey, 2, (some .long), 1, 25)
abbrev mX10_diffKind : jj_M := (yX10_diffKind, cX10_diffKind, 2, (some .int), 1, 25)
abbrev mX10_areAlike : jj_M := (yX10_areAlike, cX10_areAlike, 3, (some .boolean), 1, 22)
abbrev mX10_bring : jj_M := (yX10_bring, cX10_bring, 9, (some .boolean), 0, 0)
abbrev mX10_bringKey : jj_M := (yX10_bringKey, cX10_bringKey, 12, (some .boolean), 4, 102)
abbrev mX10_nextKey : jj_M := (yX10_nextKey, cX10_nextKey, 14, (some .long), 1, 23)
abbrev mX10_together : jj_M := (yX10_together, cX10_together, 8, (some .int), 5, 133)
abbrev mX10_merge : jj_M := (yX10_merge, cX10_merge, 4, (some .int), 6, 160)
abbrev mX10_change : jj_M := (yX10_change, cX10_change, 3, (some .int), 6, 160)
abbrev mX10_pick : jj_M := (yX10_pick, cX10_pick, 2, (some .int), 7, 182)
abbrev mX10_undo : jj_M := (yX10_undo, cX10_undo, 2, (some .int), 7, 182)
abbrev mX10_merging : jj_M := (yX10_merging, cX10_merging, 1, (some .boolean), 0, 0)
abbrev mX10_conflicts : jj_M := (yX10_conflicts, cX10_conflicts, 2, (some .int), 1, 22)
abbrev mX10_conflict : jj_M := (yX10_conflict, cX10_conflict, 3, (some .long), 1, 25)
abbrev mX10_rowOf : jj_M := (yX10_rowOf, cX10_rowOf, 4, (some .int), 3, 72)
abbrev mX10_version : jj_M := (yX10_version, cX10_version, 6, (some .long), 4, 95)
abbrev mX10_settle : jj_M := (yX10_settle, cX10_settle, 7, (some .int), 4, 102)
abbrev mX10_send : jj_M := (yX10_send, cX10_send, 4, (some .int), 5, 132)
abbrev mX10_fetch : jj_M := (yX10_fetch, cX10_fetch, 4, (some .int), 3, 70)
abbrev mX10_there : jj_M := (yX10_there, cX10_there, 2, (some .int), 1, 20)
abbrev mX10_kept : jj_M := (yX10_kept, cX10_kept, 2, (some .int), 5, 132)
abbrev mJ13_bitCount_95d88 : jj_M := (yJ13_bitCount_95d88, cJ13_bitCount_95d88, 2, (some .int), 0, 0)
abbrev mJ9_max_7cf53 : jj_M := (yJ9_max_7cf53, cJ9_max_7cf53, 2, (some .int), 0, 0)
abbrev mJ9_min_7cf53 : jj_M := (yJ9_min_7cf53, cJ9_min_7cf53, 2, (some .int), 0, 0)
abbrev mJ9_min_f86c9 : jj_M := (yJ9_min_f86c9, cJ9_min_f86c9, 4, (some .long), 0, 0)
abbrev mJ7_fill_53178 : jj_M := (yJ7_fill_53178, cJ7_fill_53178, 4, none, 0, 0)
abbrev mJ7_copyOf_59c91 : jj_M := (yJ7_copyOf_59c91, cJ7_copyOf_59c91, 3, (some (.array .int)), 1, 60)
abbrev mL_law : jj_M := (yL_law, cL_law, 4, (some .boolean), 8, 212)
end
section
/-! The small heap: ints, longs and references (0: null, i + 1: the i-th cell that was made) by field or 1000 for an array, cell and place; kinds, lengths, how many cells -/
abbrev jj_H : Type := (Nat → Nat → Nat → Int32) × (Nat → Nat → Nat → Int64) × (Nat → Nat → Nat → Nat) × (Nat → Nat) × (Nat → Nat) × Nat
def jI (h : jj_H) (t a i : Nat) : Int32 := h.1 t a i
def jL (h : jj_H) (t a i : Nat) : Int64 := h.2.1 t a i
def jR (h : jj_H) (t a i : Nat) : Nat := h.2.2.1 t a i
def jK (h : jj_H) (a : Nat) : Nat := h.2.2.2.1 a
def jN (h : jj_H) (a : Nat) : Nat := h.2.2.2.2.1 a
def jZ (h : jj_H) : Nat := h.2.2.2.2.2
def wI (h : jj_H) (t a i : Nat) (v : Int32) : jj_H := (fun t' a' i' => if t' = t ∧ a' = a ∧ i' = i then v else h.1 t' a' i', h.2)
def wL (h : jj_H) (t a i : Nat) (v : Int64) : jj_H := (h.1, fun t' a' i' => if t' = t ∧ a' = a ∧ i' = i then v else h.2.1 t' a' i', h.2.2)
def wR (h : jj_H) (t a i : Nat) (v : Nat) : jj_H := (h.1, h.2.1, fun t' a' i' => if t' = t ∧ a' = a ∧ i' = i then v else h.2.2.1 t' a' i', h.2.2.2)
/-- a new cell of a kind and a length, all 0 -/
def wA (h : jj_H) (k n : Nat) : jj_H := (fun t a i => if a = jZ h + 1 then 0 else h.1 t a i, fun t a i => if a = jZ h + 1 then 0 else h.2.1 t a i, fun t a i => if a = jZ h + 1 then 0 else h.2.2.1 t a i, fun a => if a = jZ h + 1 then k else h.2.2.2.1 a, fun a => if a = jZ h + 1 then n else h.2.2.2.2.1 a, jZ h + 1)
/-- ints of one array copied into another -/
def wC (h : jj_H) (a sp b dp n : Nat) : jj_H := (fun t c i => if t = 1000 ∧ c = b then va_cpy (h.1 1000 a) (h.1 1000 b) sp dp n i else h.1 t c i, h.2)
theorem jI_wI (h : jj_H) (t a i : Nat) (v : Int32) (t' a' i' : Nat) : jI (wI h t a i v) t' a' i' = if t' = t ∧ a' = a ∧ i' = i then v else jI h t' a' i' := rfl
theorem jI_wL (h : jj_H) (t a i : Nat) (v : Int64) (t' a' i' : Nat) : jI (wL h t a i v) t' a' i' = jI h t' a' i' := rfl
theorem jI_wR (h : jj_H) (t a i : Nat) (v : Nat) (t' a' i' : Nat) : jI (wR h t a i v) t' a' i' = jI h t' a' i' := rfl
theorem jL_wI (h : jj_H) (t a i : Nat) (v : Int32) (t' a' i' : Nat) : jL (wI h t a i v) t' a' i' = jL h t' a' i' := rfl
theorem jL_wL (h : jj_H) (t a i : Nat) (v : Int64) (t' a' i' : Nat) : jL (wL h t a i v) t' a' i' = if t' = t ∧ a' = a ∧ i' = i then v else jL h t' a' i' := rfl
theorem jL_wR (h : jj_H) (t a i : Nat) (v : Nat) (t' a' i' : Nat) : jL (wR h t a i v) t' a' i' = jL h t' a' i' := rfl
theorem jR_wI (h : jj_H) (t a i : Nat) (v : Int32) (t' a' i' : Nat) : jR (wI h t a i v) t' a' i' = jR h t' a' i' := rfl
theorem jR_wL (h : jj_H) (t a i : Nat) (v : Int64) (t' a' i' : Nat) : jR (wL h t a i v) t' a' i' = jR h t' a' i' := rfl
theorem jR_wR (h : jj_H) (t a i : Nat) (v : Nat) (t' a' i' : Nat) : jR (wR h t a i v) t' a' i' = if t' = t ∧ a' = a ∧ i' = i then v else jR h t' a' i' := rfl
theorem jK_wI (h : jj_H) (t a i : Nat) (v : Int32) (b : Nat) : jK (wI h t a i v) b = jK h b := rfl
theorem jK_wL (h : jj_H) (t a i : Nat) (v : Int64) (b : Nat) : jK (wL h t a i v) b = jK h b := rfl
theorem jK_wR (h : jj_H) (t a i : Nat) (v : Nat) (b : Nat) : jK (wR h t a i v) b = jK h b := rfl
theorem jN_wI (h : jj_H) (t a i : Nat) (v : Int32) (b : Nat) : jN (wI h t a i v) b = jN h b := rfl
theorem jN_wL (h : jj_H) (t a i : Nat) (v : Int64) (b : Nat) : jN (wL h t a i v) b = jN h b := rfl
theorem jN_wR (h : jj_H) (t a i : Nat) (v : Nat) (b : Nat) : jN (wR h t a i v) b = jN h b := rfl
theorem jZ_wI (h : jj_H) (t a i : Nat) (v : Int32) : jZ (wI h t a i v) = jZ h := rfl
theorem jZ_wL (h : jj_H) (t a i : Nat) (v : Int64) : jZ (wL h t a i v) = jZ h := rfl
theorem jZ_wR (h : jj_H) (t a i : Nat) (v : Nat) : jZ (wR h t a i v) = jZ h := rfl
theorem jI_wA (h : jj_H) (k n t a i : Nat) : jI (wA h k n) t a i = if a = jZ h + 1 then 0 else jI h t a i := rfl
theorem jL_wA (h : jj_H) (k n t a i : Nat) : jL (wA h k n) t a i = if a = jZ h + 1 then 0 else jL h t a i := rfl
theorem jR_wA (h : jj_H) (k n t a i : Nat) : jR (wA h k n) t a i = if a = jZ h + 1 then 0 else jR h t a i := rfl
theorem jK_wA (h : jj_H) (k n a : Nat) : jK (wA h k n) a = if a = jZ h + 1 then k else jK h a := rfl
theorem jN_wA (h : jj_H) (k n a : Nat) : jN (wA h k n) a = if a = jZ h + 1 then n else jN h a := rfl
theorem jZ_wA (h : jj_H) (k n : Nat) : jZ (wA h k n) = jZ h + 1 := rfl
theorem jI_wC (h : jj_H) (a sp b dp n t c i : Nat) : jI (wC h a sp b dp n) t c i = if t = 1000 ∧ c = b then va_cpy (jI h 1000 a) (jI h 1000 b) sp dp n i else jI h t c i := rfl
theorem jL_wC (h : jj_H) (a sp b dp n t c i : Nat) : jL (wC h a sp b dp n) t c i = jL h t c i := rfl
theorem jR_wC (h : jj_H) (a sp b dp n t c i : Nat) : jR (wC h a sp b dp n) t c i = jR h t c i := rfl
theorem jK_wC (h : jj_H) (a sp b dp n c : Nat) : jK (wC h a sp b dp n) c = jK h c := rfl
theorem jN_wC (h : jj_H) (a sp b dp n c : Nat) : jN (wC h a sp b dp n) c = jN h c := rfl
theorem jZ_wC (h : jj_H) (a sp b dp n : Nat) : jZ (wC h a sp b dp n) = jZ h := rfl
/-! how the machine holds it: cells from B on; the script at b -/
def jj_o (B : Nat) : Nat → Option Nat
  | 0 => none
  | n + 1 => some (B + n)
def jj_rv (B b : Nat) : Value → Value
  | .ref 0 => .null
  | .ref (n + 1) => .ref (B + n)
  | .float _ => .ref b
  | v => v
theorem jj_rv_ref (B b r : Nat) : jj_rv B b (.ref r) = va_rf (jj_o B r) := by cases r <;> rfl
theorem jj_rv_cat (B b : Nat) (v : Value) : (jj_rv B b v).category = v.category := by
  cases v with
  | ref r => cases r <;> rfl
  | _ => rfl
def jj_fv (B : Nat) (h : jj_H) (ty f a : Nat) : Value := if ty = 1 then .long (jL h f a 0) else if ty = 2 then va_rf (jj_o B (jR h f a 0)) else .int (jI h f a 0)
def jj_fs (B : Nat) (h : jj_H) (ci a : Nat) : List Value := (List.range (jj_T ci).length).map (fun k => jj_fv B h ((jj_T ci).getD k 0) (50 * ci + k) a)
def jj_ac (B : Nat) (h : jj_H) (k a : Nat) : (Nat → Int32) ⊕ (Nat → Int64) ⊕ (Nat → UInt32) ⊕ (Nat → UInt64) ⊕ (Nat → Option Nat) := if k = 22 then .inr (.inl (fun i => jL h 1000 a i)) else if k < 24 then .inl (fun i => jI h 1000 a i) else .inr (.inr (.inr (.inr (fun i => jj_o B (jR h 1000 a i)))))
def jj_E (dA : Nat → ClassId) (B : Nat) (h : jj_H) (a : Nat) : va_E := if jK h a < 20 then .inr (jK h a - 1, jj_fs B h (jK h a - 1) a) else .inl (dA (jK h a), jN h a, jj_ac B h (jK h a) a)
def jj_V (h : jj_H) : Prop := ∀ a, jK h a ≠ 0 → ∃ i, a = i + 1 ∧ i < jZ h
def jj_P (D : va_G) (dA : Nat → ClassId) (B : Nat) (h : jj_H) (H : Heap) : Prop := H.size = B + jZ h ∧ jj_V h ∧ ∀ i, i < jZ h → va_at D jj_cl (B + i, jj_E dA B h (i + 1)) H
/-- D, the arrays' classes, B, b, the script's length and ints -/
abbrev jj_D : Type := va_G × (Nat → ClassId) × Nat × Nat × Nat × (Nat → Int32)
def jj_ty (dA : Nat → ClassId) : List (ClassId × FieldType) := [(dA 21, .int), (dA 22, .long), (dA 23, .boolean), (dA 24, .object RX0), (dA 25, .object RX3), (dA 26, .object RX6), (dA 27, .object RX7)]
def jj_nl : List (String × Nat × MethodName × String) := [(RX9, 27, yX8_init, RX9), (RX9, 34, yX4_init, RX9), (RX9, 57, yX1_init, RX9), (RX7, 54, yX3_init, RX9), (RX4, 91, yX3_init, RX9), (RX6, 38, yX9_isColumn, RX9), (RX5, 21, yX9_isBranch, RX9)]
def jj_tb : List Cond := lw_tbl.filter goodWord
def jj_K (d : jj_D) (U : State) : Prop := va_K d.1 jj_cl (jj_ty d.2.1) U ∧ (∀ q ∈ jj_nl, va_Nw (.methodLinkNest q.1 q.2.1 q.2.2.1 q.2.2.2) U) ∧ (∀ C ∈ [RX0, RX3, RX6, RX7], va_AO C U) ∧ va_Nw (.castable "[I" "java/lang/Cloneable") U
theorem jj_K.moved {d : jj_D} {s U : State} (hW : s.WarmedH U.vm) (h : jj_K d s) : jj_K d U := ⟨va_K.moved hW.alike h.1, fun q hq => va_Nw.warmM hW (h.2.1 q hq), fun C hC => va_AO.moved hW.alike (h.2.2.1 C hC), va_Nw.warmC hW h.2.2.2⟩
theorem jj_good : GoodIn jj_tb jj_tb := fun w h => ⟨h, good_of_word (List.mem_filter.mp h).2⟩
theorem jj_in {w : Cond} (i : Nat) (h : lw_tbl[i]? = some w) (hg : goodWord w = true) : w ∈ jj_tb := List.mem_filter.mpr ⟨List.mem_of_getElem? h, hg⟩
def jj_ws (K : jj_M) : List Cond := .code K.1 K.2.1 K.2.2.1 K.2.2.2.1 :: jj_tb
/-- what holds of the machine while a method runs -/
def jj_X (K : jj_M) (d : jj_D) (p : Program) (R : Room) (s : State) (m : MethodId) (args : Array Value) (meth : Method) (c : Code) (mc ms : Nat) : Prop :=
  p.tables.exec = Jvm.exec ∧ c.code = K.2.1 ∧ c.maxLocals = K.2.2.1 ∧ meth.sig.returnType = K.2.2.2.1 ∧ meth.locks = false ∧ s.vm.findClass K.1.cls = some m.cls ∧ (∀ w ∈ jj_tb, w.before args s = true) ∧ jj_K d s ∧ K.2.2.2.2.1 ≤ R.frames ∧ K.2.2.2.2.2 ≤ R.locals ∧ mc ≤ R.cells ∧ ms ≤ R.slots ∧ d.2.2.1 ≤ s.heap.size ∧ meth.name = K.1.name ∧ va_X d.2.2.2.1 d.2.2.2.2.1 d.2.2.2.2.2 s s.heap ∧ d.2.2.2.1 < d.2.2.1
def jj_l (d : jj_D) (L : List (Nat × Value)) : List (Nat × Value) := L.map (fun q => (q.1, jj_rv d.2.2.1 d.2.2.2.1 q.2))
def jj_S (K : jj_M) (d : jj_D) (s : State) (L : List (Nat × Value)) (h : jj_H) (mc ms bc bs : Nat) (H : Heap) (locs : List Loc) (cells slots : Nat) (ls : Array Slot) : Prop :=
  jj_P d.1 d.2.1 d.2.2.1 h H ∧ va_S (fun q => d.2.2.1 ≤ q) s.heap H locs ∧ cells + bc ≤ mc ∧ slots + bs ≤ ms ∧ lv_has ls K.2.2.1 (jj_l d L)
/-- the instruction that ends a method, and the value that it wants -/
def jj_rt (ret : Option FieldType) (v : Value) (i : Except DecodeError (Instr × Nat)) : Prop := match ret with
  | none => i = .ok (.return_, 1)
  | some .int => i = .ok (.ireturn, 1) ∧ ∃ x, v = .int x
  | some .boolean => i = .ok (.ireturn, 1) ∧ ∃ x, v = .int x ∧ (x = 0 ∨ x = 1)
  | some .long => i = .ok (.lreturn, 1) ∧ ∃ x, v = .long x
  | some (.object _) => i = .ok (.areturn, 1) ∧ ∃ x, v = .ref x
  | some (.array _) => i = .ok (.areturn, 1) ∧ ∃ x, v = .ref x
  | _ => False
def jj_rs (d : jj_D) (ret : Option FieldType) (v : Value) : List Value := match ret with
  | none => []
  | some _ => [jj_rv d.2.2.1 d.2.2.2.1 v]
def jj_ro (d : jj_D) (ret : Option FieldType) (v : Value) : Option Value := match ret with
  | none => none
  | some _ => some (jj_rv d.2.2.1 d.2.2.2.1 v)
def jj_R (K : jj_M) (d : jj_D) (p : Program) (l : Launch) (e : Env) (R : Room) (s : State) (m : MethodId) (args : Array Value) (below : List Frame) (meth : Method) (c : Code) (mc ms : Nat) (Q : Value → jj_H → Prop) (Z : State → Prop) : Prop :=
  ∀ (pc : Nat) (v : Value) (h : jj_H) (H : Heap) (locs : List Loc) (cells slots : Nat) (ls : Array Slot), Q v h → jj_P d.1 d.2.1 d.2.2.1 h H → va_S (fun q => d.2.2.1 ≤ q) s.heap H locs → cells ≤ mc → slots ≤ ms → jj_rt K.2.2.2.1 v (decode K.2.1 pc) → W p l e R s m args below meth c H locs cells slots Z (F0 m pc ls (jj_rs d K.2.2.2.1 v))
/-- from here the method comes to its end with Q; bc cells of bs slots are still to be had -/
def jj_WP (d : jj_D) (K : jj_M) (bc bs : Nat) (pc : Nat) (L : List (Nat × Value)) (st : List Value) (h : jj_H) (Q : Value → jj_H → Prop) : Prop :=
  ∀ (p : Program) (l : Launch) (e : Env) (R : Room) (s : State) (m : MethodId) (args : Array Value) (below : List Frame) (meth : Method) (c : Code) (mc ms : Nat) (Z : State → Prop), jj_X K d p R s m args meth c mc ms → jj_R K d p l e R s m args below meth c mc ms Q Z →
    ∀ (H : Heap) (locs : List Loc) (cells slots : Nat) (ls : Array Slot), jj_S K d s L h mc ms bc bs H locs cells slots ls → W p l e R s m args below meth c H locs cells slots Z (F0 m pc ls (st.map (jj_rv d.2.2.1 d.2.2.2.1)))
/-- a method's contract: with these arguments on this heap it ends with Q -/
def jj_I (d : jj_D) (h : jj_H) (U : State) : Prop := jj_K d U ∧ va_X d.2.2.2.1 d.2.2.2.2.1 d.2.2.2.2.2 U U.heap ∧ d.2.2.2.1 < d.2.2.1 ∧ d.2.2.1 ≤ U.heap.size ∧ jj_P d.1 d.2.1 d.2.2.1 h U.heap
def jj_Q (K : jj_M) (d : jj_D) (Q : Value → jj_H → Prop) : Array Value → State → Outcome → State → Prop := fun _ st oc t => (∃ (v : Value) (h' : jj_H), oc = .returned (jj_ro d K.2.2.2.1 v) ∧ Q v h' ∧ jj_P d.1 d.2.1 d.2.2.1 h' t.heap) ∧ va_F (fun q => d.2.2.1 ≤ q) st t
def jj_C (K : jj_M) (bc bs : Nat) (as : List Value) (h : jj_H) (Q : Value → jj_H → Prop) : Prop :=
  ∀ (l : Launch) (d : jj_D), Met l K.1 (jj_ws K) ({ frames := K.2.2.2.2.1, cells := bc, slots := bs, locals := K.2.2.2.2.2 } : Room) (va_Pc (as.map (jj_rv d.2.2.1 d.2.2.2.1)) (fun U => jj_I d h U)) (jj_Q K d Q) bc bs (fun q => d.2.2.1 ≤ q)
/-! small rows on them -/
theorem jj_at {d : jj_D} {ls : Array Slot} {nL : Nat} {L : List (Nat × Value)} (h : lv_has ls nL (jj_l d L)) (j : Nat) {i : Nat} {v : Value} (hj : L[j]? = some (i, v)) : ls[i]? = some (.val (jj_rv d.2.2.1 d.2.2.2.1 v)) :=
  h.2.2 (i, jj_rv d.2.2.1 d.2.2.2.1 v) (List.mem_map.mpr ⟨(i, v), List.mem_of_getElem? hj, rfl⟩)
theorem jj_fil (d : jj_D) (L : List (Nat × Value)) (i : Nat) : (jj_l d L).filter (fun q => !(q.1 == i) && !(q.1 + 1 == i && q.2.category == 2)) = jj_l d (L.filter (fun q => !(q.1 == i) && !(q.1 + 1 == i && q.2.category == 2))) := by
  unfold jj_l
  rw [List.filter_map]
  congr 1
  apply List.filter_congr
  intro q _
  simp [jj_rv_cat]
theorem jj_fil2 (d : jj_D) (L : List (Nat × Value)) (i : Nat) : (jj_l d L).filter (fun q => !(q.1 == i) && (!(q.1 == i + 1) && !(q.1 + 1 == i && q.2.category == 2))) = jj_l d (L.filter (fun q => !(q.1 == i) && (!(q.1 == i + 1) && !(q.1 + 1 == i && q.2.category == 2)))) := by
  unfold jj_l
  rw [List.filter_map]
  congr 1
  apply List.filter_congr
  intro q _
  simp [jj_rv_cat]
theorem jj_S.sub {K : jj_M} {d : jj_D} {s : State} {L L' : List (Nat × Value)} {h : jj_H} {mc ms bc bs : Nat} {H : Heap} {locs : List Loc} {cells slots : Nat} {ls : Array Slot} (S : jj_S K d s L h mc ms bc bs H locs cells slots ls) (hL : ∀ q ∈ L', q ∈ L) : jj_S K d s L' h mc ms bc bs H locs cells slots ls := by
  obtain ⟨h1, h2, h3, h4, h5, h6, h7⟩ := S
  refine ⟨h1, h2, h3, h4, h5, h6, fun q hq => ?_⟩
  obtain ⟨x, hx, rfl⟩ := List.mem_map.mp hq
  exact h7 _ (List.mem_map.mpr ⟨x, hL x hx, rfl⟩)
/-- fewer locals, in another order -/
theorem j_sub {d : jj_D} {K : jj_M} {bc bs pc : Nat} {L L' : List (Nat × Value)} {st : List Value} {h : jj_H} {Q : Value → jj_H → Prop} (ks : List Nat) (hL : ks.filterMap (fun k => L[k]?) = L') (k : jj_WP d K bc bs pc L' st h Q) : jj_WP d K bc bs pc L st h Q := by
  intro p l e R s m args below meth c mc ms Z C RR H locs cells slots ls S
  refine k p l e R s m args below meth c mc ms Z C RR H locs cells slots ls (S.sub fun q hq => ?_)
  rw [← hL] at hq
  obtain ⟨i, -, hi⟩ := List.mem_filterMap.mp hq
  exact List.mem_of_getElem? hi
theorem jj_WP.mono {d : jj_D} {K : jj_M} {bc bs pc : Nat} {L : List (Nat × Value)} {st : List Value} {h : jj_H} {Q Q' : Value → jj_H → Prop} (k : jj_WP d K bc bs pc L st h Q') (hq : ∀ v h, Q' v h → Q v h) : jj_WP d K bc bs pc L st h Q := by
  intro p l e R s m args below meth c mc ms Z C RR H locs cells slots ls S
  exact k p l e R s m args below meth c mc ms Z C (fun pc v h H locs cells slots ls hQ => RR pc v h H locs cells slots ls (hq v h hQ)) H locs cells slots ls S
theorem jj_WP.less {d : jj_D} {K : jj_M} {bc bs bc' bs' pc : Nat} {L : List (Nat × Value)} {st : List Value} {h : jj_H} {Q : Value → jj_H → Prop} (h1 : bc' ≤ bc) (h2 : bs' ≤ bs) (k : jj_WP d K bc' bs' pc L st h Q) : jj_WP d K bc bs pc L st h Q := by
  intro p l e R s m args below meth c mc ms Z C RR H locs cells slots ls S
  exact k p l e R s m args below meth c mc ms Z C RR H locs cells slots ls ⟨S.1, S.2.1, by have := S.2.2.1; omega, by have := S.2.2.2.1; omega, S.2.2.2.2⟩
theorem jj_args (d : jj_D) (as : List Value) (i : Nat) : lv_args i (as.map (jj_rv d.2.2.1 d.2.2.2.1)) = jj_l d (lv_args i as) := by
  induction as generalizing i with
  | nil => rfl
  | cons v vs ih => simp only [List.map_cons, lv_args, jj_l, List.map_cons, jj_rv_cat]; rw [ih]; rfl
theorem jj_slots (d : jj_D) (as : List Value) : (lg_sl (as.map (jj_rv d.2.2.1 d.2.2.2.1))).length = (lg_sl as).length := by
  induction as with
  | nil => rfl
  | cons v vs ih =>
    unfold lg_sl at ih ⊢
    simp only [List.map_cons, List.flatMap_cons, List.length_append, jj_rv_cat, ih]
    by_cases hv : v.category = 2 <;> simp [hv]
/-- a method from its first instruction -/
theorem j_enter {K : jj_M} {bc bs : Nat} {as : List Value} {h : jj_H} {Q : Value → jj_H → Prop} {L : List (Nat × Value)} (hy : plainName K.1.cls = true) (hn : (lg_sl as).length ≤ K.2.2.1) (hL : lv_args 0 as = L) (k : ∀ d : jj_D, jj_WP d K bc bs 0 L [] h Q) : jj_C K bc bs as h Q := by
  intro l d
  refine Met.ofW (cc := K.2.1) (maxL := K.2.2.1) (ret := K.2.2.2.1) hy rfl ?_
  intro p e s m args below meth c s₁ B hml hv
  obtain ⟨rfl, hK, hX, hbB, hBs, hP⟩ := hv
  have hts : ∀ w ∈ jj_ws K, w.before _ s = true := atoms_spec (ws := jj_ws K) B.pre
  have hown : s.vm.findClass K.1.cls = some m.cls := findClass_of_methodNamed B.named
  have hnm : meth.name = K.1.name := (name_of_methodNamed B.named B.method).1
  have hl := lv_entry (as.map (jj_rv d.2.2.1 d.2.2.2.1)) (n := K.2.2.1) (by rw [jj_slots]; exact hn)
  rw [lg_entry_eq]
  generalize (lg_sl (as.map (jj_rv d.2.2.1 d.2.2.2.1)) ++ List.replicate (K.2.2.1 - (lg_sl (as.map (jj_rv d.2.2.1 d.2.2.2.1))).length) Slot.unset).toArray = ls at hl ⊢
  rw [jj_args, hL] at hl
  have hlk := B.notSynchronized
  have hb := B.bytes
  have hx := B.exec
  have hr := B.returns
  refine k d p l e (headSpec (jj_ws K) _).room s m _ below meth c bc bs _ ⟨hx, hb, hml, hr, hlk, hown, fun w hw => hts w (List.mem_cons_of_mem _ hw), hK, Nat.le_refl _, Nat.le_refl _, Nat.le_refl _, Nat.le_refl _, hBs, hnm, hX, hbB⟩ ?_ s.heap [] 0 0 ls ⟨hP, va_S.rf, by omega, by omega, hl⟩
  intro pc v h2 H locs cells slots ls hQ hP2 hS h1 h3 hrt
  refine W.widen (k := bc) (n := bs) h1 h3 ?_
  have hq : ∀ t : State, t.heap = H → jj_Q K d Q (as.map (jj_rv d.2.2.1 d.2.2.2.1)).toArray s (.returned (jj_ro d K.2.2.2.1 v)) t := fun t ht => ⟨⟨v, h2, rfl, hQ, by rw [ht]; exact hP2⟩, hS.F ht⟩
  generalize hre : K.2.2.2.1 = rt at hrt hr hq ⊢
  cases rt with
  | none => exact W.vret hx hb hr (fun t ht _ => hq t ht) hS.2.2 hrt
  | some t =>
    cases t with
    | int =>
      obtain ⟨hd, x, rfl⟩ := hrt
      exact W.iret hx hb hr (fun t ht _ => hq t ht) hS.2.2 hd
    | boolean =>
      obtain ⟨hd, x, rfl, hx01⟩ := hrt
      exact W.zret hx hb hr (by rcases hx01 with rfl | rfl <;> decide) (fun t ht _ => hq t ht) hS.2.2 hd
    | long =>
      obtain ⟨hd, x, rfl⟩ := hrt
      exact W.lret hx hb hr (fun t ht _ => hq t ht) hS.2.2 hd
    | object n =>
      obtain ⟨hd, x, rfl⟩ := hrt
      exact W.aret hx hb hr (Or.inl ⟨n, rfl⟩) (by cases x with | zero => exact Or.inl rfl | succ x => exact Or.inr ⟨_, rfl⟩) (fun t ht _ => hq t ht) hS.2.2 hd
    | array n =>
      obtain ⟨hd, x, rfl⟩ := hrt
      exact W.aret hx hb hr (Or.inr ⟨n, rfl⟩) (by cases x with | zero => exact Or.inl rfl | succ x => exact Or.inr ⟨_, rfl⟩) (fun t ht _ => hq t ht) hS.2.2 hd
    | _ => exact absurd hrt (by simp [jj_rt])
end
section
/-! the cells of the small heap, after a write or a making -/
def jj_cls (ci : Nat) (C : String) (T : u_T) (N : Nat) (ty : Nat → FieldType) : Prop :=
  jj_cl[ci]? = some (C, T, N) ∧ (∀ w ∈ u_ws C T N, w ∈ jj_tb) ∧ (∀ k, k < N → parseFieldDescriptor (T k).2.2.1 = some (ty k)) ∧ (∀ a, a < N → ∀ b, b < N → a ≠ b → (T a).2.1 ≠ (T b).2.1) ∧ (jj_T ci).length = N ∧ ci < 19 ∧ (∀ k, k < N → (T k).1 = C)
theorem jj_E_obj {dA : Nat → ClassId} {B : Nat} {h : jj_H} {a ci : Nat} (hk : jK h a = ci + 1) (hc : ci < 19) : jj_E dA B h a = .inr (ci, jj_fs B h ci a) := by
  unfold jj_E
  rw [hk, if_pos (by omega)]
  simp
theorem jj_E_arr {dA : Nat → ClassId} {B : Nat} {h : jj_H} {a k : Nat} (hk : jK h a = k) (hc : 20 ≤ k) : jj_E dA B h a = .inl (dA k, jN h a, jj_ac B h k a) := by
  unfold jj_E
  rw [hk, if_neg (by omega)]
theorem jj_fs_get {B : Nat} {h : jj_H} {ci a k : Nat} (hk : k < (jj_T ci).length) : (jj_fs B h ci a)[k]? = some (jj_fv B h ((jj_T ci).getD k 0) (50 * ci + k) a) := by
  unfold jj_fs
  simp [hk]
theorem jj_fs_len {B : Nat} {h : jj_H} {ci a : Nat} : (jj_fs B h ci a).length = (jj_T ci).length := by simp [jj_fs]
theorem jj_E_wI {dA : Nat → ClassId} {B : Nat} {h : jj_H} {t a i : Nat} {v : Int32} {b : Nat} (hb : b ≠ a) : jj_E dA B (wI h t a i v) b = jj_E dA B h b := by
  simp only [jj_E, jj_fs, jj_fv, jj_ac, jK_wI, jN_wI, jI_wI, jL_wI, jR_wI, hb, false_and, and_false, ite_false, if_false]
  try rfl
theorem jj_E_wL {dA : Nat → ClassId} {B : Nat} {h : jj_H} {t a i : Nat} {v : Int64} {b : Nat} (hb : b ≠ a) : jj_E dA B (wL h t a i v) b = jj_E dA B h b := by
  simp only [jj_E, jj_fs, jj_fv, jj_ac, jK_wL, jN_wL, jI_wL, jL_wL, jR_wL, hb, false_and, and_false, ite_false, if_false]
  try rfl
theorem jj_E_wR {dA : Nat → ClassId} {B : Nat} {h : jj_H} {t a i : Nat} {v : Nat} {b : Nat} (hb : b ≠ a) : jj_E dA B (wR h t a i v) b = jj_E dA B h b := by
  simp only [jj_E, jj_fs, jj_fv, jj_ac, jK_wR, jN_wR, jI_wR, jL_wR, jR_wR, hb, false_and, and_false, ite_false, if_false]
  try rfl
theorem jj_E_wC {dA : Nat → ClassId} {B : Nat} {h : jj_H} {a sp c dp n b : Nat} (hb : b ≠ c) : jj_E dA B (wC h a sp c dp n) b = jj_E dA B h b := by
  simp only [jj_E, jj_fs, jj_fv, jj_ac, jK_wC, jN_wC, jI_wC, jL_wC, jR_wC, hb, false_and, and_false, ite_false, if_false]
  try rfl
theorem jj_E_wA {dA : Nat → ClassId} {B : Nat} {h : jj_H} {k n b : Nat} (hb : b ≠ jZ h + 1) : jj_E dA B (wA h k n) b = jj_E dA B h b := by
  simp only [jj_E, jj_fs, jj_fv, jj_ac, jK_wA, jN_wA, jI_wA, jL_wA, jR_wA, hb, if_false]
theorem jj_fs_set {B : Nat} {h h' : jj_H} {ci a k : Nat} {v : Value} (h1 : ∀ j, j < (jj_T ci).length → j ≠ k → jj_fv B h' ((jj_T ci).getD j 0) (50 * ci + j) a = jj_fv B h ((jj_T ci).getD j 0) (50 * ci + j) a) (h2 : jj_fv B h' ((jj_T ci).getD k 0) (50 * ci + k) a = v) : jj_fs B h' ci a = (jj_fs B h ci a).set k v := by
  apply List.ext_getElem?
  intro j
  rw [List.getElem?_set]
  by_cases hj : j < (jj_T ci).length
  · rw [jj_fs_get hj, jj_fs_get hj, jj_fs_len]
    by_cases hjk : k = j
    · subst hjk
      rw [if_pos rfl, if_pos hj, h2]
    · rw [if_neg hjk, h1 j hj (fun e => hjk e.symm)]
  · have e1 : (jj_fs B h' ci a)[j]? = none := List.getElem?_eq_none (by rw [jj_fs_len]; omega)
    have e2 : (jj_fs B h ci a)[j]? = none := List.getElem?_eq_none (by rw [jj_fs_len]; omega)
    rw [e1, e2, jj_fs_len]
    by_cases hjk : k = j
    · rw [if_pos hjk, if_neg (by omega)]
    · rw [if_neg hjk]
theorem jj_fs_wI {B : Nat} {h : jj_H} {ci a k : Nat} {v : Int32} (ht : (jj_T ci).getD k 0 ≠ 1 ∧ (jj_T ci).getD k 0 ≠ 2) : jj_fs B (wI h (50 * ci + k) a 0 v) ci a = (jj_fs B h ci a).set k (.int v) := by
  refine jj_fs_set (fun j hj hne => ?_) ?_
  · have hne' : ¬ (50 * ci + j = 50 * ci + k) := by omega
    simp only [jj_fv, jI_wI, jL_wI, jR_wI, hne', false_and, if_false]
  · simp only [jj_fv, jI_wI]
    rw [if_neg ht.1, if_neg ht.2]
    simp
theorem jj_fs_wL {B : Nat} {h : jj_H} {ci a k : Nat} {v : Int64} (ht : (jj_T ci).getD k 0 = 1) : jj_fs B (wL h (50 * ci + k) a 0 v) ci a = (jj_fs B h ci a).set k (.long v) := by
  refine jj_fs_set (fun j hj hne => ?_) ?_
  · have hne' : ¬ (50 * ci + j = 50 * ci + k) := by omega
    simp only [jj_fv, jI_wL, jL_wL, jR_wL, hne', false_and, if_false]
  · simp only [jj_fv, jL_wL]
    rw [if_pos ht]
    simp
theorem jj_fs_wR {B : Nat} {h : jj_H} {ci a k : Nat} {v : Nat} (ht : (jj_T ci).getD k 0 = 2) : jj_fs B (wR h (50 * ci + k) a 0 v) ci a = (jj_fs B h ci a).set k (va_rf (jj_o B v)) := by
  refine jj_fs_set (fun j hj hne => ?_) ?_
  · have hne' : ¬ (50 * ci + j = 50 * ci + k) := by omega
    simp only [jj_fv, jI_wR, jL_wR, jR_wR, hne', false_and, if_false]
  · simp only [jj_fv, jR_wR]
    rw [if_neg (by omega), if_pos ht]
    simp
theorem jj_P.upd {D : va_G} {dA : Nat → ClassId} {B : Nat} {h h' : jj_H} {H H1 : Heap} {i : Nat} {e' : va_E} (hP : jj_P D dA B h H) (hz : jZ h' = jZ h) (hk : ∀ a, jK h' a = jK h a) (ho : ∀ b, b ≠ i + 1 → jj_E dA B h' b = jj_E dA B h b) (he : jj_E dA B h' (i + 1) = e') (z : H1.size = H.size) (a1 : va_at D jj_cl (B + i, e') H1) (oq : ∀ q : Nat, q ≠ B + i → H1[q]? = H[q]?) : jj_P D dA B h' H1 := by
  obtain ⟨h1, h2, h3⟩ := hP
  refine ⟨by rw [z, hz]; exact h1, fun a ha => by rw [hz]; exact h2 a (by rw [← hk]; exact ha), fun j hj => ?_⟩
  by_cases hji : j = i
  · subst hji
    rw [he]
    exact a1
  · rw [ho (j + 1) (by omega)]
    exact (h3 j (by omega)).kept (oq (B + j) (by omega))
theorem jj_P.push {D : va_G} {dA : Nat → ClassId} {B : Nat} {h : jj_H} {H H1 : Heap} {k n : Nat} {e' : va_E} (hP : jj_P D dA B h H) (he : jj_E dA B (wA h k n) (jZ h + 1) = e') (z : H1.size = H.size + 1) (a1 : va_at D jj_cl (H.size, e') H1) (oq : ∀ q : Nat, q < H.size → H1[q]? = H[q]?) : jj_P D dA B (wA h k n) H1 := by
  obtain ⟨h1, h2, h3⟩ := hP
  refine ⟨by rw [z, jZ_wA]; omega, fun a ha => ?_, fun j hj => ?_⟩
  · rw [jK_wA] at ha
    rw [jZ_wA]
    by_cases hh : a = jZ h + 1
    · exact ⟨jZ h, hh, by omega⟩
    · rw [if_neg hh] at ha
      obtain ⟨i, e1, e2⟩ := h2 a ha
      exact ⟨i, e1, by omega⟩
  · rw [jZ_wA] at hj
    by_cases hh : j = jZ h
    · subst hh
      rw [he, ← h1]
      exact a1
    · rw [jj_E_wA (by omega)]
      exact (h3 j (by omega)).kept (oq (B + j) (by omega))
theorem jj_P.obj {D : va_G} {dA : Nat → ClassId} {B : Nat} {h : jj_H} {H : Heap} {a ci : Nat} (hP : jj_P D dA B h H) (hk : jK h a = ci + 1) (hc : ci < 19) : ∃ i, a = i + 1 ∧ i < jZ h ∧ va_at D jj_cl (B + i, .inr (ci, jj_fs B h ci a)) H := by
  obtain ⟨i, rfl, hi⟩ := hP.2.1 a (by omega)
  have h3 := hP.2.2 i hi
  rw [jj_E_obj hk hc] at h3
  exact ⟨i, rfl, hi, h3⟩
theorem jj_P.arr {D : va_G} {dA : Nat → ClassId} {B : Nat} {h : jj_H} {H : Heap} {a k : Nat} (hP : jj_P D dA B h H) (hk : jK h a = k) (hc : 20 ≤ k) : ∃ i, a = i + 1 ∧ i < jZ h ∧ va_at D jj_cl (B + i, .inl (dA k, jN h a, jj_ac B h k a)) H := by
  obtain ⟨i, rfl, hi⟩ := hP.2.1 a (by omega)
  have h3 := hP.2.2 i hi
  rw [jj_E_arr hk hc] at h3
  exact ⟨i, rfl, hi, h3⟩
theorem jj_one {D : va_G} {cl : List vw_C} {q : Nat × va_E} {H : Heap} (h : va_at D cl q H) : va_P D cl [q] H := fun k x hx => by
  have hz : k < 1 := (List.getElem?_eq_some_iff.mp hx).1
  rw [show k = 0 by omega] at hx
  cases hx
  exact h
section JPUT
variable {p : Program} {l : Launch} {e : Env} {R : Room} {s : State} {m : MethodId} {args : Array Value} {below : List Frame} {meth : Method} {c : Code} {H : Heap} {locs : List Loc} {cells slots : Nat} {Q : State → Prop}
variable {cc : ByteArray} {pc : Nat} {ls : Array Slot} {rest : List Value} {D : va_G} {cl : List vw_C} {a : Nat} {tys : List (ClassId × FieldType)}
/-- a field is written: the heap behind it has the same size and the same other cells -/
theorem jj_putW (hexec : p.tables.exec = Jvm.exec) (hb : c.code = cc) {own C : String} {T : u_T} {N ci index : Nat} {Ts : List Cond} (hts : ∀ w ∈ Ts, w.before args s = true) (hin : ∀ w ∈ u_ws C T N, w ∈ Ts) (ty0 : Nat → FieldType) (hty : ∀ k, k < N → parseFieldDescriptor (T k).2.2.1 = some (ty0 k)) (hnm : ∀ a, a < N → ∀ b, b < N → a ≠ b → (T a).2.1 ≠ (T b).2.1) (hown : s.vm.findClass own = some m.cls) (hK : va_K D cl tys s) {fs : List Value} (hP : va_at D cl (a, .inr (ci, fs)) H) (hc : cl[ci]? = some (C, T, N)) (k : Nat) (hk : k < N) (hlink : (Cond.fieldLink own index (T k).1 (T k).2.1 (T k).2.2.1).before args s = true) (hfin : (T k).2.2.2 = false ∨ ((T k).2.2.2 = true ∧ meth.name = "<init>" ∧ (T k).1 = own)) {v : Value} (hn : narrow (ty0 k) v = v) (hfit : fits (ty0 k) v = true) (hl : k < fs.length)
    (hdg : decode cc pc = .ok (.putfield index, 3)) (kk : ∀ (H1 : Heap) (j : Nat), va_at D cl (a, .inr (ci, fs.set k v)) H1 → H1.size = H.size → (∀ q : Nat, q ≠ a → H1[q]? = H[q]?) → W p l e R s m args below meth c H1 (locs ++ [⟨a, j⟩]) cells slots Q (F0 m (pc + 3) ls rest)) : W p l e R s m args below meth c H locs cells slots Q (F0 m pc ls (v :: .ref a :: rest)) := by
  have hap := va_apart (own := own) hts hin ty0 hty hnm hK hc
  obtain ⟨r, h1, cell, q1, q2, q3, q4⟩ := hP
  have hr : r = (C, T, N) := Option.some.inj (h1.symm.trans hc)
  subst hr
  obtain ⟨hS, hfc, kC, hkC, hkind⟩ := hK.1 ci _ hc
  obtain ⟨cf, kf, fi, f, hi, hsl⟩ := hS k hk
  have hlay := hts _ (hin _ (u_in_lay hk))
  unfold u_lay at hlay
  have hst := (u_facts hfc hkC (u_lays hts hin hk) hi).1
  rcases hfin with hfin | ⟨hfin, hin2, hdecl⟩
  · rw [if_neg (by rw [hfin]; decide)] at hlay
    have h6 := u_store hfc hkC hkind hlay hi (hty k hk) hn hfit
    refine W.putK hexec hb (f := f) ⟨hown, hlink, ⟨_, _, _, hi⟩, hst⟩ (by rw [q2]; exact h6) q1 q3 (by rw [hsl]; exact k2_hasslot (q4 k hk)) rfl rfl hdg fun H' e1 e2 e3 => ?_
    rw [hsl] at e1
    exact kk H' _ ⟨_, hc, t_OB.to (V := updV (vp_V fs) k v) ⟨_, e1, q2, q3, t_set q4 hap hk v⟩ (fun j _ => vp_updV_set hl v j)⟩ e2 e3
  · rw [if_pos hfin] at hlay
    have hcf : m.cls = cf := by
      obtain ⟨_, _, c', _, _, _, -, -, hf', -, -, -, hown2, -⟩ := Cond.laysFinal_spec hlay
      have e1 : c' = cf := by have := hi.symm.trans hf'; simp at this; exact this.1.symm
      rw [hdecl] at hown2
      rw [← e1]; exact Option.some.inj (hown.symm.trans hown2)
    have h6 := u_fits hfc hkC hkind (Or.inr hlay) hi (hty k hk) hn hfit
    refine W.putFinK hexec hb hown hlink hi hst hcf hin2 (by rw [q2]; exact h6) q1 q3 (by rw [hsl]; exact k2_hasslot (q4 k hk)) rfl rfl hdg fun H' e1 e2 e3 => ?_
    rw [hsl] at e1
    exact kk H' _ ⟨_, hc, t_OB.to (V := updV (vp_V fs) k v) ⟨_, e1, q2, q3, t_set q4 hap hk v⟩ (fun j _ => vp_updV_set hl v j)⟩ e2 e3
theorem jj_S.put {A : Nat → Prop} {H0 H1 : Heap} {j : Nat} (h : va_S A H0 H locs) (z : H1.size = H.size) (oq : ∀ q : Nat, q ≠ a → H1[q]? = H[q]?) (ha : A a) : va_S A H0 H1 (locs ++ [⟨a, j⟩]) := va_S.put h z oq ha
end JPUT
end
section
section JRULES
variable {d : jj_D} {K : jj_M} {bc bs pc : Nat} {L : List (Nat × Value)} {st : List Value} {h : jj_H} {Q : Value → jj_H → Prop}
theorem j_iconst {n : Int} {v : Int32} (dg : decode K.2.1 pc = .ok (.iconst n, 1)) (hv : Int32.ofInt n = v) (k : jj_WP d K bc bs (pc + 1) L (.int v :: st) h Q) : jj_WP d K bc bs pc L (st) h Q := by
  intro p l e R s m args below meth c mc ms Z C RR H locs cells slots ls S
  exact lv_iconst C.1 C.2.1 dg hv (k p l e R s m args below meth c mc ms Z C RR H locs cells slots ls S)
theorem j_bipush {n : Int} {v : Int32} (dg : decode K.2.1 pc = .ok (.bipush n, 2)) (hv : (Int8.ofInt n).toInt32 = v) (k : jj_WP d K bc bs (pc + 2) L (.int v :: st) h Q) : jj_WP d K bc bs pc L (st) h Q := by
  intro p l e R s m args below meth c mc ms Z C RR H locs cells slots ls S
  exact lv_bipush C.1 C.2.1 dg hv (k p l e R s m args below meth c mc ms Z C RR H locs cells slots ls S)
theorem j_sipush {n : Int} {v : Int32} (dg : decode K.2.1 pc = .ok (.sipush n, 3)) (hv : (Int16.ofInt n).toInt32 = v) (k : jj_WP d K bc bs (pc + 3) L (.int v :: st) h Q) : jj_WP d K bc bs pc L (st) h Q := by
  intro p l e R s m args below meth c mc ms Z C RR H locs cells slots ls S
  exact lv_sipush C.1 C.2.1 dg hv (k p l e R s m args below meth c mc ms Z C RR H locs cells slots ls S)
theorem j_lconst {n : Fin 2} {v : Int64} (dg : decode K.2.1 pc = .ok (.lconst n, 1)) (hv : Int64.ofNat (n : Nat) = v) (k : jj_WP d K bc bs (pc + 1) L (.long v :: st) h Q) : jj_WP d K bc bs pc L (st) h Q := by
  intro p l e R s m args below meth c mc ms Z C RR H locs cells slots ls S
  exact lv_lconst C.1 C.2.1 dg hv (k p l e R s m args below meth c mc ms Z C RR H locs cells slots ls S)
theorem j_iadd {x y : Int32} (dg : decode K.2.1 pc = .ok (.iadd, 1)) (k : jj_WP d K bc bs (pc + 1) L (.int (x + y) :: st) h Q) : jj_WP d K bc bs pc L (.int y :: .int x :: st) h Q := by
  intro p l e R s m args below meth c mc ms Z C RR H locs cells slots ls S
  exact lv_iadd C.1 C.2.1 dg (k p l e R s m args below meth c mc ms Z C RR H locs cells slots ls S)
theorem j_isub {x y : Int32} (dg : decode K.2.1 pc = .ok (.isub, 1)) (k : jj_WP d K bc bs (pc + 1) L (.int (x - y) :: st) h Q) : jj_WP d K bc bs pc L (.int y :: .int x :: st) h Q := by
  intro p l e R s m args below meth c mc ms Z C RR H locs cells slots ls S
  exact lv_isub C.1 C.2.1 dg (k p l e R s m args below meth c mc ms Z C RR H locs cells slots ls S)
theorem j_imul {x y : Int32} (dg : decode K.2.1 pc = .ok (.imul, 1)) (k : jj_WP d K bc bs (pc + 1) L (.int (x * y) :: st) h Q) : jj_WP d K bc bs pc L (.int y :: .int x :: st) h Q := by
  intro p l e R s m args below meth c mc ms Z C RR H locs cells slots ls S
  exact lv_imul C.1 C.2.1 dg (k p l e R s m args below meth c mc ms Z C RR H locs cells slots ls S)
theorem j_iand {x y : Int32} (dg : decode K.2.1 pc = .ok (.iand, 1)) (k : jj_WP d K bc bs (pc + 1) L (.int (x &&& y) :: st) h Q) : jj_WP d K bc bs pc L (.int y :: .int x :: st) h Q := by
  intro p l e R s m args below meth c mc ms Z C RR H locs cells slots ls S
  exact lv_iand C.1 C.2.1 dg (k p l e R s m args below meth c mc ms Z C RR H locs cells slots ls S)
theorem j_ior {x y : Int32} (dg : decode K.2.1 pc = .ok (.ior, 1)) (k : jj_WP d K bc bs (pc + 1) L (.int (x ||| y) :: st) h Q) : jj_WP d K bc bs pc L (.int y :: .int x :: st) h Q := by
  intro p l e R s m args below meth c mc ms Z C RR H locs cells slots ls S
  exact lv_ior C.1 C.2.1 dg (k p l e R s m args below meth c mc ms Z C RR H locs cells slots ls S)
theorem j_ixor {x y : Int32} (dg : decode K.2.1 pc = .ok (.ixor, 1)) (k : jj_WP d K bc bs (pc + 1) L (.int (x ^^^ y) :: st) h Q) : jj_WP d K bc bs pc L (.int y :: .int x :: st) h Q := by
  intro p l e R s m args below meth c mc ms Z C RR H locs cells slots ls S
  exact lv_ixor C.1 C.2.1 dg (k p l e R s m args below meth c mc ms Z C RR H locs cells slots ls S)
theorem j_ishl {x y : Int32} (dg : decode K.2.1 pc = .ok (.ishl, 1)) (k : jj_WP d K bc bs (pc + 1) L (.int (x <<< (y &&& 31)) :: st) h Q) : jj_WP d K bc bs pc L (.int y :: .int x :: st) h Q := by
  intro p l e R s m args below meth c mc ms Z C RR H locs cells slots ls S
  exact lv_ishl C.1 C.2.1 dg (k p l e R s m args below meth c mc ms Z C RR H locs cells slots ls S)
theorem j_ishr {x y : Int32} (dg : decode K.2.1 pc = .ok (.ishr, 1)) (k : jj_WP d K bc bs (pc + 1) L (.int (x >>> (y &&& 31)) :: st) h Q) : jj_WP d K bc bs pc L (.int y :: .int x :: st) h Q := by
  intro p l e R s m args below meth c mc ms Z C RR H locs cells slots ls S
  exact lv_ishr C.1 C.2.1 dg (k p l e R s m args below meth c mc ms Z C RR H locs cells slots ls S)
theorem j_iushr {x y : Int32} (dg : decode K.2.1 pc = .ok (.iushr, 1)) (k : jj_WP d K bc bs (pc + 1) L (.int (x.toUInt32 >>> (y.toUInt32 &&& Int32.toUInt32 31)).toInt32 :: st) h Q) : jj_WP d K bc bs pc L (.int y :: .int x :: st) h Q := by
  intro p l e R s m args below meth c mc ms Z C RR H locs cells slots ls S
  exact lv_iushr C.1 C.2.1 dg rfl (k p l e R s m args below meth c mc ms Z C RR H locs cells slots ls S)
theorem j_idiv {x y : Int32} (dg : decode K.2.1 pc = .ok (.idiv, 1)) (hne : ¬ y = 0) (k : jj_WP d K bc bs (pc + 1) L (.int (x / y) :: st) h Q) : jj_WP d K bc bs pc L (.int y :: .int x :: st) h Q := by
  intro p l e R s m args below meth c mc ms Z C RR H locs cells slots ls S
  exact lv_idiv C.1 C.2.1 dg hne (k p l e R s m args below meth c mc ms Z C RR H locs cells slots ls S)
theorem j_irem {x y : Int32} (dg : decode K.2.1 pc = .ok (.irem, 1)) (hne : ¬ y = 0) (k : jj_WP d K bc bs (pc + 1) L (.int (x - x / y * y) :: st) h Q) : jj_WP d K bc bs pc L (.int y :: .int x :: st) h Q := by
  intro p l e R s m args below meth c mc ms Z C RR H locs cells slots ls S
  exact lv_irem C.1 C.2.1 dg hne (k p l e R s m args below meth c mc ms Z C RR H locs cells slots ls S)
theorem j_ineg {x : Int32} (dg : decode K.2.1 pc = .ok (.ineg, 1)) (k : jj_WP d K bc bs (pc + 1) L (.int (-x) :: st) h Q) : jj_WP d K bc bs pc L (.int x :: st) h Q := by
  intro p l e R s m args below meth c mc ms Z C RR H locs cells slots ls S
  exact lv_ineg C.1 C.2.1 dg (k p l e R s m args below meth c mc ms Z C RR H locs cells slots ls S)
theorem j_ladd {x y : Int64} (dg : decode K.2.1 pc = .ok (.ladd, 1)) (k : jj_WP d K bc bs (pc + 1) L (.long (x + y) :: st) h Q) : jj_WP d K bc bs pc L (.long y :: .long x :: st) h Q := by
  intro p l e R s m args below meth c mc ms Z C RR H locs cells slots ls S
  exact lv_ladd C.1 C.2.1 dg (k p l e R s m args below meth c mc ms Z C RR H locs cells slots ls S)
theorem j_lsub {x y : Int64} (dg : decode K.2.1 pc = .ok (.lsub, 1)) (k : jj_WP d K bc bs (pc + 1) L (.long (x - y) :: st) h Q) : jj_WP d K bc bs pc L (.long y :: .long x :: st) h Q := by
  intro p l e R s m args below meth c mc ms Z C RR H locs cells slots ls S
  exact lv_lsub C.1 C.2.1 dg (k p l e R s m args below meth c mc ms Z C RR H locs cells slots ls S)
theorem j_lmul {x y : Int64} (dg : decode K.2.1 pc = .ok (.lmul, 1)) (k : jj_WP d K bc bs (pc + 1) L (.long (x * y) :: st) h Q) : jj_WP d K bc bs pc L (.long y :: .long x :: st) h Q := by
  intro p l e R s m args below meth c mc ms Z C RR H locs cells slots ls S
  exact lv_lmul C.1 C.2.1 dg (k p l e R s m args below meth c mc ms Z C RR H locs cells slots ls S)
theorem j_land {x y : Int64} (dg : decode K.2.1 pc = .ok (.land, 1)) (k : jj_WP d K bc bs (pc + 1) L (.long (x &&& y) :: st) h Q) : jj_WP d K bc bs pc L (.long y :: .long x :: st) h Q := by
  intro p l e R s m args below meth c mc ms Z C RR H locs cells slots ls S
  exact lv_land C.1 C.2.1 dg (k p l e R s m args below meth c mc ms Z C RR H locs cells slots ls S)
theorem j_lor {x y : Int64} (dg : decode K.2.1 pc = .ok (.lor, 1)) (k : jj_WP d K bc bs (pc + 1) L (.long (x ||| y) :: st) h Q) : jj_WP d K bc bs pc L (.long y :: .long x :: st) h Q := by
  intro p l e R s m args below meth c mc ms Z C RR H locs cells slots ls S
  exact lv_lor C.1 C.2.1 dg (k p l e R s m args below meth c mc ms Z C RR H locs cells slots ls S)
theorem j_lxor {x y : Int64} (dg : decode K.2.1 pc = .ok (.lxor, 1)) (k : jj_WP d K bc bs (pc + 1) L (.long (x ^^^ y) :: st) h Q) : jj_WP d K bc bs pc L (.long y :: .long x :: st) h Q := by
  intro p l e R s m args below meth c mc ms Z C RR H locs cells slots ls S
  exact lv_lxor C.1 C.2.1 dg (k p l e R s m args below meth c mc ms Z C RR H locs cells slots ls S)
theorem j_lushr {x : Int64} {y : Int32} (dg : decode K.2.1 pc = .ok (.lushr, 1)) (k : jj_WP d K bc bs (pc + 1) L (.long (x.toUInt64 >>> (y.toInt64.toUInt64 &&& Int64.toUInt64 63)).toInt64 :: st) h Q) : jj_WP d K bc bs pc L (.int y :: .long x :: st) h Q := by
  intro p l e R s m args below meth c mc ms Z C RR H locs cells slots ls S
  exact lv_lushr C.1 C.2.1 dg rfl (k p l e R s m args below meth c mc ms Z C RR H locs cells slots ls S)
theorem j_lshl {x : Int64} {y : Int32} (dg : decode K.2.1 pc = .ok (.lshl, 1)) (k : jj_WP d K bc bs (pc + 1) L (.long (x <<< (y.toInt64 &&& 63)) :: st) h Q) : jj_WP d K bc bs pc L (.int y :: .long x :: st) h Q := by
  intro p l e R s m args below meth c mc ms Z C RR H locs cells slots ls S
  exact lv_lshl C.1 C.2.1 dg rfl (k p l e R s m args below meth c mc ms Z C RR H locs cells slots ls S)
theorem j_lshr {x : Int64} {y : Int32} (dg : decode K.2.1 pc = .ok (.lshr, 1)) (k : jj_WP d K bc bs (pc + 1) L (.long (x >>> (y.toInt64 &&& 63)) :: st) h Q) : jj_WP d K bc bs pc L (.int y :: .long x :: st) h Q := by
  intro p l e R s m args below meth c mc ms Z C RR H locs cells slots ls S
  exact lv_lshr C.1 C.2.1 dg rfl (k p l e R s m args below meth c mc ms Z C RR H locs cells slots ls S)
theorem j_i2l {x : Int32} (dg : decode K.2.1 pc = .ok (.i2l, 1)) (k : jj_WP d K bc bs (pc + 1) L (.long x.toInt64 :: st) h Q) : jj_WP d K bc bs pc L (.int x :: st) h Q := by
  intro p l e R s m args below meth c mc ms Z C RR H locs cells slots ls S
  exact lv_i2l C.1 C.2.1 dg rfl (k p l e R s m args below meth c mc ms Z C RR H locs cells slots ls S)
theorem j_l2i {x : Int64} (dg : decode K.2.1 pc = .ok (.l2i, 1)) (k : jj_WP d K bc bs (pc + 1) L (.int x.toInt32 :: st) h Q) : jj_WP d K bc bs pc L (.long x :: st) h Q := by
  intro p l e R s m args below meth c mc ms Z C RR H locs cells slots ls S
  exact lv_l2i C.1 C.2.1 dg rfl (k p l e R s m args below meth c mc ms Z C RR H locs cells slots ls S)
theorem j_lcmp {x y : Int64} (dg : decode K.2.1 pc = .ok (.lcmp, 1)) (k : jj_WP d K bc bs (pc + 1) L (.int (lg_cmp x y) :: st) h Q) : jj_WP d K bc bs pc L (.long y :: .long x :: st) h Q := by
  intro p l e R s m args below meth c mc ms Z C RR H locs cells slots ls S
  exact W.lcmp C.1 C.2.1 dg (k p l e R s m args below meth c mc ms Z C RR H locs cells slots ls S)
theorem j_dup {v : Value} (dg : decode K.2.1 pc = .ok (.dup, 1)) (hv : v.category = 1) (k : jj_WP d K bc bs (pc + 1) L (v :: v :: st) h Q) : jj_WP d K bc bs pc L (v :: st) h Q := by
  intro p l e R s m args below meth c mc ms Z C RR H locs cells slots ls S
  exact lv_dup C.1 C.2.1 dg (by rw [jj_rv_cat]; exact hv) (k p l e R s m args below meth c mc ms Z C RR H locs cells slots ls S)
theorem j_pop {v : Value} (dg : decode K.2.1 pc = .ok (.pop, 1)) (hv : v.category = 1) (k : jj_WP d K bc bs (pc + 1) L st h Q) : jj_WP d K bc bs pc L (v :: st) h Q := by
  intro p l e R s m args below meth c mc ms Z C RR H locs cells slots ls S
  exact lv_pop C.1 C.2.1 dg (by rw [jj_rv_cat]; exact hv) (k p l e R s m args below meth c mc ms Z C RR H locs cells slots ls S)
theorem j_dup2 {v w : Value} (dg : decode K.2.1 pc = .ok (.dup2, 1)) (hv : v.category = 1) (hw : w.category = 1) (k : jj_WP d K bc bs (pc + 1) L (v :: w :: v :: w :: st) h Q) : jj_WP d K bc bs pc L (v :: w :: st) h Q := by
  intro p l e R s m args below meth c mc ms Z C RR H locs cells slots ls S
  exact lv_dup2_11 C.1 C.2.1 dg (by rw [jj_rv_cat]; exact hv) (by rw [jj_rv_cat]; exact hw) (k p l e R s m args below meth c mc ms Z C RR H locs cells slots ls S)
theorem j_ldc {index : Nat} {v : Int32} (dg : decode K.2.1 pc = .ok (.ldc index, 2)) (hw : Cond.constant K.1.cls index v ∈ jj_tb) (k : jj_WP d K bc bs (pc + 2) L (.int v :: st) h Q) : jj_WP d K bc bs pc L st h Q := by
  intro p l e R s m args below meth c mc ms Z C RR H locs cells slots ls S
  exact lv_ldc C.1 C.2.1 C.2.2.2.2.2.1 (C.2.2.2.2.2.2.1 _ hw) dg (k p l e R s m args below meth c mc ms Z C RR H locs cells slots ls S)
theorem j_ldcw {index : Nat} {v : Int32} (dg : decode K.2.1 pc = .ok (.ldc_w index, 3)) (hw : Cond.constant K.1.cls index v ∈ jj_tb) (k : jj_WP d K bc bs (pc + 3) L (.int v :: st) h Q) : jj_WP d K bc bs pc L st h Q := by
  intro p l e R s m args below meth c mc ms Z C RR H locs cells slots ls S
  exact lv_ldcw C.1 C.2.1 C.2.2.2.2.2.1 (C.2.2.2.2.2.2.1 _ hw) dg (k p l e R s m args below meth c mc ms Z C RR H locs cells slots ls S)
theorem j_ldc2 {index : Nat} {v : Int64} (dg : decode K.2.1 pc = .ok (.ldc2_w index, 3)) (hw : Cond.constantLong K.1.cls index v ∈ jj_tb) (k : jj_WP d K bc bs (pc + 3) L (.long v :: st) h Q) : jj_WP d K bc bs pc L st h Q := by
  intro p l e R s m args below meth c mc ms Z C RR H locs cells slots ls S
  exact lv_ldc2 C.1 C.2.1 C.2.2.2.2.2.1 (C.2.2.2.2.2.2.1 _ hw) dg (k p l e R s m args below meth c mc ms Z C RR H locs cells slots ls S)
theorem j_null (dg : decode K.2.1 pc = .ok (.aconst_null, 1)) (k : jj_WP d K bc bs (pc + 1) L (.ref 0 :: st) h Q) : jj_WP d K bc bs pc L st h Q := by
  intro p l e R s m args below meth c mc ms Z C RR H locs cells slots ls S
  exact lv_null C.1 C.2.1 dg (k p l e R s m args below meth c mc ms Z C RR H locs cells slots ls S)
theorem j_if_eq {x : Int32} {off : Int} {tgt : Nat} (dg : decode K.2.1 pc = .ok (.ifCond .eq off, 3)) (ht : (pc : Int) + off = (tgt : Int)) (kt : x = 0 → jj_WP d K bc bs tgt L st h Q) (kf : ¬ x = 0 → jj_WP d K bc bs (pc + 3) L st h Q) : jj_WP d K bc bs pc L (.int x :: st) h Q := by
  intro p l e R s m args below meth c mc ms Z C RR H locs cells slots ls S
  exact lv_if_eq C.1 C.2.1 dg ht (fun c0 => kt c0 p l e R s m args below meth c mc ms Z C RR H locs cells slots ls S) (fun c0 => kf c0 p l e R s m args below meth c mc ms Z C RR H locs cells slots ls S)
theorem j_icmp_eq {x y : Int32} {off : Int} {tgt : Nat} (dg : decode K.2.1 pc = .ok (.if_icmp .eq off, 3)) (ht : (pc : Int) + off = (tgt : Int)) (kt : x = y → jj_WP d K bc bs tgt L st h Q) (kf : ¬ x = y → jj_WP d K bc bs (pc + 3) L st h Q) : jj_WP d K bc bs pc L (.int y :: .int x :: st) h Q := by
  intro p l e R s m args below meth c mc ms Z C RR H locs cells slots ls S
  exact lv_icmp_eq C.1 C.2.1 dg ht (fun c0 => kt c0 p l e R s m args below meth c mc ms Z C RR H locs cells slots ls S) (fun c0 => kf c0 p l e R s m args below meth c mc ms Z C RR H locs cells slots ls S)
theorem j_if_ne {x : Int32} {off : Int} {tgt : Nat} (dg : decode K.2.1 pc = .ok (.ifCond .ne off, 3)) (ht : (pc : Int) + off = (tgt : Int)) (kt : ¬ x = 0 → jj_WP d K bc bs tgt L st h Q) (kf : x = 0 → jj_WP d K bc bs (pc + 3) L st h Q) : jj_WP d K bc bs pc L (.int x :: st) h Q := by
  intro p l e R s m args below meth c mc ms Z C RR H locs cells slots ls S
  exact lv_if_ne C.1 C.2.1 dg ht (fun c0 => kt c0 p l e R s m args below meth c mc ms Z C RR H locs cells slots ls S) (fun c0 => kf c0 p l e R s m args below meth c mc ms Z C RR H locs cells slots ls S)
theorem j_icmp_ne {x y : Int32} {off : Int} {tgt : Nat} (dg : decode K.2.1 pc = .ok (.if_icmp .ne off, 3)) (ht : (pc : Int) + off = (tgt : Int)) (kt : ¬ x = y → jj_WP d K bc bs tgt L st h Q) (kf : x = y → jj_WP d K bc bs (pc + 3) L st h Q) : jj_WP d K bc bs pc L (.int y :: .int x :: st) h Q := by
  intro p l e R s m args below meth c mc ms Z C RR H locs cells slots ls S
  exact lv_icmp_ne C.1 C.2.1 dg ht (fun c0 => kt c0 p l e R s m args below meth c mc ms Z C RR H locs cells slots ls S) (fun c0 => kf c0 p l e R s m args below meth c mc ms Z C RR H locs cells slots ls S)
theorem j_if_lt {x : Int32} {off : Int} {tgt : Nat} (dg : decode K.2.1 pc = .ok (.ifCond .lt off, 3)) (ht : (pc : Int) + off = (tgt : Int)) (kt : x < 0 → jj_WP d K bc bs tgt L st h Q) (kf : ¬ x < 0 → jj_WP d K bc bs (pc + 3) L st h Q) : jj_WP d K bc bs pc L (.int x :: st) h Q := by
  intro p l e R s m args below meth c mc ms Z C RR H locs cells slots ls S
  exact lv_if_lt C.1 C.2.1 dg ht (fun c0 => kt c0 p l e R s m args below meth c mc ms Z C RR H locs cells slots ls S) (fun c0 => kf c0 p l e R s m args below meth c mc ms Z C RR H locs cells slots ls S)
theorem j_icmp_lt {x y : Int32} {off : Int} {tgt : Nat} (dg : decode K.2.1 pc = .ok (.if_icmp .lt off, 3)) (ht : (pc : Int) + off = (tgt : Int)) (kt : x < y → jj_WP d K bc bs tgt L st h Q) (kf : ¬ x < y → jj_WP d K bc bs (pc + 3) L st h Q) : jj_WP d K bc bs pc L (.int y :: .int x :: st) h Q := by
  intro p l e R s m args below meth c mc ms Z C RR H locs cells slots ls S
  exact lv_icmp_lt C.1 C.2.1 dg ht (fun c0 => kt c0 p l e R s m args below meth c mc ms Z C RR H locs cells slots ls S) (fun c0 => kf c0 p l e R s m args below meth c mc ms Z C RR H locs cells slots ls S)
theorem j_if_ge {x : Int32} {off : Int} {tgt : Nat} (dg : decode K.2.1 pc = .ok (.ifCond .ge off, 3)) (ht : (pc : Int) + off = (tgt : Int)) (kt : 0 ≤ x → jj_WP d K bc bs tgt L st h Q) (kf : ¬ 0 ≤ x → jj_WP d K bc bs (pc + 3) L st h Q) : jj_WP d K bc bs pc L (.int x :: st) h Q := by
  intro p l e R s m args below meth c mc ms Z C RR H locs cells slots ls S
  exact lv_if_ge C.1 C.2.1 dg ht (fun c0 => kt c0 p l e R s m args below meth c mc ms Z C RR H locs cells slots ls S) (fun c0 => kf c0 p l e R s m args below meth c mc ms Z C RR H locs cells slots ls S)
theorem j_icmp_ge {x y : Int32} {off : Int} {tgt : Nat} (dg : decode K.2.1 pc = .ok (.if_icmp .ge off, 3)) (ht : (pc : Int) + off = (tgt : Int)) (kt : y ≤ x → jj_WP d K bc bs tgt L st h Q) (kf : ¬ y ≤ x → jj_WP d K bc bs (pc + 3) L st h Q) : jj_WP d K bc bs pc L (.int y :: .int x :: st) h Q := by
  intro p l e R s m args below meth c mc ms Z C RR H locs cells slots ls S
  exact lv_icmp_ge C.1 C.2.1 dg ht (fun c0 => kt c0 p l e R s m args below meth c mc ms Z C RR H locs cells slots ls S) (fun c0 => kf c0 p l e R s m args below meth c mc ms Z C RR H locs cells slots ls S)
theorem j_if_gt {x : Int32} {off : Int} {tgt : Nat} (dg : decode K.2.1 pc = .ok (.ifCond .gt off, 3)) (ht : (pc : Int) + off = (tgt : Int)) (kt : 0 < x → jj_WP d K bc bs tgt L st h Q) (kf : ¬ 0 < x → jj_WP d K bc bs (pc + 3) L st h Q) : jj_WP d K bc bs pc L (.int x :: st) h Q := by
  intro p l e R s m args below meth c mc ms Z C RR H locs cells slots ls S
  exact lv_if_gt C.1 C.2.1 dg ht (fun c0 => kt c0 p l e R s m args below meth c mc ms Z C RR H locs cells slots ls S) (fun c0 => kf c0 p l e R s m args below meth c mc ms Z C RR H locs cells slots ls S)
theorem j_icmp_gt {x y : Int32} {off : Int} {tgt : Nat} (dg : decode K.2.1 pc = .ok (.if_icmp .gt off, 3)) (ht : (pc : Int) + off = (tgt : Int)) (kt : y < x → jj_WP d K bc bs tgt L st h Q) (kf : ¬ y < x → jj_WP d K bc bs (pc + 3) L st h Q) : jj_WP d K bc bs pc L (.int y :: .int x :: st) h Q := by
  intro p l e R s m args below meth c mc ms Z C RR H locs cells slots ls S
  exact lv_icmp_gt C.1 C.2.1 dg ht (fun c0 => kt c0 p l e R s m args below meth c mc ms Z C RR H locs cells slots ls S) (fun c0 => kf c0 p l e R s m args below meth c mc ms Z C RR H locs cells slots ls S)
theorem j_if_le {x : Int32} {off : Int} {tgt : Nat} (dg : decode K.2.1 pc = .ok (.ifCond .le off, 3)) (ht : (pc : Int) + off = (tgt : Int)) (kt : x ≤ 0 → jj_WP d K bc bs tgt L st h Q) (kf : ¬ x ≤ 0 → jj_WP d K bc bs (pc + 3) L st h Q) : jj_WP d K bc bs pc L (.int x :: st) h Q := by
  intro p l e R s m args below meth c mc ms Z C RR H locs cells slots ls S
  exact lv_if_le C.1 C.2.1 dg ht (fun c0 => kt c0 p l e R s m args below meth c mc ms Z C RR H locs cells slots ls S) (fun c0 => kf c0 p l e R s m args below meth c mc ms Z C RR H locs cells slots ls S)
theorem j_icmp_le {x y : Int32} {off : Int} {tgt : Nat} (dg : decode K.2.1 pc = .ok (.if_icmp .le off, 3)) (ht : (pc : Int) + off = (tgt : Int)) (kt : x ≤ y → jj_WP d K bc bs tgt L st h Q) (kf : ¬ x ≤ y → jj_WP d K bc bs (pc + 3) L st h Q) : jj_WP d K bc bs pc L (.int y :: .int x :: st) h Q := by
  intro p l e R s m args below meth c mc ms Z C RR H locs cells slots ls S
  exact lv_icmp_le C.1 C.2.1 dg ht (fun c0 => kt c0 p l e R s m args below meth c mc ms Z C RR H locs cells slots ls S) (fun c0 => kf c0 p l e R s m args below meth c mc ms Z C RR H locs cells slots ls S)
theorem j_goto {off : Int} {tgt : Nat} (dg : decode K.2.1 pc = .ok (.goto off, 3)) (ht : (pc : Int) + off = (tgt : Int)) (k : jj_WP d K bc bs tgt L st h Q) : jj_WP d K bc bs pc L st h Q := by
  intro p l e R s m args below meth c mc ms Z C RR H locs cells slots ls S
  exact lv_goto C.1 C.2.1 dg ht (k p l e R s m args below meth c mc ms Z C RR H locs cells slots ls S)
theorem j_ifnull {r : Nat} {off : Int} {tgt : Nat} (dg : decode K.2.1 pc = .ok (.ifnull off, 3)) (ht : (pc : Int) + off = (tgt : Int)) (kt : r = 0 → jj_WP d K bc bs tgt L st h Q) (kf : ¬ r = 0 → jj_WP d K bc bs (pc + 3) L st h Q) : jj_WP d K bc bs pc L (.ref r :: st) h Q := by
  intro p l e R s m args below meth c mc ms Z C RR H locs cells slots ls S
  cases r with
  | zero => exact lv_ifnullN C.1 C.2.1 dg ht (kt rfl p l e R s m args below meth c mc ms Z C RR H locs cells slots ls S)
  | succ r => exact lv_ifnull C.1 C.2.1 dg (kf (by omega) p l e R s m args below meth c mc ms Z C RR H locs cells slots ls S)
theorem j_ifnonnull {r : Nat} {off : Int} {tgt : Nat} (dg : decode K.2.1 pc = .ok (.ifnonnull off, 3)) (ht : (pc : Int) + off = (tgt : Int)) (kt : ¬ r = 0 → jj_WP d K bc bs tgt L st h Q) (kf : r = 0 → jj_WP d K bc bs (pc + 3) L st h Q) : jj_WP d K bc bs pc L (.ref r :: st) h Q := by
  intro p l e R s m args below meth c mc ms Z C RR H locs cells slots ls S
  cases r with
  | zero => exact lv_ifnonnullN C.1 C.2.1 dg (kf rfl p l e R s m args below meth c mc ms Z C RR H locs cells slots ls S)
  | succ r => exact lv_ifnonnull C.1 C.2.1 dg ht (kt (by omega) p l e R s m args below meth c mc ms Z C RR H locs cells slots ls S)
theorem j_iload_n {n : Fin 4} {i : Nat} {x : Int32} (dg : decode K.2.1 pc = .ok (.iload_n n, 1)) (hi : (n : Nat) = i) (j : Nat) (hj : L[j]? = some (i, .int x)) (k : jj_WP d K bc bs (pc + 1) L (.int x :: st) h Q) : jj_WP d K bc bs pc L st h Q := by
  intro p l e R s m args below meth c mc ms Z C RR H locs cells slots ls S
  exact lv_iload_n C.1 C.2.1 dg hi (jj_at S.2.2.2.2 j hj) (k p l e R s m args below meth c mc ms Z C RR H locs cells slots ls S)
theorem j_iload {i : Nat} {x : Int32} (dg : decode K.2.1 pc = .ok (.iload i, 2)) (j : Nat) (hj : L[j]? = some (i, .int x)) (k : jj_WP d K bc bs (pc + 2) L (.int x :: st) h Q) : jj_WP d K bc bs pc L st h Q := by
  intro p l e R s m args below meth c mc ms Z C RR H locs cells slots ls S
  exact lv_iload C.1 C.2.1 dg (jj_at S.2.2.2.2 j hj) (k p l e R s m args below meth c mc ms Z C RR H locs cells slots ls S)
theorem j_lload_n {n : Fin 4} {i : Nat} {x : Int64} (dg : decode K.2.1 pc = .ok (.lload_n n, 1)) (hi : (n : Nat) = i) (j : Nat) (hj : L[j]? = some (i, .long x)) (k : jj_WP d K bc bs (pc + 1) L (.long x :: st) h Q) : jj_WP d K bc bs pc L st h Q := by
  intro p l e R s m args below meth c mc ms Z C RR H locs cells slots ls S
  exact lv_lload_n C.1 C.2.1 dg hi (jj_at S.2.2.2.2 j hj) (k p l e R s m args below meth c mc ms Z C RR H locs cells slots ls S)
theorem j_lload {i : Nat} {x : Int64} (dg : decode K.2.1 pc = .ok (.lload i, 2)) (j : Nat) (hj : L[j]? = some (i, .long x)) (k : jj_WP d K bc bs (pc + 2) L (.long x :: st) h Q) : jj_WP d K bc bs pc L st h Q := by
  intro p l e R s m args below meth c mc ms Z C RR H locs cells slots ls S
  exact lv_lload C.1 C.2.1 dg (jj_at S.2.2.2.2 j hj) (k p l e R s m args below meth c mc ms Z C RR H locs cells slots ls S)
theorem j_aload_n {n : Fin 4} {i r : Nat} (dg : decode K.2.1 pc = .ok (.aload_n n, 1)) (hi : (n : Nat) = i) (j : Nat) (hj : L[j]? = some (i, .ref r)) (k : jj_WP d K bc bs (pc + 1) L (.ref r :: st) h Q) : jj_WP d K bc bs pc L st h Q := by
  intro p l e R s m args below meth c mc ms Z C RR H locs cells slots ls S
  have hl := jj_at S.2.2.2.2 j hj
  have kk := k p l e R s m args below meth c mc ms Z C RR H locs cells slots ls S
  cases r with
  | zero => exact lv_aload_nN C.1 C.2.1 dg hi hl kk
  | succ r => exact lv_aload_n C.1 C.2.1 dg hi hl kk
theorem j_aload {i r : Nat} (dg : decode K.2.1 pc = .ok (.aload i, 2)) (j : Nat) (hj : L[j]? = some (i, .ref r)) (k : jj_WP d K bc bs (pc + 2) L (.ref r :: st) h Q) : jj_WP d K bc bs pc L st h Q := by
  intro p l e R s m args below meth c mc ms Z C RR H locs cells slots ls S
  have hl := jj_at S.2.2.2.2 j hj
  have kk := k p l e R s m args below meth c mc ms Z C RR H locs cells slots ls S
  cases r with
  | zero => exact lv_aloadN C.1 C.2.1 dg hl kk
  | succ r => exact lv_aload C.1 C.2.1 dg hl kk
theorem j_aload_nS {n : Fin 4} {i : Nat} {r : UInt32} (dg : decode K.2.1 pc = .ok (.aload_n n, 1)) (hi : (n : Nat) = i) (j : Nat) (hj : L[j]? = some (i, .float r)) (k : jj_WP d K bc bs (pc + 1) L (.float r :: st) h Q) : jj_WP d K bc bs pc L st h Q := by
  intro p l e R s m args below meth c mc ms Z C RR H locs cells slots ls S
  exact lv_aload_n C.1 C.2.1 dg hi (jj_at S.2.2.2.2 j hj) (k p l e R s m args below meth c mc ms Z C RR H locs cells slots ls S)
theorem j_istore_n {n : Fin 4} {i : Nat} {x : Int32} {L' : List (Nat × Value)} (dg : decode K.2.1 pc = .ok (.istore_n n, 1)) (hi : (n : Nat) = i) (hn : i < K.2.2.1) (hl' : (i, Value.int x) :: L.filter (fun q => !(q.1 == i) && !(q.1 + 1 == i && q.2.category == 2)) = L') (k : jj_WP d K bc bs (pc + 1) L' st h Q) : jj_WP d K bc bs pc L (.int x :: st) h Q := by
  intro p l e R s m args below meth c mc ms Z C RR H locs cells slots ls S
  exact lv_istore_n C.1 C.2.1 dg hi S.2.2.2.2 hn (lv' := jj_l d L') (by rw [jj_fil, ← hl']; rfl) (fun ls hl => k p l e R s m args below meth c mc ms Z C RR H locs cells slots ls ⟨S.1, S.2.1, S.2.2.1, S.2.2.2.1, hl⟩)
theorem j_istore {i : Nat} {x : Int32} {L' : List (Nat × Value)} (dg : decode K.2.1 pc = .ok (.istore i, 2)) (hn : i < K.2.2.1) (hl' : (i, Value.int x) :: L.filter (fun q => !(q.1 == i) && !(q.1 + 1 == i && q.2.category == 2)) = L') (k : jj_WP d K bc bs (pc + 2) L' st h Q) : jj_WP d K bc bs pc L (.int x :: st) h Q := by
  intro p l e R s m args below meth c mc ms Z C RR H locs cells slots ls S
  exact lv_istore C.1 C.2.1 dg S.2.2.2.2 hn (lv' := jj_l d L') (by rw [jj_fil, ← hl']; rfl) (fun ls hl => k p l e R s m args below meth c mc ms Z C RR H locs cells slots ls ⟨S.1, S.2.1, S.2.2.1, S.2.2.2.1, hl⟩)
theorem j_lstore_n {n : Fin 4} {i : Nat} {x : Int64} {L' : List (Nat × Value)} (dg : decode K.2.1 pc = .ok (.lstore_n n, 1)) (hi : (n : Nat) = i) (hn : i + 1 < K.2.2.1) (hl' : (i, Value.long x) :: L.filter (fun q => !(q.1 == i) && (!(q.1 == i + 1) && !(q.1 + 1 == i && q.2.category == 2))) = L') (k : jj_WP d K bc bs (pc + 1) L' st h Q) : jj_WP d K bc bs pc L (.long x :: st) h Q := by
  intro p l e R s m args below meth c mc ms Z C RR H locs cells slots ls S
  exact lv_lstore_n C.1 C.2.1 dg hi S.2.2.2.2 hn (lv' := jj_l d L') (by rw [jj_fil2, ← hl']; rfl) (fun ls hl => k p l e R s m args below meth c mc ms Z C RR H locs cells slots ls ⟨S.1, S.2.1, S.2.2.1, S.2.2.2.1, hl⟩)
theorem j_lstore {i : Nat} {x : Int64} {L' : List (Nat × Value)} (dg : decode K.2.1 pc = .ok (.lstore i, 2)) (hn : i + 1 < K.2.2.1) (hl' : (i, Value.long x) :: L.filter (fun q => !(q.1 == i) && (!(q.1 == i + 1) && !(q.1 + 1 == i && q.2.category == 2))) = L') (k : jj_WP d K bc bs (pc + 2) L' st h Q) : jj_WP d K bc bs pc L (.long x :: st) h Q := by
  intro p l e R s m args below meth c mc ms Z C RR H locs cells slots ls S
  exact lv_lstore C.1 C.2.1 dg S.2.2.2.2 hn (lv' := jj_l d L') (by rw [jj_fil2, ← hl']; rfl) (fun ls hl => k p l e R s m args below meth c mc ms Z C RR H locs cells slots ls ⟨S.1, S.2.1, S.2.2.1, S.2.2.2.1, hl⟩)
theorem j_astore_n {n : Fin 4} {i r : Nat} {L' : List (Nat × Value)} (dg : decode K.2.1 pc = .ok (.astore_n n, 1)) (hi : (n : Nat) = i) (hn : i < K.2.2.1) (hl' : (i, Value.ref r) :: L.filter (fun q => !(q.1 == i) && !(q.1 + 1 == i && q.2.category == 2)) = L') (k : jj_WP d K bc bs (pc + 1) L' st h Q) : jj_WP d K bc bs pc L (.ref r :: st) h Q := by
  intro p l e R s m args below meth c mc ms Z C RR H locs cells slots ls S
  cases r with
  | zero => exact lv_astore_nN C.1 C.2.1 dg hi S.2.2.2.2 hn (lv' := jj_l d L') (by rw [jj_fil, ← hl']; rfl) (fun ls hl => k p l e R s m args below meth c mc ms Z C RR H locs cells slots ls ⟨S.1, S.2.1, S.2.2.1, S.2.2.2.1, hl⟩)
  | succ r => exact lv_astore_n C.1 C.2.1 dg hi S.2.2.2.2 hn (lv' := jj_l d L') (by rw [jj_fil, ← hl']; rfl) (fun ls hl => k p l e R s m args below meth c mc ms Z C RR H locs cells slots ls ⟨S.1, S.2.1, S.2.2.1, S.2.2.2.1, hl⟩)
theorem j_astore {i r : Nat} {L' : List (Nat × Value)} (dg : decode K.2.1 pc = .ok (.astore i, 2)) (hn : i < K.2.2.1) (hl' : (i, Value.ref r) :: L.filter (fun q => !(q.1 == i) && !(q.1 + 1 == i && q.2.category == 2)) = L') (k : jj_WP d K bc bs (pc + 2) L' st h Q) : jj_WP d K bc bs pc L (.ref r :: st) h Q := by
  intro p l e R s m args below meth c mc ms Z C RR H locs cells slots ls S
  cases r with
  | zero => exact lv_astoreN C.1 C.2.1 dg S.2.2.2.2 hn (lv' := jj_l d L') (by rw [jj_fil, ← hl']; rfl) (fun ls hl => k p l e R s m args below meth c mc ms Z C RR H locs cells slots ls ⟨S.1, S.2.1, S.2.2.1, S.2.2.2.1, hl⟩)
  | succ r => exact lv_astore C.1 C.2.1 dg S.2.2.2.2 hn (lv' := jj_l d L') (by rw [jj_fil, ← hl']; rfl) (fun ls hl => k p l e R s m args below meth c mc ms Z C RR H locs cells slots ls ⟨S.1, S.2.1, S.2.2.1, S.2.2.2.1, hl⟩)
theorem j_iinc {i : Nat} {n : Int} {x v : Int32} {L' : List (Nat × Value)} (dg : decode K.2.1 pc = .ok (.iinc i n, 3)) (j : Nat) (hj : L[j]? = some (i, .int x)) (hv : x + Int32.ofInt n = v) (hn : i < K.2.2.1) (hl' : (i, Value.int v) :: L.filter (fun q => !(q.1 == i) && !(q.1 + 1 == i && q.2.category == 2)) = L') (k : jj_WP d K bc bs (pc + 3) L' st h Q) : jj_WP d K bc bs pc L st h Q := by
  intro p l e R s m args below meth c mc ms Z C RR H locs cells slots ls S
  exact lv_iinc C.1 C.2.1 dg S.2.2.2.2 (k := j) (by unfold jj_l; rw [List.getElem?_map, hj]; rfl) hv hn (lv' := jj_l d L') (by rw [jj_fil, ← hl']; rfl) (fun ls hl => k p l e R s m args below meth c mc ms Z C RR H locs cells slots ls ⟨S.1, S.2.1, S.2.2.1, S.2.2.2.1, hl⟩)
/-- one after the other: if x is k, k + 1 .. -/
def jj_sw (x : Int32) (P : Nat → Prop) : Int → List Nat → Prop
  | _, [] => True
  | k, t :: ts => (x.toInt = k → P t) ∧ jj_sw x P (k + 1) ts
theorem jj_sw_at {x : Int32} {P : Nat → Prop} : ∀ (ts : List Nat) (k : Int) (i t : Nat), jj_sw x P k ts → ts[i]? = some t → x.toInt = k + i → P t := by
  intro ts
  induction ts with
  | nil => intro k i t _ h; simp at h
  | cons a as ih =>
    intro k i t h hi hx
    cases i with
    | zero => simp at hi; subst hi; exact h.1 (by simpa using hx)
    | succ i => exact ih (k + 1) i t h.2 (by simpa using hi) (by rw [hx]; push_cast; omega)
def jj_lw (x : Int32) (P : Nat → Prop) (dt : Nat) : List (Int × Nat) → Prop
  | [] => P dt
  | (k, t) :: ps => (x.toInt = k → P t) ∧ (¬ x.toInt = k → jj_lw x P dt ps)
theorem jj_lw_at {x : Int32} {P : Nat → Prop} {pc dt : Nat} {dflt : Int} (hd : (pc : Int) + dflt = (dt : Int)) : ∀ (ps : List (Int × Int)) (ts : List (Int × Nat)), ps.map (fun q => (q.1, (pc : Int) + q.2)) = ts.map (fun q => (q.1, (q.2 : Int))) → jj_lw x P dt ts → ∃ t : Nat, (pc : Int) + Op.lookupswitch.offset ps dflt x.toInt = (t : Int) ∧ P t := by
  intro ps
  induction ps with
  | nil =>
    intro ts h H
    cases ts with
    | nil => exact ⟨dt, hd, H⟩
    | cons a as => simp at h
  | cons a as ih =>
    intro ts h H
    cases ts with
    | nil => simp at h
    | cons b bs =>
      obtain ⟨a1, a2⟩ := a
      obtain ⟨b1, b2⟩ := b
      simp only [List.map_cons, List.cons.injEq, Prod.mk.injEq] at h
      obtain ⟨⟨e1, e2⟩, e3⟩ := h
      subst e1
      rw [Op.lookupswitch.offset_cons]
      by_cases hx : x.toInt = a1
      · rw [if_pos hx.symm]
        exact ⟨b2, e2, H.1 hx⟩
      · rw [if_neg (fun q => hx q.symm)]
        exact ih bs e3 (H.2 hx)
theorem j_tsw {x : Int32} {dflt lo hi : Int} {offs : Array Int} {len : Nat} (ts : List Nat) (td : Nat) (dg : decode K.2.1 pc = .ok (.tableswitch dflt lo hi offs, len)) (hd : (pc : Int) + dflt = (td : Int)) (hts : offs.toList.map (fun q => (pc : Int) + q) = ts.map (fun q : Nat => (q : Int))) (hlen : hi - lo + 1 = (ts.length : Int)) (k : jj_sw x (fun t => jj_WP d K bc bs t L st h Q) lo ts) (ko : (x.toInt < lo ∨ hi < x.toInt) → jj_WP d K bc bs td L st h Q) : jj_WP d K bc bs pc L (.int x :: st) h Q := by
  intro p l e R s m args below meth c mc ms Z C RR H locs cells slots ls S
  by_cases h1 : x.toInt < lo ∨ hi < x.toInt
  · exact lv_tableOut C.1 C.2.1 dg h1 hd (ko h1 p l e R s m args below meth c mc ms Z C RR H locs cells slots ls S)
  · have hi1 : (x.toInt - lo).toNat < ts.length := by omega
    have ht : ts[(x.toInt - lo).toNat]? = some ts[(x.toInt - lo).toNat] := List.getElem?_eq_getElem hi1
    have hlo : offs.toList.length = ts.length := by have := congrArg List.length hts; simpa using this
    have ho : offs[(x.toInt - lo).toNat]? = some offs.toList[(x.toInt - lo).toNat] := by rw [← Array.getElem?_toList]; exact List.getElem?_eq_getElem _
    have ee := congrArg (fun q => q[(x.toInt - lo).toNat]?) hts
    simp only [List.getElem?_map, ht, Option.map_some] at ee
    rw [List.getElem?_eq_getElem (by omega)] at ee
    simp only [Option.map_some, Option.some.injEq] at ee
    exact lv_tableIn C.1 C.2.1 dg (fun q => h1 (Or.inl q)) (fun q => h1 (Or.inr q)) ho ee (jj_sw_at ts lo _ _ k ht (by omega) p l e R s m args below meth c mc ms Z C RR H locs cells slots ls S)
theorem j_lsw {x : Int32} {dflt : Int} {ps : Array (Int × Int)} {len : Nat} (ts : List (Int × Nat)) (td : Nat) (dg : decode K.2.1 pc = .ok (.lookupswitch dflt ps, len)) (hp : (ps.toList.zip (ps.toList.drop 1)).all (fun (a, next) => a.1 < next.1) = true) (hd : (pc : Int) + dflt = (td : Int)) (hts : ps.toList.map (fun q => (q.1, (pc : Int) + q.2)) = ts.map (fun q => (q.1, (q.2 : Int)))) (k : jj_lw x (fun t => jj_WP d K bc bs t L st h Q) td ts) : jj_WP d K bc bs pc L (.int x :: st) h Q := by
  intro p l e R s m args below meth c mc ms Z C RR H locs cells slots ls S
  obtain ⟨t, e1, e2⟩ := jj_lw_at hd ps.toList ts hts k
  exact lv_lookup C.1 C.2.1 dg hp rfl e1 (e2 p l e R s m args below meth c mc ms Z C RR H locs cells slots ls S)
theorem j_ret {v : Value} (hrt : jj_rt K.2.2.2.1 v (decode K.2.1 pc)) (hst : st = (match K.2.2.2.1 with | none => [] | some _ => [v])) (hq : Q v h) : jj_WP d K bc bs pc L st h Q := by
  intro p l e R s m args below meth c mc ms Z C RR H locs cells slots ls S
  have := RR pc v h H locs cells slots ls hq S.1 S.2.1 (by have := S.2.2.1; omega) (by have := S.2.2.2.1; omega) hrt
  subst hst
  unfold jj_rs at this
  cases hre : K.2.2.2.1 with
  | none => rw [hre] at this; exact this
  | some t => rw [hre] at this; exact this
theorem j_getI {ci : Nat} {C0 : String} {T : u_T} {N : Nat} {ty : Nat → FieldType} {idx a f : Nat} (hc : jj_cls ci C0 T N ty) (n : Nat) (hn : n < N) (hl : Cond.fieldLink K.1.cls idx C0 (T n).2.1 (T n).2.2.1 ∈ jj_tb) (hf : 50 * ci + n = f) (ht : (jj_T ci).getD n 0 ≠ 1 ∧ (jj_T ci).getD n 0 ≠ 2) (dg : decode K.2.1 pc = .ok (.getfield idx, 3)) (hk : jK h a = ci + 1) (k : jj_WP d K bc bs (pc + 3) L (.int (jI h f a 0) :: st) h Q) : jj_WP d K bc bs pc L (.ref a :: st) h Q := by
  intro p l e R s m args below meth c mc ms Z C RR H locs cells slots ls S
  obtain ⟨i, rfl, hi, ha⟩ := S.1.obj hk hc.2.2.2.2.2.1
  have hlen := hc.2.2.2.2.1
  have hlink : (Cond.fieldLink K.1.cls idx (T n).1 (T n).2.1 (T n).2.2.1).before args s = true := C.2.2.2.2.2.2.1 _ (by rw [hc.2.2.2.2.2.2 n hn]; exact hl)
  have kk := k p l e R s m args below meth c mc ms Z C RR H locs cells slots ls S
  exact va_get (D := d.1) (ci := ci) (v := .int (jI h f (i + 1) 0)) C.1 C.2.1 C.2.2.2.2.2.2.1 hc.2.1 C.2.2.2.2.2.1 C.2.2.2.2.2.2.2.1.1 (jj_one ha) 0 rfl hc.1 n hn hlink (fun _ h9 => h9) (by rw [jj_fs_get (by omega), ← hf]; unfold jj_fv; rw [if_neg ht.1, if_neg ht.2]) dg kk
theorem j_getL {ci : Nat} {C0 : String} {T : u_T} {N : Nat} {ty : Nat → FieldType} {idx a f : Nat} (hc : jj_cls ci C0 T N ty) (n : Nat) (hn : n < N) (hl : Cond.fieldLink K.1.cls idx C0 (T n).2.1 (T n).2.2.1 ∈ jj_tb) (hf : 50 * ci + n = f) (ht : (jj_T ci).getD n 0 = 1) (dg : decode K.2.1 pc = .ok (.getfield idx, 3)) (hk : jK h a = ci + 1) (k : jj_WP d K bc bs (pc + 3) L (.long (jL h f a 0) :: st) h Q) : jj_WP d K bc bs pc L (.ref a :: st) h Q := by
  intro p l e R s m args below meth c mc ms Z C RR H locs cells slots ls S
  obtain ⟨i, rfl, hi, ha⟩ := S.1.obj hk hc.2.2.2.2.2.1
  have hlen := hc.2.2.2.2.1
  have hlink : (Cond.fieldLink K.1.cls idx (T n).1 (T n).2.1 (T n).2.2.1).before args s = true := C.2.2.2.2.2.2.1 _ (by rw [hc.2.2.2.2.2.2 n hn]; exact hl)
  have kk := k p l e R s m args below meth c mc ms Z C RR H locs cells slots ls S
  exact va_get (D := d.1) (ci := ci) (v := .long (jL h f (i + 1) 0)) C.1 C.2.1 C.2.2.2.2.2.2.1 hc.2.1 C.2.2.2.2.2.1 C.2.2.2.2.2.2.2.1.1 (jj_one ha) 0 rfl hc.1 n hn hlink (fun _ h9 => h9) (by rw [jj_fs_get (by omega), ← hf]; unfold jj_fv; rw [if_pos ht]) dg kk
theorem j_getR {ci : Nat} {C0 : String} {T : u_T} {N : Nat} {ty : Nat → FieldType} {idx a f : Nat} (hc : jj_cls ci C0 T N ty) (n : Nat) (hn : n < N) (hl : Cond.fieldLink K.1.cls idx C0 (T n).2.1 (T n).2.2.1 ∈ jj_tb) (hf : 50 * ci + n = f) (ht : (jj_T ci).getD n 0 = 2) (dg : decode K.2.1 pc = .ok (.getfield idx, 3)) (hk : jK h a = ci + 1) (k : jj_WP d K bc bs (pc + 3) L (.ref (jR h f a 0) :: st) h Q) : jj_WP d K bc bs pc L (.ref a :: st) h Q := by
  intro p l e R s m args below meth c mc ms Z C RR H locs cells slots ls S
  obtain ⟨i, rfl, hi, ha⟩ := S.1.obj hk hc.2.2.2.2.2.1
  have hlen := hc.2.2.2.2.1
  have hlink : (Cond.fieldLink K.1.cls idx (T n).1 (T n).2.1 (T n).2.2.1).before args s = true := C.2.2.2.2.2.2.1 _ (by rw [hc.2.2.2.2.2.2 n hn]; exact hl)
  have kk := k p l e R s m args below meth c mc ms Z C RR H locs cells slots ls S
  rw [List.map_cons, jj_rv_ref] at kk
  exact va_get (D := d.1) (ci := ci) (v := va_rf (jj_o d.2.2.1 (jR h f (i + 1) 0))) C.1 C.2.1 C.2.2.2.2.2.2.1 hc.2.1 C.2.2.2.2.2.1 C.2.2.2.2.2.2.2.1.1 (jj_one ha) 0 rfl hc.1 n hn hlink (fun _ h9 => h9) (by rw [jj_fs_get (by omega), ← hf]; unfold jj_fv; rw [if_neg (by omega), if_pos ht]) dg kk
theorem j_putI {ci : Nat} {C0 : String} {T : u_T} {N : Nat} {ty : Nat → FieldType} {idx a f : Nat} {v : Int32} (hc : jj_cls ci C0 T N ty) (n : Nat) (hn : n < N) (hl : Cond.fieldLink K.1.cls idx C0 (T n).2.1 (T n).2.2.1 ∈ jj_tb) (hf : 50 * ci + n = f) (ht : (jj_T ci).getD n 0 = 0) (hty : ty n = .int) (hfin : (T n).2.2.2 = false ∨ ((T n).2.2.2 = true ∧ K.1.name = "<init>" ∧ C0 = K.1.cls)) (dg : decode K.2.1 pc = .ok (.putfield idx, 3)) (hk : jK h a = ci + 1) (k : jj_WP d K bc bs (pc + 3) L st (wI h f a 0 v) Q) : jj_WP d K bc bs pc L (.int v :: .ref a :: st) h Q := by
  intro p l e R s m args below meth c mc ms Z C RR H locs cells slots ls S
  obtain ⟨i, rfl, hi, ha⟩ := S.1.obj hk hc.2.2.2.2.2.1
  have hlen := hc.2.2.2.2.1
  have hlink : (Cond.fieldLink K.1.cls idx (T n).1 (T n).2.1 (T n).2.2.1).before args s = true := C.2.2.2.2.2.2.1 _ (by rw [hc.2.2.2.2.2.2 n hn]; exact hl)
  subst hf
  refine jj_putW (D := d.1) (ci := ci) C.1 C.2.1 C.2.2.2.2.2.2.1 hc.2.1 ty hc.2.2.1 hc.2.2.2.1 C.2.2.2.2.2.1 C.2.2.2.2.2.2.2.1.1 ha hc.1 n hn hlink (hfin.imp id fun q => ⟨q.1, C.2.2.2.2.2.2.2.2.2.2.2.2.2.1.trans q.2.1, by rw [hc.2.2.2.2.2.2 n hn]; exact q.2.2⟩) (v := .int v) (by rw [hty]; rfl) (by rw [hty]; rfl) (by rw [jj_fs_len]; omega) dg fun H1 j a1 z oq => ?_
  refine k p l e R s m args below meth c mc ms Z C RR H1 _ cells slots ls ⟨S.1.upd (i := i) rfl (fun _ => rfl) (fun b hb => jj_E_wI hb) ?_ z a1 oq, S.2.1.put z oq (Nat.le_add_right _ _), S.2.2.1, S.2.2.2.1, S.2.2.2.2⟩
  rw [jj_E_obj (ci := ci) (show jK (wI h (50 * ci + n) (i + 1) 0 v) (i + 1) = ci + 1 from hk) hc.2.2.2.2.2.1, jj_fs_wI (by omega)]
theorem j_putZ {ci : Nat} {C0 : String} {T : u_T} {N : Nat} {ty : Nat → FieldType} {idx a f : Nat} {v : Int32} (hc : jj_cls ci C0 T N ty) (n : Nat) (hn : n < N) (hl : Cond.fieldLink K.1.cls idx C0 (T n).2.1 (T n).2.2.1 ∈ jj_tb) (hf : 50 * ci + n = f) (ht : (jj_T ci).getD n 0 = 3) (hty : ty n = .boolean ∧ (v = 0 ∨ v = 1)) (hfin : (T n).2.2.2 = false ∨ ((T n).2.2.2 = true ∧ K.1.name = "<init>" ∧ C0 = K.1.cls)) (dg : decode K.2.1 pc = .ok (.putfield idx, 3)) (hk : jK h a = ci + 1) (k : jj_WP d K bc bs (pc + 3) L st (wI h f a 0 v) Q) : jj_WP d K bc bs pc L (.int v :: .ref a :: st) h Q := by
  intro p l e R s m args below meth c mc ms Z C RR H locs cells slots ls S
  obtain ⟨i, rfl, hi, ha⟩ := S.1.obj hk hc.2.2.2.2.2.1
  have hlen := hc.2.2.2.2.1
  have hlink : (Cond.fieldLink K.1.cls idx (T n).1 (T n).2.1 (T n).2.2.1).before args s = true := C.2.2.2.2.2.2.1 _ (by rw [hc.2.2.2.2.2.2 n hn]; exact hl)
  subst hf
  refine jj_putW (D := d.1) (ci := ci) C.1 C.2.1 C.2.2.2.2.2.2.1 hc.2.1 ty hc.2.2.1 hc.2.2.2.1 C.2.2.2.2.2.1 C.2.2.2.2.2.2.2.1.1 ha hc.1 n hn hlink (hfin.imp id fun q => ⟨q.1, C.2.2.2.2.2.2.2.2.2.2.2.2.2.1.trans q.2.1, by rw [hc.2.2.2.2.2.2 n hn]; exact q.2.2⟩) (v := .int v) (by rw [hty.1]; rcases hty.2 with rfl | rfl <;> decide) (by rw [hty.1]; rcases hty.2 with rfl | rfl <;> decide) (by rw [jj_fs_len]; omega) dg fun H1 j a1 z oq => ?_
  refine k p l e R s m args below meth c mc ms Z C RR H1 _ cells slots ls ⟨S.1.upd (i := i) rfl (fun _ => rfl) (fun b hb => jj_E_wI hb) ?_ z a1 oq, S.2.1.put z oq (Nat.le_add_right _ _), S.2.2.1, S.2.2.2.1, S.2.2.2.2⟩
  rw [jj_E_obj (ci := ci) (show jK (wI h (50 * ci + n) (i + 1) 0 v) (i + 1) = ci + 1 from hk) hc.2.2.2.2.2.1, jj_fs_wI (by omega)]
theorem j_putL {ci : Nat} {C0 : String} {T : u_T} {N : Nat} {ty : Nat → FieldType} {idx a f : Nat} {v : Int64} (hc : jj_cls ci C0 T N ty) (n : Nat) (hn : n < N) (hl : Cond.fieldLink K.1.cls idx C0 (T n).2.1 (T n).2.2.1 ∈ jj_tb) (hf : 50 * ci + n = f) (ht : (jj_T ci).getD n 0 = 1) (hty : ty n = .long) (hfin : (T n).2.2.2 = false ∨ ((T n).2.2.2 = true ∧ K.1.name = "<init>" ∧ C0 = K.1.cls)) (dg : decode K.2.1 pc = .ok (.putfield idx, 3)) (hk : jK h a = ci + 1) (k : jj_WP d K bc bs (pc + 3) L st (wL h f a 0 v) Q) : jj_WP d K bc bs pc L (.long v :: .ref a :: st) h Q := by
  intro p l e R s m args below meth c mc ms Z C RR H locs cells slots ls S
  obtain ⟨i, rfl, hi, ha⟩ := S.1.obj hk hc.2.2.2.2.2.1
  have hlen := hc.2.2.2.2.1
  have hlink : (Cond.fieldLink K.1.cls idx (T n).1 (T n).2.1 (T n).2.2.1).before args s = true := C.2.2.2.2.2.2.1 _ (by rw [hc.2.2.2.2.2.2 n hn]; exact hl)
  subst hf
  refine jj_putW (D := d.1) (ci := ci) C.1 C.2.1 C.2.2.2.2.2.2.1 hc.2.1 ty hc.2.2.1 hc.2.2.2.1 C.2.2.2.2.2.1 C.2.2.2.2.2.2.2.1.1 ha hc.1 n hn hlink (hfin.imp id fun q => ⟨q.1, C.2.2.2.2.2.2.2.2.2.2.2.2.2.1.trans q.2.1, by rw [hc.2.2.2.2.2.2 n hn]; exact q.2.2⟩) (v := .long v) (by rw [hty]; rfl) (by rw [hty]; rfl) (by rw [jj_fs_len]; omega) dg fun H1 j a1 z oq => ?_
  refine k p l e R s m args below meth c mc ms Z C RR H1 _ cells slots ls ⟨S.1.upd (i := i) rfl (fun _ => rfl) (fun b hb => jj_E_wL hb) ?_ z a1 oq, S.2.1.put z oq (Nat.le_add_right _ _), S.2.2.1, S.2.2.2.1, S.2.2.2.2⟩
  rw [jj_E_obj (ci := ci) (show jK (wL h (50 * ci + n) (i + 1) 0 v) (i + 1) = ci + 1 from hk) hc.2.2.2.2.2.1, jj_fs_wL ht]
theorem j_putR {ci : Nat} {C0 : String} {T : u_T} {N : Nat} {ty : Nat → FieldType} {idx a f : Nat} {v : Nat} (hc : jj_cls ci C0 T N ty) (n : Nat) (hn : n < N) (hl : Cond.fieldLink K.1.cls idx C0 (T n).2.1 (T n).2.2.1 ∈ jj_tb) (hf : 50 * ci + n = f) (ht : (jj_T ci).getD n 0 = 2) (hty : (∃ C1, ty n = .object C1) ∨ ∃ t1, ty n = .array t1) (hfin : (T n).2.2.2 = false ∨ ((T n).2.2.2 = true ∧ K.1.name = "<init>" ∧ C0 = K.1.cls)) (dg : decode K.2.1 pc = .ok (.putfield idx, 3)) (hk : jK h a = ci + 1) (k : jj_WP d K bc bs (pc + 3) L st (wR h f a 0 v) Q) : jj_WP d K bc bs pc L (.ref v :: .ref a :: st) h Q := by
  intro p l e R s m args below meth c mc ms Z C RR H locs cells slots ls S
  obtain ⟨i, rfl, hi, ha⟩ := S.1.obj hk hc.2.2.2.2.2.1
  have hlen := hc.2.2.2.2.1
  have hlink : (Cond.fieldLink K.1.cls idx (T n).1 (T n).2.1 (T n).2.2.1).before args s = true := C.2.2.2.2.2.2.1 _ (by rw [hc.2.2.2.2.2.2 n hn]; exact hl)
  subst hf
  rw [List.map_cons, jj_rv_ref]
  refine jj_putW (D := d.1) (ci := ci) C.1 C.2.1 C.2.2.2.2.2.2.1 hc.2.1 ty hc.2.2.1 hc.2.2.2.1 C.2.2.2.2.2.1 C.2.2.2.2.2.2.2.1.1 ha hc.1 n hn hlink (hfin.imp id fun q => ⟨q.1, C.2.2.2.2.2.2.2.2.2.2.2.2.2.1.trans q.2.1, by rw [hc.2.2.2.2.2.2 n hn]; exact q.2.2⟩) (v := va_rf (jj_o d.2.2.1 v)) (by rcases hty with ⟨_, e⟩ | ⟨_, e⟩ <;> rw [e] <;> cases v <;> rfl) (by rcases hty with ⟨_, e⟩ | ⟨_, e⟩ <;> rw [e] <;> cases v <;> rfl) (by rw [jj_fs_len]; omega) dg fun H1 j a1 z oq => ?_
  refine k p l e R s m args below meth c mc ms Z C RR H1 _ cells slots ls ⟨S.1.upd (i := i) rfl (fun _ => rfl) (fun b hb => jj_E_wR hb) ?_ z a1 oq, S.2.1.put z oq (Nat.le_add_right _ _), S.2.2.1, S.2.2.2.1, S.2.2.2.2⟩
  rw [jj_E_obj (ci := ci) (show jK (wR h (50 * ci + n) (i + 1) 0 v) (i + 1) = ci + 1 from hk) hc.2.2.2.2.2.1, jj_fs_wR ht]
end JRULES
end
section
section JARR
variable {d : jj_D} {K : jj_M} {bc bs pc : Nat} {L : List (Nat × Value)} {st : List Value} {h : jj_H} {Q : Value → jj_H → Prop}
theorem j_iald {a : Nat} {i : Int32} (dg : decode K.2.1 pc = .ok (.iaload, 1)) (hk : jK h a = 21) (hin : vp_in i (jN h a)) (k : jj_WP d K bc bs (pc + 1) L (.int (jI h 1000 a i.toNatClampNeg) :: st) h Q) : jj_WP d K bc bs pc L (.int i :: .ref a :: st) h Q := by
  intro p l e R s m args below meth c mc ms Z C RR H locs cells slots ls S
  obtain ⟨q, rfl, hi, ha⟩ := S.1.arr hk (by omega)
  exact va_iald (D := d.1) C.1 C.2.1 C.2.2.2.2.2.2.2.1.1 (jj_one ha) 0 0 rfl rfl hin dg (k p l e R s m args below meth c mc ms Z C RR H locs cells slots ls S)
theorem j_zald {a : Nat} {i : Int32} (dg : decode K.2.1 pc = .ok (.baload, 1)) (hk : jK h a = 23) (hin : vp_in i (jN h a)) (k : jj_WP d K bc bs (pc + 1) L (.int (jI h 1000 a i.toNatClampNeg) :: st) h Q) : jj_WP d K bc bs pc L (.int i :: .ref a :: st) h Q := by
  intro p l e R s m args below meth c mc ms Z C RR H locs cells slots ls S
  obtain ⟨q, rfl, hi, ha⟩ := S.1.arr hk (by omega)
  exact va_zald (D := d.1) C.1 C.2.1 C.2.2.2.2.2.2.2.1.1 (jj_one ha) 0 2 rfl rfl hin dg (k p l e R s m args below meth c mc ms Z C RR H locs cells slots ls S)
theorem j_lald {a : Nat} {i : Int32} (dg : decode K.2.1 pc = .ok (.laload, 1)) (hk : jK h a = 22) (hin : vp_in i (jN h a)) (k : jj_WP d K bc bs (pc + 1) L (.long (jL h 1000 a i.toNatClampNeg) :: st) h Q) : jj_WP d K bc bs pc L (.int i :: .ref a :: st) h Q := by
  intro p l e R s m args below meth c mc ms Z C RR H locs cells slots ls S
  obtain ⟨q, rfl, hi, ha⟩ := S.1.arr hk (by omega)
  exact va_lald (D := d.1) C.1 C.2.1 C.2.2.2.2.2.2.2.1.1 (jj_one ha) 0 1 rfl rfl hin dg (k p l e R s m args below meth c mc ms Z C RR H locs cells slots ls S)
theorem j_aaldC {a : Nat} {i : Int32} (dg : decode K.2.1 pc = .ok (.aaload, 1)) (hk : jK h a = 24) (hin : vp_in i (jN h a)) (k : jj_WP d K bc bs (pc + 1) L (.ref (jR h 1000 a i.toNatClampNeg) :: st) h Q) : jj_WP d K bc bs pc L (.int i :: .ref a :: st) h Q := by
  intro p l e R s m args below meth c mc ms Z C RR H locs cells slots ls S
  obtain ⟨q, rfl, hi, ha⟩ := S.1.arr hk (by omega)
  have kk := k p l e R s m args below meth c mc ms Z C RR H locs cells slots ls S
  rw [List.map_cons, jj_rv_ref] at kk
  exact va_aldq (D := d.1) C.1 C.2.1 C.2.2.2.2.2.2.2.1.1 (jj_one ha) 0 3 rfl rfl hin dg kk
theorem j_aaldN {a : Nat} {i : Int32} (dg : decode K.2.1 pc = .ok (.aaload, 1)) (hk : jK h a = 25) (hin : vp_in i (jN h a)) (k : jj_WP d K bc bs (pc + 1) L (.ref (jR h 1000 a i.toNatClampNeg) :: st) h Q) : jj_WP d K bc bs pc L (.int i :: .ref a :: st) h Q := by
  intro p l e R s m args below meth c mc ms Z C RR H locs cells slots ls S
  obtain ⟨q, rfl, hi, ha⟩ := S.1.arr hk (by omega)
  have kk := k p l e R s m args below meth c mc ms Z C RR H locs cells slots ls S
  rw [List.map_cons, jj_rv_ref] at kk
  exact va_aldq (D := d.1) C.1 C.2.1 C.2.2.2.2.2.2.2.1.1 (jj_one ha) 0 4 rfl rfl hin dg kk
theorem j_aaldR {a : Nat} {i : Int32} (dg : decode K.2.1 pc = .ok (.aaload, 1)) (hk : jK h a = 26) (hin : vp_in i (jN h a)) (k : jj_WP d K bc bs (pc + 1) L (.ref (jR h 1000 a i.toNatClampNeg) :: st) h Q) : jj_WP d K bc bs pc L (.int i :: .ref a :: st) h Q := by
  intro p l e R s m args below meth c mc ms Z C RR H locs cells slots ls S
  obtain ⟨q, rfl, hi, ha⟩ := S.1.arr hk (by omega)
  have kk := k p l e R s m args below meth c mc ms Z C RR H locs cells slots ls S
  rw [List.map_cons, jj_rv_ref] at kk
  exact va_aldq (D := d.1) C.1 C.2.1 C.2.2.2.2.2.2.2.1.1 (jj_one ha) 0 5 rfl rfl hin dg kk
theorem j_aaldT {a : Nat} {i : Int32} (dg : decode K.2.1 pc = .ok (.aaload, 1)) (hk : jK h a = 27) (hin : vp_in i (jN h a)) (k : jj_WP d K bc bs (pc + 1) L (.ref (jR h 1000 a i.toNatClampNeg) :: st) h Q) : jj_WP d K bc bs pc L (.int i :: .ref a :: st) h Q := by
  intro p l e R s m args below meth c mc ms Z C RR H locs cells slots ls S
  obtain ⟨q, rfl, hi, ha⟩ := S.1.arr hk (by omega)
  have kk := k p l e R s m args below meth c mc ms Z C RR H locs cells slots ls S
  rw [List.map_cons, jj_rv_ref] at kk
  exact va_aldq (D := d.1) C.1 C.2.1 C.2.2.2.2.2.2.2.1.1 (jj_one ha) 0 6 rfl rfl hin dg kk
theorem j_alenI {a : Nat} (dg : decode K.2.1 pc = .ok (.arraylength, 1)) (hk : jK h a = 21) (k : jj_WP d K bc bs (pc + 1) L (.int (nI (jN h a)) :: st) h Q) : jj_WP d K bc bs pc L (.ref a :: st) h Q := by
  intro p l e R s m args below meth c mc ms Z C RR H locs cells slots ls S
  obtain ⟨q, rfl, hi, ha⟩ := S.1.arr hk (by omega)
  exact va_alen (D := d.1) C.1 C.2.1 C.2.2.2.2.2.2.2.1.1 (jj_one ha) 0 0 rfl rfl rfl dg (k p l e R s m args below meth c mc ms Z C RR H locs cells slots ls S)
theorem j_alenC {a : Nat} (dg : decode K.2.1 pc = .ok (.arraylength, 1)) (hk : jK h a = 24) (k : jj_WP d K bc bs (pc + 1) L (.int (nI (jN h a)) :: st) h Q) : jj_WP d K bc bs pc L (.ref a :: st) h Q := by
  intro p l e R s m args below meth c mc ms Z C RR H locs cells slots ls S
  obtain ⟨q, rfl, hi, ha⟩ := S.1.arr hk (by omega)
  exact va_alen (D := d.1) C.1 C.2.1 C.2.2.2.2.2.2.2.1.1 (jj_one ha) 0 3 rfl rfl rfl dg (k p l e R s m args below meth c mc ms Z C RR H locs cells slots ls S)
theorem j_alenN {a : Nat} (dg : decode K.2.1 pc = .ok (.arraylength, 1)) (hk : jK h a = 25) (k : jj_WP d K bc bs (pc + 1) L (.int (nI (jN h a)) :: st) h Q) : jj_WP d K bc bs pc L (.ref a :: st) h Q := by
  intro p l e R s m args below meth c mc ms Z C RR H locs cells slots ls S
  obtain ⟨q, rfl, hi, ha⟩ := S.1.arr hk (by omega)
  exact va_alen (D := d.1) C.1 C.2.1 C.2.2.2.2.2.2.2.1.1 (jj_one ha) 0 4 rfl rfl rfl dg (k p l e R s m args below meth c mc ms Z C RR H locs cells slots ls S)
theorem jj_scr {d : jj_D} {s : State} {H : Heap} {locs : List Loc} (hX : va_X d.2.2.2.1 d.2.2.2.2.1 d.2.2.2.2.2 s s.heap) (hb : d.2.2.2.1 < d.2.2.1) (hB : d.2.2.1 ≤ s.heap.size) (hS : va_S (fun q => d.2.2.1 ≤ q) s.heap H locs) : va_X d.2.2.2.1 d.2.2.2.2.1 d.2.2.2.2.2 s H := by
  obtain ⟨scr, h1, h2⟩ := hX
  exact ⟨scr, by rw [hS.2.1 _ (by omega) (by show ¬ _ ≤ _; omega)]; exact h1, h2⟩
theorem j_iast {a : Nat} {i : Int32} {v : Int32} (dg : decode K.2.1 pc = .ok (.iastore, 1)) (hk : jK h a = 21) (hin : vp_in i (jN h a)) (k : jj_WP d K bc bs (pc + 1) L st (wI h 1000 a i.toNatClampNeg v) Q) : jj_WP d K bc bs pc L (.int v :: .int i :: .ref a :: st) h Q := by
  intro p l e R s m args below meth c mc ms Z C RR H locs cells slots ls S
  obtain ⟨q, rfl, hi, ha⟩ := S.1.arr hk (by omega)
  refine W.iast C.1 C.2.1 ha ((C.2.2.2.2.2.2.2.1.1.2 0 _ rfl).1 (jN h (q + 1)) (fun j => .int (jI h 1000 (q + 1) j))) (fun q => by cases q) (by show ¬ (i < 0 ∨ (arrV _ _ _).slots.size ≤ _); rw [arrV_size]; exact hin) rfl rfl dg fun H1 e1 z oq => ?_
  refine k p l e R s m args below meth c mc ms Z C RR H1 _ cells slots ls ⟨S.1.upd (i := q) rfl (fun _ => rfl) (fun b hb => jj_E_wI hb) rfl z ?_ oq, S.2.1.put z oq (Nat.le_add_right _ _), S.2.2.1, S.2.2.2.1, S.2.2.2.2⟩
  rw [jj_E_arr (show jK (wI h 1000 (q + 1) i.toNatClampNeg v) (q + 1) = 21 from hk) (by omega)]
  show H1[d.2.2.1 + q]? = some (vp_cell _ _)
  rw [e1]
  show some ((arrV (d.2.1 21) (jN h (q + 1)) (fun j => .int (jI h 1000 (q + 1) j))).setSlot i.toNatClampNeg (.int v)) = some (arrV (d.2.1 21) (jN h (q + 1)) (fun j => .int (jI (wI h 1000 (q + 1) i.toNatClampNeg v) 1000 (q + 1) j)))
  rw [arrV_store]
  congr 2
  funext j
  by_cases hj : j = i.toNatClampNeg
  · subst hj
    simp [updV, jI_wI]
  · simp [updV, jI_wI, hj]
theorem j_zast {a : Nat} {i : Int32} {v : Int32} (dg : decode K.2.1 pc = .ok (.bastore, 1)) (hk : jK h a = 23) (hin : vp_in i (jN h a)) (h01 : v = 0 ∨ v = 1) (k : jj_WP d K bc bs (pc + 1) L st (wI h 1000 a i.toNatClampNeg v) Q) : jj_WP d K bc bs pc L (.int v :: .int i :: .ref a :: st) h Q := by
  intro p l e R s m args below meth c mc ms Z C RR H locs cells slots ls S
  obtain ⟨q, rfl, hi, ha⟩ := S.1.arr hk (by omega)
  refine W.zast C.1 C.2.1 ha ((C.2.2.2.2.2.2.2.1.1.2 2 _ rfl).1 (jN h (q + 1)) (fun j => .int (jI h 1000 (q + 1) j))) (fun q => by cases q) (by show ¬ (i < 0 ∨ (arrV _ _ _).slots.size ≤ _); rw [arrV_size]; exact hin) rfl rfl dg fun H1 e1 z oq => ?_
  refine k p l e R s m args below meth c mc ms Z C RR H1 _ cells slots ls ⟨S.1.upd (i := q) rfl (fun _ => rfl) (fun b hb => jj_E_wI hb) rfl z ?_ oq, S.2.1.put z oq (Nat.le_add_right _ _), S.2.2.1, S.2.2.2.1, S.2.2.2.2⟩
  rw [jj_E_arr (show jK (wI h 1000 (q + 1) i.toNatClampNeg v) (q + 1) = 23 from hk) (by omega)]
  show H1[d.2.2.1 + q]? = some (vp_cell _ _)
  rw [e1]
  show some ((arrV (d.2.1 23) (jN h (q + 1)) (fun j => .int (jI h 1000 (q + 1) j))).setSlot i.toNatClampNeg (narrow .boolean (.int v))) = some (arrV (d.2.1 23) (jN h (q + 1)) (fun j => .int (jI (wI h 1000 (q + 1) i.toNatClampNeg v) 1000 (q + 1) j)))
  rw [arrV_store]
  congr 2
  funext j
  by_cases hj : j = i.toNatClampNeg
  · subst hj
    simp [updV, jI_wI]
    try (rcases h01 with rfl | rfl <;> rfl)
  · simp [updV, jI_wI, hj]
theorem j_last {a : Nat} {i : Int32} {v : Int64} (dg : decode K.2.1 pc = .ok (.lastore, 1)) (hk : jK h a = 22) (hin : vp_in i (jN h a)) (k : jj_WP d K bc bs (pc + 1) L st (wL h 1000 a i.toNatClampNeg v) Q) : jj_WP d K bc bs pc L (.long v :: .int i :: .ref a :: st) h Q := by
  intro p l e R s m args below meth c mc ms Z C RR H locs cells slots ls S
  obtain ⟨q, rfl, hi, ha⟩ := S.1.arr hk (by omega)
  refine W.last C.1 C.2.1 ha ((C.2.2.2.2.2.2.2.1.1.2 1 _ rfl).1 (jN h (q + 1)) (fun j => .long (jL h 1000 (q + 1) j))) (fun q => by cases q) (by show ¬ (i < 0 ∨ (arrV _ _ _).slots.size ≤ _); rw [arrV_size]; exact hin) rfl rfl dg fun H1 e1 z oq => ?_
  refine k p l e R s m args below meth c mc ms Z C RR H1 _ cells slots ls ⟨S.1.upd (i := q) rfl (fun _ => rfl) (fun b hb => jj_E_wL hb) rfl z ?_ oq, S.2.1.put z oq (Nat.le_add_right _ _), S.2.2.1, S.2.2.2.1, S.2.2.2.2⟩
  rw [jj_E_arr (show jK (wL h 1000 (q + 1) i.toNatClampNeg v) (q + 1) = 22 from hk) (by omega)]
  show H1[d.2.2.1 + q]? = some (vp_cell _ _)
  rw [e1]
  show some ((arrV (d.2.1 22) (jN h (q + 1)) (fun j => .long (jL h 1000 (q + 1) j))).setSlot i.toNatClampNeg (.long v)) = some (arrV (d.2.1 22) (jN h (q + 1)) (fun j => .long (jL (wL h 1000 (q + 1) i.toNatClampNeg v) 1000 (q + 1) j)))
  rw [arrV_store]
  congr 2
  funext j
  by_cases hj : j = i.toNatClampNeg
  · subst hj
    simp [updV, jL_wL]
  · simp [updV, jL_wL, hj]
theorem j_aastC {a : Nat} {i : Int32} {v : Nat} (dg : decode K.2.1 pc = .ok (.aastore, 1)) (hk : jK h a = 24) (hin : vp_in i (jN h a)) (hv : v = 0 ∨ jK h v = 1) (k : jj_WP d K bc bs (pc + 1) L st (wR h 1000 a i.toNatClampNeg v) Q) : jj_WP d K bc bs pc L (.ref v :: .int i :: .ref a :: st) h Q := by
  intro p l e R s m args below meth c mc ms Z C RR H locs cells slots ls S
  obtain ⟨q, rfl, hi, ha⟩ := S.1.arr hk (by omega)
  have fin : ∀ (H1 : Heap) (j : Nat), H1[d.2.2.1 + q]? = some ((arrV (d.2.1 24) (jN h (q + 1)) (fun j => va_rf (jj_o d.2.2.1 (jR h 1000 (q + 1) j)))).setSlot i.toNatClampNeg (jj_rv d.2.2.1 d.2.2.2.1 (.ref v))) → H1.size = H.size → (∀ x, x ≠ d.2.2.1 + q → H1[x]? = H[x]?) → W p l e R s m args below meth c H1 (locs ++ [⟨d.2.2.1 + q, j⟩]) cells slots Z (F0 m (pc + 1) ls (st.map (jj_rv d.2.2.1 d.2.2.2.1))) := by
    intro H1 j e1 z oq
    refine k p l e R s m args below meth c mc ms Z C RR H1 _ cells slots ls ⟨S.1.upd (i := q) rfl (fun _ => rfl) (fun b hb => jj_E_wR hb) rfl z ?_ oq, S.2.1.put z oq (Nat.le_add_right _ _), S.2.2.1, S.2.2.2.1, S.2.2.2.2⟩
    rw [jj_E_arr (show jK (wR h 1000 (q + 1) i.toNatClampNeg v) (q + 1) = 24 from hk) (by omega)]
    show H1[d.2.2.1 + q]? = some (vp_cell _ _)
    rw [e1]
    show some ((arrV (d.2.1 24) (jN h (q + 1)) (fun j => va_rf (jj_o d.2.2.1 (jR h 1000 (q + 1) j)))).setSlot i.toNatClampNeg (jj_rv d.2.2.1 d.2.2.2.1 (.ref v))) = some (arrV (d.2.1 24) (jN h (q + 1)) (fun j => va_rf (jj_o d.2.2.1 (jR (wR h 1000 (q + 1) i.toNatClampNeg v) 1000 (q + 1) j))))
    rw [arrV_store]
    congr 2
    funext j
    by_cases hj : j = i.toNatClampNeg
    · subst hj
      simp [updV, jR_wR, jj_rv_ref]
    · simp [updV, jR_wR, hj]
  have hinV : ¬ (i < 0 ∨ (arrV (d.2.1 24) (jN h (q + 1)) (fun j => va_rf (jj_o d.2.2.1 (jR h 1000 (q + 1) j)))).slots.size ≤ i.toNatClampNeg) := by rw [arrV_size]; exact hin
  by_cases h0 : v = 0
  · subst h0
    exact va_WaastN (C := RX0) C.1 C.2.1 ha ((C.2.2.2.2.2.2.2.1.1.2 3 _ rfl).1 (jN h (q + 1)) (fun j => va_rf (jj_o d.2.2.1 (jR h 1000 (q + 1) j)))) (fun h => by cases h) hinV rfl rfl dg fun H1 e1 z oq => fin H1 _ e1 z oq
  · obtain ⟨w, rfl, hw, hb⟩ := S.1.obj (ci := 0) (hv.resolve_left h0) (by omega)
    obtain ⟨r', hr', cellV, g1, g2, g3, -⟩ := hb
    have hcls := (C.2.2.2.2.2.2.2.1.1.1 0 (RX0, TX0, 4) rfl).2
    obtain ⟨kA, comp, k1, k2, k3, -⟩ := (C.2.2.2.2.2.2.2.1.1.2 3 _ rfl).2
    have hcomp : comp = d.1.1 0 := Option.some.inj (k3.symm.trans hcls.1)
    subst hcomp
    obtain ⟨kC, hkC, hkd⟩ := hcls.2
    refine W.aast C.1 C.2.1 ha (fun q h => by cases h) (fun h => by cases h) k1 k2 rfl hkC ⟨fun q => hinV (Or.inl q), Nat.not_le.mp fun q => hinV (Or.inr q)⟩ g1 (fun q h => by rw [g3] at h; cases h) (by rw [g2]; exact hkC) (by rw [g2]; exact va_assign ⟨hcls.1, kC, hkC, hkd⟩) rfl rfl dg fun H1 e1 z oq => fin H1 _ e1 z oq
theorem j_aastN {a : Nat} {i : Int32} {v : Nat} (dg : decode K.2.1 pc = .ok (.aastore, 1)) (hk : jK h a = 25) (hin : vp_in i (jN h a)) (hv : v = 0 ∨ jK h v = 4) (k : jj_WP d K bc bs (pc + 1) L st (wR h 1000 a i.toNatClampNeg v) Q) : jj_WP d K bc bs pc L (.ref v :: .int i :: .ref a :: st) h Q := by
  intro p l e R s m args below meth c mc ms Z C RR H locs cells slots ls S
  obtain ⟨q, rfl, hi, ha⟩ := S.1.arr hk (by omega)
  have fin : ∀ (H1 : Heap) (j : Nat), H1[d.2.2.1 + q]? = some ((arrV (d.2.1 25) (jN h (q + 1)) (fun j => va_rf (jj_o d.2.2.1 (jR h 1000 (q + 1) j)))).setSlot i.toNatClampNeg (jj_rv d.2.2.1 d.2.2.2.1 (.ref v))) → H1.size = H.size → (∀ x, x ≠ d.2.2.1 + q → H1[x]? = H[x]?) → W p l e R s m args below meth c H1 (locs ++ [⟨d.2.2.1 + q, j⟩]) cells slots Z (F0 m (pc + 1) ls (st.map (jj_rv d.2.2.1 d.2.2.2.1))) := by
    intro H1 j e1 z oq
    refine k p l e R s m args below meth c mc ms Z C RR H1 _ cells slots ls ⟨S.1.upd (i := q) rfl (fun _ => rfl) (fun b hb => jj_E_wR hb) rfl z ?_ oq, S.2.1.put z oq (Nat.le_add_right _ _), S.2.2.1, S.2.2.2.1, S.2.2.2.2⟩
    rw [jj_E_arr (show jK (wR h 1000 (q + 1) i.toNatClampNeg v) (q + 1) = 25 from hk) (by omega)]
    show H1[d.2.2.1 + q]? = some (vp_cell _ _)
    rw [e1]
    show some ((arrV (d.2.1 25) (jN h (q + 1)) (fun j => va_rf (jj_o d.2.2.1 (jR h 1000 (q + 1) j)))).setSlot i.toNatClampNeg (jj_rv d.2.2.1 d.2.2.2.1 (.ref v))) = some (arrV (d.2.1 25) (jN h (q + 1)) (fun j => va_rf (jj_o d.2.2.1 (jR (wR h 1000 (q + 1) i.toNatClampNeg v) 1000 (q + 1) j))))
    rw [arrV_store]
    congr 2
    funext j
    by_cases hj : j = i.toNatClampNeg
    · subst hj
      simp [updV, jR_wR, jj_rv_ref]
    · simp [updV, jR_wR, hj]
  have hinV : ¬ (i < 0 ∨ (arrV (d.2.1 25) (jN h (q + 1)) (fun j => va_rf (jj_o d.2.2.1 (jR h 1000 (q + 1) j)))).slots.size ≤ i.toNatClampNeg) := by rw [arrV_size]; exact hin
  by_cases h0 : v = 0
  · subst h0
    exact va_WaastN (C := RX3) C.1 C.2.1 ha ((C.2.2.2.2.2.2.2.1.1.2 4 _ rfl).1 (jN h (q + 1)) (fun j => va_rf (jj_o d.2.2.1 (jR h 1000 (q + 1) j)))) (fun h => by cases h) hinV rfl rfl dg fun H1 e1 z oq => fin H1 _ e1 z oq
  · obtain ⟨w, rfl, hw, hb⟩ := S.1.obj (ci := 3) (hv.resolve_left h0) (by omega)
    obtain ⟨r', hr', cellV, g1, g2, g3, -⟩ := hb
    have hcls := (C.2.2.2.2.2.2.2.1.1.1 3 (RX3, TX3, 9) rfl).2
    obtain ⟨kA, comp, k1, k2, k3, -⟩ := (C.2.2.2.2.2.2.2.1.1.2 4 _ rfl).2
    have hcomp : comp = d.1.1 3 := Option.some.inj (k3.symm.trans hcls.1)
    subst hcomp
    obtain ⟨kC, hkC, hkd⟩ := hcls.2
    refine W.aast C.1 C.2.1 ha (fun q h => by cases h) (fun h => by cases h) k1 k2 rfl hkC ⟨fun q => hinV (Or.inl q), Nat.not_le.mp fun q => hinV (Or.inr q)⟩ g1 (fun q h => by rw [g3] at h; cases h) (by rw [g2]; exact hkC) (by rw [g2]; exact va_assign ⟨hcls.1, kC, hkC, hkd⟩) rfl rfl dg fun H1 e1 z oq => fin H1 _ e1 z oq
theorem j_aastR {a : Nat} {i : Int32} {v : Nat} (dg : decode K.2.1 pc = .ok (.aastore, 1)) (hk : jK h a = 26) (hin : vp_in i (jN h a)) (hv : v = 0 ∨ jK h v = 7) (k : jj_WP d K bc bs (pc + 1) L st (wR h 1000 a i.toNatClampNeg v) Q) : jj_WP d K bc bs pc L (.ref v :: .int i :: .ref a :: st) h Q := by
  intro p l e R s m args below meth c mc ms Z C RR H locs cells slots ls S
  obtain ⟨q, rfl, hi, ha⟩ := S.1.arr hk (by omega)
  have fin : ∀ (H1 : Heap) (j : Nat), H1[d.2.2.1 + q]? = some ((arrV (d.2.1 26) (jN h (q + 1)) (fun j => va_rf (jj_o d.2.2.1 (jR h 1000 (q + 1) j)))).setSlot i.toNatClampNeg (jj_rv d.2.2.1 d.2.2.2.1 (.ref v))) → H1.size = H.size → (∀ x, x ≠ d.2.2.1 + q → H1[x]? = H[x]?) → W p l e R s m args below meth c H1 (locs ++ [⟨d.2.2.1 + q, j⟩]) cells slots Z (F0 m (pc + 1) ls (st.map (jj_rv d.2.2.1 d.2.2.2.1))) := by
    intro H1 j e1 z oq
    refine k p l e R s m args below meth c mc ms Z C RR H1 _ cells slots ls ⟨S.1.upd (i := q) rfl (fun _ => rfl) (fun b hb => jj_E_wR hb) rfl z ?_ oq, S.2.1.put z oq (Nat.le_add_right _ _), S.2.2.1, S.2.2.2.1, S.2.2.2.2⟩
    rw [jj_E_arr (show jK (wR h 1000 (q + 1) i.toNatClampNeg v) (q + 1) = 26 from hk) (by omega)]
    show H1[d.2.2.1 + q]? = some (vp_cell _ _)
    rw [e1]
    show some ((arrV (d.2.1 26) (jN h (q + 1)) (fun j => va_rf (jj_o d.2.2.1 (jR h 1000 (q + 1) j)))).setSlot i.toNatClampNeg (jj_rv d.2.2.1 d.2.2.2.1 (.ref v))) = some (arrV (d.2.1 26) (jN h (q + 1)) (fun j => va_rf (jj_o d.2.2.1 (jR (wR h 1000 (q + 1) i.toNatClampNeg v) 1000 (q + 1) j))))
    rw [arrV_store]
    congr 2
    funext j
    by_cases hj : j = i.toNatClampNeg
    · subst hj
      simp [updV, jR_wR, jj_rv_ref]
    · simp [updV, jR_wR, hj]
  have hinV : ¬ (i < 0 ∨ (arrV (d.2.1 26) (jN h (q + 1)) (fun j => va_rf (jj_o d.2.2.1 (jR h 1000 (q + 1) j)))).slots.size ≤ i.toNatClampNeg) := by rw [arrV_size]; exact hin
  by_cases h0 : v = 0
  · subst h0
    exact va_WaastN (C := RX6) C.1 C.2.1 ha ((C.2.2.2.2.2.2.2.1.1.2 5 _ rfl).1 (jN h (q + 1)) (fun j => va_rf (jj_o d.2.2.1 (jR h 1000 (q + 1) j)))) (fun h => by cases h) hinV rfl rfl dg fun H1 e1 z oq => fin H1 _ e1 z oq
  · obtain ⟨w, rfl, hw, hb⟩ := S.1.obj (ci := 6) (hv.resolve_left h0) (by omega)
    obtain ⟨r', hr', cellV, g1, g2, g3, -⟩ := hb
    have hcls := (C.2.2.2.2.2.2.2.1.1.1 6 (RX6, TX6, 2) rfl).2
    obtain ⟨kA, comp, k1, k2, k3, -⟩ := (C.2.2.2.2.2.2.2.1.1.2 5 _ rfl).2
    have hcomp : comp = d.1.1 6 := Option.some.inj (k3.symm.trans hcls.1)
    subst hcomp
    obtain ⟨kC, hkC, hkd⟩ := hcls.2
    refine W.aast C.1 C.2.1 ha (fun q h => by cases h) (fun h => by cases h) k1 k2 rfl hkC ⟨fun q => hinV (Or.inl q), Nat.not_le.mp fun q => hinV (Or.inr q)⟩ g1 (fun q h => by rw [g3] at h; cases h) (by rw [g2]; exact hkC) (by rw [g2]; exact va_assign ⟨hcls.1, kC, hkC, hkd⟩) rfl rfl dg fun H1 e1 z oq => fin H1 _ e1 z oq
theorem j_aastT {a : Nat} {i : Int32} {v : Nat} (dg : decode K.2.1 pc = .ok (.aastore, 1)) (hk : jK h a = 27) (hin : vp_in i (jN h a)) (hv : v = 0 ∨ jK h v = 8) (k : jj_WP d K bc bs (pc + 1) L st (wR h 1000 a i.toNatClampNeg v) Q) : jj_WP d K bc bs pc L (.ref v :: .int i :: .ref a :: st) h Q := by
  intro p l e R s m args below meth c mc ms Z C RR H locs cells slots ls S
  obtain ⟨q, rfl, hi, ha⟩ := S.1.arr hk (by omega)
  have fin : ∀ (H1 : Heap) (j : Nat), H1[d.2.2.1 + q]? = some ((arrV (d.2.1 27) (jN h (q + 1)) (fun j => va_rf (jj_o d.2.2.1 (jR h 1000 (q + 1) j)))).setSlot i.toNatClampNeg (jj_rv d.2.2.1 d.2.2.2.1 (.ref v))) → H1.size = H.size → (∀ x, x ≠ d.2.2.1 + q → H1[x]? = H[x]?) → W p l e R s m args below meth c H1 (locs ++ [⟨d.2.2.1 + q, j⟩]) cells slots Z (F0 m (pc + 1) ls (st.map (jj_rv d.2.2.1 d.2.2.2.1))) := by
    intro H1 j e1 z oq
    refine k p l e R s m args below meth c mc ms Z C RR H1 _ cells slots ls ⟨S.1.upd (i := q) rfl (fun _ => rfl) (fun b hb => jj_E_wR hb) rfl z ?_ oq, S.2.1.put z oq (Nat.le_add_right _ _), S.2.2.1, S.2.2.2.1, S.2.2.2.2⟩
    rw [jj_E_arr (show jK (wR h 1000 (q + 1) i.toNatClampNeg v) (q + 1) = 27 from hk) (by omega)]
    show H1[d.2.2.1 + q]? = some (vp_cell _ _)
    rw [e1]
    show some ((arrV (d.2.1 27) (jN h (q + 1)) (fun j => va_rf (jj_o d.2.2.1 (jR h 1000 (q + 1) j)))).setSlot i.toNatClampNeg (jj_rv d.2.2.1 d.2.2.2.1 (.ref v))) = some (arrV (d.2.1 27) (jN h (q + 1)) (fun j => va_rf (jj_o d.2.2.1 (jR (wR h 1000 (q + 1) i.toNatClampNeg v) 1000 (q + 1) j))))
    rw [arrV_store]
    congr 2
    funext j
    by_cases hj : j = i.toNatClampNeg
    · subst hj
      simp [updV, jR_wR, jj_rv_ref]
    · simp [updV, jR_wR, hj]
  have hinV : ¬ (i < 0 ∨ (arrV (d.2.1 27) (jN h (q + 1)) (fun j => va_rf (jj_o d.2.2.1 (jR h 1000 (q + 1) j)))).slots.size ≤ i.toNatClampNeg) := by rw [arrV_size]; exact hin
  by_cases h0 : v = 0
  · subst h0
    exact va_WaastN (C := RX7) C.1 C.2.1 ha ((C.2.2.2.2.2.2.2.1.1.2 6 _ rfl).1 (jN h (q + 1)) (fun j => va_rf (jj_o d.2.2.1 (jR h 1000 (q + 1) j)))) (fun h => by cases h) hinV rfl rfl dg fun H1 e1 z oq => fin H1 _ e1 z oq
  · obtain ⟨w, rfl, hw, hb⟩ := S.1.obj (ci := 7) (hv.resolve_left h0) (by omega)
    obtain ⟨r', hr', cellV, g1, g2, g3, -⟩ := hb
    have hcls := (C.2.2.2.2.2.2.2.1.1.1 7 (RX7, TX7, 6) rfl).2
    obtain ⟨kA, comp, k1, k2, k3, -⟩ := (C.2.2.2.2.2.2.2.1.1.2 6 _ rfl).2
    have hcomp : comp = d.1.1 7 := Option.some.inj (k3.symm.trans hcls.1)
    subst hcomp
    obtain ⟨kC, hkC, hkd⟩ := hcls.2
    refine W.aast C.1 C.2.1 ha (fun q h => by cases h) (fun h => by cases h) k1 k2 rfl hkC ⟨fun q => hinV (Or.inl q), Nat.not_le.mp fun q => hinV (Or.inr q)⟩ g1 (fun q h => by rw [g3] at h; cases h) (by rw [g2]; exact hkC) (by rw [g2]; exact va_assign ⟨hcls.1, kC, hkC, hkd⟩) rfl rfl dg fun H1 e1 z oq => fin H1 _ e1 z oq
end JARR
end
section
section JMAKE
variable {d : jj_D} {K : jj_M} {bc bs pc : Nat} {L : List (Nat × Value)} {st : List Value} {h : jj_H} {Q : Value → jj_H → Prop}
def jj_dv (t : Nat) : Value := if t = 1 then .long 0 else if t = 2 then .null else .int 0
theorem jj_S.push {A : Nat → Prop} {H0 H H1 : Heap} {locs : List Loc} (hS : va_S A H0 H locs) (z : H1.size = H.size + 1) (o1 : ∀ q : Nat, q < H.size → H1[q]? = H[q]?) : va_S A H0 H1 locs :=
  ⟨Nat.le_trans hS.1 (by omega), fun x h1 h2 => (o1 x (Nat.lt_of_lt_of_le h1 hS.1)).trans (hS.2.1 x h1 h2), hS.2.2⟩
theorem jj_rv_new {d : jj_D} {h : jj_H} {H : Heap} (hP : jj_P d.1 d.2.1 d.2.2.1 h H) : jj_rv d.2.2.1 d.2.2.2.1 (.ref (jZ h + 1)) = .ref H.size := by
  show Value.ref (d.2.2.1 + jZ h) = _
  rw [hP.1]
theorem j_new {ci : Nat} {C0 : String} {T : u_T} {N : Nat} {ty : Nat → FieldType} {idx : Nat} (hc : jj_cls ci C0 T N ty) (hdv : ∀ k, k < N → defaultValue (ty k) = jj_dv ((jj_T ci).getD k 0)) (hl : Cond.classLink K.1.cls idx C0 ∈ jj_tb) (hin : Cond.instantiable C0 N ∈ jj_tb) (hit : Cond.initialized C0 ∈ jj_tb) (dg : decode K.2.1 pc = .ok (.new idx, 3)) (k : jj_WP d K bc bs (pc + 3) L (.ref (jZ h + 1) :: st) (wA h (ci + 1) 0) Q) : jj_WP d K (bc + 1) (bs + N) pc L st h Q := by
  intro p l e R s m args below meth c mc ms Z C RR H locs cells slots ls S
  have hts := C.2.2.2.2.2.2.1
  have hKn := C.2.2.2.2.2.2.2.1.1.1 ci _ hc.1
  have b1 := S.2.2.1
  have b2 := S.2.2.2.1
  have b3 := C.2.2.2.2.2.2.2.2.2.2.1
  have b4 := C.2.2.2.2.2.2.2.2.2.2.2.1
  refine W.newcK C.1 C.2.1 C.2.2.2.2.2.1 (hts _ hl) (hts _ hin) (hts _ hit) rfl dg (by omega) (by omega) hKn.2.1 rfl fun H1 kC hkC e1 z1 o1 => ?_
  have kk := k p l e R s m args below meth c mc ms Z C RR H1 locs (cells + 1) (slots + N) ls ⟨S.1.push (e' := .inr (ci, jj_fs d.2.2.1 (wA h (ci + 1) 0) ci (jZ h + 1))) (jj_E_obj (by rw [jK_wA, if_pos rfl]) hc.2.2.2.2.2.1) z1 ⟨_, hc.1, (u_born ty hts hc.2.1 hKn hkC e1 hc.2.2.1).to fun j hj => ?_⟩ o1, jj_S.push S.2.1 z1 o1, by omega, by omega, S.2.2.2.2⟩
  · rw [List.map_cons, jj_rv_new S.1] at kk
    exact kk
  · have hj' : j < N := hj
    rw [hdv j hj']
    have e3 : vp_V (jj_fs d.2.2.1 (wA h (ci + 1) 0) ci (jZ h + 1)) j = jj_fv d.2.2.1 (wA h (ci + 1) 0) ((jj_T ci).getD j 0) (50 * ci + j) (jZ h + 1) := by
      unfold vp_V
      rw [List.getD_eq_getElem?_getD, jj_fs_get (by have := hc.2.2.2.2.1; omega)]
      rfl
    show jj_dv ((jj_T ci).getD j 0) = vp_V (jj_fs d.2.2.1 (wA h (ci + 1) 0) ci (jZ h + 1)) j
    rw [e3]
    simp only [jj_fv, jL_wA, jI_wA, jR_wA, if_pos]
    rfl
theorem jj_arrV_congr {cA : ClassId} {n : Nat} {F G : Nat → Value} (h : ∀ j, j < n → F j = G j) : arrV cA n F = arrV cA n G := by
  unfold arrV
  congr 2
  funext j
  exact h j.val j.isLt
theorem jj_ac_new {B : Nat} {h : jj_H} {k n : Nat} (cA : ClassId) : vp_cell cA (n, jj_ac B (wA h k n) k (jZ h + 1)) = arrV cA n (fun _ => if k = 22 then .long 0 else if k < 24 then .int 0 else .null) := by
  unfold jj_ac
  simp only [jI_wA, jL_wA, jR_wA, if_pos]
  by_cases h1 : k = 22
  · simp only [h1, if_pos]
    rfl
  · by_cases h2 : k < 24
    · simp only [h1, h2, if_pos, if_false]
      rfl
    · simp only [h1, h2, if_false]
      rfl
theorem j_newI {n : Int32} {N : Nat} (hw : Cond.arrayClass .int ∈ jj_tb) (dg : decode K.2.1 pc = .ok (.newarray .int, 2)) (hn : ¬ n < 0) (hN : n.toNatClampNeg = N) (hbytes : N ≤ 134217728) (k : jj_WP d K bc bs (pc + 2) L (.ref (jZ h + 1) :: st) (wA h 21 N) Q) : jj_WP d K (bc + 1) (bs + N) pc L (.int n :: st) h Q := by
  intro p l e R s m args below meth c mc ms Z C RR H locs cells slots ls S
  have b1 := S.2.2.1
  have b2 := S.2.2.2.1
  have b3 := C.2.2.2.2.2.2.2.2.2.2.1
  have b4 := C.2.2.2.2.2.2.2.2.2.2.2.1
  refine va_newaK C.1 C.2.1 (atype := .int) (C.2.2.2.2.2.2.1 _ hw) rfl dg rfl hn hN (by show N * 4 ≤ _; omega) (by omega) (by omega) rfl fun H1 cA e1 z1 o1 hAr hNm => ?_
  have hcA : cA = d.2.1 21 := Option.some.inj (hNm.symm.trans (C.2.2.2.2.2.2.2.1.1.2 0 _ rfl).2)
  subst hcA
  have kk := k p l e R s m args below meth c mc ms Z C RR H1 locs (cells + 1) (slots + N) ls ⟨S.1.push rfl z1 (by
    rw [jj_E_arr (by rw [jK_wA, if_pos rfl]) (by omega)]
    show H1[H.size]? = some (vp_cell _ _)
    rw [e1, jN_wA, if_pos rfl]
    exact congrArg some (jj_ac_new (B := d.2.2.1) (h := h) (k := 21) (n := N) (d.2.1 21)).symm) o1, jj_S.push S.2.1 z1 o1, by omega, by omega, S.2.2.2.2⟩
  rw [List.map_cons, jj_rv_new S.1] at kk
  exact kk
theorem j_newL {n : Int32} {N : Nat} (hw : Cond.arrayClass .long ∈ jj_tb) (dg : decode K.2.1 pc = .ok (.newarray .long, 2)) (hn : ¬ n < 0) (hN : n.toNatClampNeg = N) (hbytes : N ≤ 67108864) (k : jj_WP d K bc bs (pc + 2) L (.ref (jZ h + 1) :: st) (wA h 22 N) Q) : jj_WP d K (bc + 1) (bs + N) pc L (.int n :: st) h Q := by
  intro p l e R s m args below meth c mc ms Z C RR H locs cells slots ls S
  have b1 := S.2.2.1
  have b2 := S.2.2.2.1
  have b3 := C.2.2.2.2.2.2.2.2.2.2.1
  have b4 := C.2.2.2.2.2.2.2.2.2.2.2.1
  refine va_newaK C.1 C.2.1 (atype := .long) (C.2.2.2.2.2.2.1 _ hw) rfl dg rfl hn hN (by show N * 8 ≤ _; omega) (by omega) (by omega) rfl fun H1 cA e1 z1 o1 hAr hNm => ?_
  have hcA : cA = d.2.1 22 := Option.some.inj (hNm.symm.trans (C.2.2.2.2.2.2.2.1.1.2 1 _ rfl).2)
  subst hcA
  have kk := k p l e R s m args below meth c mc ms Z C RR H1 locs (cells + 1) (slots + N) ls ⟨S.1.push rfl z1 (by
    rw [jj_E_arr (by rw [jK_wA, if_pos rfl]) (by omega)]
    show H1[H.size]? = some (vp_cell _ _)
    rw [e1, jN_wA, if_pos rfl]
    exact congrArg some (jj_ac_new (B := d.2.2.1) (h := h) (k := 22) (n := N) (d.2.1 22)).symm) o1, jj_S.push S.2.1 z1 o1, by omega, by omega, S.2.2.2.2⟩
  rw [List.map_cons, jj_rv_new S.1] at kk
  exact kk
theorem j_newZ {n : Int32} {N : Nat} (hw : Cond.arrayClass .boolean ∈ jj_tb) (dg : decode K.2.1 pc = .ok (.newarray .boolean, 2)) (hn : ¬ n < 0) (hN : n.toNatClampNeg = N) (hbytes : N ≤ 536870912) (k : jj_WP d K bc bs (pc + 2) L (.ref (jZ h + 1) :: st) (wA h 23 N) Q) : jj_WP d K (bc + 1) (bs + N) pc L (.int n :: st) h Q := by
  intro p l e R s m args below meth c mc ms Z C RR H locs cells slots ls S
  have b1 := S.2.2.1
  have b2 := S.2.2.2.1
  have b3 := C.2.2.2.2.2.2.2.2.2.2.1
  have b4 := C.2.2.2.2.2.2.2.2.2.2.2.1
  refine va_newaK C.1 C.2.1 (atype := .boolean) (C.2.2.2.2.2.2.1 _ hw) rfl dg rfl hn hN (by show N * 1 ≤ _; omega) (by omega) (by omega) rfl fun H1 cA e1 z1 o1 hAr hNm => ?_
  have hcA : cA = d.2.1 23 := Option.some.inj (hNm.symm.trans (C.2.2.2.2.2.2.2.1.1.2 2 _ rfl).2)
  subst hcA
  have kk := k p l e R s m args below meth c mc ms Z C RR H1 locs (cells + 1) (slots + N) ls ⟨S.1.push rfl z1 (by
    rw [jj_E_arr (by rw [jK_wA, if_pos rfl]) (by omega)]
    show H1[H.size]? = some (vp_cell _ _)
    rw [e1, jN_wA, if_pos rfl]
    exact congrArg some (jj_ac_new (B := d.2.2.1) (h := h) (k := 23) (n := N) (d.2.1 23)).symm) o1, jj_S.push S.2.1 z1 o1, by omega, by omega, S.2.2.2.2⟩
  rw [List.map_cons, jj_rv_new S.1] at kk
  exact kk
theorem j_newQ {n : Int32} {N kd t0 : Nat} {C0 : String} {idx : Nat} (hC : C0 ∈ [RX0, RX3, RX6, RX7]) (hkd : 24 ≤ kd) (ht : ∀ dA : Nat → ClassId, (jj_ty dA)[t0]? = some (dA kd, .object C0)) (hl : Cond.classLink K.1.cls idx C0 ∈ jj_tb) (dg : decode K.2.1 pc = .ok (.anewarray idx, 3)) (hn : ¬ n < 0) (hN : n.toNatClampNeg = N) (hbytes : N ≤ 134217728) (k : jj_WP d K bc bs (pc + 3) L (.ref (jZ h + 1) :: st) (wA h kd N) Q) : jj_WP d K (bc + 1) (bs + N) pc L (.int n :: st) h Q := by
  intro p l e R s m args below meth c mc ms Z C RR H locs cells slots ls S
  have b1 := S.2.2.1
  have b2 := S.2.2.2.1
  have b3 := C.2.2.2.2.2.2.2.2.2.2.1
  have b4 := C.2.2.2.2.2.2.2.2.2.2.2.1
  subst hN
  refine W.anew C.1 C.2.1 C.2.2.2.2.2.1 (C.2.2.2.2.2.2.1 _ hl) (va_AO.use (C.2.2.2.2.2.2.2.1.2.2.1 C0 hC)) rfl dg rfl hn (by omega) (by omega) (by omega) fun cA kA comp f1 f2 f3 f4 => ?_
  generalize hH1 : H.push ({ cls := cA, slots := Array.replicate n.toNatClampNeg .null, vm := .none } : Cell) = H1
  have z1 : H1.size = H.size + 1 := by rw [← hH1, Array.size_push]
  have e1 : H1[H.size]? = some (arrV cA n.toNatClampNeg (fun _ => .null)) := by rw [← hH1, Array.getElem?_push_size, ← arrV_new]
  have o1 : ∀ q : Nat, q < H.size → H1[q]? = H[q]? := fun q hq => by rw [← hH1, Array.getElem?_push, if_neg (Nat.ne_of_lt hq)]
  obtain ⟨kA', comp', g1, g2, g3, g4⟩ := (C.2.2.2.2.2.2.2.1.1.2 t0 _ (ht d.2.1)).2
  have hcA : cA = d.2.1 kd := Option.some.inj (f1.symm.trans g4)
  subst hcA
  have kk := k p l e R s m args below meth c mc ms Z C RR H1 locs (cells + 1) (slots + n.toNatClampNeg) ls ⟨S.1.push rfl z1 (by
    rw [jj_E_arr (by rw [jK_wA, if_pos rfl]) (by omega)]
    show H1[H.size]? = some (vp_cell _ _)
    rw [e1, jN_wA, if_pos rfl]
    refine congrArg some ((jj_ac_new _).trans ?_).symm
    rw [if_neg (by omega), if_neg (by omega)]) o1, jj_S.push S.2.1 z1 o1, by omega, by omega, S.2.2.2.2⟩
  rw [List.map_cons, jj_rv_new S.1] at kk
  exact kk
/-! calls -/
def jj_pu (ret : Option FieldType) (v : Value) (st : List Value) : List Value := match ret with
  | none => st
  | some _ => v :: st
theorem jj_pu_map (d : jj_D) (ret : Option FieldType) (v : Value) (st : List Value) : (jj_pu ret v st).map (jj_rv d.2.2.1 d.2.2.2.1) = (jj_ro d ret v).toList ++ st.map (jj_rv d.2.2.1 d.2.2.2.1) := by cases ret <;> rfl
theorem jj_callW {p : Program} {l : Launch} {e : Env} {R : Room} {s : State} {m : MethodId} {args : Array Value} {below : List Frame} {meth : Method} {c : Code} {H : Heap} {locs : List Loc} {cells slots cj sj : Nat} {Z : State → Prop} {pc : Nat} {ls : Array Slot} {st0 rest : List Value} {a : Array Value} {K' : jj_M} {d : jj_D} {Q' : Value → jj_H → Prop}
    (hr : va_Run p l e R s m args below meth c H locs cells slots cj sj (F0 m pc ls st0) rest (jj_Q K' d Q' a) (fun q => d.2.2.1 ≤ q)) (hS : va_S (fun q => d.2.2.1 ≤ q) s.heap H locs)
    (kk : ∀ (v : Value) (h1 : jj_H) (H1 : Heap) (locs1 : List Loc), Q' v h1 → jj_P d.1 d.2.1 d.2.2.1 h1 H1 → va_S (fun q => d.2.2.1 ≤ q) s.heap H1 locs1 → W p l e R s m args below meth c H1 locs1 (cells + cj) (slots + sj) Z (F0 m (pc + 3) ls ((jj_ro d K'.2.2.2.1 v).toList ++ rest))) : W p l e R s m args below meth c H locs cells slots Z (F0 m pc ls st0) := by
  intro T hT X
  obtain ⟨v, st₀, t, T', L, h0, X', hL, e1, e2, ⟨⟨v1, h1, hv, hq, hp⟩, hz, hk⟩, step⟩ := hr T hT X
  cases hv
  rw [h0] at hz hk
  obtain ⟨t2, a1, b1⟩ := kk v1 h1 T'.heap (locs ++ L) hq (by rw [e1]; exact hp) ⟨Nat.le_trans hS.1 (by rw [e1]; exact hz), fun q g1 g2 => by rw [e1, hk q (Nat.lt_of_lt_of_le g1 hS.1) g2]; exact hS.2.1 q g1 g2, fun q hq' => by
      rcases List.mem_append.mp hq' with g | g
      · exact hS.2.2 q g
      · exact hL q g⟩ T' rfl X'
  exact ⟨t2, step t2 a1, b1⟩
/-- what a call asks of the tables: the code, the class, the number of parameters -/
def jj_cm (K' : jj_M) (n : Nat) : Prop := Cond.code K'.1 K'.2.1 K'.2.2.1 K'.2.2.2.1 ∈ jj_tb ∧ Cond.initialized K'.1.cls ∈ jj_tb ∧ K'.1.cls ≠ "java/lang/invoke/MethodHandle" ∧ K'.1.cls ≠ "java/lang/invoke/VarHandle" ∧ (parseMethodDescriptor K'.1.desc).map (fun d => d.parameters.length) = some n
def jj_rm (K' K : jj_M) : Prop := K'.2.2.2.2.1 + 1 ≤ K.2.2.2.2.1 ∧ 8 + (K'.2.2.1 + 11) + K'.2.2.2.2.2 ≤ K.2.2.2.2.2
theorem jj_gi {K' : jj_M} (hc : Cond.code K'.1 K'.2.1 K'.2.2.1 K'.2.2.2.1 ∈ jj_tb) : GoodIn jj_tb (jj_ws K') := fun w hw => by
  rcases List.mem_cons.mp hw with rfl | hw
  · exact jj_good _ hc
  · exact jj_good _ hw
theorem jj_bl {d : jj_D} {h : jj_H} {as : List Value} : FrameBlind (va_Pc as (fun U => jj_I d h U)) := by
  intro a U g mk hq
  obtain ⟨q0, ⟨qK, qN, qA, qC⟩, qX, q3, q4, q5⟩ := hq
  exact ⟨q0, ⟨va_K.moved (u := U) (U := U.calling g mk a) (Vm.Alike.refl U.vm) qK, fun q hq => va_Nw.same rfl (u := U) (U := U.calling g mk a) rfl (qN q hq), fun C hC => va_AO.moved (u := U) (U := U.calling g mk a) (Vm.Alike.refl U.vm) (qA C hC), va_Nw.same rfl (u := U) (U := U.calling g mk a) rfl qC⟩, va_X.moved (u := U) (U := U.calling g mk a) (Vm.Alike.refl U.vm) qX, q3, q4, q5⟩
theorem jj_pre {K : jj_M} {d : jj_D} {p : Program} {R : Room} {s : State} {m : MethodId} {args : Array Value} {meth : Method} {c : Code} {mc ms : Nat} {L : List (Nat × Value)} {h : jj_H} {bc bs : Nat} {H : Heap} {locs : List Loc} {cells slots : Nat} {ls : Array Slot} (C : jj_X K d p R s m args meth c mc ms) (S : jj_S K d s L h mc ms bc bs H locs cells slots ls) (U : State) (hU : U.heap = H) (hW : s.WarmedH U.vm) : jj_I d h U := by
  have hB := C.2.2.2.2.2.2.2.2.2.2.2.2.1
  have hX := C.2.2.2.2.2.2.2.2.2.2.2.2.2.2.1
  have hb := C.2.2.2.2.2.2.2.2.2.2.2.2.2.2.2
  refine ⟨jj_K.moved hW C.2.2.2.2.2.2.2.1, ?_, hb, by rw [hU]; exact Nat.le_trans hB S.2.1.1, by rw [hU]; exact S.1⟩
  have h2 : va_X d.2.2.2.1 d.2.2.2.2.1 d.2.2.2.2.2 s H := jj_scr hX hb hB S.2.1
  rw [hU]
  exact va_X.moved hW.alike h2
theorem jj_sum (d : jj_D) (st : List Value) : ((st.map (jj_rv d.2.2.1 d.2.2.2.1)).map fun v => v.category).sum = (st.map fun v => v.category).sum := by
  rw [List.map_map]
  congr 1
  apply List.map_congr_left
  intro v _
  exact jj_rv_cat _ _ v
theorem j_callV {K' : jj_M} {n ci idx a cj sj : Nat} {T : u_T} {N : Nat} {as stk : List Value} (cm : jj_cm K' n) (hi : Cond.instanceMethod K'.1 ∈ jj_tb) (hs : Cond.selects K'.1.cls K'.1 K'.1 ∈ jj_tb) (hcl : jj_cl[ci]? = some (K'.1.cls, T, N)) (hci : ci < 19) (hl : Cond.methodLink K.1.cls idx K'.1 ∈ jj_tb) (hR : jj_rm K' K) (dg : decode K.2.1 pc = .ok (.invokevirtual idx, 3)) (hn : as.length = n) (hstk : stk = as.reverse ++ .ref a :: st) (hro : (st.map fun v => v.category).sum ≤ 8) (hk : jK h a = ci + 1)
    (k : jj_C K' cj sj (.ref a :: as) h (fun v h1 => jj_WP d K bc bs (pc + 3) L (jj_pu K'.2.2.2.1 v st) h1 Q)) : jj_WP d K (bc + cj) (bs + sj) pc L stk h Q := by
  intro p l e R s m args below meth c mc ms Z C RR H locs cells slots ls S
  subst hstk
  have hts := C.2.2.2.2.2.2.1
  have b1 := S.2.2.1
  have b2 := S.2.2.2.1
  have b3 := C.2.2.2.2.2.2.2.2.2.2.1
  have b4 := C.2.2.2.2.2.2.2.2.2.2.2.1
  have b5 := C.2.2.2.2.2.2.2.2.1
  have b6 := C.2.2.2.2.2.2.2.2.2.1
  obtain ⟨r1, r2⟩ := hR
  obtain ⟨i, rfl, hil, r', hr', cellB, g1, g2, g3, -⟩ := S.1.obj hk hci
  have hcls := (C.2.2.2.2.2.2.2.1.1.1 ci _ hcl).2
  have hrun := va_runV (S := ⟨C.1, C.2.1, C.2.2.1, C.2.2.2.2.2.1, hts⟩) (C := K'.1.cls) (As := as.map (jj_rv d.2.2.1 d.2.2.2.1)) (rest := st.map (jj_rv d.2.2.1 d.2.2.2.1)) (R := R) (e := e) (below := below) (meth := meth) (H := H) (locs := locs) (cells := cells) (slots := slots) (index := idx) (bytes := K'.2.1) (maxL := K'.2.2.1) (ret := K'.2.2.2.1) (b := d.2.2.1 + i) (g := F0 m pc ls ((as.reverse ++ .ref (i + 1) :: st).map (jj_rv d.2.2.1 d.2.2.2.1))) (k l d) ⟨callB_of n hts (jj_gi cm.1) rfl rfl rfl (hts _ cm.2.1) (hts _ hl) cm.2.2 ⟨by show K'.2.2.2.2.1 + 1 ≤ _; omega, by show 8 + (K'.2.2.1 + 11) + K'.2.2.2.2.2 ≤ _; omega⟩, hts _ hi, hts _ hs⟩ ⟨jj_bl, ⟨cellB, g1, by rw [g3]; rfl, by rw [g2]; exact hcls.1⟩, fun U hU hW => ⟨rfl, jj_pre C S U hU hW⟩⟩ rfl (by simpa using hn) S.2.2.2.2.1 (by simp [jj_rv]) (by rw [show (F0 m pc ls ((as.reverse ++ .ref (i + 1) :: st).map (jj_rv d.2.2.1 d.2.2.2.1))).monitorRoom = 0 from rfl, jj_sum]; omega) dg ⟨by omega, by omega⟩
  refine jj_callW hrun S.2.1 fun v h1 H1 locs1 hq hP1 hS1 => ?_
  have kk := hq p l e R s m args below meth c mc ms Z C RR H1 locs1 (cells + cj) (slots + sj) ls ⟨hP1, hS1, by omega, by omega, S.2.2.2.2⟩
  rw [jj_pu_map] at kk
  exact kk
theorem j_callS {K' : jj_M} {n idx cj sj : Nat} {as stk : List Value} (cm : jj_cm K' n) (hi : Cond.static K'.1 ∈ jj_tb) (hl : Cond.methodLink K.1.cls idx K'.1 ∈ jj_tb) (hR : jj_rm K' K) (dg : decode K.2.1 pc = .ok (.invokestatic idx, 3)) (hn : as.length = n) (hstk : stk = as.reverse ++ st) (hro : (st.map fun v => v.category).sum ≤ 8)
    (k : jj_C K' cj sj as h (fun v h1 => jj_WP d K bc bs (pc + 3) L (jj_pu K'.2.2.2.1 v st) h1 Q)) : jj_WP d K (bc + cj) (bs + sj) pc L stk h Q := by
  intro p l e R s m args below meth c mc ms Z C RR H locs cells slots ls S
  subst hstk
  have hts := C.2.2.2.2.2.2.1
  have b1 := S.2.2.1
  have b2 := S.2.2.2.1
  have b3 := C.2.2.2.2.2.2.2.2.2.2.1
  have b4 := C.2.2.2.2.2.2.2.2.2.2.2.1
  have b5 := C.2.2.2.2.2.2.2.2.1
  have b6 := C.2.2.2.2.2.2.2.2.2.1
  obtain ⟨r1, r2⟩ := hR
  have hrun := va_runS (S := ⟨C.1, C.2.1, C.2.2.1, C.2.2.2.2.2.1, hts⟩) (As := as.map (jj_rv d.2.2.1 d.2.2.2.1)) (rest := st.map (jj_rv d.2.2.1 d.2.2.2.1)) (R := R) (e := e) (below := below) (meth := meth) (H := H) (locs := locs) (cells := cells) (slots := slots) (index := idx) (bytes := K'.2.1) (maxL := K'.2.2.1) (ret := K'.2.2.2.1) (g := F0 m pc ls ((as.reverse ++ st).map (jj_rv d.2.2.1 d.2.2.2.1))) (k l d) ⟨callB_of n hts (jj_gi cm.1) rfl rfl rfl (hts _ cm.2.1) (hts _ hl) cm.2.2 ⟨by show K'.2.2.2.2.1 + 1 ≤ _; omega, by show 8 + (K'.2.2.1 + 11) + K'.2.2.2.2.2 ≤ _; omega⟩, hts _ hi⟩ ⟨jj_bl, fun U hU hW => ⟨rfl, jj_pre C S U hU hW⟩⟩ rfl (by simpa using hn) S.2.2.2.2.1 (by simp) (by rw [show (F0 m pc ls ((as.reverse ++ st).map (jj_rv d.2.2.1 d.2.2.2.1))).monitorRoom = 0 from rfl, jj_sum]; omega) dg ⟨by omega, by omega⟩
  refine jj_callW hrun S.2.1 fun v h1 H1 locs1 hq hP1 hS1 => ?_
  have kk := hq p l e R s m args below meth c mc ms Z C RR H1 locs1 (cells + cj) (slots + sj) ls ⟨hP1, hS1, by omega, by omega, S.2.2.2.2⟩
  rw [jj_pu_map] at kk
  exact kk
theorem j_callSN {K' : jj_M} {n idx cj sj : Nat} {host : String} {as stk : List Value} (cm : jj_cm K' n) (hi : Cond.static K'.1 ∈ jj_tb) (hl : (K.1.cls, idx, K'.1, host) ∈ jj_nl) (hR : jj_rm K' K) (dg : decode K.2.1 pc = .ok (.invokestatic idx, 3)) (hn : as.length = n) (hstk : stk = as.reverse ++ st) (hro : (st.map fun v => v.category).sum ≤ 8)
    (k : jj_C K' cj sj as h (fun v h1 => jj_WP d K bc bs (pc + 3) L (jj_pu K'.2.2.2.1 v st) h1 Q)) : jj_WP d K (bc + cj) (bs + sj) pc L stk h Q := by
  intro p l e R s m args below meth c mc ms Z C RR H locs cells slots ls S
  subst hstk
  have hts := C.2.2.2.2.2.2.1
  have b1 := S.2.2.1
  have b2 := S.2.2.2.1
  have b3 := C.2.2.2.2.2.2.2.2.2.2.1
  have b4 := C.2.2.2.2.2.2.2.2.2.2.2.1
  have b5 := C.2.2.2.2.2.2.2.2.1
  have b6 := C.2.2.2.2.2.2.2.2.2.1
  obtain ⟨r1, r2⟩ := hR
  have hrun := va_runSN (S := ⟨C.1, C.2.1, C.2.2.1, C.2.2.2.2.2.1, hts⟩) (As := as.map (jj_rv d.2.2.1 d.2.2.2.1)) (rest := st.map (jj_rv d.2.2.1 d.2.2.2.1)) (R := R) (e := e) (below := below) (meth := meth) (H := H) (locs := locs) (cells := cells) (slots := slots) (index := idx) (bytes := K'.2.1) (maxL := K'.2.2.1) (ret := K'.2.2.2.1) (g := F0 m pc ls ((as.reverse ++ st).map (jj_rv d.2.2.1 d.2.2.2.1))) (k l d) ⟨va_cnB n hts (jj_gi cm.1) rfl rfl rfl (C.2.2.2.2.2.2.2.1.2.1 _ hl) (hts _ cm.2.1) cm.2.2 ⟨by show K'.2.2.2.2.1 + 1 ≤ _; omega, by show 8 + (K'.2.2.1 + 11) + K'.2.2.2.2.2 ≤ _; omega⟩, hts _ hi, trivial⟩ ⟨jj_bl, fun U hU hW => ⟨rfl, jj_pre C S U hU hW⟩⟩ rfl (by simpa using hn) S.2.2.2.2.1 (by simp) (by rw [show (F0 m pc ls ((as.reverse ++ st).map (jj_rv d.2.2.1 d.2.2.2.1))).monitorRoom = 0 from rfl, jj_sum]; omega) dg ⟨by omega, by omega⟩
  refine jj_callW hrun S.2.1 fun v h1 H1 locs1 hq hP1 hS1 => ?_
  have kk := hq p l e R s m args below meth c mc ms Z C RR H1 locs1 (cells + cj) (slots + sj) ls ⟨hP1, hS1, by omega, by omega, S.2.2.2.2⟩
  rw [jj_pu_map] at kk
  exact kk
theorem j_callI {K' : jj_M} {n idx a cj sj : Nat} {as stk : List Value} (cm : jj_cm K' n) (hi : Cond.instanceMethod K'.1 ∈ jj_tb) (hy : K'.1.name = "<init>") (hr0 : K'.2.2.2.1 = none) (hl : Cond.methodLink K.1.cls idx K'.1 ∈ jj_tb) (hR : jj_rm K' K) (dg : decode K.2.1 pc = .ok (.invokespecial idx, 3)) (hn : as.length = n) (hstk : stk = as.reverse ++ .ref a :: st) (hro : (st.map fun v => v.category).sum ≤ 8) (ha : a ≠ 0)
    (k : jj_C K' cj sj (.ref a :: as) h (fun v h1 => jj_WP d K bc bs (pc + 3) L (jj_pu K'.2.2.2.1 v st) h1 Q)) : jj_WP d K (bc + cj) (bs + sj) pc L stk h Q := by
  intro p l e R s m args below meth c mc ms Z C RR H locs cells slots ls S
  subst hstk
  have hts := C.2.2.2.2.2.2.1
  have b1 := S.2.2.1
  have b2 := S.2.2.2.1
  have b3 := C.2.2.2.2.2.2.2.2.2.2.1
  have b4 := C.2.2.2.2.2.2.2.2.2.2.2.1
  have b5 := C.2.2.2.2.2.2.2.2.1
  have b6 := C.2.2.2.2.2.2.2.2.2.1
  obtain ⟨r1, r2⟩ := hR
  obtain ⟨i, rfl⟩ : ∃ i, a = i + 1 := ⟨a - 1, by omega⟩
  have hcw : CallB R s args K.1.cls idx K'.1 K'.2.1 K'.2.2.1 none (jj_ws K') ({ frames := K'.2.2.2.2.1, cells := cj, slots := sj, locals := K'.2.2.2.2.2 } : Room) cj sj n := by
    have := callB_of (R := R) (s := s) (args := args) (own := K.1.cls) (index := idx) (y := K'.1) (bytes := K'.2.1) (maxL := K'.2.2.1) (ret := K'.2.2.2.1) (ws := jj_ws K') (rm := ({ frames := K'.2.2.2.2.1, cells := cj, slots := sj, locals := K'.2.2.2.2.2 } : Room)) (mc := cj) (ms := sj) n hts (jj_gi cm.1) rfl rfl rfl (hts _ cm.2.1) (hts _ hl) cm.2.2 ⟨by show K'.2.2.2.2.1 + 1 ≤ _; omega, by show 8 + (K'.2.2.1 + 11) + K'.2.2.2.2.2 ≤ _; omega⟩
    rwa [hr0] at this
  have hrun := va_runI (S := ⟨C.1, C.2.1, C.2.2.1, C.2.2.2.2.2.1, hts⟩) (As := as.map (jj_rv d.2.2.1 d.2.2.2.1)) (rest := st.map (jj_rv d.2.2.1 d.2.2.2.1)) (R := R) (e := e) (below := below) (meth := meth) (H := H) (locs := locs) (cells := cells) (slots := slots) (index := idx) (b := d.2.2.1 + i) (g := F0 m pc ls ((as.reverse ++ .ref (i + 1) :: st).map (jj_rv d.2.2.1 d.2.2.2.1))) (k l d) ⟨hcw, hy, hts _ hi⟩ ⟨jj_bl, fun U hU hW => ⟨rfl, jj_pre C S U hU hW⟩⟩ rfl (by simpa using hn) S.2.2.2.2.1 (by simp [jj_rv]) (by rw [show (F0 m pc ls ((as.reverse ++ .ref (i + 1) :: st).map (jj_rv d.2.2.1 d.2.2.2.1))).monitorRoom = 0 from rfl, jj_sum]; omega) dg ⟨by omega, by omega⟩
  refine jj_callW hrun S.2.1 fun v h1 H1 locs1 hq hP1 hS1 => ?_
  have kk := hq p l e R s m args below meth c mc ms Z C RR H1 locs1 (cells + cj) (slots + sj) ls ⟨hP1, hS1, by omega, by omega, S.2.2.2.2⟩
  rw [jj_pu_map] at kk
  exact kk
theorem j_callIN {K' : jj_M} {n idx a cj sj : Nat} {host : String} {as stk : List Value} (cm : jj_cm K' n) (hi : Cond.instanceMethod K'.1 ∈ jj_tb) (hy : K'.1.name = "<init>") (hr0 : K'.2.2.2.1 = none) (hl : (K.1.cls, idx, K'.1, host) ∈ jj_nl) (hR : jj_rm K' K) (dg : decode K.2.1 pc = .ok (.invokespecial idx, 3)) (hn : as.length = n) (hstk : stk = as.reverse ++ .ref a :: st) (hro : (st.map fun v => v.category).sum ≤ 8) (ha : a ≠ 0)
    (k : jj_C K' cj sj (.ref a :: as) h (fun v h1 => jj_WP d K bc bs (pc + 3) L (jj_pu K'.2.2.2.1 v st) h1 Q)) : jj_WP d K (bc + cj) (bs + sj) pc L stk h Q := by
  intro p l e R s m args below meth c mc ms Z C RR H locs cells slots ls S
  subst hstk
  have hts := C.2.2.2.2.2.2.1
  have b1 := S.2.2.1
  have b2 := S.2.2.2.1
  have b3 := C.2.2.2.2.2.2.2.2.2.2.1
  have b4 := C.2.2.2.2.2.2.2.2.2.2.2.1
  have b5 := C.2.2.2.2.2.2.2.2.1
  have b6 := C.2.2.2.2.2.2.2.2.2.1
  obtain ⟨r1, r2⟩ := hR
  obtain ⟨i, rfl⟩ : ∃ i, a = i + 1 := ⟨a - 1, by omega⟩
  have hcw : va_CN R s args K.1.cls idx K'.1 host K'.2.1 K'.2.2.1 none (jj_ws K') ({ frames := K'.2.2.2.2.1, cells := cj, slots := sj, locals := K'.2.2.2.2.2 } : Room) cj sj n := by
    have := va_cnB (R := R) (s := s) (args := args) (own := K.1.cls) (index := idx) (y := K'.1) (host := host) (bytes := K'.2.1) (maxL := K'.2.2.1) (ret := K'.2.2.2.1) (ws := jj_ws K') (rm := ({ frames := K'.2.2.2.2.1, cells := cj, slots := sj, locals := K'.2.2.2.2.2 } : Room)) (mc := cj) (ms := sj) n hts (jj_gi cm.1) rfl rfl rfl (C.2.2.2.2.2.2.2.1.2.1 _ hl) (hts _ cm.2.1) cm.2.2 ⟨by show K'.2.2.2.2.1 + 1 ≤ _; omega, by show 8 + (K'.2.2.1 + 11) + K'.2.2.2.2.2 ≤ _; omega⟩
    rwa [hr0] at this
  have hrun := va_runIN (S := ⟨C.1, C.2.1, C.2.2.1, C.2.2.2.2.2.1, hts⟩) (As := as.map (jj_rv d.2.2.1 d.2.2.2.1)) (rest := st.map (jj_rv d.2.2.1 d.2.2.2.1)) (R := R) (e := e) (below := below) (meth := meth) (H := H) (locs := locs) (cells := cells) (slots := slots) (index := idx) (b := d.2.2.1 + i) (g := F0 m pc ls ((as.reverse ++ .ref (i + 1) :: st).map (jj_rv d.2.2.1 d.2.2.2.1))) (k l d) ⟨hcw, hy, hts _ hi⟩ ⟨jj_bl, fun U hU hW => ⟨rfl, jj_pre C S U hU hW⟩⟩ rfl (by simpa using hn) S.2.2.2.2.1 (by simp [jj_rv]) (by rw [show (F0 m pc ls ((as.reverse ++ .ref (i + 1) :: st).map (jj_rv d.2.2.1 d.2.2.2.1))).monitorRoom = 0 from rfl, jj_sum]; omega) dg ⟨by omega, by omega⟩
  refine jj_callW hrun S.2.1 fun v h1 H1 locs1 hq hP1 hS1 => ?_
  have kk := hq p l e R s m args below meth c mc ms Z C RR H1 locs1 (cells + cj) (slots + sj) ls ⟨hP1, hS1, by omega, by omega, S.2.2.2.2⟩
  rw [jj_pu_map] at kk
  exact kk
theorem j_objInit {idx a : Nat} (hl : Cond.methodLink K.1.cls idx objectInit ∈ jj_tb) (hi : Cond.instanceMethod objectInit ∈ jj_tb) (hc : Cond.code objectInit ⟨#[0xb1]⟩ 1 none ∈ jj_tb) (dg : decode K.2.1 pc = .ok (.invokespecial idx, 3)) (hro : (st.map fun v => v.category).sum ≤ 8) (hfr : 1 ≤ K.2.2.2.2.1) (hlo : 20 ≤ K.2.2.2.2.2) (ha : a ≠ 0) (k : jj_WP d K bc bs (pc + 3) L st h Q) : jj_WP d K bc bs pc L (.ref a :: st) h Q := by
  intro p l e R s m args below meth c mc ms Z C RR H locs cells slots ls S
  obtain ⟨i, rfl⟩ : ∃ i, a = i + 1 := ⟨a - 1, by omega⟩
  have hts := C.2.2.2.2.2.2.1
  have b5 := C.2.2.2.2.2.2.2.2.1
  have b6 := C.2.2.2.2.2.2.2.2.2.1
  exact W.objInit C.1 C.2.1 C.2.2.2.2.2.1 (hts _ hl) (hts _ hi) (hts _ hc) rfl (by rw [C.2.2.1]; exact S.2.2.2.2.1) rfl dg (by omega) (by rw [show (F0 m pc ls ((Value.ref (i + 1) :: st).map (jj_rv d.2.2.1 d.2.2.2.1))).monitorRoom = 0 from rfl, jj_sum]; omega) (k p l e R s m args below meth c mc ms Z C RR H locs cells slots ls S)
end JMAKE
end
section
section JCOPY
variable {d : jj_D} {K : jj_M} {bc bs pc : Nat} {L : List (Nat × Value)} {st : List Value} {h : jj_H} {Q : Value → jj_H → Prop}
/-- the script: its length, its ints -/
theorem j_slen {r : UInt32} (dg : decode K.2.1 pc = .ok (.arraylength, 1)) (k : jj_WP d K bc bs (pc + 1) L (.int (nI d.2.2.2.2.1) :: st) h Q) : jj_WP d K bc bs pc L (.float r :: st) h Q := by
  intro p l e R s m args below meth c mc ms Z C RR H locs cells slots ls S
  have hB := C.2.2.2.2.2.2.2.2.2.2.2.2.1
  have hX := C.2.2.2.2.2.2.2.2.2.2.2.2.2.2.1
  have hb := C.2.2.2.2.2.2.2.2.2.2.2.2.2.2.2
  exact va_slen C.1 C.2.1 hX (by omega) (by show ¬ _ ≤ _; omega) S.2.1 dg (k p l e R s m args below meth c mc ms Z C RR H locs cells slots ls S)
theorem j_sld {r : UInt32} {i : Int32} (dg : decode K.2.1 pc = .ok (.iaload, 1)) (hin : vp_in i d.2.2.2.2.1) (k : jj_WP d K bc bs (pc + 1) L (.int (d.2.2.2.2.2 i.toNatClampNeg) :: st) h Q) : jj_WP d K bc bs pc L (.int i :: .float r :: st) h Q := by
  intro p l e R s m args below meth c mc ms Z C RR H locs cells slots ls S
  have hB := C.2.2.2.2.2.2.2.2.2.2.2.2.1
  have hX := C.2.2.2.2.2.2.2.2.2.2.2.2.2.2.1
  have hb := C.2.2.2.2.2.2.2.2.2.2.2.2.2.2.2
  exact va_sld C.1 C.2.1 hX (by omega) (by show ¬ _ ≤ _; omega) S.2.1 hin dg (k p l e R s m args below meth c mc ms Z C RR H locs cells slots ls S)
theorem jj_nn {z : Int32} (hz : ¬ z < 0) : z.toInt = (z.toNatClampNeg : Int) := by
  have hz0 : (0 : Int) ≤ z.toInt := by
    have := Int32.not_lt.mp hz
    simpa using Int32.le_iff_toInt_le.mp this
  show z.toInt = ((z.toInt.toNat : Nat) : Int)
  omega
theorem j_copy {idx a0 a1 : Nat} {sp dp n : Int32} (hl : Cond.methodLink K.1.cls idx arraycopyName ∈ jj_tb) (hnat : Cond.native arraycopyName ∈ jj_tb) (hsta : Cond.static arraycopyName ∈ jj_tb) (hini : Cond.initialized "java/lang/System" ∈ jj_tb) (hro : (st.map fun v => v.category).sum ≤ 8) (hfr : 1 ≤ K.2.2.2.2.1) (hlo : 60 ≤ K.2.2.2.2.2) (dg : decode K.2.1 pc = .ok (.invokestatic idx, 3)) (hk0 : jK h a0 = 21) (hk1 : jK h a1 = 21) (h1 : ¬ sp < 0) (h2 : ¬ dp < 0) (h3 : ¬ n < 0) (h4 : sp.toNatClampNeg + n.toNatClampNeg ≤ jN h a0) (h5 : dp.toNatClampNeg + n.toNatClampNeg ≤ jN h a1)
    (k : jj_WP d K bc bs (pc + 3) L st (wC h a0 sp.toNatClampNeg a1 dp.toNatClampNeg n.toNatClampNeg) Q) : jj_WP d K bc bs pc L (.int n :: .int dp :: .ref a1 :: .int sp :: .ref a0 :: st) h Q := by
  intro p l e R s m args below meth c mc ms Z C RR H locs cells slots ls S
  obtain ⟨q0, rfl, hq0, hc0⟩ := S.1.arr hk0 (by omega)
  obtain ⟨q1, rfl, hq1, hc1⟩ := S.1.arr hk1 (by omega)
  have hts := C.2.2.2.2.2.2.1
  have b5 := C.2.2.2.2.2.2.2.2.1
  have b6 := C.2.2.2.2.2.2.2.2.2.1
  generalize hf : (fun i => jI h 1000 (q0 + 1) i) = f
  generalize hg : (fun i => jI h 1000 (q1 + 1) i) = g
  have hc0 : H[d.2.2.1 + q0]? = some (vp_cell (d.2.1 21) (jN h (q0 + 1), .inl f)) := by rw [← hf]; exact hc0
  have hc1 : H[d.2.2.1 + q1]? = some (vp_cell (d.2.1 21) (jN h (q1 + 1), .inl g)) := by rw [← hg]; exact hc1
  obtain ⟨-, k0, hkk0, cm0, hkd0⟩ := (C.2.2.2.2.2.2.2.1.1.2 0 _ rfl).1 (jN h (q0 + 1)) (fun j => .int (f j))
  obtain ⟨-, k1, hkk1, cm1, hkd1⟩ := (C.2.2.2.2.2.2.2.1.1.2 0 _ rfl).1 (jN h (q1 + 1)) (fun j => .int (g j))
  have hnf : nativeFrameWords "java/lang/System" "arraycopy" 5 + 11 ≤ 40 := by decide +kernel
  intro T hT X
  have hml : c.maxLocals = ls.size := by rw [C.2.2.1]; exact S.2.2.2.2.1.symm
  obtain ⟨vm', X', step⟩ := X.arraycopy C.1 C.2.2.2.2.2.1 (hts _ hl) (hts _ hnat) (hts _ hsta) (hts _ hini) (src := d.2.2.1 + q0) (dst := d.2.2.1 + q1) (cs := vp_cell (d.2.1 21) (jN h (q0 + 1), .inl f)) (cd := vp_cell (d.2.1 21) (jN h (q1 + 1), .inl g)) (srcPos := sp) (destPos := dp) (n := n) (by rw [hT]; exact hc0) (by rw [hT]; exact hc1)
    (fun _ h => by cases h) (fun _ h => by cases h) (fun h => by cases h) (fun h => by cases h) hkk0 hkk1 hkd0 hkd1 (by show (refKind FieldType.int != refKind FieldType.int || !refKind FieldType.int && FieldType.int != FieldType.int) = false; decide) h1 h2 h3
    (by rw [jj_nn h1, jj_nn h3]; show ¬ _ > ((arrV (d.2.1 21) (jN h (q0 + 1)) (fun j => .int (f j))).slots.size : Int); rw [arrV_size]; omega)
    (by rw [jj_nn h2, jj_nn h3]; show ¬ _ > ((arrV (d.2.1 21) (jN h (q1 + 1)) (fun j => .int (g j))).slots.size : Int); rw [arrV_size]; omega)
    (fun vm₁ _ i hi => by
      have ee : (vp_cell (d.2.1 21) (jN h (q0 + 1), .inl f)).slots.getD (sp.toNatClampNeg + i) .null = .int (f (sp.toNatClampNeg + i)) := by
        show (arrV (d.2.1 21) (jN h (q0 + 1)) (fun j => .int (f j))).slots.getD _ _ = _
        rw [Array.getD_eq_getD_getElem?, arrV_read _ _ (by omega)]
        rfl
      refine ⟨?_, ?_⟩
      · rw [ee]
        rfl
      · rw [ee]
        exact trivial)
    (g := F0 m pc ls ((Value.int n :: .int dp :: .ref (q1 + 1) :: .int sp :: .ref (q0 + 1) :: st).map (jj_rv d.2.2.1 d.2.2.2.1))) rfl (by rw [hml]) (rest := st.map (jj_rv d.2.2.1 d.2.2.2.1)) rfl (by rw [C.2.1]; exact dg) (by omega) (by show 2 * 0 + ((st.map (jj_rv d.2.2.1 d.2.2.2.1)).map fun v => v.category).sum + (nativeFrameWords "java/lang/System" "arraycopy" 5 + 11) ≤ _; rw [jj_sum]; omega)
  have e1 : copied (vp_cell (d.2.1 21) (jN h (q0 + 1), .inl f)) (vp_cell (d.2.1 21) (jN h (q1 + 1), .inl g)) sp dp n = vp_cell (d.2.1 21) (jN h (q1 + 1), .inl (va_cpy f g sp.toNatClampNeg dp.toNatClampNeg n.toNatClampNeg)) := va_copied (fun z => .int z) (d.2.1 21) (d.2.1 21) f g h4
  rw [e1] at X' step
  have hlt : d.2.2.1 + q1 < H.size := (Array.getElem?_eq_some_iff.mp hc1).1
  generalize hH1 : H.setIfInBounds (d.2.2.1 + q1) (vp_cell (d.2.1 21) (jN h (q1 + 1), .inl (va_cpy f g sp.toNatClampNeg dp.toNatClampNeg n.toNatClampNeg))) = H1
  have hheap : ((T.setVm vm').setCell (d.2.2.1 + q1) (vp_cell (d.2.1 21) (jN h (q1 + 1), .inl (va_cpy f g sp.toNatClampNeg dp.toNatClampNeg n.toNatClampNeg)))).heap = H1 := by rw [← hH1, ← hT]; rfl
  have oq : ∀ q : Nat, q ≠ d.2.2.1 + q1 → H1[q]? = H[q]? := fun q hq => by rw [← hH1]; simp [Array.getElem?_setIfInBounds, Ne.symm hq]
  have z : H1.size = H.size := by rw [← hH1]; simp
  have hat : H1[d.2.2.1 + q1]? = some (vp_cell (d.2.1 21) (jN h (q1 + 1), .inl (va_cpy f g sp.toNatClampNeg dp.toNatClampNeg n.toNatClampNeg))) := by rw [← hH1]; simp [Array.getElem?_setIfInBounds, hlt]
  obtain ⟨t, a1, b1⟩ := k p l e R s m args below meth c mc ms Z C RR H1 _ cells slots ls ⟨S.1.upd (i := q1) rfl (fun _ => rfl) (fun b hb => jj_E_wC hb) rfl z (by
      rw [jj_E_arr (show jK (wC h (q0 + 1) sp.toNatClampNeg (q1 + 1) dp.toNatClampNeg n.toNatClampNeg) (q1 + 1) = 21 from hk1) (by omega)]
      show H1[d.2.2.1 + q1]? = some (vp_cell _ _)
      rw [hat, ← hf, ← hg]
      show some (arrV (d.2.1 21) (jN h (q1 + 1)) (fun j => .int (va_cpy (fun i => jI h 1000 (q0 + 1) i) (fun i => jI h 1000 (q1 + 1) i) sp.toNatClampNeg dp.toNatClampNeg n.toNatClampNeg j))) = some (arrV (d.2.1 21) (jN h (q1 + 1)) (fun j => .int (jI (wC h (q0 + 1) sp.toNatClampNeg (q1 + 1) dp.toNatClampNeg n.toNatClampNeg) 1000 (q1 + 1) j)))
      congr 2
      funext j
      rw [jI_wC, if_pos ⟨rfl, rfl⟩]) oq, ⟨by rw [z]; exact S.2.1.1, fun q g1 g2 => by
      rw [oq q (fun ee => g2 (by rw [ee]; exact Nat.le_add_right _ _))]
      exact S.2.1.2.1 q g1 g2, fun q hq => by
      rcases List.mem_append.mp hq with hh | hh
      · exact S.2.1.2.2 q hh
      · obtain ⟨w, -, hw⟩ := List.mem_map.mp hh
        rw [← hw]
        exact Nat.le_add_right _ _⟩, S.2.2.1, S.2.2.2.1, S.2.2.2.2⟩ _ hheap X'
  exact ⟨t, step t a1, b1⟩
end JCOPY
end
section
theorem cls_X0 : jj_cls 0 RX0 TX0 4 tyX0 := ⟨rfl, by decide +kernel, tyX0_ok, nmX0, rfl, by decide, by decide +kernel⟩
theorem dv_X0 : ∀ k, k < 4 → defaultValue (tyX0 k) = jj_dv ((jj_T 0).getD k 0) := by decide +kernel
theorem in_X0 : Cond.instantiable RX0 4 ∈ jj_tb := jj_in 277 (by decide +kernel) (by decide +kernel)
theorem cls_X1 : jj_cls 1 RX1 TX1 3 tyX1 := ⟨rfl, by decide +kernel, tyX1_ok, nmX1, rfl, by decide, by decide +kernel⟩
theorem dv_X1 : ∀ k, k < 3 → defaultValue (tyX1 k) = jj_dv ((jj_T 1).getD k 0) := by decide +kernel
theorem in_X1 : Cond.instantiable RX1 3 ∈ jj_tb := jj_in 179 (by decide +kernel) (by decide +kernel)
theorem cls_X2 : jj_cls 2 RX2 TX2 11 tyX2 := ⟨rfl, by decide +kernel, tyX2_ok, nmX2, rfl, by decide, by decide +kernel⟩
theorem dv_X2 : ∀ k, k < 11 → defaultValue (tyX2 k) = jj_dv ((jj_T 2).getD k 0) := by decide +kernel
theorem in_X2 : Cond.instantiable RX2 11 ∈ jj_tb := jj_in 198 (by decide +kernel) (by decide +kernel)
theorem cls_X3 : jj_cls 3 RX3 TX3 9 tyX3 := ⟨rfl, by decide +kernel, tyX3_ok, nmX3, rfl, by decide, by decide +kernel⟩
theorem dv_X3 : ∀ k, k < 9 → defaultValue (tyX3 k) = jj_dv ((jj_T 3).getD k 0) := by decide +kernel
theorem in_X3 : Cond.instantiable RX3 9 ∈ jj_tb := jj_in 353 (by decide +kernel) (by decide +kernel)
theorem cls_X4 : jj_cls 4 RX4 TX4 2 tyX4 := ⟨rfl, by decide +kernel, tyX4_ok, nmX4, rfl, by decide, by decide +kernel⟩
theorem dv_X4 : ∀ k, k < 2 → defaultValue (tyX4 k) = jj_dv ((jj_T 4).getD k 0) := by decide +kernel
theorem in_X4 : Cond.instantiable RX4 2 ∈ jj_tb := jj_in 160 (by decide +kernel) (by decide +kernel)
theorem cls_X5 : jj_cls 5 RX5 TX5 3 tyX5 := ⟨rfl, by decide +kernel, tyX5_ok, nmX5, rfl, by decide, by decide +kernel⟩
theorem dv_X5 : ∀ k, k < 3 → defaultValue (tyX5 k) = jj_dv ((jj_T 5).getD k 0) := by decide +kernel
theorem in_X5 : Cond.instantiable RX5 3 ∈ jj_tb := jj_in 250 (by decide +kernel) (by decide +kernel)
theorem cls_X6 : jj_cls 6 RX6 TX6 2 tyX6 := ⟨rfl, by decide +kernel, tyX6_ok, nmX6, rfl, by decide, by decide +kernel⟩
theorem dv_X6 : ∀ k, k < 2 → defaultValue (tyX6 k) = jj_dv ((jj_T 6).getD k 0) := by decide +kernel
theorem in_X6 : Cond.instantiable RX6 2 ∈ jj_tb := jj_in 88 (by decide +kernel) (by decide +kernel)
theorem cls_X7 : jj_cls 7 RX7 TX7 6 tyX7 := ⟨rfl, by decide +kernel, tyX7_ok, nmX7, rfl, by decide, by decide +kernel⟩
theorem dv_X7 : ∀ k, k < 6 → defaultValue (tyX7 k) = jj_dv ((jj_T 7).getD k 0) := by decide +kernel
theorem in_X7 : Cond.instantiable RX7 6 ∈ jj_tb := jj_in 86 (by decide +kernel) (by decide +kernel)
theorem cls_X8 : jj_cls 8 RX8 TX8 1 tyX8 := ⟨rfl, by decide +kernel, tyX8_ok, nmX8, rfl, by decide, by decide +kernel⟩
theorem dv_X8 : ∀ k, k < 1 → defaultValue (tyX8 k) = jj_dv ((jj_T 8).getD k 0) := by decide +kernel
theorem in_X8 : Cond.instantiable RX8 1 ∈ jj_tb := jj_in 150 (by decide +kernel) (by decide +kernel)
theorem cls_X9 : jj_cls 9 RX9 TX9 11 tyX9 := ⟨rfl, by decide +kernel, tyX9_ok, nmX9, rfl, by decide, by decide +kernel⟩
theorem dv_X9 : ∀ k, k < 11 → defaultValue (tyX9 k) = jj_dv ((jj_T 9).getD k 0) := by decide +kernel
theorem in_X9 : Cond.instantiable RX9 11 ∈ jj_tb := jj_in 77 (by decide +kernel) (by decide +kernel)
theorem cls_X10 : jj_cls 10 RX10 TX10 34 tyX10 := ⟨rfl, by decide +kernel, tyX10_ok, nmX10, rfl, by decide, by decide +kernel⟩
theorem dv_X10 : ∀ k, k < 34 → defaultValue (tyX10 k) = jj_dv ((jj_T 10).getD k 0) := by decide +kernel
theorem in_X10 : Cond.instantiable RX10 34 ∈ jj_tb := jj_in 899 (by decide +kernel) (by decide +kernel)
theorem it_L : Cond.initialized RL ∈ jj_tb := jj_in 60 (by decide +kernel) (by decide +kernel)
theorem it_X9 : Cond.initialized RX9 ∈ jj_tb := jj_in 61 (by decide +kernel) (by decide +kernel)
theorem it_X7 : Cond.initialized RX7 ∈ jj_tb := jj_in 62 (by decide +kernel) (by decide +kernel)
theorem it_X6 : Cond.initialized RX6 ∈ jj_tb := jj_in 63 (by decide +kernel) (by decide +kernel)
theorem it_J9 : Cond.initialized RJ9 ∈ jj_tb := jj_in 64 (by decide +kernel) (by decide +kernel)
theorem it_X8 : Cond.initialized RX8 ∈ jj_tb := jj_in 65 (by decide +kernel) (by decide +kernel)
theorem it_X4 : Cond.initialized RX4 ∈ jj_tb := jj_in 66 (by decide +kernel) (by decide +kernel)
theorem it_J7 : Cond.initialized RJ7 ∈ jj_tb := jj_in 67 (by decide +kernel) (by decide +kernel)
theorem it_X1 : Cond.initialized RX1 ∈ jj_tb := jj_in 68 (by decide +kernel) (by decide +kernel)
theorem it_X2 : Cond.initialized RX2 ∈ jj_tb := jj_in 69 (by decide +kernel) (by decide +kernel)
theorem it_X5 : Cond.initialized RX5 ∈ jj_tb := jj_in 70 (by decide +kernel) (by decide +kernel)
theorem it_X0 : Cond.initialized RX0 ∈ jj_tb := jj_in 71 (by decide +kernel) (by decide +kernel)
theorem it_X3 : Cond.initialized RX3 ∈ jj_tb := jj_in 72 (by decide +kernel) (by decide +kernel)
theorem it_J10 : Cond.initialized RJ10 ∈ jj_tb := jj_in 73 (by decide +kernel) (by decide +kernel)
theorem it_X10 : Cond.initialized RX10 ∈ jj_tb := jj_in 74 (by decide +kernel) (by decide +kernel)
theorem it_J13 : Cond.initialized RJ13 ∈ jj_tb := jj_in 75 (by decide +kernel) (by decide +kernel)
theorem fl_X6_15 : Cond.fieldLink RX6 15 RX6 (TX6 0).2.1 (TX6 0).2.2.1 ∈ jj_tb := jj_in 96 (by decide +kernel) (by decide +kernel)
theorem fl_X8_24 : Cond.fieldLink RX8 24 RX6 (TX6 0).2.1 (TX6 0).2.2.1 ∈ jj_tb := jj_in 97 (by decide +kernel) (by decide +kernel)
theorem fl_X1_44 : Cond.fieldLink RX1 44 RX6 (TX6 0).2.1 (TX6 0).2.2.1 ∈ jj_tb := jj_in 98 (by decide +kernel) (by decide +kernel)
theorem fl_X2_100 : Cond.fieldLink RX2 100 RX6 (TX6 0).2.1 (TX6 0).2.2.1 ∈ jj_tb := jj_in 99 (by decide +kernel) (by decide +kernel)
theorem fl_X2_44 : Cond.fieldLink RX2 44 RX6 (TX6 1).2.1 (TX6 1).2.2.1 ∈ jj_tb := jj_in 100 (by decide +kernel) (by decide +kernel)
theorem fl_X6_21 : Cond.fieldLink RX6 21 RX6 (TX6 1).2.1 (TX6 1).2.2.1 ∈ jj_tb := jj_in 101 (by decide +kernel) (by decide +kernel)
theorem fl_X8_29 : Cond.fieldLink RX8 29 RX6 (TX6 1).2.1 (TX6 1).2.2.1 ∈ jj_tb := jj_in 102 (by decide +kernel) (by decide +kernel)
theorem fl_X4_35 : Cond.fieldLink RX4 35 RX6 (TX6 1).2.1 (TX6 1).2.2.1 ∈ jj_tb := jj_in 103 (by decide +kernel) (by decide +kernel)
theorem fl_X9_113 : Cond.fieldLink RX9 113 RX6 (TX6 1).2.1 (TX6 1).2.2.1 ∈ jj_tb := jj_in 104 (by decide +kernel) (by decide +kernel)
theorem fl_X7_9 : Cond.fieldLink RX7 9 RX7 (TX7 0).2.1 (TX7 0).2.2.1 ∈ jj_tb := jj_in 117 (by decide +kernel) (by decide +kernel)
theorem fl_X8_20 : Cond.fieldLink RX8 20 RX7 (TX7 0).2.1 (TX7 0).2.2.1 ∈ jj_tb := jj_in 118 (by decide +kernel) (by decide +kernel)
theorem fl_X9_95 : Cond.fieldLink RX9 95 RX7 (TX7 0).2.1 (TX7 0).2.2.1 ∈ jj_tb := jj_in 119 (by decide +kernel) (by decide +kernel)
theorem fl_X4_29 : Cond.fieldLink RX4 29 RX7 (TX7 0).2.1 (TX7 0).2.2.1 ∈ jj_tb := jj_in 120 (by decide +kernel) (by decide +kernel)
theorem fl_X2_63 : Cond.fieldLink RX2 63 RX7 (TX7 0).2.1 (TX7 0).2.2.1 ∈ jj_tb := jj_in 121 (by decide +kernel) (by decide +kernel)
theorem fl_X7_15 : Cond.fieldLink RX7 15 RX7 (TX7 1).2.1 (TX7 1).2.2.1 ∈ jj_tb := jj_in 122 (by decide +kernel) (by decide +kernel)
theorem fl_X4_50 : Cond.fieldLink RX4 50 RX7 (TX7 1).2.1 (TX7 1).2.2.1 ∈ jj_tb := jj_in 123 (by decide +kernel) (by decide +kernel)
theorem fl_X5_51 : Cond.fieldLink RX5 51 RX7 (TX7 1).2.1 (TX7 1).2.2.1 ∈ jj_tb := jj_in 124 (by decide +kernel) (by decide +kernel)
theorem fl_X9_173 : Cond.fieldLink RX9 173 RX7 (TX7 1).2.1 (TX7 1).2.2.1 ∈ jj_tb := jj_in 125 (by decide +kernel) (by decide +kernel)
theorem fl_X7_19 : Cond.fieldLink RX7 19 RX7 (TX7 2).2.1 (TX7 2).2.2.1 ∈ jj_tb := jj_in 126 (by decide +kernel) (by decide +kernel)
theorem fl_X4_61 : Cond.fieldLink RX4 61 RX7 (TX7 2).2.1 (TX7 2).2.2.1 ∈ jj_tb := jj_in 127 (by decide +kernel) (by decide +kernel)
theorem fl_X7_33 : Cond.fieldLink RX7 33 RX7 (TX7 3).2.1 (TX7 3).2.2.1 ∈ jj_tb := jj_in 128 (by decide +kernel) (by decide +kernel)
theorem fl_X4_65 : Cond.fieldLink RX4 65 RX7 (TX7 3).2.1 (TX7 3).2.2.1 ∈ jj_tb := jj_in 129 (by decide +kernel) (by decide +kernel)
theorem fl_X9_142 : Cond.fieldLink RX9 142 RX7 (TX7 3).2.1 (TX7 3).2.2.1 ∈ jj_tb := jj_in 130 (by decide +kernel) (by decide +kernel)
theorem fl_X7_23 : Cond.fieldLink RX7 23 RX7 (TX7 4).2.1 (TX7 4).2.2.1 ∈ jj_tb := jj_in 131 (by decide +kernel) (by decide +kernel)
theorem fl_X9_92 : Cond.fieldLink RX9 92 RX7 (TX7 4).2.1 (TX7 4).2.2.1 ∈ jj_tb := jj_in 132 (by decide +kernel) (by decide +kernel)
theorem fl_X8_45 : Cond.fieldLink RX8 45 RX7 (TX7 4).2.1 (TX7 4).2.2.1 ∈ jj_tb := jj_in 133 (by decide +kernel) (by decide +kernel)
theorem fl_X4_77 : Cond.fieldLink RX4 77 RX7 (TX7 4).2.1 (TX7 4).2.2.1 ∈ jj_tb := jj_in 134 (by decide +kernel) (by decide +kernel)
theorem fl_X4_87 : Cond.fieldLink RX4 87 RX7 (TX7 5).2.1 (TX7 5).2.2.1 ∈ jj_tb := jj_in 135 (by decide +kernel) (by decide +kernel)
theorem fl_X8_9 : Cond.fieldLink RX8 9 RX8 (TX8 0).2.1 (TX8 0).2.2.1 ∈ jj_tb := jj_in 155 (by decide +kernel) (by decide +kernel)
theorem fl_X4_11 : Cond.fieldLink RX4 11 RX4 (TX4 0).2.1 (TX4 0).2.2.1 ∈ jj_tb := jj_in 166 (by decide +kernel) (by decide +kernel)
theorem fl_X4_81 : Cond.fieldLink RX4 81 RX4 (TX4 1).2.1 (TX4 1).2.2.1 ∈ jj_tb := jj_in 167 (by decide +kernel) (by decide +kernel)
theorem fl_X1_9 : Cond.fieldLink RX1 9 RX1 (TX1 0).2.1 (TX1 0).2.2.1 ∈ jj_tb := jj_in 184 (by decide +kernel) (by decide +kernel)
theorem fl_X9_261 : Cond.fieldLink RX9 261 RX1 (TX1 0).2.1 (TX1 0).2.2.1 ∈ jj_tb := jj_in 185 (by decide +kernel) (by decide +kernel)
theorem fl_X1_15 : Cond.fieldLink RX1 15 RX1 (TX1 1).2.1 (TX1 1).2.2.1 ∈ jj_tb := jj_in 186 (by decide +kernel) (by decide +kernel)
theorem fl_X9_264 : Cond.fieldLink RX9 264 RX1 (TX1 1).2.1 (TX1 1).2.2.1 ∈ jj_tb := jj_in 187 (by decide +kernel) (by decide +kernel)
theorem fl_X1_18 : Cond.fieldLink RX1 18 RX1 (TX1 2).2.1 (TX1 2).2.2.1 ∈ jj_tb := jj_in 188 (by decide +kernel) (by decide +kernel)
theorem fl_X9_257 : Cond.fieldLink RX9 257 RX1 (TX1 2).2.1 (TX1 2).2.2.1 ∈ jj_tb := jj_in 189 (by decide +kernel) (by decide +kernel)
theorem fl_X2_48 : Cond.fieldLink RX2 48 RX2 (TX2 0).2.1 (TX2 0).2.2.1 ∈ jj_tb := jj_in 207 (by decide +kernel) (by decide +kernel)
theorem fl_X9_88 : Cond.fieldLink RX9 88 RX2 (TX2 0).2.1 (TX2 0).2.2.1 ∈ jj_tb := jj_in 208 (by decide +kernel) (by decide +kernel)
theorem fl_X9_220 : Cond.fieldLink RX9 220 RX2 (TX2 1).2.1 (TX2 1).2.2.1 ∈ jj_tb := jj_in 209 (by decide +kernel) (by decide +kernel)
theorem fl_X2_13 : Cond.fieldLink RX2 13 RX2 (TX2 2).2.1 (TX2 2).2.2.1 ∈ jj_tb := jj_in 210 (by decide +kernel) (by decide +kernel)
theorem fl_X2_19 : Cond.fieldLink RX2 19 RX2 (TX2 3).2.1 (TX2 3).2.2.1 ∈ jj_tb := jj_in 211 (by decide +kernel) (by decide +kernel)
theorem fl_X9_351 : Cond.fieldLink RX9 351 RX2 (TX2 3).2.1 (TX2 3).2.2.1 ∈ jj_tb := jj_in 212 (by decide +kernel) (by decide +kernel)
theorem fl_X2_23 : Cond.fieldLink RX2 23 RX2 (TX2 4).2.1 (TX2 4).2.2.1 ∈ jj_tb := jj_in 213 (by decide +kernel) (by decide +kernel)
theorem fl_X2_30 : Cond.fieldLink RX2 30 RX2 (TX2 5).2.1 (TX2 5).2.2.1 ∈ jj_tb := jj_in 214 (by decide +kernel) (by decide +kernel)
theorem fl_X2_34 : Cond.fieldLink RX2 34 RX2 (TX2 6).2.1 (TX2 6).2.2.1 ∈ jj_tb := jj_in 215 (by decide +kernel) (by decide +kernel)
theorem fl_X9_280 : Cond.fieldLink RX9 280 RX2 (TX2 6).2.1 (TX2 6).2.2.1 ∈ jj_tb := jj_in 216 (by decide +kernel) (by decide +kernel)
theorem fl_X2_37 : Cond.fieldLink RX2 37 RX2 (TX2 7).2.1 (TX2 7).2.2.1 ∈ jj_tb := jj_in 217 (by decide +kernel) (by decide +kernel)
theorem fl_X9_282 : Cond.fieldLink RX9 282 RX2 (TX2 7).2.1 (TX2 7).2.2.1 ∈ jj_tb := jj_in 218 (by decide +kernel) (by decide +kernel)
theorem fl_X2_40 : Cond.fieldLink RX2 40 RX2 (TX2 8).2.1 (TX2 8).2.2.1 ∈ jj_tb := jj_in 219 (by decide +kernel) (by decide +kernel)
theorem fl_X9_283 : Cond.fieldLink RX9 283 RX2 (TX2 8).2.1 (TX2 8).2.2.1 ∈ jj_tb := jj_in 220 (by decide +kernel) (by decide +kernel)
theorem fl_X2_52 : Cond.fieldLink RX2 52 RX2 (TX2 9).2.1 (TX2 9).2.2.1 ∈ jj_tb := jj_in 221 (by decide +kernel) (by decide +kernel)
theorem fl_X9_278 : Cond.fieldLink RX9 278 RX2 (TX2 9).2.1 (TX2 9).2.2.1 ∈ jj_tb := jj_in 222 (by decide +kernel) (by decide +kernel)
theorem fl_X2_53 : Cond.fieldLink RX2 53 RX2 (TX2 10).2.1 (TX2 10).2.2.1 ∈ jj_tb := jj_in 223 (by decide +kernel) (by decide +kernel)
theorem fl_X9_217 : Cond.fieldLink RX9 217 RX2 (TX2 10).2.1 (TX2 10).2.2.1 ∈ jj_tb := jj_in 224 (by decide +kernel) (by decide +kernel)
theorem fl_X5_9 : Cond.fieldLink RX5 9 RX5 (TX5 0).2.1 (TX5 0).2.2.1 ∈ jj_tb := jj_in 256 (by decide +kernel) (by decide +kernel)
theorem fl_X9_301 : Cond.fieldLink RX9 301 RX5 (TX5 0).2.1 (TX5 0).2.2.1 ∈ jj_tb := jj_in 257 (by decide +kernel) (by decide +kernel)
theorem fl_X5_25 : Cond.fieldLink RX5 25 RX5 (TX5 1).2.1 (TX5 1).2.2.1 ∈ jj_tb := jj_in 258 (by decide +kernel) (by decide +kernel)
theorem fl_X9_305 : Cond.fieldLink RX9 305 RX5 (TX5 1).2.1 (TX5 1).2.2.1 ∈ jj_tb := jj_in 259 (by decide +kernel) (by decide +kernel)
theorem fl_X5_41 : Cond.fieldLink RX5 41 RX5 (TX5 2).2.1 (TX5 2).2.2.1 ∈ jj_tb := jj_in 260 (by decide +kernel) (by decide +kernel)
theorem fl_X9_302 : Cond.fieldLink RX9 302 RX5 (TX5 2).2.1 (TX5 2).2.2.1 ∈ jj_tb := jj_in 261 (by decide +kernel) (by decide +kernel)
theorem fl_X0_17 : Cond.fieldLink RX0 17 RX0 (TX0 0).2.1 (TX0 0).2.2.1 ∈ jj_tb := jj_in 283 (by decide +kernel) (by decide +kernel)
theorem fl_X9_226 : Cond.fieldLink RX9 226 RX0 (TX0 0).2.1 (TX0 0).2.2.1 ∈ jj_tb := jj_in 284 (by decide +kernel) (by decide +kernel)
theorem fl_X0_21 : Cond.fieldLink RX0 21 RX0 (TX0 1).2.1 (TX0 1).2.2.1 ∈ jj_tb := jj_in 285 (by decide +kernel) (by decide +kernel)
theorem fl_X9_229 : Cond.fieldLink RX9 229 RX0 (TX0 1).2.1 (TX0 1).2.2.1 ∈ jj_tb := jj_in 286 (by decide +kernel) (by decide +kernel)
theorem fl_X0_24 : Cond.fieldLink RX0 24 RX0 (TX0 2).2.1 (TX0 2).2.2.1 ∈ jj_tb := jj_in 287 (by decide +kernel) (by decide +kernel)
theorem fl_X9_230 : Cond.fieldLink RX9 230 RX0 (TX0 2).2.1 (TX0 2).2.2.1 ∈ jj_tb := jj_in 288 (by decide +kernel) (by decide +kernel)
theorem fl_X0_11 : Cond.fieldLink RX0 11 RX0 (TX0 3).2.1 (TX0 3).2.2.1 ∈ jj_tb := jj_in 289 (by decide +kernel) (by decide +kernel)
theorem fl_X5_31 : Cond.fieldLink RX5 31 RX0 (TX0 3).2.1 (TX0 3).2.2.1 ∈ jj_tb := jj_in 290 (by decide +kernel) (by decide +kernel)
theorem fl_X2_60 : Cond.fieldLink RX2 60 RX0 (TX0 3).2.1 (TX0 3).2.2.1 ∈ jj_tb := jj_in 291 (by decide +kernel) (by decide +kernel)
theorem fl_X9_191 : Cond.fieldLink RX9 191 RX0 (TX0 3).2.1 (TX0 3).2.2.1 ∈ jj_tb := jj_in 292 (by decide +kernel) (by decide +kernel)
theorem fl_X3_9 : Cond.fieldLink RX3 9 RX3 (TX3 0).2.1 (TX3 0).2.2.1 ∈ jj_tb := jj_in 358 (by decide +kernel) (by decide +kernel)
theorem fl_X3_15 : Cond.fieldLink RX3 15 RX3 (TX3 1).2.1 (TX3 1).2.2.1 ∈ jj_tb := jj_in 359 (by decide +kernel) (by decide +kernel)
theorem fl_X7_45 : Cond.fieldLink RX7 45 RX3 (TX3 1).2.1 (TX3 1).2.2.1 ∈ jj_tb := jj_in 360 (by decide +kernel) (by decide +kernel)
theorem fl_X4_92 : Cond.fieldLink RX4 92 RX3 (TX3 1).2.1 (TX3 1).2.2.1 ∈ jj_tb := jj_in 361 (by decide +kernel) (by decide +kernel)
theorem fl_X3_19 : Cond.fieldLink RX3 19 RX3 (TX3 2).2.1 (TX3 2).2.2.1 ∈ jj_tb := jj_in 362 (by decide +kernel) (by decide +kernel)
theorem fl_X4_95 : Cond.fieldLink RX4 95 RX3 (TX3 2).2.1 (TX3 2).2.2.1 ∈ jj_tb := jj_in 363 (by decide +kernel) (by decide +kernel)
theorem fl_X3_22 : Cond.fieldLink RX3 22 RX3 (TX3 3).2.1 (TX3 3).2.2.1 ∈ jj_tb := jj_in 364 (by decide +kernel) (by decide +kernel)
theorem fl_X8_69 : Cond.fieldLink RX8 69 RX3 (TX3 3).2.1 (TX3 3).2.2.1 ∈ jj_tb := jj_in 365 (by decide +kernel) (by decide +kernel)
theorem fl_X4_98 : Cond.fieldLink RX4 98 RX3 (TX3 3).2.1 (TX3 3).2.2.1 ∈ jj_tb := jj_in 366 (by decide +kernel) (by decide +kernel)
theorem fl_X9_162 : Cond.fieldLink RX9 162 RX3 (TX3 3).2.1 (TX3 3).2.2.1 ∈ jj_tb := jj_in 367 (by decide +kernel) (by decide +kernel)
theorem fl_X3_25 : Cond.fieldLink RX3 25 RX3 (TX3 4).2.1 (TX3 4).2.2.1 ∈ jj_tb := jj_in 368 (by decide +kernel) (by decide +kernel)
theorem fl_X4_101 : Cond.fieldLink RX4 101 RX3 (TX3 4).2.1 (TX3 4).2.2.1 ∈ jj_tb := jj_in 369 (by decide +kernel) (by decide +kernel)
theorem fl_X9_159 : Cond.fieldLink RX9 159 RX3 (TX3 4).2.1 (TX3 4).2.2.1 ∈ jj_tb := jj_in 370 (by decide +kernel) (by decide +kernel)
theorem fl_X3_28 : Cond.fieldLink RX3 28 RX3 (TX3 5).2.1 (TX3 5).2.2.1 ∈ jj_tb := jj_in 371 (by decide +kernel) (by decide +kernel)
theorem fl_X8_65 : Cond.fieldLink RX8 65 RX3 (TX3 5).2.1 (TX3 5).2.2.1 ∈ jj_tb := jj_in 372 (by decide +kernel) (by decide +kernel)
theorem fl_X4_104 : Cond.fieldLink RX4 104 RX3 (TX3 5).2.1 (TX3 5).2.2.1 ∈ jj_tb := jj_in 373 (by decide +kernel) (by decide +kernel)
theorem fl_X9_149 : Cond.fieldLink RX9 149 RX3 (TX3 5).2.1 (TX3 5).2.2.1 ∈ jj_tb := jj_in 374 (by decide +kernel) (by decide +kernel)
theorem fl_X4_23 : Cond.fieldLink RX4 23 RX3 (TX3 6).2.1 (TX3 6).2.2.1 ∈ jj_tb := jj_in 375 (by decide +kernel) (by decide +kernel)
theorem fl_X4_84 : Cond.fieldLink RX4 84 RX3 (TX3 7).2.1 (TX3 7).2.2.1 ∈ jj_tb := jj_in 376 (by decide +kernel) (by decide +kernel)
theorem fl_X5_55 : Cond.fieldLink RX5 55 RX3 (TX3 8).2.1 (TX3 8).2.2.1 ∈ jj_tb := jj_in 377 (by decide +kernel) (by decide +kernel)
theorem fl_X9_11 : Cond.fieldLink RX9 11 RX9 (TX9 0).2.1 (TX9 0).2.2.1 ∈ jj_tb := jj_in 505 (by decide +kernel) (by decide +kernel)
theorem fl_X9_28 : Cond.fieldLink RX9 28 RX9 (TX9 1).2.1 (TX9 1).2.2.1 ∈ jj_tb := jj_in 506 (by decide +kernel) (by decide +kernel)
theorem fl_X9_35 : Cond.fieldLink RX9 35 RX9 (TX9 2).2.1 (TX9 2).2.2.1 ∈ jj_tb := jj_in 507 (by decide +kernel) (by decide +kernel)
theorem fl_X9_41 : Cond.fieldLink RX9 41 RX9 (TX9 3).2.1 (TX9 3).2.2.1 ∈ jj_tb := jj_in 508 (by decide +kernel) (by decide +kernel)
theorem fl_X9_184 : Cond.fieldLink RX9 184 RX9 (TX9 4).2.1 (TX9 4).2.2.1 ∈ jj_tb := jj_in 509 (by decide +kernel) (by decide +kernel)
theorem fl_X9_245 : Cond.fieldLink RX9 245 RX9 (TX9 5).2.1 (TX9 5).2.2.1 ∈ jj_tb := jj_in 510 (by decide +kernel) (by decide +kernel)
theorem fl_X9_45 : Cond.fieldLink RX9 45 RX9 (TX9 6).2.1 (TX9 6).2.2.1 ∈ jj_tb := jj_in 511 (by decide +kernel) (by decide +kernel)
theorem fl_X9_207 : Cond.fieldLink RX9 207 RX9 (TX9 7).2.1 (TX9 7).2.2.1 ∈ jj_tb := jj_in 512 (by decide +kernel) (by decide +kernel)
theorem fl_X9_58 : Cond.fieldLink RX9 58 RX9 (TX9 8).2.1 (TX9 8).2.2.1 ∈ jj_tb := jj_in 513 (by decide +kernel) (by decide +kernel)
theorem fl_X9_65 : Cond.fieldLink RX9 65 RX9 (TX9 9).2.1 (TX9 9).2.2.1 ∈ jj_tb := jj_in 514 (by decide +kernel) (by decide +kernel)
theorem fl_X9_72 : Cond.fieldLink RX9 72 RX9 (TX9 10).2.1 (TX9 10).2.2.1 ∈ jj_tb := jj_in 515 (by decide +kernel) (by decide +kernel)
theorem fl_X10_103 : Cond.fieldLink RX10 103 RX10 (TX10 0).2.1 (TX10 0).2.2.1 ∈ jj_tb := jj_in 937 (by decide +kernel) (by decide +kernel)
theorem fl_X10_8 : Cond.fieldLink RX10 8 RX10 (TX10 1).2.1 (TX10 1).2.2.1 ∈ jj_tb := jj_in 938 (by decide +kernel) (by decide +kernel)
theorem fl_X10_15 : Cond.fieldLink RX10 15 RX10 (TX10 2).2.1 (TX10 2).2.2.1 ∈ jj_tb := jj_in 939 (by decide +kernel) (by decide +kernel)
theorem fl_X10_18 : Cond.fieldLink RX10 18 RX10 (TX10 3).2.1 (TX10 3).2.2.1 ∈ jj_tb := jj_in 940 (by decide +kernel) (by decide +kernel)
theorem fl_X10_21 : Cond.fieldLink RX10 21 RX10 (TX10 4).2.1 (TX10 4).2.2.1 ∈ jj_tb := jj_in 941 (by decide +kernel) (by decide +kernel)
theorem fl_X10_24 : Cond.fieldLink RX10 24 RX10 (TX10 5).2.1 (TX10 5).2.2.1 ∈ jj_tb := jj_in 942 (by decide +kernel) (by decide +kernel)
theorem fl_X10_28 : Cond.fieldLink RX10 28 RX10 (TX10 6).2.1 (TX10 6).2.2.1 ∈ jj_tb := jj_in 943 (by decide +kernel) (by decide +kernel)
theorem fl_X10_31 : Cond.fieldLink RX10 31 RX10 (TX10 7).2.1 (TX10 7).2.2.1 ∈ jj_tb := jj_in 944 (by decide +kernel) (by decide +kernel)
theorem fl_X10_34 : Cond.fieldLink RX10 34 RX10 (TX10 8).2.1 (TX10 8).2.2.1 ∈ jj_tb := jj_in 945 (by decide +kernel) (by decide +kernel)
theorem fl_X10_37 : Cond.fieldLink RX10 37 RX10 (TX10 9).2.1 (TX10 9).2.2.1 ∈ jj_tb := jj_in 946 (by decide +kernel) (by decide +kernel)
theorem fl_X10_40 : Cond.fieldLink RX10 40 RX10 (TX10 10).2.1 (TX10 10).2.2.1 ∈ jj_tb := jj_in 947 (by decide +kernel) (by decide +kernel)
theorem fl_X10_44 : Cond.fieldLink RX10 44 RX10 (TX10 11).2.1 (TX10 11).2.2.1 ∈ jj_tb := jj_in 948 (by decide +kernel) (by decide +kernel)
theorem fl_X10_47 : Cond.fieldLink RX10 47 RX10 (TX10 12).2.1 (TX10 12).2.2.1 ∈ jj_tb := jj_in 949 (by decide +kernel) (by decide +kernel)
theorem fl_X10_50 : Cond.fieldLink RX10 50 RX10 (TX10 13).2.1 (TX10 13).2.2.1 ∈ jj_tb := jj_in 950 (by decide +kernel) (by decide +kernel)
theorem fl_X10_54 : Cond.fieldLink RX10 54 RX10 (TX10 14).2.1 (TX10 14).2.2.1 ∈ jj_tb := jj_in 951 (by decide +kernel) (by decide +kernel)
theorem fl_X10_58 : Cond.fieldLink RX10 58 RX10 (TX10 15).2.1 (TX10 15).2.2.1 ∈ jj_tb := jj_in 952 (by decide +kernel) (by decide +kernel)
theorem fl_X10_61 : Cond.fieldLink RX10 61 RX10 (TX10 16).2.1 (TX10 16).2.2.1 ∈ jj_tb := jj_in 953 (by decide +kernel) (by decide +kernel)
theorem fl_X10_64 : Cond.fieldLink RX10 64 RX10 (TX10 17).2.1 (TX10 17).2.2.1 ∈ jj_tb := jj_in 954 (by decide +kernel) (by decide +kernel)
theorem fl_X10_67 : Cond.fieldLink RX10 67 RX10 (TX10 18).2.1 (TX10 18).2.2.1 ∈ jj_tb := jj_in 955 (by decide +kernel) (by decide +kernel)
theorem fl_X10_131 : Cond.fieldLink RX10 131 RX10 (TX10 19).2.1 (TX10 19).2.2.1 ∈ jj_tb := jj_in 956 (by decide +kernel) (by decide +kernel)
theorem fl_X10_168 : Cond.fieldLink RX10 168 RX10 (TX10 20).2.1 (TX10 20).2.2.1 ∈ jj_tb := jj_in 957 (by decide +kernel) (by decide +kernel)
theorem fl_X10_237 : Cond.fieldLink RX10 237 RX10 (TX10 21).2.1 (TX10 21).2.2.1 ∈ jj_tb := jj_in 958 (by decide +kernel) (by decide +kernel)
theorem fl_X10_274 : Cond.fieldLink RX10 274 RX10 (TX10 22).2.1 (TX10 22).2.2.1 ∈ jj_tb := jj_in 959 (by decide +kernel) (by decide +kernel)
theorem fl_X10_230 : Cond.fieldLink RX10 230 RX10 (TX10 23).2.1 (TX10 23).2.2.1 ∈ jj_tb := jj_in 960 (by decide +kernel) (by decide +kernel)
theorem fl_X10_70 : Cond.fieldLink RX10 70 RX10 (TX10 24).2.1 (TX10 24).2.2.1 ∈ jj_tb := jj_in 961 (by decide +kernel) (by decide +kernel)
theorem fl_X10_73 : Cond.fieldLink RX10 73 RX10 (TX10 25).2.1 (TX10 25).2.2.1 ∈ jj_tb := jj_in 962 (by decide +kernel) (by decide +kernel)
theorem fl_X10_76 : Cond.fieldLink RX10 76 RX10 (TX10 26).2.1 (TX10 26).2.2.1 ∈ jj_tb := jj_in 963 (by decide +kernel) (by decide +kernel)
theorem fl_X10_255 : Cond.fieldLink RX10 255 RX10 (TX10 27).2.1 (TX10 27).2.2.1 ∈ jj_tb := jj_in 964 (by decide +kernel) (by decide +kernel)
theorem fl_X10_80 : Cond.fieldLink RX10 80 RX10 (TX10 28).2.1 (TX10 28).2.2.1 ∈ jj_tb := jj_in 965 (by decide +kernel) (by decide +kernel)
theorem fl_X10_83 : Cond.fieldLink RX10 83 RX10 (TX10 29).2.1 (TX10 29).2.2.1 ∈ jj_tb := jj_in 966 (by decide +kernel) (by decide +kernel)
theorem fl_X10_86 : Cond.fieldLink RX10 86 RX10 (TX10 30).2.1 (TX10 30).2.2.1 ∈ jj_tb := jj_in 967 (by decide +kernel) (by decide +kernel)
theorem fl_X10_89 : Cond.fieldLink RX10 89 RX10 (TX10 31).2.1 (TX10 31).2.2.1 ∈ jj_tb := jj_in 968 (by decide +kernel) (by decide +kernel)
theorem fl_X10_93 : Cond.fieldLink RX10 93 RX10 (TX10 32).2.1 (TX10 32).2.2.1 ∈ jj_tb := jj_in 969 (by decide +kernel) (by decide +kernel)
theorem fl_X10_96 : Cond.fieldLink RX10 96 RX10 (TX10 33).2.1 (TX10 33).2.2.1 ∈ jj_tb := jj_in 970 (by decide +kernel) (by decide +kernel)
theorem ml_L_9 : Cond.methodLink RL 9 yX9_init ∈ jj_tb := jj_in 78 (by decide +kernel) (by decide +kernel)
theorem ml_X9_1 : Cond.methodLink RX9 1 objectInit ∈ jj_tb := jj_in 81 (by decide +kernel) (by decide +kernel)
theorem ml_X9_17 : Cond.methodLink RX9 17 yX6_init ∈ jj_tb := jj_in 89 (by decide +kernel) (by decide +kernel)
theorem ml_X6_3 : Cond.methodLink RX6 3 objectInit ∈ jj_tb := jj_in 92 (by decide +kernel) (by decide +kernel)
theorem ml_X6_9 : Cond.methodLink RX6 9 yJ9_max_7cf53 ∈ jj_tb := jj_in 93 (by decide +kernel) (by decide +kernel)
theorem ml_X9_22 : Cond.methodLink RX9 22 yX7_init ∈ jj_tb := jj_in 113 (by decide +kernel) (by decide +kernel)
theorem ml_X7_3 : Cond.methodLink RX7 3 objectInit ∈ jj_tb := jj_in 116 (by decide +kernel) (by decide +kernel)
theorem ml_X8_3 : Cond.methodLink RX8 3 objectInit ∈ jj_tb := jj_in 154 (by decide +kernel) (by decide +kernel)
theorem ml_X4_1 : Cond.methodLink RX4 1 objectInit ∈ jj_tb := jj_in 164 (by decide +kernel) (by decide +kernel)
theorem ml_X9_49 : Cond.methodLink RX9 49 yJ7_fill_53178 ∈ jj_tb := jj_in 175 (by decide +kernel) (by decide +kernel)
theorem ml_X1_3 : Cond.methodLink RX1 3 objectInit ∈ jj_tb := jj_in 183 (by decide +kernel) (by decide +kernel)
theorem ml_X9_64 : Cond.methodLink RX9 64 yX2_init ∈ jj_tb := jj_in 199 (by decide +kernel) (by decide +kernel)
theorem ml_X2_5 : Cond.methodLink RX2 5 objectInit ∈ jj_tb := jj_in 202 (by decide +kernel) (by decide +kernel)
theorem ml_X2_27 : Cond.methodLink RX2 27 yX6_init ∈ jj_tb := jj_in 206 (by decide +kernel) (by decide +kernel)
theorem ml_X9_71 : Cond.methodLink RX9 71 yX5_init ∈ jj_tb := jj_in 251 (by decide +kernel) (by decide +kernel)
theorem ml_X5_3 : Cond.methodLink RX5 3 objectInit ∈ jj_tb := jj_in 254 (by decide +kernel) (by decide +kernel)
theorem ml_X5_15 : Cond.methodLink RX5 15 yJ7_fill_53178 ∈ jj_tb := jj_in 255 (by decide +kernel) (by decide +kernel)
theorem ml_X9_76 : Cond.methodLink RX9 76 yX9_addCommit ∈ jj_tb := jj_in 269 (by decide +kernel) (by decide +kernel)
theorem ml_X9_242 : Cond.methodLink RX9 242 yX9_lineOf ∈ jj_tb := jj_in 273 (by decide +kernel) (by decide +kernel)
theorem ml_X9_337 : Cond.methodLink RX9 337 yX0_init ∈ jj_tb := jj_in 278 (by decide +kernel) (by decide +kernel)
theorem ml_X0_3 : Cond.methodLink RX0 3 objectInit ∈ jj_tb := jj_in 281 (by decide +kernel) (by decide +kernel)
theorem ml_X9_340 : Cond.methodLink RX9 340 yX9_tableBefore ∈ jj_tb := jj_in 302 (by decide +kernel) (by decide +kernel)
theorem ml_X9_250 : Cond.methodLink RX9 250 yX9_tableOf ∈ jj_tb := jj_in 306 (by decide +kernel) (by decide +kernel)
theorem ml_X9_84 : Cond.methodLink RX9 84 yX9_isTable ∈ jj_tb := jj_in 310 (by decide +kernel) (by decide +kernel)
theorem ml_X9_187 : Cond.methodLink RX9 187 yX9_commitAt ∈ jj_tb := jj_in 313 (by decide +kernel) (by decide +kernel)
theorem ml_X9_329 : Cond.methodLink RX9 329 yX6_isSame ∈ jj_tb := jj_in 317 (by decide +kernel) (by decide +kernel)
theorem ml_X6_58 : Cond.methodLink RX6 58 yX6_matches ∈ jj_tb := jj_in 321 (by decide +kernel) (by decide +kernel)
theorem ml_X9_138 : Cond.methodLink RX9 138 yX9_treeOf ∈ jj_tb := jj_in 325 (by decide +kernel) (by decide +kernel)
theorem ml_X9_311 : Cond.methodLink RX9 311 yX8_build ∈ jj_tb := jj_in 329 (by decide +kernel) (by decide +kernel)
theorem ml_X8_15 : Cond.methodLink RX8 15 yX7_clearNodes ∈ jj_tb := jj_in 333 (by decide +kernel) (by decide +kernel)
theorem ml_X8_33 : Cond.methodLink RX8 33 yX8_cutLevel ∈ jj_tb := jj_in 337 (by decide +kernel) (by decide +kernel)
theorem ml_X8_72 : Cond.methodLink RX8 72 yX7_beginLevel ∈ jj_tb := jj_in 340 (by decide +kernel) (by decide +kernel)
theorem ml_X8_76 : Cond.methodLink RX8 76 yX8_hashOf ∈ jj_tb := jj_in 344 (by decide +kernel) (by decide +kernel)
theorem ml_X8_80 : Cond.methodLink RX8 80 yX7_addNode ∈ jj_tb := jj_in 348 (by decide +kernel) (by decide +kernel)
theorem ml_X3_3 : Cond.methodLink RX3 3 objectInit ∈ jj_tb := jj_in 357 (by decide +kernel) (by decide +kernel)
theorem ml_X7_55 : Cond.methodLink RX7 55 yX3_set ∈ jj_tb := jj_in 397 (by decide +kernel) (by decide +kernel)
theorem ml_X8_84 : Cond.methodLink RX8 84 yX8_rollEntry ∈ jj_tb := jj_in 401 (by decide +kernel) (by decide +kernel)
theorem ml_X8_95 : Cond.methodLink RX8 95 yX8_turned ∈ jj_tb := jj_in 404 (by decide +kernel) (by decide +kernel)
theorem ml_X8_98 : Cond.methodLink RX8 98 yX8_spread ∈ jj_tb := jj_in 407 (by decide +kernel) (by decide +kernel)
theorem ml_X8_88 : Cond.methodLink RX8 88 yX8_endsNode ∈ jj_tb := jj_in 411 (by decide +kernel) (by decide +kernel)
theorem ml_X8_92 : Cond.methodLink RX8 92 yX8_rowsBelow ∈ jj_tb := jj_in 414 (by decide +kernel) (by decide +kernel)
theorem ml_X8_37 : Cond.methodLink RX8 37 yX7_nodesOn ∈ jj_tb := jj_in 417 (by decide +kernel) (by decide +kernel)
theorem ml_X7_37 : Cond.methodLink RX7 37 yX7_hasLevel ∈ jj_tb := jj_in 421 (by decide +kernel) (by decide +kernel)
theorem ml_X8_41 : Cond.methodLink RX8 41 yX8_writeEntries ∈ jj_tb := jj_in 425 (by decide +kernel) (by decide +kernel)
theorem ml_X8_49 : Cond.methodLink RX8 49 yJ9_min_7cf53 ∈ jj_tb := jj_in 429 (by decide +kernel) (by decide +kernel)
theorem ml_X8_55 : Cond.methodLink RX8 55 yX7_nodeAt ∈ jj_tb := jj_in 432 (by decide +kernel) (by decide +kernel)
theorem ml_X7_41 : Cond.methodLink RX7 41 yX7_nodesOn ∈ jj_tb := jj_in 436 (by decide +kernel) (by decide +kernel)
theorem ml_X8_59 : Cond.methodLink RX8 59 yX3_lastKey ∈ jj_tb := jj_in 437 (by decide +kernel) (by decide +kernel)
theorem ml_X3_34 : Cond.methodLink RX3 34 yX6_keyAt ∈ jj_tb := jj_in 442 (by decide +kernel) (by decide +kernel)
theorem ml_X9_343 : Cond.methodLink RX9 343 yX4_keepTable ∈ jj_tb := jj_in 447 (by decide +kernel) (by decide +kernel)
theorem ml_X4_39 : Cond.methodLink RX4 39 yX6_init ∈ jj_tb := jj_in 452 (by decide +kernel) (by decide +kernel)
theorem ml_X4_42 : Cond.methodLink RX4 42 yX6_become ∈ jj_tb := jj_in 453 (by decide +kernel) (by decide +kernel)
theorem ml_X6_45 : Cond.methodLink RX6 45 arraycopyName ∈ jj_tb := jj_in 457 (by decide +kernel) (by decide +kernel)
theorem ml_X4_46 : Cond.methodLink RX4 46 yX7_nodesInAll ∈ jj_tb := jj_in 460 (by decide +kernel) (by decide +kernel)
theorem ml_X4_53 : Cond.methodLink RX4 53 yX4_find ∈ jj_tb := jj_in 464 (by decide +kernel) (by decide +kernel)
theorem ml_X4_15 : Cond.methodLink RX4 15 yX4_bucketOf ∈ jj_tb := jj_in 468 (by decide +kernel) (by decide +kernel)
theorem ml_X4_19 : Cond.methodLink RX4 19 yX3_isSame ∈ jj_tb := jj_in 471 (by decide +kernel) (by decide +kernel)
theorem ml_X3_40 : Cond.methodLink RX3 40 yX6_matches ∈ jj_tb := jj_in 475 (by decide +kernel) (by decide +kernel)
theorem ml_X4_57 : Cond.methodLink RX4 57 yX4_addNode ∈ jj_tb := jj_in 476 (by decide +kernel) (by decide +kernel)
theorem ml_X4_108 : Cond.methodLink RX4 108 yX3_set ∈ jj_tb := jj_in 481 (by decide +kernel) (by decide +kernel)
theorem ml_X4_68 : Cond.methodLink RX4 68 yJ7_copyOf_59c91 ∈ jj_tb := jj_in 483 (by decide +kernel) (by decide +kernel)
theorem ml_J7_304 : Cond.methodLink RJ7 304 yJ9_min_7cf53 ∈ jj_tb := jj_in 493 (by decide +kernel) (by decide +kernel)
theorem ml_J7_150 : Cond.methodLink RJ7 150 arraycopyName ∈ jj_tb := jj_in 494 (by decide +kernel) (by decide +kernel)
theorem ml_X4_74 : Cond.methodLink RX4 74 yX7_init ∈ jj_tb := jj_in 495 (by decide +kernel) (by decide +kernel)
theorem ml_X9_80 : Cond.methodLink RX9 80 yX5_takeAll ∈ jj_tb := jj_in 496 (by decide +kernel) (by decide +kernel)
theorem ml_X5_37 : Cond.methodLink RX5 37 yX5_takeNodes ∈ jj_tb := jj_in 501 (by decide +kernel) (by decide +kernel)
theorem ml_X5_45 : Cond.methodLink RX5 45 yX7_nodesInAll ∈ jj_tb := jj_in 504 (by decide +kernel) (by decide +kernel)
theorem ml_L_13 : Cond.methodLink RL 13 yX9_put ∈ jj_tb := jj_in 539 (by decide +kernel) (by decide +kernel)
theorem ml_X9_99 : Cond.methodLink RX9 99 yX6_setRow ∈ jj_tb := jj_in 543 (by decide +kernel) (by decide +kernel)
theorem ml_X6_27 : Cond.methodLink RX6 27 yX6_placeOf ∈ jj_tb := jj_in 547 (by decide +kernel) (by decide +kernel)
theorem ml_X6_31 : Cond.methodLink RX6 31 yX6_keyAt ∈ jj_tb := jj_in 551 (by decide +kernel) (by decide +kernel)
theorem ml_X6_42 : Cond.methodLink RX6 42 yX6_makeRoom ∈ jj_tb := jj_in 552 (by decide +kernel) (by decide +kernel)
theorem ml_L_18 : Cond.methodLink RL 18 yX9_cell ∈ jj_tb := jj_in 556 (by decide +kernel) (by decide +kernel)
theorem ml_X9_103 : Cond.methodLink RX9 103 yX9_isColumn ∈ jj_tb := jj_in 560 (by decide +kernel) (by decide +kernel)
theorem ml_X9_106 : Cond.methodLink RX9 106 yX6_setColumn ∈ jj_tb := jj_in 563 (by decide +kernel) (by decide +kernel)
theorem ml_X6_35 : Cond.methodLink RX6 35 yX6_find ∈ jj_tb := jj_in 567 (by decide +kernel) (by decide +kernel)
theorem ml_L_23 : Cond.methodLink RL 23 yX9_drop ∈ jj_tb := jj_in 572 (by decide +kernel) (by decide +kernel)
theorem ml_X9_110 : Cond.methodLink RX9 110 yX6_removeRow ∈ jj_tb := jj_in 576 (by decide +kernel) (by decide +kernel)
theorem ml_L_28 : Cond.methodLink RL 28 yX9_fill ∈ jj_tb := jj_in 580 (by decide +kernel) (by decide +kernel)
theorem ml_X9_117 : Cond.methodLink RX9 117 yX9_countNewKeys ∈ jj_tb := jj_in 584 (by decide +kernel) (by decide +kernel)
theorem ml_X9_308 : Cond.methodLink RX9 308 yX6_find ∈ jj_tb := jj_in 587 (by decide +kernel) (by decide +kernel)
theorem ml_X9_121 : Cond.methodLink RX9 121 yX9_nextSeed ∈ jj_tb := jj_in 588 (by decide +kernel) (by decide +kernel)
theorem ml_L_32 : Cond.methodLink RL 32 yX9_get ∈ jj_tb := jj_in 593 (by decide +kernel) (by decide +kernel)
theorem ml_X9_125 : Cond.methodLink RX9 125 yX6_columnOf ∈ jj_tb := jj_in 597 (by decide +kernel) (by decide +kernel)
theorem ml_L_37 : Cond.methodLink RL 37 yX9_size ∈ jj_tb := jj_in 602 (by decide +kernel) (by decide +kernel)
theorem ml_L_42 : Cond.methodLink RL 42 yX9_kth ∈ jj_tb := jj_in 606 (by decide +kernel) (by decide +kernel)
theorem ml_X9_131 : Cond.methodLink RX9 131 yX6_keyAt ∈ jj_tb := jj_in 610 (by decide +kernel) (by decide +kernel)
theorem ml_L_47 : Cond.methodLink RL 47 yX9_rank ∈ jj_tb := jj_in 611 (by decide +kernel) (by decide +kernel)
theorem ml_X9_135 : Cond.methodLink RX9 135 yX6_placeOf ∈ jj_tb := jj_in 615 (by decide +kernel) (by decide +kernel)
theorem ml_L_51 : Cond.methodLink RL 51 yX9_root ∈ jj_tb := jj_in 616 (by decide +kernel) (by decide +kernel)
theorem ml_X9_145 : Cond.methodLink RX9 145 yX7_nodeAt ∈ jj_tb := jj_in 620 (by decide +kernel) (by decide +kernel)
theorem ml_L_55 : Cond.methodLink RL 55 yX9_height ∈ jj_tb := jj_in 621 (by decide +kernel) (by decide +kernel)
theorem ml_L_59 : Cond.methodLink RL 59 yX9_nodes ∈ jj_tb := jj_in 625 (by decide +kernel) (by decide +kernel)
theorem ml_X9_153 : Cond.methodLink RX9 153 yX7_hasLevel ∈ jj_tb := jj_in 629 (by decide +kernel) (by decide +kernel)
theorem ml_X9_156 : Cond.methodLink RX9 156 yX7_nodesOn ∈ jj_tb := jj_in 630 (by decide +kernel) (by decide +kernel)
theorem ml_L_64 : Cond.methodLink RL 64 yX9_node ∈ jj_tb := jj_in 631 (by decide +kernel) (by decide +kernel)
theorem ml_X9_165 : Cond.methodLink RX9 165 yX3_lastKey ∈ jj_tb := jj_in 635 (by decide +kernel) (by decide +kernel)
theorem ml_L_69 : Cond.methodLink RL 69 yX9_shared ∈ jj_tb := jj_in 636 (by decide +kernel) (by decide +kernel)
theorem ml_X9_169 : Cond.methodLink RX9 169 yX7_nodesInAll ∈ jj_tb := jj_in 640 (by decide +kernel) (by decide +kernel)
theorem ml_X9_177 : Cond.methodLink RX9 177 yX7_hasSame ∈ jj_tb := jj_in 641 (by decide +kernel) (by decide +kernel)
theorem ml_X7_50 : Cond.methodLink RX7 50 yX3_isSame ∈ jj_tb := jj_in 645 (by decide +kernel) (by decide +kernel)
theorem ml_L_73 : Cond.methodLink RL 73 yX9_stored ∈ jj_tb := jj_in 646 (by decide +kernel) (by decide +kernel)
theorem ml_X9_181 : Cond.methodLink RX9 181 yX4_beginCount ∈ jj_tb := jj_in 650 (by decide +kernel) (by decide +kernel)
theorem ml_X9_194 : Cond.methodLink RX9 194 yX4_countUnseen ∈ jj_tb := jj_in 654 (by decide +kernel) (by decide +kernel)
theorem ml_X4_88 : Cond.methodLink RX4 88 yX4_see ∈ jj_tb := jj_in 658 (by decide +kernel) (by decide +kernel)
theorem ml_X9_198 : Cond.methodLink RX9 198 yX9_countUnseenOfWork ∈ jj_tb := jj_in 662 (by decide +kernel) (by decide +kernel)
theorem ml_X9_315 : Cond.methodLink RX9 315 yX4_find ∈ jj_tb := jj_in 666 (by decide +kernel) (by decide +kernel)
theorem ml_X9_318 : Cond.methodLink RX9 318 yX4_see ∈ jj_tb := jj_in 667 (by decide +kernel) (by decide +kernel)
theorem ml_X9_321 : Cond.methodLink RX9 321 yX9_isInWorkBefore ∈ jj_tb := jj_in 668 (by decide +kernel) (by decide +kernel)
theorem ml_L_78 : Cond.methodLink RL 78 yX9_open ∈ jj_tb := jj_in 672 (by decide +kernel) (by decide +kernel)
theorem ml_X9_201 : Cond.methodLink RX9 201 yX9_isBranch ∈ jj_tb := jj_in 676 (by decide +kernel) (by decide +kernel)
theorem ml_X9_204 : Cond.methodLink RX9 204 yX9_isHere ∈ jj_tb := jj_in 679 (by decide +kernel) (by decide +kernel)
theorem ml_L_82 : Cond.methodLink RL 82 yX9_go ∈ jj_tb := jj_in 683 (by decide +kernel) (by decide +kernel)
theorem ml_X9_210 : Cond.methodLink RX9 210 yX9_isClean ∈ jj_tb := jj_in 687 (by decide +kernel) (by decide +kernel)
theorem ml_X9_325 : Cond.methodLink RX9 325 yX9_headAtHand ∈ jj_tb := jj_in 691 (by decide +kernel) (by decide +kernel)
theorem ml_X9_214 : Cond.methodLink RX9 214 yX9_loadWork ∈ jj_tb := jj_in 695 (by decide +kernel) (by decide +kernel)
theorem ml_X9_333 : Cond.methodLink RX9 333 yX7_become ∈ jj_tb := jj_in 699 (by decide +kernel) (by decide +kernel)
theorem ml_X7_27 : Cond.methodLink RX7 27 yX6_become ∈ jj_tb := jj_in 703 (by decide +kernel) (by decide +kernel)
theorem ml_L_86 : Cond.methodLink RL 86 yX9_close ∈ jj_tb := jj_in 704 (by decide +kernel) (by decide +kernel)
theorem ml_L_90 : Cond.methodLink RL 90 yX9_head ∈ jj_tb := jj_in 708 (by decide +kernel) (by decide +kernel)
theorem ml_L_94 : Cond.methodLink RL 94 yX9_commit ∈ jj_tb := jj_in 712 (by decide +kernel) (by decide +kernel)
theorem ml_X9_223 : Cond.methodLink RX9 223 yX2_end ∈ jj_tb := jj_in 716 (by decide +kernel) (by decide +kernel)
theorem ml_L_98 : Cond.methodLink RL 98 yX9_parent ∈ jj_tb := jj_in 720 (by decide +kernel) (by decide +kernel)
theorem ml_L_102 : Cond.methodLink RL 102 yX9_ancestors ∈ jj_tb := jj_in 724 (by decide +kernel) (by decide +kernel)
theorem ml_X9_233 : Cond.methodLink RX9 233 yJ13_bitCount_95d88 ∈ jj_tb := jj_in 728 (by decide +kernel) (by decide +kernel)
theorem ml_L_106 : Cond.methodLink RL 106 yX9_base ∈ jj_tb := jj_in 734 (by decide +kernel) (by decide +kernel)
theorem ml_X9_239 : Cond.methodLink RX9 239 yX9_greatestOf ∈ jj_tb := jj_in 738 (by decide +kernel) (by decide +kernel)
theorem ml_L_110 : Cond.methodLink RL 110 yX9_reset ∈ jj_tb := jj_in 742 (by decide +kernel) (by decide +kernel)
theorem ml_L_114 : Cond.methodLink RL 114 yX9_sweep ∈ jj_tb := jj_in 746 (by decide +kernel) (by decide +kernel)
theorem ml_L_118 : Cond.methodLink RL 118 yX9_diff ∈ jj_tb := jj_in 751 (by decide +kernel) (by decide +kernel)
theorem ml_X9_253 : Cond.methodLink RX9 253 yX1_list ∈ jj_tb := jj_in 755 (by decide +kernel) (by decide +kernel)
theorem ml_X1_22 : Cond.methodLink RX1 22 yX6_keyAt ∈ jj_tb := jj_in 759 (by decide +kernel) (by decide +kernel)
theorem ml_X1_28 : Cond.methodLink RX1 28 yJ9_min_f86c9 ∈ jj_tb := jj_in 760 (by decide +kernel) (by decide +kernel)
theorem ml_X1_36 : Cond.methodLink RX1 36 yX1_kindOfChange ∈ jj_tb := jj_in 764 (by decide +kernel) (by decide +kernel)
theorem ml_X1_40 : Cond.methodLink RX1 40 yX1_add ∈ jj_tb := jj_in 767 (by decide +kernel) (by decide +kernel)
theorem ml_L_122 : Cond.methodLink RL 122 yX9_diffKey ∈ jj_tb := jj_in 771 (by decide +kernel) (by decide +kernel)
theorem ml_X9_258 : Cond.methodLink RX9 258 yX1_has ∈ jj_tb := jj_in 775 (by decide +kernel) (by decide +kernel)
theorem ml_L_127 : Cond.methodLink RL 127 yX9_diffKind ∈ jj_tb := jj_in 779 (by decide +kernel) (by decide +kernel)
theorem ml_L_131 : Cond.methodLink RL 131 yX9_merge ∈ jj_tb := jj_in 783 (by decide +kernel) (by decide +kernel)
theorem ml_X9_267 : Cond.methodLink RX9 267 yX9_isAncestor ∈ jj_tb := jj_in 787 (by decide +kernel) (by decide +kernel)
theorem ml_X9_271 : Cond.methodLink RX9 271 yX9_beginMerge ∈ jj_tb := jj_in 791 (by decide +kernel) (by decide +kernel)
theorem ml_X9_347 : Cond.methodLink RX9 347 yX2_bringTogether ∈ jj_tb := jj_in 795 (by decide +kernel) (by decide +kernel)
theorem ml_X2_68 : Cond.methodLink RX2 68 yX2_bringTable ∈ jj_tb := jj_in 799 (by decide +kernel) (by decide +kernel)
theorem ml_X2_72 : Cond.methodLink RX2 72 yX6_keyAt ∈ jj_tb := jj_in 803 (by decide +kernel) (by decide +kernel)
theorem ml_X2_76 : Cond.methodLink RX2 76 yJ9_min_f86c9 ∈ jj_tb := jj_in 804 (by decide +kernel) (by decide +kernel)
theorem ml_X2_84 : Cond.methodLink RX2 84 yX2_bringKey ∈ jj_tb := jj_in 806 (by decide +kernel) (by decide +kernel)
theorem ml_X2_88 : Cond.methodLink RX2 88 yX6_isSameRow ∈ jj_tb := jj_in 810 (by decide +kernel) (by decide +kernel)
theorem ml_X2_92 : Cond.methodLink RX2 92 yX6_append ∈ jj_tb := jj_in 814 (by decide +kernel) (by decide +kernel)
theorem ml_X2_96 : Cond.methodLink RX2 96 yX2_mixColumns ∈ jj_tb := jj_in 818 (by decide +kernel) (by decide +kernel)
theorem ml_X2_103 : Cond.methodLink RX2 103 yX2_addConflict ∈ jj_tb := jj_in 822 (by decide +kernel) (by decide +kernel)
theorem ml_L_135 : Cond.methodLink RL 135 yX9_pick ∈ jj_tb := jj_in 826 (by decide +kernel) (by decide +kernel)
theorem ml_X9_275 : Cond.methodLink RX9 275 yX9_refusalOfPick ∈ jj_tb := jj_in 830 (by decide +kernel) (by decide +kernel)
theorem ml_L_139 : Cond.methodLink RL 139 yX9_undo ∈ jj_tb := jj_in 834 (by decide +kernel) (by decide +kernel)
theorem ml_L_143 : Cond.methodLink RL 143 yX9_merging ∈ jj_tb := jj_in 838 (by decide +kernel) (by decide +kernel)
theorem ml_L_148 : Cond.methodLink RL 148 yX9_conflicts ∈ jj_tb := jj_in 842 (by decide +kernel) (by decide +kernel)
theorem ml_L_152 : Cond.methodLink RL 152 yX9_conflict ∈ jj_tb := jj_in 846 (by decide +kernel) (by decide +kernel)
theorem ml_X9_279 : Cond.methodLink RX9 279 yX2_has ∈ jj_tb := jj_in 850 (by decide +kernel) (by decide +kernel)
theorem ml_L_156 : Cond.methodLink RL 156 yX9_version ∈ jj_tb := jj_in 854 (by decide +kernel) (by decide +kernel)
theorem ml_X9_287 : Cond.methodLink RX9 287 yX2_rowsOf ∈ jj_tb := jj_in 858 (by decide +kernel) (by decide +kernel)
theorem ml_X2_56 : Cond.methodLink RX2 56 yX2_has ∈ jj_tb := jj_in 862 (by decide +kernel) (by decide +kernel)
theorem ml_L_160 : Cond.methodLink RL 160 yX9_settle ∈ jj_tb := jj_in 863 (by decide +kernel) (by decide +kernel)
theorem ml_X9_291 : Cond.methodLink RX9 291 yX6_takeRow ∈ jj_tb := jj_in 867 (by decide +kernel) (by decide +kernel)
theorem ml_X6_51 : Cond.methodLink RX6 51 yX6_removeRow ∈ jj_tb := jj_in 871 (by decide +kernel) (by decide +kernel)
theorem ml_X6_54 : Cond.methodLink RX6 54 yX6_setRow ∈ jj_tb := jj_in 872 (by decide +kernel) (by decide +kernel)
theorem ml_X9_295 : Cond.methodLink RX9 295 yX2_closeConflict ∈ jj_tb := jj_in 873 (by decide +kernel) (by decide +kernel)
theorem ml_L_164 : Cond.methodLink RL 164 yX9_send ∈ jj_tb := jj_in 877 (by decide +kernel) (by decide +kernel)
theorem ml_X9_298 : Cond.methodLink RX9 298 yX5_hasBranch ∈ jj_tb := jj_in 881 (by decide +kernel) (by decide +kernel)
theorem ml_L_168 : Cond.methodLink RL 168 yX9_fetch ∈ jj_tb := jj_in 886 (by decide +kernel) (by decide +kernel)
theorem ml_L_172 : Cond.methodLink RL 172 yX9_there ∈ jj_tb := jj_in 890 (by decide +kernel) (by decide +kernel)
theorem ml_L_176 : Cond.methodLink RL 176 yX9_kept ∈ jj_tb := jj_in 894 (by decide +kernel) (by decide +kernel)
theorem ml_L_12 : Cond.methodLink RL 12 yX10_init ∈ jj_tb := jj_in 900 (by decide +kernel) (by decide +kernel)
theorem ml_X10_1 : Cond.methodLink RX10 1 objectInit ∈ jj_tb := jj_in 903 (by decide +kernel) (by decide +kernel)
theorem ml_X10_99 : Cond.methodLink RX10 99 yX10_cut ∈ jj_tb := jj_in 908 (by decide +kernel) (by decide +kernel)
theorem ml_X10_146 : Cond.methodLink RX10 146 yX10_layLevel ∈ jj_tb := jj_in 912 (by decide +kernel) (by decide +kernel)
theorem ml_X10_110 : Cond.methodLink RX10 110 yX10_rowAt ∈ jj_tb := jj_in 916 (by decide +kernel) (by decide +kernel)
theorem ml_X10_140 : Cond.methodLink RX10 140 yX10_layBytes ∈ jj_tb := jj_in 920 (by decide +kernel) (by decide +kernel)
theorem ml_X10_150 : Cond.methodLink RX10 150 yX10_turned ∈ jj_tb := jj_in 925 (by decide +kernel) (by decide +kernel)
theorem ml_X10_154 : Cond.methodLink RX10 154 yX10_toll ∈ jj_tb := jj_in 928 (by decide +kernel) (by decide +kernel)
theorem ml_X10_158 : Cond.methodLink RX10 158 yX10_node ∈ jj_tb := jj_in 932 (by decide +kernel) (by decide +kernel)
theorem ml_L_17 : Cond.methodLink RL 17 yX10_put ∈ jj_tb := jj_in 1041 (by decide +kernel) (by decide +kernel)
theorem ml_X10_165 : Cond.methodLink RX10 165 yX10_isTable ∈ jj_tb := jj_in 1045 (by decide +kernel) (by decide +kernel)
theorem ml_X10_124 : Cond.methodLink RX10 124 yX10_find ∈ jj_tb := jj_in 1048 (by decide +kernel) (by decide +kernel)
theorem ml_X10_114 : Cond.methodLink RX10 114 yX10_rankOf ∈ jj_tb := jj_in 1052 (by decide +kernel) (by decide +kernel)
theorem ml_X10_171 : Cond.methodLink RX10 171 yX10_lay ∈ jj_tb := jj_in 1056 (by decide +kernel) (by decide +kernel)
theorem ml_X10_117 : Cond.methodLink RX10 117 yX10_copyRow ∈ jj_tb := jj_in 1060 (by decide +kernel) (by decide +kernel)
theorem ml_L_22 : Cond.methodLink RL 22 yX10_cell ∈ jj_tb := jj_in 1064 (by decide +kernel) (by decide +kernel)
theorem ml_X10_177 : Cond.methodLink RX10 177 yX10_isIn ∈ jj_tb := jj_in 1069 (by decide +kernel) (by decide +kernel)
theorem ml_L_27 : Cond.methodLink RL 27 yX10_drop ∈ jj_tb := jj_in 1072 (by decide +kernel) (by decide +kernel)
theorem ml_X10_181 : Cond.methodLink RX10 181 yX10_takeAway ∈ jj_tb := jj_in 1076 (by decide +kernel) (by decide +kernel)
theorem ml_L_31 : Cond.methodLink RL 31 yX10_fill ∈ jj_tb := jj_in 1080 (by decide +kernel) (by decide +kernel)
theorem ml_L_36 : Cond.methodLink RL 36 yX10_get ∈ jj_tb := jj_in 1087 (by decide +kernel) (by decide +kernel)
theorem ml_L_41 : Cond.methodLink RL 41 yX10_size ∈ jj_tb := jj_in 1092 (by decide +kernel) (by decide +kernel)
theorem ml_L_46 : Cond.methodLink RL 46 yX10_kth ∈ jj_tb := jj_in 1096 (by decide +kernel) (by decide +kernel)
theorem ml_L_50 : Cond.methodLink RL 50 yX10_rank ∈ jj_tb := jj_in 1100 (by decide +kernel) (by decide +kernel)
theorem ml_L_54 : Cond.methodLink RL 54 yX10_root ∈ jj_tb := jj_in 1104 (by decide +kernel) (by decide +kernel)
theorem ml_X10_194 : Cond.methodLink RX10 194 yX10_treeOf ∈ jj_tb := jj_in 1108 (by decide +kernel) (by decide +kernel)
theorem ml_X10_191 : Cond.methodLink RX10 191 yX10_placeOf ∈ jj_tb := jj_in 1112 (by decide +kernel) (by decide +kernel)
theorem ml_X10_106 : Cond.methodLink RX10 106 yX10_isCommit ∈ jj_tb := jj_in 1116 (by decide +kernel) (by decide +kernel)
theorem ml_L_58 : Cond.methodLink RL 58 yX10_height ∈ jj_tb := jj_in 1120 (by decide +kernel) (by decide +kernel)
theorem ml_L_63 : Cond.methodLink RL 63 yX10_nodes ∈ jj_tb := jj_in 1124 (by decide +kernel) (by decide +kernel)
theorem ml_X10_197 : Cond.methodLink RX10 197 yX10_nodeAt ∈ jj_tb := jj_in 1128 (by decide +kernel) (by decide +kernel)
theorem ml_L_68 : Cond.methodLink RL 68 yX10_node_ ∈ jj_tb := jj_in 1132 (by decide +kernel) (by decide +kernel)
theorem ml_X10_162 : Cond.methodLink RX10 162 yX10_lastRow ∈ jj_tb := jj_in 1137 (by decide +kernel) (by decide +kernel)
theorem ml_L_72 : Cond.methodLink RL 72 yX10_shared ∈ jj_tb := jj_in 1141 (by decide +kernel) (by decide +kernel)
theorem ml_X10_203 : Cond.methodLink RX10 203 yX10_areSame ∈ jj_tb := jj_in 1145 (by decide +kernel) (by decide +kernel)
theorem ml_X10_127 : Cond.methodLink RX10 127 yX10_isRowAlike ∈ jj_tb := jj_in 1149 (by decide +kernel) (by decide +kernel)
theorem ml_L_77 : Cond.methodLink RL 77 yX10_stored ∈ jj_tb := jj_in 1153 (by decide +kernel) (by decide +kernel)
theorem ml_X10_213 : Cond.methodLink RX10 213 yX10_distinct ∈ jj_tb := jj_in 1157 (by decide +kernel) (by decide +kernel)
theorem ml_X10_207 : Cond.methodLink RX10 207 yX10_cutWork ∈ jj_tb := jj_in 1161 (by decide +kernel) (by decide +kernel)
theorem ml_X10_210 : Cond.methodLink RX10 210 yX10_isNew ∈ jj_tb := jj_in 1165 (by decide +kernel) (by decide +kernel)
theorem ml_L_81 : Cond.methodLink RL 81 yX10_open ∈ jj_tb := jj_in 1170 (by decide +kernel) (by decide +kernel)
theorem ml_X10_217 : Cond.methodLink RX10 217 yX10_isNumber ∈ jj_tb := jj_in 1174 (by decide +kernel) (by decide +kernel)
theorem ml_L_85 : Cond.methodLink RL 85 yX10_go ∈ jj_tb := jj_in 1177 (by decide +kernel) (by decide +kernel)
theorem ml_X10_220 : Cond.methodLink RX10 220 yX10_isBranch ∈ jj_tb := jj_in 1181 (by decide +kernel) (by decide +kernel)
theorem ml_X10_223 : Cond.methodLink RX10 223 yX10_isClean ∈ jj_tb := jj_in 1185 (by decide +kernel) (by decide +kernel)
theorem ml_X10_134 : Cond.methodLink RX10 134 yX10_isAlike ∈ jj_tb := jj_in 1189 (by decide +kernel) (by decide +kernel)
theorem ml_X10_227 : Cond.methodLink RX10 227 yX10_copy ∈ jj_tb := jj_in 1193 (by decide +kernel) (by decide +kernel)
theorem ml_X10_120 : Cond.methodLink RX10 120 yX10_copyTable ∈ jj_tb := jj_in 1197 (by decide +kernel) (by decide +kernel)
theorem ml_L_89 : Cond.methodLink RL 89 yX10_close ∈ jj_tb := jj_in 1201 (by decide +kernel) (by decide +kernel)
theorem ml_L_93 : Cond.methodLink RL 93 yX10_head ∈ jj_tb := jj_in 1205 (by decide +kernel) (by decide +kernel)
theorem ml_L_97 : Cond.methodLink RL 97 yX10_commit ∈ jj_tb := jj_in 1209 (by decide +kernel) (by decide +kernel)
theorem ml_X10_233 : Cond.methodLink RX10 233 yX10_openConflicts ∈ jj_tb := jj_in 1213 (by decide +kernel) (by decide +kernel)
theorem ml_X10_240 : Cond.methodLink RX10 240 yX10_over ∈ jj_tb := jj_in 1217 (by decide +kernel) (by decide +kernel)
theorem ml_L_101 : Cond.methodLink RL 101 yX10_parent ∈ jj_tb := jj_in 1221 (by decide +kernel) (by decide +kernel)
theorem ml_L_105 : Cond.methodLink RL 105 yX10_ancestors ∈ jj_tb := jj_in 1225 (by decide +kernel) (by decide +kernel)
theorem ml_X10_243 : Cond.methodLink RX10 243 yX10_bits ∈ jj_tb := jj_in 1229 (by decide +kernel) (by decide +kernel)
theorem ml_L_109 : Cond.methodLink RL 109 yX10_base ∈ jj_tb := jj_in 1232 (by decide +kernel) (by decide +kernel)
theorem ml_X10_250 : Cond.methodLink RX10 250 yX10_baseOf ∈ jj_tb := jj_in 1236 (by decide +kernel) (by decide +kernel)
theorem ml_X10_247 : Cond.methodLink RX10 247 yX10_isAncestor ∈ jj_tb := jj_in 1240 (by decide +kernel) (by decide +kernel)
theorem ml_L_113 : Cond.methodLink RL 113 yX10_reset ∈ jj_tb := jj_in 1244 (by decide +kernel) (by decide +kernel)
theorem ml_L_117 : Cond.methodLink RL 117 yX10_sweep ∈ jj_tb := jj_in 1248 (by decide +kernel) (by decide +kernel)
theorem ml_L_121 : Cond.methodLink RL 121 yX10_diff ∈ jj_tb := jj_in 1253 (by decide +kernel) (by decide +kernel)
theorem ml_L_126 : Cond.methodLink RL 126 yX10_diffKey ∈ jj_tb := jj_in 1257 (by decide +kernel) (by decide +kernel)
theorem ml_L_130 : Cond.methodLink RL 130 yX10_diffKind ∈ jj_tb := jj_in 1261 (by decide +kernel) (by decide +kernel)
theorem ml_L_134 : Cond.methodLink RL 134 yX10_merge ∈ jj_tb := jj_in 1265 (by decide +kernel) (by decide +kernel)
theorem ml_X10_277 : Cond.methodLink RX10 277 yX10_together ∈ jj_tb := jj_in 1269 (by decide +kernel) (by decide +kernel)
theorem ml_X10_266 : Cond.methodLink RX10 266 yX10_nextKey ∈ jj_tb := jj_in 1274 (by decide +kernel) (by decide +kernel)
theorem ml_X10_270 : Cond.methodLink RX10 270 yX10_bringKey ∈ jj_tb := jj_in 1278 (by decide +kernel) (by decide +kernel)
theorem ml_X10_258 : Cond.methodLink RX10 258 yX10_areAlike ∈ jj_tb := jj_in 1282 (by decide +kernel) (by decide +kernel)
theorem ml_X10_261 : Cond.methodLink RX10 261 yX10_bring ∈ jj_tb := jj_in 1286 (by decide +kernel) (by decide +kernel)
theorem ml_L_138 : Cond.methodLink RL 138 yX10_pick ∈ jj_tb := jj_in 1290 (by decide +kernel) (by decide +kernel)
theorem ml_X10_280 : Cond.methodLink RX10 280 yX10_change ∈ jj_tb := jj_in 1294 (by decide +kernel) (by decide +kernel)
theorem ml_L_142 : Cond.methodLink RL 142 yX10_undo ∈ jj_tb := jj_in 1298 (by decide +kernel) (by decide +kernel)
theorem ml_L_147 : Cond.methodLink RL 147 yX10_merging ∈ jj_tb := jj_in 1302 (by decide +kernel) (by decide +kernel)
theorem ml_L_151 : Cond.methodLink RL 151 yX10_conflicts ∈ jj_tb := jj_in 1306 (by decide +kernel) (by decide +kernel)
theorem ml_L_155 : Cond.methodLink RL 155 yX10_conflict ∈ jj_tb := jj_in 1310 (by decide +kernel) (by decide +kernel)
theorem ml_L_159 : Cond.methodLink RL 159 yX10_version ∈ jj_tb := jj_in 1314 (by decide +kernel) (by decide +kernel)
theorem ml_X10_284 : Cond.methodLink RX10 284 yX10_rowOf ∈ jj_tb := jj_in 1318 (by decide +kernel) (by decide +kernel)
theorem ml_L_163 : Cond.methodLink RL 163 yX10_settle ∈ jj_tb := jj_in 1322 (by decide +kernel) (by decide +kernel)
theorem ml_L_167 : Cond.methodLink RL 167 yX10_send ∈ jj_tb := jj_in 1326 (by decide +kernel) (by decide +kernel)
theorem ml_L_171 : Cond.methodLink RL 171 yX10_fetch ∈ jj_tb := jj_in 1330 (by decide +kernel) (by decide +kernel)
theorem ml_L_175 : Cond.methodLink RL 175 yX10_there ∈ jj_tb := jj_in 1334 (by decide +kernel) (by decide +kernel)
theorem ml_L_179 : Cond.methodLink RL 179 yX10_kept ∈ jj_tb := jj_in 1338 (by decide +kernel) (by decide +kernel)
theorem ml_X9_27 : (RX9, 27, yX8_init, RX9) ∈ jj_nl := by decide +kernel
theorem ml_X9_34 : (RX9, 34, yX4_init, RX9) ∈ jj_nl := by decide +kernel
theorem ml_X9_57 : (RX9, 57, yX1_init, RX9) ∈ jj_nl := by decide +kernel
theorem ml_X7_54 : (RX7, 54, yX3_init, RX9) ∈ jj_nl := by decide +kernel
theorem ml_X4_91 : (RX4, 91, yX3_init, RX9) ∈ jj_nl := by decide +kernel
theorem ml_X6_38 : (RX6, 38, yX9_isColumn, RX9) ∈ jj_nl := by decide +kernel
theorem ml_X5_21 : (RX5, 21, yX9_isBranch, RX9) ∈ jj_nl := by decide +kernel
theorem cl_L_7 : Cond.classLink RL 7 RX9 ∈ jj_tb := jj_in 76 (by decide +kernel) (by decide +kernel)
theorem cl_X9_9 : Cond.classLink RX9 9 RX7 ∈ jj_tb := jj_in 84 (by decide +kernel) (by decide +kernel)
theorem cl_X9_15 : Cond.classLink RX9 15 RX6 ∈ jj_tb := jj_in 87 (by decide +kernel) (by decide +kernel)
theorem cl_X9_20 : Cond.classLink RX9 20 RX3 ∈ jj_tb := jj_in 111 (by decide +kernel) (by decide +kernel)
theorem cl_X9_25 : Cond.classLink RX9 25 RX8 ∈ jj_tb := jj_in 149 (by decide +kernel) (by decide +kernel)
theorem cl_X9_32 : Cond.classLink RX9 32 RX4 ∈ jj_tb := jj_in 159 (by decide +kernel) (by decide +kernel)
theorem cl_X4_9 : Cond.classLink RX4 9 RX3 ∈ jj_tb := jj_in 165 (by decide +kernel) (by decide +kernel)
theorem cl_X9_39 : Cond.classLink RX9 39 RX0 ∈ jj_tb := jj_in 173 (by decide +kernel) (by decide +kernel)
theorem cl_X9_55 : Cond.classLink RX9 55 RX1 ∈ jj_tb := jj_in 178 (by decide +kernel) (by decide +kernel)
theorem cl_X9_62 : Cond.classLink RX9 62 RX2 ∈ jj_tb := jj_in 197 (by decide +kernel) (by decide +kernel)
theorem cl_X2_11 : Cond.classLink RX2 11 RX0 ∈ jj_tb := jj_in 203 (by decide +kernel) (by decide +kernel)
theorem cl_X2_17 : Cond.classLink RX2 17 RX6 ∈ jj_tb := jj_in 204 (by decide +kernel) (by decide +kernel)
theorem cl_X9_69 : Cond.classLink RX9 69 RX5 ∈ jj_tb := jj_in 249 (by decide +kernel) (by decide +kernel)
theorem cl_X0_9 : Cond.classLink RX0 9 RX7 ∈ jj_tb := jj_in 282 (by decide +kernel) (by decide +kernel)
theorem cl_X7_46 : Cond.classLink RX7 46 RX3 ∈ jj_tb := jj_in 352 (by decide +kernel) (by decide +kernel)
theorem cl_X4_27 : Cond.classLink RX4 27 RX6 ∈ jj_tb := jj_in 451 (by decide +kernel) (by decide +kernel)
theorem cl_X4_30 : Cond.classLink RX4 30 RX7 ∈ jj_tb := jj_in 482 (by decide +kernel) (by decide +kernel)
theorem cl_L_10 : Cond.classLink RL 10 RX10 ∈ jj_tb := jj_in 898 (by decide +kernel) (by decide +kernel)
theorem kc_X8_101 : Cond.constant RX8 101 (-1640531535) ∈ jj_tb := jj_in 410 (by decide +kernel) (by decide +kernel)
theorem kc_X9_306 : Cond.constant RX9 306 (1664525) ∈ jj_tb := jj_in 591 (by decide +kernel) (by decide +kernel)
theorem kc_X9_307 : Cond.constant RX9 307 (1013904223) ∈ jj_tb := jj_in 592 (by decide +kernel) (by decide +kernel)
theorem kc_X10_7 : Cond.constant RX10 7 (37200) ∈ jj_tb := jj_in 904 (by decide +kernel) (by decide +kernel)
theorem kc_X10_14 : Cond.constant RX10 14 (111600) ∈ jj_tb := jj_in 905 (by decide +kernel) (by decide +kernel)
theorem kc_X10_27 : Cond.constant RX10 27 (38430) ∈ jj_tb := jj_in 906 (by decide +kernel) (by decide +kernel)
theorem kc_X10_92 : Cond.constant RX10 92 (65536) ∈ jj_tb := jj_in 907 (by decide +kernel) (by decide +kernel)
theorem kc_X10_137 : Cond.constant RX10 137 (-1640531535) ∈ jj_tb := jj_in 931 (by decide +kernel) (by decide +kernel)
theorem kc_X10_187 : Cond.constant RX10 187 (1664525) ∈ jj_tb := jj_in 1085 (by decide +kernel) (by decide +kernel)
theorem kc_X10_188 : Cond.constant RX10 188 (1013904223) ∈ jj_tb := jj_in 1086 (by decide +kernel) (by decide +kernel)
theorem kc_X10_206 : Cond.constant RX10 206 (65535) ∈ jj_tb := jj_in 1169 (by decide +kernel) (by decide +kernel)
theorem kc_X8_102 : Cond.constantLong RX8 102 (-2960836687051489901) ∈ jj_tb := jj_in 347 (by decide +kernel) (by decide +kernel)
theorem kc_X3_32 : Cond.constantLong RX3 32 (4294967296) ∈ jj_tb := jj_in 441 (by decide +kernel) (by decide +kernel)
theorem kc_X6_25 : Cond.constantLong RX6 25 (4294967296) ∈ jj_tb := jj_in 446 (by decide +kernel) (by decide +kernel)
theorem kc_X5_29 : Cond.constantLong RX5 29 (-1) ∈ jj_tb := jj_in 500 (by decide +kernel) (by decide +kernel)
theorem kc_X9_129 : Cond.constantLong RX9 129 (4294967296) ∈ jj_tb := jj_in 601 (by decide +kernel) (by decide +kernel)
theorem kc_J13_314 : Cond.constantLong RJ13 314 (6148914691236517205) ∈ jj_tb := jj_in 731 (by decide +kernel) (by decide +kernel)
theorem kc_J13_316 : Cond.constantLong RJ13 316 (3689348814741910323) ∈ jj_tb := jj_in 732 (by decide +kernel) (by decide +kernel)
theorem kc_J13_318 : Cond.constantLong RJ13 318 (1085102592571150095) ∈ jj_tb := jj_in 733 (by decide +kernel) (by decide +kernel)
theorem kc_X9_248 : Cond.constantLong RX9 248 (-1) ∈ jj_tb := jj_in 750 (by decide +kernel) (by decide +kernel)
theorem kc_X1_34 : Cond.constantLong RX1 34 (4294967296) ∈ jj_tb := jj_in 763 (by decide +kernel) (by decide +kernel)
theorem kc_X2_82 : Cond.constantLong RX2 82 (4294967296) ∈ jj_tb := jj_in 805 (by decide +kernel) (by decide +kernel)
theorem kc_X10_138 : Cond.constantLong RX10 138 (255) ∈ jj_tb := jj_in 924 (by decide +kernel) (by decide +kernel)
theorem kc_X10_144 : Cond.constantLong RX10 144 (-2960836687051489901) ∈ jj_tb := jj_in 936 (by decide +kernel) (by decide +kernel)
theorem kc_X10_175 : Cond.constantLong RX10 175 (2) ∈ jj_tb := jj_in 1068 (by decide +kernel) (by decide +kernel)
theorem kc_X10_185 : Cond.constantLong RX10 185 (100) ∈ jj_tb := jj_in 1084 (by decide +kernel) (by decide +kernel)
theorem kc_X10_189 : Cond.constantLong RX10 189 (4294967296) ∈ jj_tb := jj_in 1091 (by decide +kernel) (by decide +kernel)
theorem kc_X10_201 : Cond.constantLong RX10 201 (3) ∈ jj_tb := jj_in 1136 (by decide +kernel) (by decide +kernel)
theorem kc_X10_253 : Cond.constantLong RX10 253 (-1) ∈ jj_tb := jj_in 1252 (by decide +kernel) (by decide +kernel)
theorem kc_X10_264 : Cond.constantLong RX10 264 (-4294967296) ∈ jj_tb := jj_in 1273 (by decide +kernel) (by decide +kernel)
theorem ac_int : Cond.arrayClass .int ∈ jj_tb := jj_in 110 (by decide +kernel) (by decide +kernel)
theorem ac_long : Cond.arrayClass .long ∈ jj_tb := jj_in 1040 (by decide +kernel) (by decide +kernel)
theorem ac_boolean : Cond.arrayClass .boolean ∈ jj_tb := jj_in 248 (by decide +kernel) (by decide +kernel)
theorem nat_copy : Cond.native arraycopyName ∈ jj_tb := jj_in 459 (by decide +kernel) (by decide +kernel)
theorem sta_copy : Cond.static arraycopyName ∈ jj_tb := jj_in 458 (by decide +kernel) (by decide +kernel)
theorem it_System : Cond.initialized "java/lang/System" ∈ jj_tb := jj_in 73 (by decide +kernel) (by decide +kernel)
theorem im_Object : Cond.instanceMethod objectInit ∈ jj_tb := jj_in 82 (by decide +kernel) (by decide +kernel)
theorem co_Object : Cond.code objectInit ⟨#[0xb1]⟩ 1 none ∈ jj_tb := jj_in 83 (by decide +kernel) (by decide +kernel)
theorem cm_X0_init : jj_cm mX0_init 3 := ⟨jj_in 280 (by decide +kernel) (by decide +kernel), it_X0, by decide +kernel, by decide +kernel, by decide +kernel⟩
theorem im_X0_init : Cond.instanceMethod yX0_init ∈ jj_tb := jj_in 279 (by decide +kernel) (by decide +kernel)
theorem cm_X1_init : jj_cm mX1_init 0 := ⟨jj_in 182 (by decide +kernel) (by decide +kernel), it_X1, by decide +kernel, by decide +kernel, by decide +kernel⟩
theorem im_X1_init : Cond.instanceMethod yX1_init ∈ jj_tb := jj_in 181 (by decide +kernel) (by decide +kernel)
theorem cm_X1_has : jj_cm mX1_has 1 := ⟨jj_in 778 (by decide +kernel) (by decide +kernel), it_X1, by decide +kernel, by decide +kernel, by decide +kernel⟩
theorem im_X1_has : Cond.instanceMethod yX1_has ∈ jj_tb := jj_in 776 (by decide +kernel) (by decide +kernel)
theorem se_X1_has : Cond.selects RX1 yX1_has yX1_has ∈ jj_tb := jj_in 777 (by decide +kernel) (by decide +kernel)
theorem cm_X1_list : jj_cm mX1_list 2 := ⟨jj_in 758 (by decide +kernel) (by decide +kernel), it_X1, by decide +kernel, by decide +kernel, by decide +kernel⟩
theorem im_X1_list : Cond.instanceMethod yX1_list ∈ jj_tb := jj_in 756 (by decide +kernel) (by decide +kernel)
theorem se_X1_list : Cond.selects RX1 yX1_list yX1_list ∈ jj_tb := jj_in 757 (by decide +kernel) (by decide +kernel)
theorem cm_X1_add : jj_cm mX1_add 2 := ⟨jj_in 770 (by decide +kernel) (by decide +kernel), it_X1, by decide +kernel, by decide +kernel, by decide +kernel⟩
theorem im_X1_add : Cond.instanceMethod yX1_add ∈ jj_tb := jj_in 769 (by decide +kernel) (by decide +kernel)
theorem se_X1_add : Cond.selects RX1 yX1_add yX1_add ∈ jj_tb := jj_in 16 (by decide +kernel) (by decide +kernel)
theorem cm_X1_kindOfChange : jj_cm mX1_kindOfChange 4 := ⟨jj_in 766 (by decide +kernel) (by decide +kernel), it_X1, by decide +kernel, by decide +kernel, by decide +kernel⟩
theorem sm_X1_kindOfChange : Cond.static yX1_kindOfChange ∈ jj_tb := jj_in 765 (by decide +kernel) (by decide +kernel)
theorem cm_X2_init : jj_cm mX2_init 0 := ⟨jj_in 201 (by decide +kernel) (by decide +kernel), it_X2, by decide +kernel, by decide +kernel, by decide +kernel⟩
theorem im_X2_init : Cond.instanceMethod yX2_init ∈ jj_tb := jj_in 200 (by decide +kernel) (by decide +kernel)
theorem cm_X2_end : jj_cm mX2_end 0 := ⟨jj_in 719 (by decide +kernel) (by decide +kernel), it_X2, by decide +kernel, by decide +kernel, by decide +kernel⟩
theorem im_X2_end : Cond.instanceMethod yX2_end ∈ jj_tb := jj_in 717 (by decide +kernel) (by decide +kernel)
theorem se_X2_end : Cond.selects RX2 yX2_end yX2_end ∈ jj_tb := jj_in 718 (by decide +kernel) (by decide +kernel)
theorem cm_X2_has : jj_cm mX2_has 1 := ⟨jj_in 853 (by decide +kernel) (by decide +kernel), it_X2, by decide +kernel, by decide +kernel, by decide +kernel⟩
theorem im_X2_has : Cond.instanceMethod yX2_has ∈ jj_tb := jj_in 851 (by decide +kernel) (by decide +kernel)
theorem se_X2_has : Cond.selects RX2 yX2_has yX2_has ∈ jj_tb := jj_in 852 (by decide +kernel) (by decide +kernel)
theorem cm_X2_rowsOf : jj_cm mX2_rowsOf 2 := ⟨jj_in 861 (by decide +kernel) (by decide +kernel), it_X2, by decide +kernel, by decide +kernel, by decide +kernel⟩
theorem im_X2_rowsOf : Cond.instanceMethod yX2_rowsOf ∈ jj_tb := jj_in 859 (by decide +kernel) (by decide +kernel)
theorem se_X2_rowsOf : Cond.selects RX2 yX2_rowsOf yX2_rowsOf ∈ jj_tb := jj_in 860 (by decide +kernel) (by decide +kernel)
theorem cm_X2_closeConflict : jj_cm mX2_closeConflict 1 := ⟨jj_in 876 (by decide +kernel) (by decide +kernel), it_X2, by decide +kernel, by decide +kernel, by decide +kernel⟩
theorem im_X2_closeConflict : Cond.instanceMethod yX2_closeConflict ∈ jj_tb := jj_in 874 (by decide +kernel) (by decide +kernel)
theorem se_X2_closeConflict : Cond.selects RX2 yX2_closeConflict yX2_closeConflict ∈ jj_tb := jj_in 875 (by decide +kernel) (by decide +kernel)
theorem cm_X2_bringTogether : jj_cm mX2_bringTogether 3 := ⟨jj_in 798 (by decide +kernel) (by decide +kernel), it_X2, by decide +kernel, by decide +kernel, by decide +kernel⟩
theorem im_X2_bringTogether : Cond.instanceMethod yX2_bringTogether ∈ jj_tb := jj_in 796 (by decide +kernel) (by decide +kernel)
theorem se_X2_bringTogether : Cond.selects RX2 yX2_bringTogether yX2_bringTogether ∈ jj_tb := jj_in 797 (by decide +kernel) (by decide +kernel)
theorem cm_X2_bringTable : jj_cm mX2_bringTable 4 := ⟨jj_in 802 (by decide +kernel) (by decide +kernel), it_X2, by decide +kernel, by decide +kernel, by decide +kernel⟩
theorem im_X2_bringTable : Cond.instanceMethod yX2_bringTable ∈ jj_tb := jj_in 801 (by decide +kernel) (by decide +kernel)
theorem se_X2_bringTable : Cond.selects RX2 yX2_bringTable yX2_bringTable ∈ jj_tb := jj_in 19 (by decide +kernel) (by decide +kernel)
theorem cm_X2_bringKey : jj_cm mX2_bringKey 5 := ⟨jj_in 809 (by decide +kernel) (by decide +kernel), it_X2, by decide +kernel, by decide +kernel, by decide +kernel⟩
theorem im_X2_bringKey : Cond.instanceMethod yX2_bringKey ∈ jj_tb := jj_in 808 (by decide +kernel) (by decide +kernel)
theorem se_X2_bringKey : Cond.selects RX2 yX2_bringKey yX2_bringKey ∈ jj_tb := jj_in 20 (by decide +kernel) (by decide +kernel)
theorem cm_X2_mixColumns : jj_cm mX2_mixColumns 3 := ⟨jj_in 821 (by decide +kernel) (by decide +kernel), it_X2, by decide +kernel, by decide +kernel, by decide +kernel⟩
theorem im_X2_mixColumns : Cond.instanceMethod yX2_mixColumns ∈ jj_tb := jj_in 820 (by decide +kernel) (by decide +kernel)
theorem se_X2_mixColumns : Cond.selects RX2 yX2_mixColumns yX2_mixColumns ∈ jj_tb := jj_in 21 (by decide +kernel) (by decide +kernel)
theorem cm_X2_addConflict : jj_cm mX2_addConflict 2 := ⟨jj_in 825 (by decide +kernel) (by decide +kernel), it_X2, by decide +kernel, by decide +kernel, by decide +kernel⟩
theorem im_X2_addConflict : Cond.instanceMethod yX2_addConflict ∈ jj_tb := jj_in 824 (by decide +kernel) (by decide +kernel)
theorem se_X2_addConflict : Cond.selects RX2 yX2_addConflict yX2_addConflict ∈ jj_tb := jj_in 22 (by decide +kernel) (by decide +kernel)
theorem cm_X3_init : jj_cm mX3_init 0 := ⟨jj_in 356 (by decide +kernel) (by decide +kernel), it_X3, by decide +kernel, by decide +kernel, by decide +kernel⟩
theorem im_X3_init : Cond.instanceMethod yX3_init ∈ jj_tb := jj_in 355 (by decide +kernel) (by decide +kernel)
theorem cm_X3_set : jj_cm mX3_set 6 := ⟨jj_in 400 (by decide +kernel) (by decide +kernel), it_X3, by decide +kernel, by decide +kernel, by decide +kernel⟩
theorem im_X3_set : Cond.instanceMethod yX3_set ∈ jj_tb := jj_in 398 (by decide +kernel) (by decide +kernel)
theorem se_X3_set : Cond.selects RX3 yX3_set yX3_set ∈ jj_tb := jj_in 399 (by decide +kernel) (by decide +kernel)
theorem cm_X3_lastKey : jj_cm mX3_lastKey 0 := ⟨jj_in 440 (by decide +kernel) (by decide +kernel), it_X3, by decide +kernel, by decide +kernel, by decide +kernel⟩
theorem im_X3_lastKey : Cond.instanceMethod yX3_lastKey ∈ jj_tb := jj_in 438 (by decide +kernel) (by decide +kernel)
theorem se_X3_lastKey : Cond.selects RX3 yX3_lastKey yX3_lastKey ∈ jj_tb := jj_in 439 (by decide +kernel) (by decide +kernel)
theorem cm_X3_isSame : jj_cm mX3_isSame 1 := ⟨jj_in 474 (by decide +kernel) (by decide +kernel), it_X3, by decide +kernel, by decide +kernel, by decide +kernel⟩
theorem im_X3_isSame : Cond.instanceMethod yX3_isSame ∈ jj_tb := jj_in 472 (by decide +kernel) (by decide +kernel)
theorem se_X3_isSame : Cond.selects RX3 yX3_isSame yX3_isSame ∈ jj_tb := jj_in 473 (by decide +kernel) (by decide +kernel)
theorem cm_X4_init : jj_cm mX4_init 0 := ⟨jj_in 163 (by decide +kernel) (by decide +kernel), it_X4, by decide +kernel, by decide +kernel, by decide +kernel⟩
theorem im_X4_init : Cond.instanceMethod yX4_init ∈ jj_tb := jj_in 162 (by decide +kernel) (by decide +kernel)
theorem cm_X4_find : jj_cm mX4_find 1 := ⟨jj_in 467 (by decide +kernel) (by decide +kernel), it_X4, by decide +kernel, by decide +kernel, by decide +kernel⟩
theorem im_X4_find : Cond.instanceMethod yX4_find ∈ jj_tb := jj_in 465 (by decide +kernel) (by decide +kernel)
theorem se_X4_find : Cond.selects RX4 yX4_find yX4_find ∈ jj_tb := jj_in 466 (by decide +kernel) (by decide +kernel)
theorem cm_X4_keepTable : jj_cm mX4_keepTable 1 := ⟨jj_in 450 (by decide +kernel) (by decide +kernel), it_X4, by decide +kernel, by decide +kernel, by decide +kernel⟩
theorem im_X4_keepTable : Cond.instanceMethod yX4_keepTable ∈ jj_tb := jj_in 448 (by decide +kernel) (by decide +kernel)
theorem se_X4_keepTable : Cond.selects RX4 yX4_keepTable yX4_keepTable ∈ jj_tb := jj_in 449 (by decide +kernel) (by decide +kernel)
theorem cm_X4_beginCount : jj_cm mX4_beginCount 0 := ⟨jj_in 653 (by decide +kernel) (by decide +kernel), it_X4, by decide +kernel, by decide +kernel, by decide +kernel⟩
theorem im_X4_beginCount : Cond.instanceMethod yX4_beginCount ∈ jj_tb := jj_in 651 (by decide +kernel) (by decide +kernel)
theorem se_X4_beginCount : Cond.selects RX4 yX4_beginCount yX4_beginCount ∈ jj_tb := jj_in 652 (by decide +kernel) (by decide +kernel)
theorem cm_X4_see : jj_cm mX4_see 1 := ⟨jj_in 661 (by decide +kernel) (by decide +kernel), it_X4, by decide +kernel, by decide +kernel, by decide +kernel⟩
theorem im_X4_see : Cond.instanceMethod yX4_see ∈ jj_tb := jj_in 659 (by decide +kernel) (by decide +kernel)
theorem se_X4_see : Cond.selects RX4 yX4_see yX4_see ∈ jj_tb := jj_in 660 (by decide +kernel) (by decide +kernel)
theorem cm_X4_countUnseen : jj_cm mX4_countUnseen 1 := ⟨jj_in 657 (by decide +kernel) (by decide +kernel), it_X4, by decide +kernel, by decide +kernel, by decide +kernel⟩
theorem im_X4_countUnseen : Cond.instanceMethod yX4_countUnseen ∈ jj_tb := jj_in 655 (by decide +kernel) (by decide +kernel)
theorem se_X4_countUnseen : Cond.selects RX4 yX4_countUnseen yX4_countUnseen ∈ jj_tb := jj_in 656 (by decide +kernel) (by decide +kernel)
theorem cm_X4_addNode : jj_cm mX4_addNode 2 := ⟨jj_in 479 (by decide +kernel) (by decide +kernel), it_X4, by decide +kernel, by decide +kernel, by decide +kernel⟩
theorem im_X4_addNode : Cond.instanceMethod yX4_addNode ∈ jj_tb := jj_in 478 (by decide +kernel) (by decide +kernel)
theorem se_X4_addNode : Cond.selects RX4 yX4_addNode yX4_addNode ∈ jj_tb := jj_in 7 (by decide +kernel) (by decide +kernel)
theorem cm_X4_bucketOf : jj_cm mX4_bucketOf 1 := ⟨jj_in 470 (by decide +kernel) (by decide +kernel), it_X4, by decide +kernel, by decide +kernel, by decide +kernel⟩
theorem sm_X4_bucketOf : Cond.static yX4_bucketOf ∈ jj_tb := jj_in 469 (by decide +kernel) (by decide +kernel)
theorem cm_X5_init : jj_cm mX5_init 0 := ⟨jj_in 253 (by decide +kernel) (by decide +kernel), it_X5, by decide +kernel, by decide +kernel, by decide +kernel⟩
theorem im_X5_init : Cond.instanceMethod yX5_init ∈ jj_tb := jj_in 252 (by decide +kernel) (by decide +kernel)
theorem cm_X5_hasBranch : jj_cm mX5_hasBranch 1 := ⟨jj_in 884 (by decide +kernel) (by decide +kernel), it_X5, by decide +kernel, by decide +kernel, by decide +kernel⟩
theorem im_X5_hasBranch : Cond.instanceMethod yX5_hasBranch ∈ jj_tb := jj_in 882 (by decide +kernel) (by decide +kernel)
theorem se_X5_hasBranch : Cond.selects RX5 yX5_hasBranch yX5_hasBranch ∈ jj_tb := jj_in 883 (by decide +kernel) (by decide +kernel)
theorem cm_X5_takeAll : jj_cm mX5_takeAll 2 := ⟨jj_in 499 (by decide +kernel) (by decide +kernel), it_X5, by decide +kernel, by decide +kernel, by decide +kernel⟩
theorem im_X5_takeAll : Cond.instanceMethod yX5_takeAll ∈ jj_tb := jj_in 497 (by decide +kernel) (by decide +kernel)
theorem se_X5_takeAll : Cond.selects RX5 yX5_takeAll yX5_takeAll ∈ jj_tb := jj_in 498 (by decide +kernel) (by decide +kernel)
theorem cm_X5_takeNodes : jj_cm mX5_takeNodes 1 := ⟨jj_in 503 (by decide +kernel) (by decide +kernel), it_X5, by decide +kernel, by decide +kernel, by decide +kernel⟩
theorem sm_X5_takeNodes : Cond.static yX5_takeNodes ∈ jj_tb := jj_in 502 (by decide +kernel) (by decide +kernel)
theorem cm_X6_init : jj_cm mX6_init 1 := ⟨jj_in 91 (by decide +kernel) (by decide +kernel), it_X6, by decide +kernel, by decide +kernel, by decide +kernel⟩
theorem im_X6_init : Cond.instanceMethod yX6_init ∈ jj_tb := jj_in 90 (by decide +kernel) (by decide +kernel)
theorem cm_X6_keyAt : jj_cm mX6_keyAt 1 := ⟨jj_in 445 (by decide +kernel) (by decide +kernel), it_X6, by decide +kernel, by decide +kernel, by decide +kernel⟩
theorem im_X6_keyAt : Cond.instanceMethod yX6_keyAt ∈ jj_tb := jj_in 443 (by decide +kernel) (by decide +kernel)
theorem se_X6_keyAt : Cond.selects RX6 yX6_keyAt yX6_keyAt ∈ jj_tb := jj_in 444 (by decide +kernel) (by decide +kernel)
theorem cm_X6_placeOf : jj_cm mX6_placeOf 1 := ⟨jj_in 550 (by decide +kernel) (by decide +kernel), it_X6, by decide +kernel, by decide +kernel, by decide +kernel⟩
theorem im_X6_placeOf : Cond.instanceMethod yX6_placeOf ∈ jj_tb := jj_in 548 (by decide +kernel) (by decide +kernel)
theorem se_X6_placeOf : Cond.selects RX6 yX6_placeOf yX6_placeOf ∈ jj_tb := jj_in 549 (by decide +kernel) (by decide +kernel)
theorem cm_X6_find : jj_cm mX6_find 1 := ⟨jj_in 570 (by decide +kernel) (by decide +kernel), it_X6, by decide +kernel, by decide +kernel, by decide +kernel⟩
theorem im_X6_find : Cond.instanceMethod yX6_find ∈ jj_tb := jj_in 568 (by decide +kernel) (by decide +kernel)
theorem se_X6_find : Cond.selects RX6 yX6_find yX6_find ∈ jj_tb := jj_in 569 (by decide +kernel) (by decide +kernel)
theorem cm_X6_columnOf : jj_cm mX6_columnOf 2 := ⟨jj_in 600 (by decide +kernel) (by decide +kernel), it_X6, by decide +kernel, by decide +kernel, by decide +kernel⟩
theorem im_X6_columnOf : Cond.instanceMethod yX6_columnOf ∈ jj_tb := jj_in 598 (by decide +kernel) (by decide +kernel)
theorem se_X6_columnOf : Cond.selects RX6 yX6_columnOf yX6_columnOf ∈ jj_tb := jj_in 599 (by decide +kernel) (by decide +kernel)
theorem cm_X6_setColumn : jj_cm mX6_setColumn 3 := ⟨jj_in 566 (by decide +kernel) (by decide +kernel), it_X6, by decide +kernel, by decide +kernel, by decide +kernel⟩
theorem im_X6_setColumn : Cond.instanceMethod yX6_setColumn ∈ jj_tb := jj_in 564 (by decide +kernel) (by decide +kernel)
theorem se_X6_setColumn : Cond.selects RX6 yX6_setColumn yX6_setColumn ∈ jj_tb := jj_in 565 (by decide +kernel) (by decide +kernel)
theorem cm_X6_setRow : jj_cm mX6_setRow 4 := ⟨jj_in 546 (by decide +kernel) (by decide +kernel), it_X6, by decide +kernel, by decide +kernel, by decide +kernel⟩
theorem im_X6_setRow : Cond.instanceMethod yX6_setRow ∈ jj_tb := jj_in 544 (by decide +kernel) (by decide +kernel)
theorem se_X6_setRow : Cond.selects RX6 yX6_setRow yX6_setRow ∈ jj_tb := jj_in 545 (by decide +kernel) (by decide +kernel)
theorem cm_X6_removeRow : jj_cm mX6_removeRow 1 := ⟨jj_in 579 (by decide +kernel) (by decide +kernel), it_X6, by decide +kernel, by decide +kernel, by decide +kernel⟩
theorem im_X6_removeRow : Cond.instanceMethod yX6_removeRow ∈ jj_tb := jj_in 577 (by decide +kernel) (by decide +kernel)
theorem se_X6_removeRow : Cond.selects RX6 yX6_removeRow yX6_removeRow ∈ jj_tb := jj_in 578 (by decide +kernel) (by decide +kernel)
theorem cm_X6_takeRow : jj_cm mX6_takeRow 2 := ⟨jj_in 870 (by decide +kernel) (by decide +kernel), it_X6, by decide +kernel, by decide +kernel, by decide +kernel⟩
theorem im_X6_takeRow : Cond.instanceMethod yX6_takeRow ∈ jj_tb := jj_in 868 (by decide +kernel) (by decide +kernel)
theorem se_X6_takeRow : Cond.selects RX6 yX6_takeRow yX6_takeRow ∈ jj_tb := jj_in 869 (by decide +kernel) (by decide +kernel)
theorem cm_X6_append : jj_cm mX6_append 2 := ⟨jj_in 817 (by decide +kernel) (by decide +kernel), it_X6, by decide +kernel, by decide +kernel, by decide +kernel⟩
theorem im_X6_append : Cond.instanceMethod yX6_append ∈ jj_tb := jj_in 815 (by decide +kernel) (by decide +kernel)
theorem se_X6_append : Cond.selects RX6 yX6_append yX6_append ∈ jj_tb := jj_in 816 (by decide +kernel) (by decide +kernel)
theorem cm_X6_become : jj_cm mX6_become 1 := ⟨jj_in 456 (by decide +kernel) (by decide +kernel), it_X6, by decide +kernel, by decide +kernel, by decide +kernel⟩
theorem im_X6_become : Cond.instanceMethod yX6_become ∈ jj_tb := jj_in 454 (by decide +kernel) (by decide +kernel)
theorem se_X6_become : Cond.selects RX6 yX6_become yX6_become ∈ jj_tb := jj_in 455 (by decide +kernel) (by decide +kernel)
theorem cm_X6_isSame : jj_cm mX6_isSame 1 := ⟨jj_in 320 (by decide +kernel) (by decide +kernel), it_X6, by decide +kernel, by decide +kernel, by decide +kernel⟩
theorem im_X6_isSame : Cond.instanceMethod yX6_isSame ∈ jj_tb := jj_in 318 (by decide +kernel) (by decide +kernel)
theorem se_X6_isSame : Cond.selects RX6 yX6_isSame yX6_isSame ∈ jj_tb := jj_in 319 (by decide +kernel) (by decide +kernel)
theorem cm_X6_isSameRow : jj_cm mX6_isSameRow 3 := ⟨jj_in 813 (by decide +kernel) (by decide +kernel), it_X6, by decide +kernel, by decide +kernel, by decide +kernel⟩
theorem im_X6_isSameRow : Cond.instanceMethod yX6_isSameRow ∈ jj_tb := jj_in 811 (by decide +kernel) (by decide +kernel)
theorem se_X6_isSameRow : Cond.selects RX6 yX6_isSameRow yX6_isSameRow ∈ jj_tb := jj_in 812 (by decide +kernel) (by decide +kernel)
theorem cm_X6_matches : jj_cm mX6_matches 4 := ⟨jj_in 324 (by decide +kernel) (by decide +kernel), it_X6, by decide +kernel, by decide +kernel, by decide +kernel⟩
theorem im_X6_matches : Cond.instanceMethod yX6_matches ∈ jj_tb := jj_in 322 (by decide +kernel) (by decide +kernel)
theorem se_X6_matches : Cond.selects RX6 yX6_matches yX6_matches ∈ jj_tb := jj_in 323 (by decide +kernel) (by decide +kernel)
theorem cm_X6_makeRoom : jj_cm mX6_makeRoom 1 := ⟨jj_in 555 (by decide +kernel) (by decide +kernel), it_X6, by decide +kernel, by decide +kernel, by decide +kernel⟩
theorem im_X6_makeRoom : Cond.instanceMethod yX6_makeRoom ∈ jj_tb := jj_in 554 (by decide +kernel) (by decide +kernel)
theorem se_X6_makeRoom : Cond.selects RX6 yX6_makeRoom yX6_makeRoom ∈ jj_tb := jj_in 8 (by decide +kernel) (by decide +kernel)
theorem cm_X7_init : jj_cm mX7_init 3 := ⟨jj_in 115 (by decide +kernel) (by decide +kernel), it_X7, by decide +kernel, by decide +kernel, by decide +kernel⟩
theorem im_X7_init : Cond.instanceMethod yX7_init ∈ jj_tb := jj_in 114 (by decide +kernel) (by decide +kernel)
theorem cm_X7_become : jj_cm mX7_become 1 := ⟨jj_in 702 (by decide +kernel) (by decide +kernel), it_X7, by decide +kernel, by decide +kernel, by decide +kernel⟩
theorem im_X7_become : Cond.instanceMethod yX7_become ∈ jj_tb := jj_in 700 (by decide +kernel) (by decide +kernel)
theorem se_X7_become : Cond.selects RX7 yX7_become yX7_become ∈ jj_tb := jj_in 701 (by decide +kernel) (by decide +kernel)
theorem cm_X7_hasLevel : jj_cm mX7_hasLevel 1 := ⟨jj_in 424 (by decide +kernel) (by decide +kernel), it_X7, by decide +kernel, by decide +kernel, by decide +kernel⟩
theorem im_X7_hasLevel : Cond.instanceMethod yX7_hasLevel ∈ jj_tb := jj_in 422 (by decide +kernel) (by decide +kernel)
theorem se_X7_hasLevel : Cond.selects RX7 yX7_hasLevel yX7_hasLevel ∈ jj_tb := jj_in 423 (by decide +kernel) (by decide +kernel)
theorem cm_X7_nodesOn : jj_cm mX7_nodesOn 1 := ⟨jj_in 420 (by decide +kernel) (by decide +kernel), it_X7, by decide +kernel, by decide +kernel, by decide +kernel⟩
theorem im_X7_nodesOn : Cond.instanceMethod yX7_nodesOn ∈ jj_tb := jj_in 418 (by decide +kernel) (by decide +kernel)
theorem se_X7_nodesOn : Cond.selects RX7 yX7_nodesOn yX7_nodesOn ∈ jj_tb := jj_in 419 (by decide +kernel) (by decide +kernel)
theorem cm_X7_nodesInAll : jj_cm mX7_nodesInAll 0 := ⟨jj_in 463 (by decide +kernel) (by decide +kernel), it_X7, by decide +kernel, by decide +kernel, by decide +kernel⟩
theorem im_X7_nodesInAll : Cond.instanceMethod yX7_nodesInAll ∈ jj_tb := jj_in 461 (by decide +kernel) (by decide +kernel)
theorem se_X7_nodesInAll : Cond.selects RX7 yX7_nodesInAll yX7_nodesInAll ∈ jj_tb := jj_in 462 (by decide +kernel) (by decide +kernel)
theorem cm_X7_nodeAt : jj_cm mX7_nodeAt 2 := ⟨jj_in 435 (by decide +kernel) (by decide +kernel), it_X7, by decide +kernel, by decide +kernel, by decide +kernel⟩
theorem im_X7_nodeAt : Cond.instanceMethod yX7_nodeAt ∈ jj_tb := jj_in 433 (by decide +kernel) (by decide +kernel)
theorem se_X7_nodeAt : Cond.selects RX7 yX7_nodeAt yX7_nodeAt ∈ jj_tb := jj_in 434 (by decide +kernel) (by decide +kernel)
theorem cm_X7_hasSame : jj_cm mX7_hasSame 1 := ⟨jj_in 644 (by decide +kernel) (by decide +kernel), it_X7, by decide +kernel, by decide +kernel, by decide +kernel⟩
theorem im_X7_hasSame : Cond.instanceMethod yX7_hasSame ∈ jj_tb := jj_in 642 (by decide +kernel) (by decide +kernel)
theorem se_X7_hasSame : Cond.selects RX7 yX7_hasSame yX7_hasSame ∈ jj_tb := jj_in 643 (by decide +kernel) (by decide +kernel)
theorem cm_X7_clearNodes : jj_cm mX7_clearNodes 0 := ⟨jj_in 336 (by decide +kernel) (by decide +kernel), it_X7, by decide +kernel, by decide +kernel, by decide +kernel⟩
theorem im_X7_clearNodes : Cond.instanceMethod yX7_clearNodes ∈ jj_tb := jj_in 334 (by decide +kernel) (by decide +kernel)
theorem se_X7_clearNodes : Cond.selects RX7 yX7_clearNodes yX7_clearNodes ∈ jj_tb := jj_in 335 (by decide +kernel) (by decide +kernel)
theorem cm_X7_beginLevel : jj_cm mX7_beginLevel 0 := ⟨jj_in 343 (by decide +kernel) (by decide +kernel), it_X7, by decide +kernel, by decide +kernel, by decide +kernel⟩
theorem im_X7_beginLevel : Cond.instanceMethod yX7_beginLevel ∈ jj_tb := jj_in 341 (by decide +kernel) (by decide +kernel)
theorem se_X7_beginLevel : Cond.selects RX7 yX7_beginLevel yX7_beginLevel ∈ jj_tb := jj_in 342 (by decide +kernel) (by decide +kernel)
theorem cm_X7_addNode : jj_cm mX7_addNode 4 := ⟨jj_in 351 (by decide +kernel) (by decide +kernel), it_X7, by decide +kernel, by decide +kernel, by decide +kernel⟩
theorem im_X7_addNode : Cond.instanceMethod yX7_addNode ∈ jj_tb := jj_in 349 (by decide +kernel) (by decide +kernel)
theorem se_X7_addNode : Cond.selects RX7 yX7_addNode yX7_addNode ∈ jj_tb := jj_in 350 (by decide +kernel) (by decide +kernel)
theorem cm_X8_init : jj_cm mX8_init 0 := ⟨jj_in 153 (by decide +kernel) (by decide +kernel), it_X8, by decide +kernel, by decide +kernel, by decide +kernel⟩
theorem im_X8_init : Cond.instanceMethod yX8_init ∈ jj_tb := jj_in 152 (by decide +kernel) (by decide +kernel)
theorem cm_X8_build : jj_cm mX8_build 1 := ⟨jj_in 332 (by decide +kernel) (by decide +kernel), it_X8, by decide +kernel, by decide +kernel, by decide +kernel⟩
theorem im_X8_build : Cond.instanceMethod yX8_build ∈ jj_tb := jj_in 330 (by decide +kernel) (by decide +kernel)
theorem se_X8_build : Cond.selects RX8 yX8_build yX8_build ∈ jj_tb := jj_in 331 (by decide +kernel) (by decide +kernel)
theorem cm_X8_writeEntries : jj_cm mX8_writeEntries 2 := ⟨jj_in 428 (by decide +kernel) (by decide +kernel), it_X8, by decide +kernel, by decide +kernel, by decide +kernel⟩
theorem im_X8_writeEntries : Cond.instanceMethod yX8_writeEntries ∈ jj_tb := jj_in 427 (by decide +kernel) (by decide +kernel)
theorem se_X8_writeEntries : Cond.selects RX8 yX8_writeEntries yX8_writeEntries ∈ jj_tb := jj_in 6 (by decide +kernel) (by decide +kernel)
theorem cm_X8_cutLevel : jj_cm mX8_cutLevel 3 := ⟨jj_in 339 (by decide +kernel) (by decide +kernel), it_X8, by decide +kernel, by decide +kernel, by decide +kernel⟩
theorem sm_X8_cutLevel : Cond.static yX8_cutLevel ∈ jj_tb := jj_in 338 (by decide +kernel) (by decide +kernel)
theorem cm_X8_endsNode : jj_cm mX8_endsNode 2 := ⟨jj_in 413 (by decide +kernel) (by decide +kernel), it_X8, by decide +kernel, by decide +kernel, by decide +kernel⟩
theorem sm_X8_endsNode : Cond.static yX8_endsNode ∈ jj_tb := jj_in 412 (by decide +kernel) (by decide +kernel)
theorem cm_X8_rowsBelow : jj_cm mX8_rowsBelow 4 := ⟨jj_in 416 (by decide +kernel) (by decide +kernel), it_X8, by decide +kernel, by decide +kernel, by decide +kernel⟩
theorem sm_X8_rowsBelow : Cond.static yX8_rowsBelow ∈ jj_tb := jj_in 415 (by decide +kernel) (by decide +kernel)
theorem cm_X8_rollEntry : jj_cm mX8_rollEntry 4 := ⟨jj_in 403 (by decide +kernel) (by decide +kernel), it_X8, by decide +kernel, by decide +kernel, by decide +kernel⟩
theorem sm_X8_rollEntry : Cond.static yX8_rollEntry ∈ jj_tb := jj_in 402 (by decide +kernel) (by decide +kernel)
theorem cm_X8_spread : jj_cm mX8_spread 1 := ⟨jj_in 409 (by decide +kernel) (by decide +kernel), it_X8, by decide +kernel, by decide +kernel, by decide +kernel⟩
theorem sm_X8_spread : Cond.static yX8_spread ∈ jj_tb := jj_in 408 (by decide +kernel) (by decide +kernel)
theorem cm_X8_turned : jj_cm mX8_turned 2 := ⟨jj_in 406 (by decide +kernel) (by decide +kernel), it_X8, by decide +kernel, by decide +kernel, by decide +kernel⟩
theorem sm_X8_turned : Cond.static yX8_turned ∈ jj_tb := jj_in 405 (by decide +kernel) (by decide +kernel)
theorem cm_X8_hashOf : jj_cm mX8_hashOf 4 := ⟨jj_in 346 (by decide +kernel) (by decide +kernel), it_X8, by decide +kernel, by decide +kernel, by decide +kernel⟩
theorem sm_X8_hashOf : Cond.static yX8_hashOf ∈ jj_tb := jj_in 345 (by decide +kernel) (by decide +kernel)
theorem cm_X9_init : jj_cm mX9_init 0 := ⟨jj_in 80 (by decide +kernel) (by decide +kernel), it_X9, by decide +kernel, by decide +kernel, by decide +kernel⟩
theorem im_X9_init : Cond.instanceMethod yX9_init ∈ jj_tb := jj_in 79 (by decide +kernel) (by decide +kernel)
theorem cm_X9_put : jj_cm mX9_put 5 := ⟨jj_in 542 (by decide +kernel) (by decide +kernel), it_X9, by decide +kernel, by decide +kernel, by decide +kernel⟩
theorem im_X9_put : Cond.instanceMethod yX9_put ∈ jj_tb := jj_in 540 (by decide +kernel) (by decide +kernel)
theorem se_X9_put : Cond.selects RX9 yX9_put yX9_put ∈ jj_tb := jj_in 541 (by decide +kernel) (by decide +kernel)
theorem cm_X9_cell : jj_cm mX9_cell 4 := ⟨jj_in 559 (by decide +kernel) (by decide +kernel), it_X9, by decide +kernel, by decide +kernel, by decide +kernel⟩
theorem im_X9_cell : Cond.instanceMethod yX9_cell ∈ jj_tb := jj_in 557 (by decide +kernel) (by decide +kernel)
theorem se_X9_cell : Cond.selects RX9 yX9_cell yX9_cell ∈ jj_tb := jj_in 558 (by decide +kernel) (by decide +kernel)
theorem cm_X9_drop : jj_cm mX9_drop 2 := ⟨jj_in 575 (by decide +kernel) (by decide +kernel), it_X9, by decide +kernel, by decide +kernel, by decide +kernel⟩
theorem im_X9_drop : Cond.instanceMethod yX9_drop ∈ jj_tb := jj_in 573 (by decide +kernel) (by decide +kernel)
theorem se_X9_drop : Cond.selects RX9 yX9_drop yX9_drop ∈ jj_tb := jj_in 574 (by decide +kernel) (by decide +kernel)
theorem cm_X9_fill : jj_cm mX9_fill 5 := ⟨jj_in 583 (by decide +kernel) (by decide +kernel), it_X9, by decide +kernel, by decide +kernel, by decide +kernel⟩
theorem im_X9_fill : Cond.instanceMethod yX9_fill ∈ jj_tb := jj_in 581 (by decide +kernel) (by decide +kernel)
theorem se_X9_fill : Cond.selects RX9 yX9_fill yX9_fill ∈ jj_tb := jj_in 582 (by decide +kernel) (by decide +kernel)
theorem cm_X9_get : jj_cm mX9_get 3 := ⟨jj_in 596 (by decide +kernel) (by decide +kernel), it_X9, by decide +kernel, by decide +kernel, by decide +kernel⟩
theorem im_X9_get : Cond.instanceMethod yX9_get ∈ jj_tb := jj_in 594 (by decide +kernel) (by decide +kernel)
theorem se_X9_get : Cond.selects RX9 yX9_get yX9_get ∈ jj_tb := jj_in 595 (by decide +kernel) (by decide +kernel)
theorem cm_X9_size : jj_cm mX9_size 1 := ⟨jj_in 605 (by decide +kernel) (by decide +kernel), it_X9, by decide +kernel, by decide +kernel, by decide +kernel⟩
theorem im_X9_size : Cond.instanceMethod yX9_size ∈ jj_tb := jj_in 603 (by decide +kernel) (by decide +kernel)
theorem se_X9_size : Cond.selects RX9 yX9_size yX9_size ∈ jj_tb := jj_in 604 (by decide +kernel) (by decide +kernel)
theorem cm_X9_kth : jj_cm mX9_kth 2 := ⟨jj_in 609 (by decide +kernel) (by decide +kernel), it_X9, by decide +kernel, by decide +kernel, by decide +kernel⟩
theorem im_X9_kth : Cond.instanceMethod yX9_kth ∈ jj_tb := jj_in 607 (by decide +kernel) (by decide +kernel)
theorem se_X9_kth : Cond.selects RX9 yX9_kth yX9_kth ∈ jj_tb := jj_in 608 (by decide +kernel) (by decide +kernel)
theorem cm_X9_rank : jj_cm mX9_rank 2 := ⟨jj_in 614 (by decide +kernel) (by decide +kernel), it_X9, by decide +kernel, by decide +kernel, by decide +kernel⟩
theorem im_X9_rank : Cond.instanceMethod yX9_rank ∈ jj_tb := jj_in 612 (by decide +kernel) (by decide +kernel)
theorem se_X9_rank : Cond.selects RX9 yX9_rank yX9_rank ∈ jj_tb := jj_in 613 (by decide +kernel) (by decide +kernel)
theorem cm_X9_root : jj_cm mX9_root 2 := ⟨jj_in 619 (by decide +kernel) (by decide +kernel), it_X9, by decide +kernel, by decide +kernel, by decide +kernel⟩
theorem im_X9_root : Cond.instanceMethod yX9_root ∈ jj_tb := jj_in 617 (by decide +kernel) (by decide +kernel)
theorem se_X9_root : Cond.selects RX9 yX9_root yX9_root ∈ jj_tb := jj_in 618 (by decide +kernel) (by decide +kernel)
theorem cm_X9_height : jj_cm mX9_height 2 := ⟨jj_in 624 (by decide +kernel) (by decide +kernel), it_X9, by decide +kernel, by decide +kernel, by decide +kernel⟩
theorem im_X9_height : Cond.instanceMethod yX9_height ∈ jj_tb := jj_in 622 (by decide +kernel) (by decide +kernel)
theorem se_X9_height : Cond.selects RX9 yX9_height yX9_height ∈ jj_tb := jj_in 623 (by decide +kernel) (by decide +kernel)
theorem cm_X9_nodes : jj_cm mX9_nodes 3 := ⟨jj_in 628 (by decide +kernel) (by decide +kernel), it_X9, by decide +kernel, by decide +kernel, by decide +kernel⟩
theorem im_X9_nodes : Cond.instanceMethod yX9_nodes ∈ jj_tb := jj_in 626 (by decide +kernel) (by decide +kernel)
theorem se_X9_nodes : Cond.selects RX9 yX9_nodes yX9_nodes ∈ jj_tb := jj_in 627 (by decide +kernel) (by decide +kernel)
theorem cm_X9_node : jj_cm mX9_node 5 := ⟨jj_in 634 (by decide +kernel) (by decide +kernel), it_X9, by decide +kernel, by decide +kernel, by decide +kernel⟩
theorem im_X9_node : Cond.instanceMethod yX9_node ∈ jj_tb := jj_in 632 (by decide +kernel) (by decide +kernel)
theorem se_X9_node : Cond.selects RX9 yX9_node yX9_node ∈ jj_tb := jj_in 633 (by decide +kernel) (by decide +kernel)
theorem cm_X9_shared : jj_cm mX9_shared 3 := ⟨jj_in 639 (by decide +kernel) (by decide +kernel), it_X9, by decide +kernel, by decide +kernel, by decide +kernel⟩
theorem im_X9_shared : Cond.instanceMethod yX9_shared ∈ jj_tb := jj_in 637 (by decide +kernel) (by decide +kernel)
theorem se_X9_shared : Cond.selects RX9 yX9_shared yX9_shared ∈ jj_tb := jj_in 638 (by decide +kernel) (by decide +kernel)
theorem cm_X9_stored : jj_cm mX9_stored 0 := ⟨jj_in 649 (by decide +kernel) (by decide +kernel), it_X9, by decide +kernel, by decide +kernel, by decide +kernel⟩
theorem im_X9_stored : Cond.instanceMethod yX9_stored ∈ jj_tb := jj_in 647 (by decide +kernel) (by decide +kernel)
theorem se_X9_stored : Cond.selects RX9 yX9_stored yX9_stored ∈ jj_tb := jj_in 648 (by decide +kernel) (by decide +kernel)
theorem cm_X9_open : jj_cm mX9_open 1 := ⟨jj_in 675 (by decide +kernel) (by decide +kernel), it_X9, by decide +kernel, by decide +kernel, by decide +kernel⟩
theorem im_X9_open : Cond.instanceMethod yX9_open ∈ jj_tb := jj_in 673 (by decide +kernel) (by decide +kernel)
theorem se_X9_open : Cond.selects RX9 yX9_open yX9_open ∈ jj_tb := jj_in 674 (by decide +kernel) (by decide +kernel)
theorem cm_X9_go : jj_cm mX9_go 1 := ⟨jj_in 686 (by decide +kernel) (by decide +kernel), it_X9, by decide +kernel, by decide +kernel, by decide +kernel⟩
theorem im_X9_go : Cond.instanceMethod yX9_go ∈ jj_tb := jj_in 684 (by decide +kernel) (by decide +kernel)
theorem se_X9_go : Cond.selects RX9 yX9_go yX9_go ∈ jj_tb := jj_in 685 (by decide +kernel) (by decide +kernel)
theorem cm_X9_close : jj_cm mX9_close 1 := ⟨jj_in 707 (by decide +kernel) (by decide +kernel), it_X9, by decide +kernel, by decide +kernel, by decide +kernel⟩
theorem im_X9_close : Cond.instanceMethod yX9_close ∈ jj_tb := jj_in 705 (by decide +kernel) (by decide +kernel)
theorem se_X9_close : Cond.selects RX9 yX9_close yX9_close ∈ jj_tb := jj_in 706 (by decide +kernel) (by decide +kernel)
theorem cm_X9_head : jj_cm mX9_head 1 := ⟨jj_in 711 (by decide +kernel) (by decide +kernel), it_X9, by decide +kernel, by decide +kernel, by decide +kernel⟩
theorem im_X9_head : Cond.instanceMethod yX9_head ∈ jj_tb := jj_in 709 (by decide +kernel) (by decide +kernel)
theorem se_X9_head : Cond.selects RX9 yX9_head yX9_head ∈ jj_tb := jj_in 710 (by decide +kernel) (by decide +kernel)
theorem cm_X9_commit : jj_cm mX9_commit 0 := ⟨jj_in 715 (by decide +kernel) (by decide +kernel), it_X9, by decide +kernel, by decide +kernel, by decide +kernel⟩
theorem im_X9_commit : Cond.instanceMethod yX9_commit ∈ jj_tb := jj_in 713 (by decide +kernel) (by decide +kernel)
theorem se_X9_commit : Cond.selects RX9 yX9_commit yX9_commit ∈ jj_tb := jj_in 714 (by decide +kernel) (by decide +kernel)
theorem cm_X9_parent : jj_cm mX9_parent 2 := ⟨jj_in 723 (by decide +kernel) (by decide +kernel), it_X9, by decide +kernel, by decide +kernel, by decide +kernel⟩
theorem im_X9_parent : Cond.instanceMethod yX9_parent ∈ jj_tb := jj_in 721 (by decide +kernel) (by decide +kernel)
theorem se_X9_parent : Cond.selects RX9 yX9_parent yX9_parent ∈ jj_tb := jj_in 722 (by decide +kernel) (by decide +kernel)
theorem cm_X9_ancestors : jj_cm mX9_ancestors 1 := ⟨jj_in 727 (by decide +kernel) (by decide +kernel), it_X9, by decide +kernel, by decide +kernel, by decide +kernel⟩
theorem im_X9_ancestors : Cond.instanceMethod yX9_ancestors ∈ jj_tb := jj_in 725 (by decide +kernel) (by decide +kernel)
theorem se_X9_ancestors : Cond.selects RX9 yX9_ancestors yX9_ancestors ∈ jj_tb := jj_in 726 (by decide +kernel) (by decide +kernel)
theorem cm_X9_base : jj_cm mX9_base 2 := ⟨jj_in 737 (by decide +kernel) (by decide +kernel), it_X9, by decide +kernel, by decide +kernel, by decide +kernel⟩
theorem im_X9_base : Cond.instanceMethod yX9_base ∈ jj_tb := jj_in 735 (by decide +kernel) (by decide +kernel)
theorem se_X9_base : Cond.selects RX9 yX9_base yX9_base ∈ jj_tb := jj_in 736 (by decide +kernel) (by decide +kernel)
theorem cm_X9_reset : jj_cm mX9_reset 0 := ⟨jj_in 745 (by decide +kernel) (by decide +kernel), it_X9, by decide +kernel, by decide +kernel, by decide +kernel⟩
theorem im_X9_reset : Cond.instanceMethod yX9_reset ∈ jj_tb := jj_in 743 (by decide +kernel) (by decide +kernel)
theorem se_X9_reset : Cond.selects RX9 yX9_reset yX9_reset ∈ jj_tb := jj_in 744 (by decide +kernel) (by decide +kernel)
theorem cm_X9_sweep : jj_cm mX9_sweep 0 := ⟨jj_in 749 (by decide +kernel) (by decide +kernel), it_X9, by decide +kernel, by decide +kernel, by decide +kernel⟩
theorem im_X9_sweep : Cond.instanceMethod yX9_sweep ∈ jj_tb := jj_in 747 (by decide +kernel) (by decide +kernel)
theorem se_X9_sweep : Cond.selects RX9 yX9_sweep yX9_sweep ∈ jj_tb := jj_in 748 (by decide +kernel) (by decide +kernel)
theorem cm_X9_diff : jj_cm mX9_diff 3 := ⟨jj_in 754 (by decide +kernel) (by decide +kernel), it_X9, by decide +kernel, by decide +kernel, by decide +kernel⟩
theorem im_X9_diff : Cond.instanceMethod yX9_diff ∈ jj_tb := jj_in 752 (by decide +kernel) (by decide +kernel)
theorem se_X9_diff : Cond.selects RX9 yX9_diff yX9_diff ∈ jj_tb := jj_in 753 (by decide +kernel) (by decide +kernel)
theorem cm_X9_diffKey : jj_cm mX9_diffKey 1 := ⟨jj_in 774 (by decide +kernel) (by decide +kernel), it_X9, by decide +kernel, by decide +kernel, by decide +kernel⟩
theorem im_X9_diffKey : Cond.instanceMethod yX9_diffKey ∈ jj_tb := jj_in 772 (by decide +kernel) (by decide +kernel)
theorem se_X9_diffKey : Cond.selects RX9 yX9_diffKey yX9_diffKey ∈ jj_tb := jj_in 773 (by decide +kernel) (by decide +kernel)
theorem cm_X9_diffKind : jj_cm mX9_diffKind 1 := ⟨jj_in 782 (by decide +kernel) (by decide +kernel), it_X9, by decide +kernel, by decide +kernel, by decide +kernel⟩
theorem im_X9_diffKind : Cond.instanceMethod yX9_diffKind ∈ jj_tb := jj_in 780 (by decide +kernel) (by decide +kernel)
theorem se_X9_diffKind : Cond.selects RX9 yX9_diffKind yX9_diffKind ∈ jj_tb := jj_in 781 (by decide +kernel) (by decide +kernel)
theorem cm_X9_merge : jj_cm mX9_merge 1 := ⟨jj_in 786 (by decide +kernel) (by decide +kernel), it_X9, by decide +kernel, by decide +kernel, by decide +kernel⟩
theorem im_X9_merge : Cond.instanceMethod yX9_merge ∈ jj_tb := jj_in 784 (by decide +kernel) (by decide +kernel)
theorem se_X9_merge : Cond.selects RX9 yX9_merge yX9_merge ∈ jj_tb := jj_in 785 (by decide +kernel) (by decide +kernel)
theorem cm_X9_pick : jj_cm mX9_pick 1 := ⟨jj_in 829 (by decide +kernel) (by decide +kernel), it_X9, by decide +kernel, by decide +kernel, by decide +kernel⟩
theorem im_X9_pick : Cond.instanceMethod yX9_pick ∈ jj_tb := jj_in 827 (by decide +kernel) (by decide +kernel)
theorem se_X9_pick : Cond.selects RX9 yX9_pick yX9_pick ∈ jj_tb := jj_in 828 (by decide +kernel) (by decide +kernel)
theorem cm_X9_undo : jj_cm mX9_undo 1 := ⟨jj_in 837 (by decide +kernel) (by decide +kernel), it_X9, by decide +kernel, by decide +kernel, by decide +kernel⟩
theorem im_X9_undo : Cond.instanceMethod yX9_undo ∈ jj_tb := jj_in 835 (by decide +kernel) (by decide +kernel)
theorem se_X9_undo : Cond.selects RX9 yX9_undo yX9_undo ∈ jj_tb := jj_in 836 (by decide +kernel) (by decide +kernel)
theorem cm_X9_merging : jj_cm mX9_merging 0 := ⟨jj_in 841 (by decide +kernel) (by decide +kernel), it_X9, by decide +kernel, by decide +kernel, by decide +kernel⟩
theorem im_X9_merging : Cond.instanceMethod yX9_merging ∈ jj_tb := jj_in 839 (by decide +kernel) (by decide +kernel)
theorem se_X9_merging : Cond.selects RX9 yX9_merging yX9_merging ∈ jj_tb := jj_in 840 (by decide +kernel) (by decide +kernel)
theorem cm_X9_conflicts : jj_cm mX9_conflicts 1 := ⟨jj_in 845 (by decide +kernel) (by decide +kernel), it_X9, by decide +kernel, by decide +kernel, by decide +kernel⟩
theorem im_X9_conflicts : Cond.instanceMethod yX9_conflicts ∈ jj_tb := jj_in 843 (by decide +kernel) (by decide +kernel)
theorem se_X9_conflicts : Cond.selects RX9 yX9_conflicts yX9_conflicts ∈ jj_tb := jj_in 844 (by decide +kernel) (by decide +kernel)
theorem cm_X9_conflict : jj_cm mX9_conflict 2 := ⟨jj_in 849 (by decide +kernel) (by decide +kernel), it_X9, by decide +kernel, by decide +kernel, by decide +kernel⟩
theorem im_X9_conflict : Cond.instanceMethod yX9_conflict ∈ jj_tb := jj_in 847 (by decide +kernel) (by decide +kernel)
theorem se_X9_conflict : Cond.selects RX9 yX9_conflict yX9_conflict ∈ jj_tb := jj_in 848 (by decide +kernel) (by decide +kernel)
theorem cm_X9_version : jj_cm mX9_version 3 := ⟨jj_in 857 (by decide +kernel) (by decide +kernel), it_X9, by decide +kernel, by decide +kernel, by decide +kernel⟩
theorem im_X9_version : Cond.instanceMethod yX9_version ∈ jj_tb := jj_in 855 (by decide +kernel) (by decide +kernel)
theorem se_X9_version : Cond.selects RX9 yX9_version yX9_version ∈ jj_tb := jj_in 856 (by decide +kernel) (by decide +kernel)
theorem cm_X9_settle : jj_cm mX9_settle 2 := ⟨jj_in 866 (by decide +kernel) (by decide +kernel), it_X9, by decide +kernel, by decide +kernel, by decide +kernel⟩
theorem im_X9_settle : Cond.instanceMethod yX9_settle ∈ jj_tb := jj_in 864 (by decide +kernel) (by decide +kernel)
theorem se_X9_settle : Cond.selects RX9 yX9_settle yX9_settle ∈ jj_tb := jj_in 865 (by decide +kernel) (by decide +kernel)
theorem cm_X9_send : jj_cm mX9_send 1 := ⟨jj_in 880 (by decide +kernel) (by decide +kernel), it_X9, by decide +kernel, by decide +kernel, by decide +kernel⟩
theorem im_X9_send : Cond.instanceMethod yX9_send ∈ jj_tb := jj_in 878 (by decide +kernel) (by decide +kernel)
theorem se_X9_send : Cond.selects RX9 yX9_send yX9_send ∈ jj_tb := jj_in 879 (by decide +kernel) (by decide +kernel)
theorem cm_X9_fetch : jj_cm mX9_fetch 1 := ⟨jj_in 889 (by decide +kernel) (by decide +kernel), it_X9, by decide +kernel, by decide +kernel, by decide +kernel⟩
theorem im_X9_fetch : Cond.instanceMethod yX9_fetch ∈ jj_tb := jj_in 887 (by decide +kernel) (by decide +kernel)
theorem se_X9_fetch : Cond.selects RX9 yX9_fetch yX9_fetch ∈ jj_tb := jj_in 888 (by decide +kernel) (by decide +kernel)
theorem cm_X9_there : jj_cm mX9_there 1 := ⟨jj_in 893 (by decide +kernel) (by decide +kernel), it_X9, by decide +kernel, by decide +kernel, by decide +kernel⟩
theorem im_X9_there : Cond.instanceMethod yX9_there ∈ jj_tb := jj_in 891 (by decide +kernel) (by decide +kernel)
theorem se_X9_there : Cond.selects RX9 yX9_there yX9_there ∈ jj_tb := jj_in 892 (by decide +kernel) (by decide +kernel)
theorem cm_X9_kept : jj_cm mX9_kept 1 := ⟨jj_in 897 (by decide +kernel) (by decide +kernel), it_X9, by decide +kernel, by decide +kernel, by decide +kernel⟩
theorem im_X9_kept : Cond.instanceMethod yX9_kept ∈ jj_tb := jj_in 895 (by decide +kernel) (by decide +kernel)
theorem se_X9_kept : Cond.selects RX9 yX9_kept yX9_kept ∈ jj_tb := jj_in 896 (by decide +kernel) (by decide +kernel)
theorem cm_X9_isTable : jj_cm mX9_isTable 1 := ⟨jj_in 312 (by decide +kernel) (by decide +kernel), it_X9, by decide +kernel, by decide +kernel, by decide +kernel⟩
theorem sm_X9_isTable : Cond.static yX9_isTable ∈ jj_tb := jj_in 311 (by decide +kernel) (by decide +kernel)
theorem cm_X9_isColumn : jj_cm mX9_isColumn 1 := ⟨jj_in 562 (by decide +kernel) (by decide +kernel), it_X9, by decide +kernel, by decide +kernel, by decide +kernel⟩
theorem sm_X9_isColumn : Cond.static yX9_isColumn ∈ jj_tb := jj_in 561 (by decide +kernel) (by decide +kernel)
theorem cm_X9_isBranch : jj_cm mX9_isBranch 1 := ⟨jj_in 678 (by decide +kernel) (by decide +kernel), it_X9, by decide +kernel, by decide +kernel, by decide +kernel⟩
theorem sm_X9_isBranch : Cond.static yX9_isBranch ∈ jj_tb := jj_in 677 (by decide +kernel) (by decide +kernel)
theorem cm_X9_isHere : jj_cm mX9_isHere 1 := ⟨jj_in 682 (by decide +kernel) (by decide +kernel), it_X9, by decide +kernel, by decide +kernel, by decide +kernel⟩
theorem im_X9_isHere : Cond.instanceMethod yX9_isHere ∈ jj_tb := jj_in 681 (by decide +kernel) (by decide +kernel)
theorem se_X9_isHere : Cond.selects RX9 yX9_isHere yX9_isHere ∈ jj_tb := jj_in 11 (by decide +kernel) (by decide +kernel)
theorem cm_X9_nextSeed : jj_cm mX9_nextSeed 1 := ⟨jj_in 590 (by decide +kernel) (by decide +kernel), it_X9, by decide +kernel, by decide +kernel, by decide +kernel⟩
theorem sm_X9_nextSeed : Cond.static yX9_nextSeed ∈ jj_tb := jj_in 589 (by decide +kernel) (by decide +kernel)
theorem cm_X9_countNewKeys : jj_cm mX9_countNewKeys 4 := ⟨jj_in 586 (by decide +kernel) (by decide +kernel), it_X9, by decide +kernel, by decide +kernel, by decide +kernel⟩
theorem sm_X9_countNewKeys : Cond.static yX9_countNewKeys ∈ jj_tb := jj_in 585 (by decide +kernel) (by decide +kernel)
theorem cm_X9_commitAt : jj_cm mX9_commitAt 1 := ⟨jj_in 316 (by decide +kernel) (by decide +kernel), it_X9, by decide +kernel, by decide +kernel, by decide +kernel⟩
theorem im_X9_commitAt : Cond.instanceMethod yX9_commitAt ∈ jj_tb := jj_in 315 (by decide +kernel) (by decide +kernel)
theorem se_X9_commitAt : Cond.selects RX9 yX9_commitAt yX9_commitAt ∈ jj_tb := jj_in 4 (by decide +kernel) (by decide +kernel)
theorem cm_X9_lineOf : jj_cm mX9_lineOf 1 := ⟨jj_in 276 (by decide +kernel) (by decide +kernel), it_X9, by decide +kernel, by decide +kernel, by decide +kernel⟩
theorem im_X9_lineOf : Cond.instanceMethod yX9_lineOf ∈ jj_tb := jj_in 275 (by decide +kernel) (by decide +kernel)
theorem se_X9_lineOf : Cond.selects RX9 yX9_lineOf yX9_lineOf ∈ jj_tb := jj_in 1 (by decide +kernel) (by decide +kernel)
theorem cm_X9_isAncestor : jj_cm mX9_isAncestor 2 := ⟨jj_in 790 (by decide +kernel) (by decide +kernel), it_X9, by decide +kernel, by decide +kernel, by decide +kernel⟩
theorem im_X9_isAncestor : Cond.instanceMethod yX9_isAncestor ∈ jj_tb := jj_in 789 (by decide +kernel) (by decide +kernel)
theorem se_X9_isAncestor : Cond.selects RX9 yX9_isAncestor yX9_isAncestor ∈ jj_tb := jj_in 17 (by decide +kernel) (by decide +kernel)
theorem cm_X9_greatestOf : jj_cm mX9_greatestOf 1 := ⟨jj_in 741 (by decide +kernel) (by decide +kernel), it_X9, by decide +kernel, by decide +kernel, by decide +kernel⟩
theorem im_X9_greatestOf : Cond.instanceMethod yX9_greatestOf ∈ jj_tb := jj_in 740 (by decide +kernel) (by decide +kernel)
theorem se_X9_greatestOf : Cond.selects RX9 yX9_greatestOf yX9_greatestOf ∈ jj_tb := jj_in 15 (by decide +kernel) (by decide +kernel)
theorem cm_X9_tableOf : jj_cm mX9_tableOf 2 := ⟨jj_in 309 (by decide +kernel) (by decide +kernel), it_X9, by decide +kernel, by decide +kernel, by decide +kernel⟩
theorem im_X9_tableOf : Cond.instanceMethod yX9_tableOf ∈ jj_tb := jj_in 308 (by decide +kernel) (by decide +kernel)
theorem se_X9_tableOf : Cond.selects RX9 yX9_tableOf yX9_tableOf ∈ jj_tb := jj_in 3 (by decide +kernel) (by decide +kernel)
theorem cm_X9_treeOf : jj_cm mX9_treeOf 2 := ⟨jj_in 328 (by decide +kernel) (by decide +kernel), it_X9, by decide +kernel, by decide +kernel, by decide +kernel⟩
theorem im_X9_treeOf : Cond.instanceMethod yX9_treeOf ∈ jj_tb := jj_in 327 (by decide +kernel) (by decide +kernel)
theorem se_X9_treeOf : Cond.selects RX9 yX9_treeOf yX9_treeOf ∈ jj_tb := jj_in 5 (by decide +kernel) (by decide +kernel)
theorem cm_X9_countUnseenOfWork : jj_cm mX9_countUnseenOfWork 1 := ⟨jj_in 665 (by decide +kernel) (by decide +kernel), it_X9, by decide +kernel, by decide +kernel, by decide +kernel⟩
theorem im_X9_countUnseenOfWork : Cond.instanceMethod yX9_countUnseenOfWork ∈ jj_tb := jj_in 664 (by decide +kernel) (by decide +kernel)
theorem se_X9_countUnseenOfWork : Cond.selects RX9 yX9_countUnseenOfWork yX9_countUnseenOfWork ∈ jj_tb := jj_in 9 (by decide +kernel) (by decide +kernel)
theorem cm_X9_isInWorkBefore : jj_cm mX9_isInWorkBefore 2 := ⟨jj_in 671 (by decide +kernel) (by decide +kernel), it_X9, by decide +kernel, by decide +kernel, by decide +kernel⟩
theorem im_X9_isInWorkBefore : Cond.instanceMethod yX9_isInWorkBefore ∈ jj_tb := jj_in 670 (by decide +kernel) (by decide +kernel)
theorem se_X9_isInWorkBefore : Cond.selects RX9 yX9_isInWorkBefore yX9_isInWorkBefore ∈ jj_tb := jj_in 10 (by decide +kernel) (by decide +kernel)
theorem cm_X9_headAtHand : jj_cm mX9_headAtHand 0 := ⟨jj_in 694 (by decide +kernel) (by decide +kernel), it_X9, by decide +kernel, by decide +kernel, by decide +kernel⟩
theorem im_X9_headAtHand : Cond.instanceMethod yX9_headAtHand ∈ jj_tb := jj_in 693 (by decide +kernel) (by decide +kernel)
theorem se_X9_headAtHand : Cond.selects RX9 yX9_headAtHand yX9_headAtHand ∈ jj_tb := jj_in 13 (by decide +kernel) (by decide +kernel)
theorem cm_X9_isClean : jj_cm mX9_isClean 0 := ⟨jj_in 690 (by decide +kernel) (by decide +kernel), it_X9, by decide +kernel, by decide +kernel, by decide +kernel⟩
theorem im_X9_isClean : Cond.instanceMethod yX9_isClean ∈ jj_tb := jj_in 689 (by decide +kernel) (by decide +kernel)
theorem se_X9_isClean : Cond.selects RX9 yX9_isClean yX9_isClean ∈ jj_tb := jj_in 12 (by decide +kernel) (by decide +kernel)
theorem cm_X9_loadWork : jj_cm mX9_loadWork 0 := ⟨jj_in 698 (by decide +kernel) (by decide +kernel), it_X9, by decide +kernel, by decide +kernel, by decide +kernel⟩
theorem im_X9_loadWork : Cond.instanceMethod yX9_loadWork ∈ jj_tb := jj_in 697 (by decide +kernel) (by decide +kernel)
theorem se_X9_loadWork : Cond.selects RX9 yX9_loadWork yX9_loadWork ∈ jj_tb := jj_in 14 (by decide +kernel) (by decide +kernel)
theorem cm_X9_addCommit : jj_cm mX9_addCommit 2 := ⟨jj_in 272 (by decide +kernel) (by decide +kernel), it_X9, by decide +kernel, by decide +kernel, by decide +kernel⟩
theorem im_X9_addCommit : Cond.instanceMethod yX9_addCommit ∈ jj_tb := jj_in 271 (by decide +kernel) (by decide +kernel)
theorem se_X9_addCommit : Cond.selects RX9 yX9_addCommit yX9_addCommit ∈ jj_tb := jj_in 0 (by decide +kernel) (by decide +kernel)
theorem cm_X9_tableBefore : jj_cm mX9_tableBefore 2 := ⟨jj_in 305 (by decide +kernel) (by decide +kernel), it_X9, by decide +kernel, by decide +kernel, by decide +kernel⟩
theorem im_X9_tableBefore : Cond.instanceMethod yX9_tableBefore ∈ jj_tb := jj_in 304 (by decide +kernel) (by decide +kernel)
theorem se_X9_tableBefore : Cond.selects RX9 yX9_tableBefore yX9_tableBefore ∈ jj_tb := jj_in 2 (by decide +kernel) (by decide +kernel)
theorem cm_X9_refusalOfPick : jj_cm mX9_refusalOfPick 1 := ⟨jj_in 833 (by decide +kernel) (by decide +kernel), it_X9, by decide +kernel, by decide +kernel, by decide +kernel⟩
theorem im_X9_refusalOfPick : Cond.instanceMethod yX9_refusalOfPick ∈ jj_tb := jj_in 832 (by decide +kernel) (by decide +kernel)
theorem se_X9_refusalOfPick : Cond.selects RX9 yX9_refusalOfPick yX9_refusalOfPick ∈ jj_tb := jj_in 23 (by decide +kernel) (by decide +kernel)
theorem cm_X9_beginMerge : jj_cm mX9_beginMerge 3 := ⟨jj_in 794 (by decide +kernel) (by decide +kernel), it_X9, by decide +kernel, by decide +kernel, by decide +kernel⟩
theorem im_X9_beginMerge : Cond.instanceMethod yX9_beginMerge ∈ jj_tb := jj_in 793 (by decide +kernel) (by decide +kernel)
theorem se_X9_beginMerge : Cond.selects RX9 yX9_beginMerge yX9_beginMerge ∈ jj_tb := jj_in 18 (by decide +kernel) (by decide +kernel)
theorem cm_X10_init : jj_cm mX10_init 0 := ⟨jj_in 902 (by decide +kernel) (by decide +kernel), it_X10, by decide +kernel, by decide +kernel, by decide +kernel⟩
theorem im_X10_init : Cond.instanceMethod yX10_init ∈ jj_tb := jj_in 901 (by decide +kernel) (by decide +kernel)
theorem cm_X10_isIn : jj_cm mX10_isIn 3 := ⟨jj_in 1071 (by decide +kernel) (by decide +kernel), it_X10, by decide +kernel, by decide +kernel, by decide +kernel⟩
theorem sm_X10_isIn : Cond.static yX10_isIn ∈ jj_tb := jj_in 1070 (by decide +kernel) (by decide +kernel)
theorem cm_X10_isTable : jj_cm mX10_isTable 1 := ⟨jj_in 1047 (by decide +kernel) (by decide +kernel), it_X10, by decide +kernel, by decide +kernel, by decide +kernel⟩
theorem sm_X10_isTable : Cond.static yX10_isTable ∈ jj_tb := jj_in 1046 (by decide +kernel) (by decide +kernel)
theorem cm_X10_isCommit : jj_cm mX10_isCommit 1 := ⟨jj_in 1119 (by decide +kernel) (by decide +kernel), it_X10, by decide +kernel, by decide +kernel, by decide +kernel⟩
theorem im_X10_isCommit : Cond.instanceMethod yX10_isCommit ∈ jj_tb := jj_in 1118 (by decide +kernel) (by decide +kernel)
theorem se_X10_isCommit : Cond.selects RX10 yX10_isCommit yX10_isCommit ∈ jj_tb := jj_in 36 (by decide +kernel) (by decide +kernel)
theorem cm_X10_placeOf : jj_cm mX10_placeOf 1 := ⟨jj_in 1115 (by decide +kernel) (by decide +kernel), it_X10, by decide +kernel, by decide +kernel, by decide +kernel⟩
theorem im_X10_placeOf : Cond.instanceMethod yX10_placeOf ∈ jj_tb := jj_in 1114 (by decide +kernel) (by decide +kernel)
theorem se_X10_placeOf : Cond.selects RX10 yX10_placeOf yX10_placeOf ∈ jj_tb := jj_in 35 (by decide +kernel) (by decide +kernel)
theorem cm_X10_rowAt : jj_cm mX10_rowAt 3 := ⟨jj_in 919 (by decide +kernel) (by decide +kernel), it_X10, by decide +kernel, by decide +kernel, by decide +kernel⟩
theorem im_X10_rowAt : Cond.instanceMethod yX10_rowAt ∈ jj_tb := jj_in 918 (by decide +kernel) (by decide +kernel)
theorem se_X10_rowAt : Cond.selects RX10 yX10_rowAt yX10_rowAt ∈ jj_tb := jj_in 26 (by decide +kernel) (by decide +kernel)
theorem cm_X10_rankOf : jj_cm mX10_rankOf 3 := ⟨jj_in 1055 (by decide +kernel) (by decide +kernel), it_X10, by decide +kernel, by decide +kernel, by decide +kernel⟩
theorem im_X10_rankOf : Cond.instanceMethod yX10_rankOf ∈ jj_tb := jj_in 1054 (by decide +kernel) (by decide +kernel)
theorem se_X10_rankOf : Cond.selects RX10 yX10_rankOf yX10_rankOf ∈ jj_tb := jj_in 30 (by decide +kernel) (by decide +kernel)
theorem cm_X10_find : jj_cm mX10_find 3 := ⟨jj_in 1051 (by decide +kernel) (by decide +kernel), it_X10, by decide +kernel, by decide +kernel, by decide +kernel⟩
theorem im_X10_find : Cond.instanceMethod yX10_find ∈ jj_tb := jj_in 1050 (by decide +kernel) (by decide +kernel)
theorem se_X10_find : Cond.selects RX10 yX10_find yX10_find ∈ jj_tb := jj_in 29 (by decide +kernel) (by decide +kernel)
theorem cm_X10_copyRow : jj_cm mX10_copyRow 2 := ⟨jj_in 1063 (by decide +kernel) (by decide +kernel), it_X10, by decide +kernel, by decide +kernel, by decide +kernel⟩
theorem im_X10_copyRow : Cond.instanceMethod yX10_copyRow ∈ jj_tb := jj_in 1062 (by decide +kernel) (by decide +kernel)
theorem se_X10_copyRow : Cond.selects RX10 yX10_copyRow yX10_copyRow ∈ jj_tb := jj_in 32 (by decide +kernel) (by decide +kernel)
theorem cm_X10_copyTable : jj_cm mX10_copyTable 3 := ⟨jj_in 1200 (by decide +kernel) (by decide +kernel), it_X10, by decide +kernel, by decide +kernel, by decide +kernel⟩
theorem im_X10_copyTable : Cond.instanceMethod yX10_copyTable ∈ jj_tb := jj_in 1199 (by decide +kernel) (by decide +kernel)
theorem se_X10_copyTable : Cond.selects RX10 yX10_copyTable yX10_copyTable ∈ jj_tb := jj_in 48 (by decide +kernel) (by decide +kernel)
theorem cm_X10_copy : jj_cm mX10_copy 2 := ⟨jj_in 1196 (by decide +kernel) (by decide +kernel), it_X10, by decide +kernel, by decide +kernel, by decide +kernel⟩
theorem im_X10_copy : Cond.instanceMethod yX10_copy ∈ jj_tb := jj_in 1195 (by decide +kernel) (by decide +kernel)
theorem se_X10_copy : Cond.selects RX10 yX10_copy yX10_copy ∈ jj_tb := jj_in 47 (by decide +kernel) (by decide +kernel)
theorem cm_X10_lay : jj_cm mX10_lay 6 := ⟨jj_in 1059 (by decide +kernel) (by decide +kernel), it_X10, by decide +kernel, by decide +kernel, by decide +kernel⟩
theorem im_X10_lay : Cond.instanceMethod yX10_lay ∈ jj_tb := jj_in 1058 (by decide +kernel) (by decide +kernel)
theorem se_X10_lay : Cond.selects RX10 yX10_lay yX10_lay ∈ jj_tb := jj_in 31 (by decide +kernel) (by decide +kernel)
theorem cm_X10_takeAway : jj_cm mX10_takeAway 3 := ⟨jj_in 1079 (by decide +kernel) (by decide +kernel), it_X10, by decide +kernel, by decide +kernel, by decide +kernel⟩
theorem im_X10_takeAway : Cond.instanceMethod yX10_takeAway ∈ jj_tb := jj_in 1078 (by decide +kernel) (by decide +kernel)
theorem se_X10_takeAway : Cond.selects RX10 yX10_takeAway yX10_takeAway ∈ jj_tb := jj_in 33 (by decide +kernel) (by decide +kernel)
theorem cm_X10_isRowAlike : jj_cm mX10_isRowAlike 2 := ⟨jj_in 1152 (by decide +kernel) (by decide +kernel), it_X10, by decide +kernel, by decide +kernel, by decide +kernel⟩
theorem im_X10_isRowAlike : Cond.instanceMethod yX10_isRowAlike ∈ jj_tb := jj_in 1151 (by decide +kernel) (by decide +kernel)
theorem se_X10_isRowAlike : Cond.selects RX10 yX10_isRowAlike yX10_isRowAlike ∈ jj_tb := jj_in 40 (by decide +kernel) (by decide +kernel)
theorem cm_X10_isAlike : jj_cm mX10_isAlike 2 := ⟨jj_in 1192 (by decide +kernel) (by decide +kernel), it_X10, by decide +kernel, by decide +kernel, by decide +kernel⟩
theorem im_X10_isAlike : Cond.instanceMethod yX10_isAlike ∈ jj_tb := jj_in 1191 (by decide +kernel) (by decide +kernel)
theorem se_X10_isAlike : Cond.selects RX10 yX10_isAlike yX10_isAlike ∈ jj_tb := jj_in 46 (by decide +kernel) (by decide +kernel)
theorem cm_X10_isClean : jj_cm mX10_isClean 0 := ⟨jj_in 1188 (by decide +kernel) (by decide +kernel), it_X10, by decide +kernel, by decide +kernel, by decide +kernel⟩
theorem im_X10_isClean : Cond.instanceMethod yX10_isClean ∈ jj_tb := jj_in 1187 (by decide +kernel) (by decide +kernel)
theorem se_X10_isClean : Cond.selects RX10 yX10_isClean yX10_isClean ∈ jj_tb := jj_in 45 (by decide +kernel) (by decide +kernel)
theorem cm_X10_turned : jj_cm mX10_turned 2 := ⟨jj_in 927 (by decide +kernel) (by decide +kernel), it_X10, by decide +kernel, by decide +kernel, by decide +kernel⟩
theorem sm_X10_turned : Cond.static yX10_turned ∈ jj_tb := jj_in 926 (by decide +kernel) (by decide +kernel)
theorem cm_X10_toll : jj_cm mX10_toll 1 := ⟨jj_in 930 (by decide +kernel) (by decide +kernel), it_X10, by decide +kernel, by decide +kernel, by decide +kernel⟩
theorem sm_X10_toll : Cond.static yX10_toll ∈ jj_tb := jj_in 929 (by decide +kernel) (by decide +kernel)
theorem cm_X10_layBytes : jj_cm mX10_layBytes 2 := ⟨jj_in 923 (by decide +kernel) (by decide +kernel), it_X10, by decide +kernel, by decide +kernel, by decide +kernel⟩
theorem im_X10_layBytes : Cond.instanceMethod yX10_layBytes ∈ jj_tb := jj_in 922 (by decide +kernel) (by decide +kernel)
theorem se_X10_layBytes : Cond.selects RX10 yX10_layBytes yX10_layBytes ∈ jj_tb := jj_in 27 (by decide +kernel) (by decide +kernel)
theorem cm_X10_layLevel : jj_cm mX10_layLevel 5 := ⟨jj_in 915 (by decide +kernel) (by decide +kernel), it_X10, by decide +kernel, by decide +kernel, by decide +kernel⟩
theorem im_X10_layLevel : Cond.instanceMethod yX10_layLevel ∈ jj_tb := jj_in 914 (by decide +kernel) (by decide +kernel)
theorem se_X10_layLevel : Cond.selects RX10 yX10_layLevel yX10_layLevel ∈ jj_tb := jj_in 25 (by decide +kernel) (by decide +kernel)
theorem cm_X10_node : jj_cm mX10_node 6 := ⟨jj_in 935 (by decide +kernel) (by decide +kernel), it_X10, by decide +kernel, by decide +kernel, by decide +kernel⟩
theorem im_X10_node : Cond.instanceMethod yX10_node ∈ jj_tb := jj_in 934 (by decide +kernel) (by decide +kernel)
theorem se_X10_node : Cond.selects RX10 yX10_node yX10_node ∈ jj_tb := jj_in 28 (by decide +kernel) (by decide +kernel)
theorem cm_X10_cut : jj_cm mX10_cut 2 := ⟨jj_in 911 (by decide +kernel) (by decide +kernel), it_X10, by decide +kernel, by decide +kernel, by decide +kernel⟩
theorem im_X10_cut : Cond.instanceMethod yX10_cut ∈ jj_tb := jj_in 910 (by decide +kernel) (by decide +kernel)
theorem se_X10_cut : Cond.selects RX10 yX10_cut yX10_cut ∈ jj_tb := jj_in 24 (by decide +kernel) (by decide +kernel)
theorem cm_X10_cutWork : jj_cm mX10_cutWork 0 := ⟨jj_in 1164 (by decide +kernel) (by decide +kernel), it_X10, by decide +kernel, by decide +kernel, by decide +kernel⟩
theorem im_X10_cutWork : Cond.instanceMethod yX10_cutWork ∈ jj_tb := jj_in 1163 (by decide +kernel) (by decide +kernel)
theorem se_X10_cutWork : Cond.selects RX10 yX10_cutWork yX10_cutWork ∈ jj_tb := jj_in 42 (by decide +kernel) (by decide +kernel)
theorem cm_X10_nodeAt : jj_cm mX10_nodeAt 4 := ⟨jj_in 1131 (by decide +kernel) (by decide +kernel), it_X10, by decide +kernel, by decide +kernel, by decide +kernel⟩
theorem im_X10_nodeAt : Cond.instanceMethod yX10_nodeAt ∈ jj_tb := jj_in 1130 (by decide +kernel) (by decide +kernel)
theorem se_X10_nodeAt : Cond.selects RX10 yX10_nodeAt yX10_nodeAt ∈ jj_tb := jj_in 37 (by decide +kernel) (by decide +kernel)
theorem cm_X10_lastRow : jj_cm mX10_lastRow 1 := ⟨jj_in 1140 (by decide +kernel) (by decide +kernel), it_X10, by decide +kernel, by decide +kernel, by decide +kernel⟩
theorem im_X10_lastRow : Cond.instanceMethod yX10_lastRow ∈ jj_tb := jj_in 1139 (by decide +kernel) (by decide +kernel)
theorem se_X10_lastRow : Cond.selects RX10 yX10_lastRow yX10_lastRow ∈ jj_tb := jj_in 38 (by decide +kernel) (by decide +kernel)
theorem cm_X10_areSame : jj_cm mX10_areSame 2 := ⟨jj_in 1148 (by decide +kernel) (by decide +kernel), it_X10, by decide +kernel, by decide +kernel, by decide +kernel⟩
theorem im_X10_areSame : Cond.instanceMethod yX10_areSame ∈ jj_tb := jj_in 1147 (by decide +kernel) (by decide +kernel)
theorem se_X10_areSame : Cond.selects RX10 yX10_areSame yX10_areSame ∈ jj_tb := jj_in 39 (by decide +kernel) (by decide +kernel)
theorem cm_X10_put : jj_cm mX10_put 5 := ⟨jj_in 1044 (by decide +kernel) (by decide +kernel), it_X10, by decide +kernel, by decide +kernel, by decide +kernel⟩
theorem im_X10_put : Cond.instanceMethod yX10_put ∈ jj_tb := jj_in 1042 (by decide +kernel) (by decide +kernel)
theorem se_X10_put : Cond.selects RX10 yX10_put yX10_put ∈ jj_tb := jj_in 1043 (by decide +kernel) (by decide +kernel)
theorem cm_X10_cell : jj_cm mX10_cell 4 := ⟨jj_in 1067 (by decide +kernel) (by decide +kernel), it_X10, by decide +kernel, by decide +kernel, by decide +kernel⟩
theorem im_X10_cell : Cond.instanceMethod yX10_cell ∈ jj_tb := jj_in 1065 (by decide +kernel) (by decide +kernel)
theorem se_X10_cell : Cond.selects RX10 yX10_cell yX10_cell ∈ jj_tb := jj_in 1066 (by decide +kernel) (by decide +kernel)
theorem cm_X10_drop : jj_cm mX10_drop 2 := ⟨jj_in 1075 (by decide +kernel) (by decide +kernel), it_X10, by decide +kernel, by decide +kernel, by decide +kernel⟩
theorem im_X10_drop : Cond.instanceMethod yX10_drop ∈ jj_tb := jj_in 1073 (by decide +kernel) (by decide +kernel)
theorem se_X10_drop : Cond.selects RX10 yX10_drop yX10_drop ∈ jj_tb := jj_in 1074 (by decide +kernel) (by decide +kernel)
theorem cm_X10_fill : jj_cm mX10_fill 5 := ⟨jj_in 1083 (by decide +kernel) (by decide +kernel), it_X10, by decide +kernel, by decide +kernel, by decide +kernel⟩
theorem im_X10_fill : Cond.instanceMethod yX10_fill ∈ jj_tb := jj_in 1081 (by decide +kernel) (by decide +kernel)
theorem se_X10_fill : Cond.selects RX10 yX10_fill yX10_fill ∈ jj_tb := jj_in 1082 (by decide +kernel) (by decide +kernel)
theorem cm_X10_get : jj_cm mX10_get 3 := ⟨jj_in 1090 (by decide +kernel) (by decide +kernel), it_X10, by decide +kernel, by decide +kernel, by decide +kernel⟩
theorem im_X10_get : Cond.instanceMethod yX10_get ∈ jj_tb := jj_in 1088 (by decide +kernel) (by decide +kernel)
theorem se_X10_get : Cond.selects RX10 yX10_get yX10_get ∈ jj_tb := jj_in 1089 (by decide +kernel) (by decide +kernel)
theorem cm_X10_size : jj_cm mX10_size 1 := ⟨jj_in 1095 (by decide +kernel) (by decide +kernel), it_X10, by decide +kernel, by decide +kernel, by decide +kernel⟩
theorem im_X10_size : Cond.instanceMethod yX10_size ∈ jj_tb := jj_in 1093 (by decide +kernel) (by decide +kernel)
theorem se_X10_size : Cond.selects RX10 yX10_size yX10_size ∈ jj_tb := jj_in 1094 (by decide +kernel) (by decide +kernel)
theorem cm_X10_kth : jj_cm mX10_kth 2 := ⟨jj_in 1099 (by decide +kernel) (by decide +kernel), it_X10, by decide +kernel, by decide +kernel, by decide +kernel⟩
theorem im_X10_kth : Cond.instanceMethod yX10_kth ∈ jj_tb := jj_in 1097 (by decide +kernel) (by decide +kernel)
theorem se_X10_kth : Cond.selects RX10 yX10_kth yX10_kth ∈ jj_tb := jj_in 1098 (by decide +kernel) (by decide +kernel)
theorem cm_X10_rank : jj_cm mX10_rank 2 := ⟨jj_in 1103 (by decide +kernel) (by decide +kernel), it_X10, by decide +kernel, by decide +kernel, by decide +kernel⟩
theorem im_X10_rank : Cond.instanceMethod yX10_rank ∈ jj_tb := jj_in 1101 (by decide +kernel) (by decide +kernel)
theorem se_X10_rank : Cond.selects RX10 yX10_rank yX10_rank ∈ jj_tb := jj_in 1102 (by decide +kernel) (by decide +kernel)
theorem cm_X10_treeOf : jj_cm mX10_treeOf 2 := ⟨jj_in 1111 (by decide +kernel) (by decide +kernel), it_X10, by decide +kernel, by decide +kernel, by decide +kernel⟩
theorem im_X10_treeOf : Cond.instanceMethod yX10_treeOf ∈ jj_tb := jj_in 1110 (by decide +kernel) (by decide +kernel)
theorem se_X10_treeOf : Cond.selects RX10 yX10_treeOf yX10_treeOf ∈ jj_tb := jj_in 34 (by decide +kernel) (by decide +kernel)
theorem cm_X10_root : jj_cm mX10_root 2 := ⟨jj_in 1107 (by decide +kernel) (by decide +kernel), it_X10, by decide +kernel, by decide +kernel, by decide +kernel⟩
theorem im_X10_root : Cond.instanceMethod yX10_root ∈ jj_tb := jj_in 1105 (by decide +kernel) (by decide +kernel)
theorem se_X10_root : Cond.selects RX10 yX10_root yX10_root ∈ jj_tb := jj_in 1106 (by decide +kernel) (by decide +kernel)
theorem cm_X10_height : jj_cm mX10_height 2 := ⟨jj_in 1123 (by decide +kernel) (by decide +kernel), it_X10, by decide +kernel, by decide +kernel, by decide +kernel⟩
theorem im_X10_height : Cond.instanceMethod yX10_height ∈ jj_tb := jj_in 1121 (by decide +kernel) (by decide +kernel)
theorem se_X10_height : Cond.selects RX10 yX10_height yX10_height ∈ jj_tb := jj_in 1122 (by decide +kernel) (by decide +kernel)
theorem cm_X10_nodes : jj_cm mX10_nodes 3 := ⟨jj_in 1127 (by decide +kernel) (by decide +kernel), it_X10, by decide +kernel, by decide +kernel, by decide +kernel⟩
theorem im_X10_nodes : Cond.instanceMethod yX10_nodes ∈ jj_tb := jj_in 1125 (by decide +kernel) (by decide +kernel)
theorem se_X10_nodes : Cond.selects RX10 yX10_nodes yX10_nodes ∈ jj_tb := jj_in 1126 (by decide +kernel) (by decide +kernel)
theorem cm_X10_node_ : jj_cm mX10_node_ 5 := ⟨jj_in 1135 (by decide +kernel) (by decide +kernel), it_X10, by decide +kernel, by decide +kernel, by decide +kernel⟩
theorem im_X10_node_ : Cond.instanceMethod yX10_node_ ∈ jj_tb := jj_in 1133 (by decide +kernel) (by decide +kernel)
theorem se_X10_node_ : Cond.selects RX10 yX10_node_ yX10_node_ ∈ jj_tb := jj_in 1134 (by decide +kernel) (by decide +kernel)
theorem cm_X10_shared : jj_cm mX10_shared 3 := ⟨jj_in 1144 (by decide +kernel) (by decide +kernel), it_X10, by decide +kernel, by decide +kernel, by decide +kernel⟩
theorem im_X10_shared : Cond.instanceMethod yX10_shared ∈ jj_tb := jj_in 1142 (by decide +kernel) (by decide +kernel)
theorem se_X10_shared : Cond.selects RX10 yX10_shared yX10_shared ∈ jj_tb := jj_in 1143 (by decide +kernel) (by decide +kernel)
theorem cm_X10_isNew : jj_cm mX10_isNew 1 := ⟨jj_in 1168 (by decide +kernel) (by decide +kernel), it_X10, by decide +kernel, by decide +kernel, by decide +kernel⟩
theorem im_X10_isNew : Cond.instanceMethod yX10_isNew ∈ jj_tb := jj_in 1167 (by decide +kernel) (by decide +kernel)
theorem se_X10_isNew : Cond.selects RX10 yX10_isNew yX10_isNew ∈ jj_tb := jj_in 43 (by decide +kernel) (by decide +kernel)
theorem cm_X10_distinct : jj_cm mX10_distinct 2 := ⟨jj_in 1160 (by decide +kernel) (by decide +kernel), it_X10, by decide +kernel, by decide +kernel, by decide +kernel⟩
theorem im_X10_distinct : Cond.instanceMethod yX10_distinct ∈ jj_tb := jj_in 1159 (by decide +kernel) (by decide +kernel)
theorem se_X10_distinct : Cond.selects RX10 yX10_distinct yX10_distinct ∈ jj_tb := jj_in 41 (by decide +kernel) (by decide +kernel)
theorem cm_X10_stored : jj_cm mX10_stored 0 := ⟨jj_in 1156 (by decide +kernel) (by decide +kernel), it_X10, by decide +kernel, by decide +kernel, by decide +kernel⟩
theorem im_X10_stored : Cond.instanceMethod yX10_stored ∈ jj_tb := jj_in 1154 (by decide +kernel) (by decide +kernel)
theorem se_X10_stored : Cond.selects RX10 yX10_stored yX10_stored ∈ jj_tb := jj_in 1155 (by decide +kernel) (by decide +kernel)
theorem cm_X10_isNumber : jj_cm mX10_isNumber 1 := ⟨jj_in 1176 (by decide +kernel) (by decide +kernel), it_X10, by decide +kernel, by decide +kernel, by decide +kernel⟩
theorem sm_X10_isNumber : Cond.static yX10_isNumber ∈ jj_tb := jj_in 1175 (by decide +kernel) (by decide +kernel)
theorem cm_X10_isBranch : jj_cm mX10_isBranch 1 := ⟨jj_in 1184 (by decide +kernel) (by decide +kernel), it_X10, by decide +kernel, by decide +kernel, by decide +kernel⟩
theorem im_X10_isBranch : Cond.instanceMethod yX10_isBranch ∈ jj_tb := jj_in 1183 (by decide +kernel) (by decide +kernel)
theorem se_X10_isBranch : Cond.selects RX10 yX10_isBranch yX10_isBranch ∈ jj_tb := jj_in 44 (by decide +kernel) (by decide +kernel)
theorem cm_X10_open : jj_cm mX10_open 1 := ⟨jj_in 1173 (by decide +kernel) (by decide +kernel), it_X10, by decide +kernel, by decide +kernel, by decide +kernel⟩
theorem im_X10_open : Cond.instanceMethod yX10_open ∈ jj_tb := jj_in 1171 (by decide +kernel) (by decide +kernel)
theorem se_X10_open : Cond.selects RX10 yX10_open yX10_open ∈ jj_tb := jj_in 1172 (by decide +kernel) (by decide +kernel)
theorem cm_X10_go : jj_cm mX10_go 1 := ⟨jj_in 1180 (by decide +kernel) (by decide +kernel), it_X10, by decide +kernel, by decide +kernel, by decide +kernel⟩
theorem im_X10_go : Cond.instanceMethod yX10_go ∈ jj_tb := jj_in 1178 (by decide +kernel) (by decide +kernel)
theorem se_X10_go : Cond.selects RX10 yX10_go yX10_go ∈ jj_tb := jj_in 1179 (by decide +kernel) (by decide +kernel)
theorem cm_X10_close : jj_cm mX10_close 1 := ⟨jj_in 1204 (by decide +kernel) (by decide +kernel), it_X10, by decide +kernel, by decide +kernel, by decide +kernel⟩
theorem im_X10_close : Cond.instanceMethod yX10_close ∈ jj_tb := jj_in 1202 (by decide +kernel) (by decide +kernel)
theorem se_X10_close : Cond.selects RX10 yX10_close yX10_close ∈ jj_tb := jj_in 1203 (by decide +kernel) (by decide +kernel)
theorem cm_X10_head : jj_cm mX10_head 1 := ⟨jj_in 1208 (by decide +kernel) (by decide +kernel), it_X10, by decide +kernel, by decide +kernel, by decide +kernel⟩
theorem im_X10_head : Cond.instanceMethod yX10_head ∈ jj_tb := jj_in 1206 (by decide +kernel) (by decide +kernel)
theorem se_X10_head : Cond.selects RX10 yX10_head yX10_head ∈ jj_tb := jj_in 1207 (by decide +kernel) (by decide +kernel)
theorem cm_X10_openConflicts : jj_cm mX10_openConflicts 0 := ⟨jj_in 1216 (by decide +kernel) (by decide +kernel), it_X10, by decide +kernel, by decide +kernel, by decide +kernel⟩
theorem im_X10_openConflicts : Cond.instanceMethod yX10_openConflicts ∈ jj_tb := jj_in 1215 (by decide +kernel) (by decide +kernel)
theorem se_X10_openConflicts : Cond.selects RX10 yX10_openConflicts yX10_openConflicts ∈ jj_tb := jj_in 49 (by decide +kernel) (by decide +kernel)
theorem cm_X10_over : jj_cm mX10_over 0 := ⟨jj_in 1220 (by decide +kernel) (by decide +kernel), it_X10, by decide +kernel, by decide +kernel, by decide +kernel⟩
theorem im_X10_over : Cond.instanceMethod yX10_over ∈ jj_tb := jj_in 1219 (by decide +kernel) (by decide +kernel)
theorem se_X10_over : Cond.selects RX10 yX10_over yX10_over ∈ jj_tb := jj_in 50 (by decide +kernel) (by decide +kernel)
theorem cm_X10_commit : jj_cm mX10_commit 0 := ⟨jj_in 1212 (by decide +kernel) (by decide +kernel), it_X10, by decide +kernel, by decide +kernel, by decide +kernel⟩
theorem im_X10_commit : Cond.instanceMethod yX10_commit ∈ jj_tb := jj_in 1210 (by decide +kernel) (by decide +kernel)
theorem se_X10_commit : Cond.selects RX10 yX10_commit yX10_commit ∈ jj_tb := jj_in 1211 (by decide +kernel) (by decide +kernel)
theorem cm_X10_parent : jj_cm mX10_parent 2 := ⟨jj_in 1224 (by decide +kernel) (by decide +kernel), it_X10, by decide +kernel, by decide +kernel, by decide +kernel⟩
theorem im_X10_parent : Cond.instanceMethod yX10_parent ∈ jj_tb := jj_in 1222 (by decide +kernel) (by decide +kernel)
theorem se_X10_parent : Cond.selects RX10 yX10_parent yX10_parent ∈ jj_tb := jj_in 1223 (by decide +kernel) (by decide +kernel)
theorem cm_X10_bits : jj_cm mX10_bits 1 := ⟨jj_in 1231 (by decide +kernel) (by decide +kernel), it_X10, by decide +kernel, by decide +kernel, by decide +kernel⟩
theorem sm_X10_bits : Cond.static yX10_bits ∈ jj_tb := jj_in 1230 (by decide +kernel) (by decide +kernel)
theorem cm_X10_ancestors : jj_cm mX10_ancestors 1 := ⟨jj_in 1228 (by decide +kernel) (by decide +kernel), it_X10, by decide +kernel, by decide +kernel, by decide +kernel⟩
theorem im_X10_ancestors : Cond.instanceMethod yX10_ancestors ∈ jj_tb := jj_in 1226 (by decide +kernel) (by decide +kernel)
theorem se_X10_ancestors : Cond.selects RX10 yX10_ancestors yX10_ancestors ∈ jj_tb := jj_in 1227 (by decide +kernel) (by decide +kernel)
theorem cm_X10_isAncestor : jj_cm mX10_isAncestor 2 := ⟨jj_in 1243 (by decide +kernel) (by decide +kernel), it_X10, by decide +kernel, by decide +kernel, by decide +kernel⟩
theorem im_X10_isAncestor : Cond.instanceMethod yX10_isAncestor ∈ jj_tb := jj_in 1242 (by decide +kernel) (by decide +kernel)
theorem se_X10_isAncestor : Cond.selects RX10 yX10_isAncestor yX10_isAncestor ∈ jj_tb := jj_in 52 (by decide +kernel) (by decide +kernel)
theorem cm_X10_baseOf : jj_cm mX10_baseOf 2 := ⟨jj_in 1239 (by decide +kernel) (by decide +kernel), it_X10, by decide +kernel, by decide +kernel, by decide +kernel⟩
theorem im_X10_baseOf : Cond.instanceMethod yX10_baseOf ∈ jj_tb := jj_in 1238 (by decide +kernel) (by decide +kernel)
theorem se_X10_baseOf : Cond.selects RX10 yX10_baseOf yX10_baseOf ∈ jj_tb := jj_in 51 (by decide +kernel) (by decide +kernel)
theorem cm_X10_base : jj_cm mX10_base 2 := ⟨jj_in 1235 (by decide +kernel) (by decide +kernel), it_X10, by decide +kernel, by decide +kernel, by decide +kernel⟩
theorem im_X10_base : Cond.instanceMethod yX10_base ∈ jj_tb := jj_in 1233 (by decide +kernel) (by decide +kernel)
theorem se_X10_base : Cond.selects RX10 yX10_base yX10_base ∈ jj_tb := jj_in 1234 (by decide +kernel) (by decide +kernel)
theorem cm_X10_reset : jj_cm mX10_reset 0 := ⟨jj_in 1247 (by decide +kernel) (by decide +kernel), it_X10, by decide +kernel, by decide +kernel, by decide +kernel⟩
theorem im_X10_reset : Cond.instanceMethod yX10_reset ∈ jj_tb := jj_in 1245 (by decide +kernel) (by decide +kernel)
theorem se_X10_reset : Cond.selects RX10 yX10_reset yX10_reset ∈ jj_tb := jj_in 1246 (by decide +kernel) (by decide +kernel)
theorem cm_X10_sweep : jj_cm mX10_sweep 0 := ⟨jj_in 1251 (by decide +kernel) (by decide +kernel), it_X10, by decide +kernel, by decide +kernel, by decide +kernel⟩
theorem im_X10_sweep : Cond.instanceMethod yX10_sweep ∈ jj_tb := jj_in 1249 (by decide +kernel) (by decide +kernel)
theorem se_X10_sweep : Cond.selects RX10 yX10_sweep yX10_sweep ∈ jj_tb := jj_in 1250 (by decide +kernel) (by decide +kernel)
theorem cm_X10_diff : jj_cm mX10_diff 3 := ⟨jj_in 1256 (by decide +kernel) (by decide +kernel), it_X10, by decide +kernel, by decide +kernel, by decide +kernel⟩
theorem im_X10_diff : Cond.instanceMethod yX10_diff ∈ jj_tb := jj_in 1254 (by decide +kernel) (by decide +kernel)
theorem se_X10_diff : Cond.selects RX10 yX10_diff yX10_diff ∈ jj_tb := jj_in 1255 (by decide +kernel) (by decide +kernel)
theorem cm_X10_diffKey : jj_cm mX10_diffKey 1 := ⟨jj_in 1260 (by decide +kernel) (by decide +kernel), it_X10, by decide +kernel, by decide +kernel, by decide +kernel⟩
theorem im_X10_diffKey : Cond.instanceMethod yX10_diffKey ∈ jj_tb := jj_in 1258 (by decide +kernel) (by decide +kernel)
theorem se_X10_diffKey : Cond.selects RX10 yX10_diffKey yX10_diffKey ∈ jj_tb := jj_in 1259 (by decide +kernel) (by decide +kernel)
theorem cm_X10_diffKind : jj_cm mX10_diffKind 1 := ⟨jj_in 1264 (by decide +kernel) (by decide +kernel), it_X10, by decide +kernel, by decide +kernel, by decide +kernel⟩
theorem im_X10_diffKind : Cond.instanceMethod yX10_diffKind ∈ jj_tb := jj_in 1262 (by decide +kernel) (by decide +kernel)
theorem se_X10_diffKind : Cond.selects RX10 yX10_diffKind yX10_diffKind ∈ jj_tb := jj_in 1263 (by decide +kernel) (by decide +kernel)
theorem cm_X10_areAlike : jj_cm mX10_areAlike 2 := ⟨jj_in 1285 (by decide +kernel) (by decide +kernel), it_X10, by decide +kernel, by decide +kernel, by decide +kernel⟩
theorem im_X10_areAlike : Cond.instanceMethod yX10_areAlike ∈ jj_tb := jj_in 1284 (by decide +kernel) (by decide +kernel)
theorem se_X10_areAlike : Cond.selects RX10 yX10_areAlike yX10_areAlike ∈ jj_tb := jj_in 56 (by decide +kernel) (by decide +kernel)
theorem cm_X10_bring : jj_cm mX10_bring 3 := ⟨jj_in 1289 (by decide +kernel) (by decide +kernel), it_X10, by decide +kernel, by decide +kernel, by decide +kernel⟩
theorem im_X10_bring : Cond.instanceMethod yX10_bring ∈ jj_tb := jj_in 1288 (by decide +kernel) (by decide +kernel)
theorem se_X10_bring : Cond.selects RX10 yX10_bring yX10_bring ∈ jj_tb := jj_in 57 (by decide +kernel) (by decide +kernel)
theorem cm_X10_bringKey : jj_cm mX10_bringKey 5 := ⟨jj_in 1281 (by decide +kernel) (by decide +kernel), it_X10, by decide +kernel, by decide +kernel, by decide +kernel⟩
theorem im_X10_bringKey : Cond.instanceMethod yX10_bringKey ∈ jj_tb := jj_in 1280 (by decide +kernel) (by decide +kernel)
theorem se_X10_bringKey : Cond.selects RX10 yX10_bringKey yX10_bringKey ∈ jj_tb := jj_in 55 (by decide +kernel) (by decide +kernel)
theorem cm_X10_nextKey : jj_cm mX10_nextKey 5 := ⟨jj_in 1277 (by decide +kernel) (by decide +kernel), it_X10, by decide +kernel, by decide +kernel, by decide +kernel⟩
theorem im_X10_nextKey : Cond.instanceMethod yX10_nextKey ∈ jj_tb := jj_in 1276 (by decide +kernel) (by decide +kernel)
theorem se_X10_nextKey : Cond.selects RX10 yX10_nextKey yX10_nextKey ∈ jj_tb := jj_in 54 (by decide +kernel) (by decide +kernel)
theorem cm_X10_together : jj_cm mX10_together 3 := ⟨jj_in 1272 (by decide +kernel) (by decide +kernel), it_X10, by decide +kernel, by decide +kernel, by decide +kernel⟩
theorem im_X10_together : Cond.instanceMethod yX10_together ∈ jj_tb := jj_in 1271 (by decide +kernel) (by decide +kernel)
theorem se_X10_together : Cond.selects RX10 yX10_together yX10_together ∈ jj_tb := jj_in 53 (by decide +kernel) (by decide +kernel)
theorem cm_X10_merge : jj_cm mX10_merge 1 := ⟨jj_in 1268 (by decide +kernel) (by decide +kernel), it_X10, by decide +kernel, by decide +kernel, by decide +kernel⟩
theorem im_X10_merge : Cond.instanceMethod yX10_merge ∈ jj_tb := jj_in 1266 (by decide +kernel) (by decide +kernel)
theorem se_X10_merge : Cond.selects RX10 yX10_merge yX10_merge ∈ jj_tb := jj_in 1267 (by decide +kernel) (by decide +kernel)
theorem cm_X10_change : jj_cm mX10_change 2 := ⟨jj_in 1297 (by decide +kernel) (by decide +kernel), it_X10, by decide +kernel, by decide +kernel, by decide +kernel⟩
theorem im_X10_change : Cond.instanceMethod yX10_change ∈ jj_tb := jj_in 1296 (by decide +kernel) (by decide +kernel)
theorem se_X10_change : Cond.selects RX10 yX10_change yX10_change ∈ jj_tb := jj_in 58 (by decide +kernel) (by decide +kernel)
theorem cm_X10_pick : jj_cm mX10_pick 1 := ⟨jj_in 1293 (by decide +kernel) (by decide +kernel), it_X10, by decide +kernel, by decide +kernel, by decide +kernel⟩
theorem im_X10_pick : Cond.instanceMethod yX10_pick ∈ jj_tb := jj_in 1291 (by decide +kernel) (by decide +kernel)
theorem se_X10_pick : Cond.selects RX10 yX10_pick yX10_pick ∈ jj_tb := jj_in 1292 (by decide +kernel) (by decide +kernel)
theorem cm_X10_undo : jj_cm mX10_undo 1 := ⟨jj_in 1301 (by decide +kernel) (by decide +kernel), it_X10, by decide +kernel, by decide +kernel, by decide +kernel⟩
theorem im_X10_undo : Cond.instanceMethod yX10_undo ∈ jj_tb := jj_in 1299 (by decide +kernel) (by decide +kernel)
theorem se_X10_undo : Cond.selects RX10 yX10_undo yX10_undo ∈ jj_tb := jj_in 1300 (by decide +kernel) (by decide +kernel)
theorem cm_X10_merging : jj_cm mX10_merging 0 := ⟨jj_in 1305 (by decide +kernel) (by decide +kernel), it_X10, by decide +kernel, by decide +kernel, by decide +kernel⟩
theorem im_X10_merging : Cond.instanceMethod yX10_merging ∈ jj_tb := jj_in 1303 (by decide +kernel) (by decide +kernel)
theorem se_X10_merging : Cond.selects RX10 yX10_merging yX10_merging ∈ jj_tb := jj_in 1304 (by decide +kernel) (by decide +kernel)
theorem cm_X10_conflicts : jj_cm mX10_conflicts 1 := ⟨jj_in 1309 (by decide +kernel) (by decide +kernel), it_X10, by decide +kernel, by decide +kernel, by decide +kernel⟩
theorem im_X10_conflicts : Cond.instanceMethod yX10_conflicts ∈ jj_tb := jj_in 1307 (by decide +kernel) (by decide +kernel)
theorem se_X10_conflicts : Cond.selects RX10 yX10_conflicts yX10_conflicts ∈ jj_tb := jj_in 1308 (by decide +kernel) (by decide +kernel)
theorem cm_X10_conflict : jj_cm mX10_conflict 2 := ⟨jj_in 1313 (by decide +kernel) (by decide +kernel), it_X10, by decide +kernel, by decide +kernel, by decide +kernel⟩
theorem im_X10_conflict : Cond.instanceMethod yX10_conflict ∈ jj_tb := jj_in 1311 (by decide +kernel) (by decide +kernel)
theorem se_X10_conflict : Cond.selects RX10 yX10_conflict yX10_conflict ∈ jj_tb := jj_in 1312 (by decide +kernel) (by decide +kernel)
theorem cm_X10_rowOf : jj_cm mX10_rowOf 2 := ⟨jj_in 1321 (by decide +kernel) (by decide +kernel), it_X10, by decide +kernel, by decide +kernel, by decide +kernel⟩
theorem im_X10_rowOf : Cond.instanceMethod yX10_rowOf ∈ jj_tb := jj_in 1320 (by decide +kernel) (by decide +kernel)
theorem se_X10_rowOf : Cond.selects RX10 yX10_rowOf yX10_rowOf ∈ jj_tb := jj_in 59 (by decide +kernel) (by decide +kernel)
theorem cm_X10_version : jj_cm mX10_version 3 := ⟨jj_in 1317 (by decide +kernel) (by decide +kernel), it_X10, by decide +kernel, by decide +kernel, by decide +kernel⟩
theorem im_X10_version : Cond.instanceMethod yX10_version ∈ jj_tb := jj_in 1315 (by decide +kernel) (by decide +kernel)
theorem se_X10_version : Cond.selects RX10 yX10_version yX10_version ∈ jj_tb := jj_in 1316 (by decide +kernel) (by decide +kernel)
theorem cm_X10_settle : jj_cm mX10_settle 2 := ⟨jj_in 1325 (by decide +kernel) (by decide +kernel), it_X10, by decide +kernel, by decide +kernel, by decide +kernel⟩
theorem im_X10_settle : Cond.instanceMethod yX10_settle ∈ jj_tb := jj_in 1323 (by decide +kernel) (by decide +kernel)
theorem se_X10_settle : Cond.selects RX10 yX10_settle yX10_settle ∈ jj_tb := jj_in 1324 (by decide +kernel) (by decide +kernel)
theorem cm_X10_send : jj_cm mX10_send 1 := ⟨jj_in 1329 (by decide +kernel) (by decide +kernel), it_X10, by decide +kernel, by decide +kernel, by decide +kernel⟩
theorem im_X10_send : Cond.instanceMethod yX10_send ∈ jj_tb := jj_in 1327 (by decide +kernel) (by decide +kernel)
theorem se_X10_send : Cond.selects RX10 yX10_send yX10_send ∈ jj_tb := jj_in 1328 (by decide +kernel) (by decide +kernel)
theorem cm_X10_fetch : jj_cm mX10_fetch 1 := ⟨jj_in 1333 (by decide +kernel) (by decide +kernel), it_X10, by decide +kernel, by decide +kernel, by decide +kernel⟩
theorem im_X10_fetch : Cond.instanceMethod yX10_fetch ∈ jj_tb := jj_in 1331 (by decide +kernel) (by decide +kernel)
theorem se_X10_fetch : Cond.selects RX10 yX10_fetch yX10_fetch ∈ jj_tb := jj_in 1332 (by decide +kernel) (by decide +kernel)
theorem cm_X10_there : jj_cm mX10_there 1 := ⟨jj_in 1337 (by decide +kernel) (by decide +kernel), it_X10, by decide +kernel, by decide +kernel, by decide +kernel⟩
theorem im_X10_there : Cond.instanceMethod yX10_there ∈ jj_tb := jj_in 1335 (by decide +kernel) (by decide +kernel)
theorem se_X10_there : Cond.selects RX10 yX10_there yX10_there ∈ jj_tb := jj_in 1336 (by decide +kernel) (by decide +kernel)
theorem cm_X10_kept : jj_cm mX10_kept 1 := ⟨jj_in 1341 (by decide +kernel) (by decide +kernel), it_X10, by decide +kernel, by decide +kernel, by decide +kernel⟩
theorem im_X10_kept : Cond.instanceMethod yX10_kept ∈ jj_tb := jj_in 1339 (by decide +kernel) (by decide +kernel)
theorem se_X10_kept : Cond.selects RX10 yX10_kept yX10_kept ∈ jj_tb := jj_in 1340 (by decide +kernel) (by decide +kernel)
theorem cm_J13_bitCount_95d88 : jj_cm mJ13_bitCount_95d88 1 := ⟨jj_in 730 (by decide +kernel) (by decide +kernel), it_J13, by decide +kernel, by decide +kernel, by decide +kernel⟩
theorem sm_J13_bitCount_95d88 : Cond.static yJ13_bitCount_95d88 ∈ jj_tb := jj_in 729 (by decide +kernel) (by decide +kernel)
theorem cm_J9_max_7cf53 : jj_cm mJ9_max_7cf53 2 := ⟨jj_in 95 (by decide +kernel) (by decide +kernel), it_J9, by decide +kernel, by decide +kernel, by decide +kernel⟩
theorem sm_J9_max_7cf53 : Cond.static yJ9_max_7cf53 ∈ jj_tb := jj_in 94 (by decide +kernel) (by decide +kernel)
theorem cm_J9_min_7cf53 : jj_cm mJ9_min_7cf53 2 := ⟨jj_in 431 (by decide +kernel) (by decide +kernel), it_J9, by decide +kernel, by decide +kernel, by decide +kernel⟩
theorem sm_J9_min_7cf53 : Cond.static yJ9_min_7cf53 ∈ jj_tb := jj_in 430 (by decide +kernel) (by decide +kernel)
theorem cm_J9_min_f86c9 : jj_cm mJ9_min_f86c9 2 := ⟨jj_in 762 (by decide +kernel) (by decide +kernel), it_J9, by decide +kernel, by decide +kernel, by decide +kernel⟩
theorem sm_J9_min_f86c9 : Cond.static yJ9_min_f86c9 ∈ jj_tb := jj_in 761 (by decide +kernel) (by decide +kernel)
theorem cm_J7_fill_53178 : jj_cm mJ7_fill_53178 2 := ⟨jj_in 177 (by decide +kernel) (by decide +kernel), it_J7, by decide +kernel, by decide +kernel, by decide +kernel⟩
theorem sm_J7_fill_53178 : Cond.static yJ7_fill_53178 ∈ jj_tb := jj_in 176 (by decide +kernel) (by decide +kernel)
theorem cm_J7_copyOf_59c91 : jj_cm mJ7_copyOf_59c91 2 := ⟨jj_in 485 (by decide +kernel) (by decide +kernel), it_J7, by decide +kernel, by decide +kernel, by decide +kernel⟩
theorem sm_J7_copyOf_59c91 : Cond.static yJ7_copyOf_59c91 ∈ jj_tb := jj_in 484 (by decide +kernel) (by decide +kernel)
end
section
def jj_vi (F : Int32 → Prop) (v : Value) : Prop := match v with
  | .int x => F x
  | _ => False
def jj_vj (F : Int64 → Prop) (v : Value) : Prop := match v with
  | .long x => F x
  | _ => False
def jj_vr (F : Nat → Prop) (v : Value) : Prop := match v with
  | .ref x => F x
  | _ => False
section JV
variable {d : jj_D} {K : jj_M} {bc bs pc : Nat} {L : List (Nat × Value)} {st : List Value} {h : jj_H} {Q : Value → jj_H → Prop} {v : Value}
theorem jj_vi_e {F : Int32 → Prop} (k : ∀ x, F x → jj_WP d K bc bs pc L (.int x :: st) h Q) (H : jj_vi F v) : jj_WP d K bc bs pc L (v :: st) h Q := by
  cases v <;> first | exact k _ H | exact absurd H (by simp [jj_vi])
theorem jj_vj_e {F : Int64 → Prop} (k : ∀ x, F x → jj_WP d K bc bs pc L (.long x :: st) h Q) (H : jj_vj F v) : jj_WP d K bc bs pc L (v :: st) h Q := by
  cases v <;> first | exact k _ H | exact absurd H (by simp [jj_vj])
theorem jj_vr_e {F : Nat → Prop} (k : ∀ x, F x → jj_WP d K bc bs pc L (.ref x :: st) h Q) (H : jj_vr F v) : jj_WP d K bc bs pc L (v :: st) h Q := by
  cases v <;> first | exact k _ H | exact absurd H (by simp [jj_vr])
theorem jj_bud {cj sj : Nat} (h1 : cj ≤ bc) (h2 : sj ≤ bs) (k : jj_WP d K (bc - cj + cj) (bs - sj + sj) pc L st h Q) : jj_WP d K bc bs pc L st h Q := by
  rwa [Nat.sub_add_cancel h1, Nat.sub_add_cancel h2] at k
theorem jj_C.mono {as : List Value} {Q' : Value → jj_H → Prop} (H : jj_C K bc bs as h Q') (hq : ∀ v h, Q' v h → Q v h) : jj_C K bc bs as h Q := by
  intro l d p e ha hc hk s m args below hf happ hP hT
  obtain ⟨k, o, h1, h2, h3, ⟨⟨⟨v, h', e1, e2, e3⟩, e4⟩, e5⟩⟩ := H l d p e ha hc hk s m args below hf happ hP hT
  exact ⟨k, o, h1, h2, h3, ⟨⟨v, h', e1, hq v h' e2, e3⟩, e4⟩, e5⟩
theorem j_callV0 {K' : jj_M} {n ci idx a : Nat} {T : u_T} {N : Nat} {as stk : List Value} (cm : jj_cm K' n) (hi : Cond.instanceMethod K'.1 ∈ jj_tb) (hs : Cond.selects K'.1.cls K'.1 K'.1 ∈ jj_tb) (hcl : jj_cl[ci]? = some (K'.1.cls, T, N)) (hci : ci < 19) (hl : Cond.methodLink K.1.cls idx K'.1 ∈ jj_tb) (hR : jj_rm K' K) (dg : decode K.2.1 pc = .ok (.invokevirtual idx, 3)) (hn : as.length = n) (hstk : stk = as.reverse ++ .ref a :: st) (hro : (st.map fun v => v.category).sum ≤ 8) (hk : jK h a = ci + 1)
    (k : jj_C K' 0 0 (.ref a :: as) h (fun v h1 => jj_WP d K bc bs (pc + 3) L (jj_pu K'.2.2.2.1 v st) h1 Q)) : jj_WP d K bc bs pc L stk h Q := j_callV (cj := 0) (sj := 0) cm hi hs hcl hci hl hR dg hn hstk hro hk k
theorem j_callS0 {K' : jj_M} {n idx : Nat} {as stk : List Value} (cm : jj_cm K' n) (hi : Cond.static K'.1 ∈ jj_tb) (hl : Cond.methodLink K.1.cls idx K'.1 ∈ jj_tb) (hR : jj_rm K' K) (dg : decode K.2.1 pc = .ok (.invokestatic idx, 3)) (hn : as.length = n) (hstk : stk = as.reverse ++ st) (hro : (st.map fun v => v.category).sum ≤ 8)
    (k : jj_C K' 0 0 as h (fun v h1 => jj_WP d K bc bs (pc + 3) L (jj_pu K'.2.2.2.1 v st) h1 Q)) : jj_WP d K bc bs pc L stk h Q := j_callS (cj := 0) (sj := 0) cm hi hl hR dg hn hstk hro k
theorem j_callSN0 {K' : jj_M} {n idx : Nat} {host : String} {as stk : List Value} (cm : jj_cm K' n) (hi : Cond.static K'.1 ∈ jj_tb) (hl : (K.1.cls, idx, K'.1, host) ∈ jj_nl) (hR : jj_rm K' K) (dg : decode K.2.1 pc = .ok (.invokestatic idx, 3)) (hn : as.length = n) (hstk : stk = as.reverse ++ st) (hro : (st.map fun v => v.category).sum ≤ 8)
    (k : jj_C K' 0 0 as h (fun v h1 => jj_WP d K bc bs (pc + 3) L (jj_pu K'.2.2.2.1 v st) h1 Q)) : jj_WP d K bc bs pc L stk h Q := j_callSN (cj := 0) (sj := 0) cm hi hl hR dg hn hstk hro k
theorem j_callI0 {K' : jj_M} {n idx a : Nat} {as stk : List Value} (cm : jj_cm K' n) (hi : Cond.instanceMethod K'.1 ∈ jj_tb) (hy : K'.1.name = "<init>") (hr0 : K'.2.2.2.1 = none) (hl : Cond.methodLink K.1.cls idx K'.1 ∈ jj_tb) (hR : jj_rm K' K) (dg : decode K.2.1 pc = .ok (.invokespecial idx, 3)) (hn : as.length = n) (hstk : stk = as.reverse ++ .ref a :: st) (hro : (st.map fun v => v.category).sum ≤ 8) (ha : a ≠ 0)
    (k : jj_C K' 0 0 (.ref a :: as) h (fun v h1 => jj_WP d K bc bs (pc + 3) L (jj_pu K'.2.2.2.1 v st) h1 Q)) : jj_WP d K bc bs pc L stk h Q := j_callI (cj := 0) (sj := 0) cm hi hy hr0 hl hR dg hn hstk hro ha k
theorem j_callIN0 {K' : jj_M} {n idx a : Nat} {host : String} {as stk : List Value} (cm : jj_cm K' n) (hi : Cond.instanceMethod K'.1 ∈ jj_tb) (hy : K'.1.name = "<init>") (hr0 : K'.2.2.2.1 = none) (hl : (K.1.cls, idx, K'.1, host) ∈ jj_nl) (hR : jj_rm K' K) (dg : decode K.2.1 pc = .ok (.invokespecial idx, 3)) (hn : as.length = n) (hstk : stk = as.reverse ++ .ref a :: st) (hro : (st.map fun v => v.category).sum ≤ 8) (ha : a ≠ 0)
    (k : jj_C K' 0 0 (.ref a :: as) h (fun v h1 => jj_WP d K bc bs (pc + 3) L (jj_pu K'.2.2.2.1 v st) h1 Q)) : jj_WP d K bc bs pc L stk h Q := j_callIN (cj := 0) (sj := 0) cm hi hy hr0 hl hR dg hn hstk hro ha k
end JV
end
section
/-! calls that the machine does itself: Math.max, min; clone of an int array -/
section JSPEC
variable {d : jj_D} {K : jj_M} {bc bs pc : Nat} {L : List (Nat × Value)} {st : List Value} {h : jj_H} {Q : Value → jj_H → Prop}
theorem j_mmax {idx : Nat} {x y : Int32} (hl : Cond.methodLink K.1.cls idx Lib.Math.max.name ∈ jj_tb) (hs : Cond.static Lib.Math.max.name ∈ jj_tb) (hi : Cond.initialized "java/lang/Math" ∈ jj_tb) (hc : Cond.code Lib.Math.max.name Lib.Math.max.code 2 (some .int) ∈ jj_tb) (hfr : 1 ≤ K.2.2.2.2.1) (hlo : 21 ≤ K.2.2.2.2.2) (dg : decode K.2.1 pc = .ok (.invokestatic idx, 3)) (hro : (st.map fun v => v.category).sum ≤ 8) (k : jj_WP d K bc bs (pc + 3) L (.int (if x < y then y else x) :: st) h Q) : jj_WP d K bc bs pc L (.int y :: .int x :: st) h Q := by
  intro p l e R s m args below meth c mc ms Z C RR H locs cells slots ls S
  have hts := C.2.2.2.2.2.2.1
  have b1 := S.2.2.1
  have b2 := S.2.2.2.1
  have b3 := C.2.2.2.2.2.2.2.2.2.2.1
  have b4 := C.2.2.2.2.2.2.2.2.2.2.2.1
  have b5 := C.2.2.2.2.2.2.2.2.1
  have b6 := C.2.2.2.2.2.2.2.2.2.1
  exact va_mmax C.1 C.2.1 (by rw [C.2.2.1]; exact S.2.2.2.2.1.symm) C.2.2.2.2.2.1 (hts _ hl) (hts _ hs) (hts _ hi) (hts _ hc) (by omega) (by rw [jj_sum]; omega) (by omega) (by omega) dg (k p l e R s m args below meth c mc ms Z C RR H locs cells slots ls S)
theorem j_mmin {idx : Nat} {x y : Int32} (hl : Cond.methodLink K.1.cls idx Lib.Math.min.name ∈ jj_tb) (hs : Cond.static Lib.Math.min.name ∈ jj_tb) (hi : Cond.initialized "java/lang/Math" ∈ jj_tb) (hc : Cond.code Lib.Math.min.name Lib.Math.min.code 2 (some .int) ∈ jj_tb) (hfr : 1 ≤ K.2.2.2.2.1) (hlo : 21 ≤ K.2.2.2.2.2) (dg : decode K.2.1 pc = .ok (.invokestatic idx, 3)) (hro : (st.map fun v => v.category).sum ≤ 8) (k : jj_WP d K bc bs (pc + 3) L (.int (if y < x then y else x) :: st) h Q) : jj_WP d K bc bs pc L (.int y :: .int x :: st) h Q := by
  intro p l e R s m args below meth c mc ms Z C RR H locs cells slots ls S
  have hts := C.2.2.2.2.2.2.1
  have b1 := S.2.2.1
  have b2 := S.2.2.2.1
  have b3 := C.2.2.2.2.2.2.2.2.2.2.1
  have b4 := C.2.2.2.2.2.2.2.2.2.2.2.1
  have b5 := C.2.2.2.2.2.2.2.2.1
  have b6 := C.2.2.2.2.2.2.2.2.2.1
  exact va_mmin C.1 C.2.1 (by rw [C.2.2.1]; exact S.2.2.2.2.1.symm) C.2.2.2.2.2.1 (hts _ hl) (hts _ hs) (hts _ hi) (hts _ hc) (by omega) (by rw [jj_sum]; omega) (by omega) (by omega) dg (k p l e R s m args below meth c mc ms Z C RR H locs cells slots ls S)
theorem j_mminl {idx : Nat} {x y : Int64} (hl : Cond.methodLink K.1.cls idx Lib.MathLoose.min_long.x ∈ jj_tb) (hs : Cond.static Lib.MathLoose.min_long.x ∈ jj_tb) (hi : Cond.initialized "java/lang/Math" ∈ jj_tb) (hc : Cond.code Lib.MathLoose.min_long.x Lib.MathLoose.min_long.code 4 (some .long) ∈ jj_tb) (hfr : 1 ≤ K.2.2.2.2.1) (hlo : 23 ≤ K.2.2.2.2.2) (dg : decode K.2.1 pc = .ok (.invokestatic idx, 3)) (hro : (st.map fun v => v.category).sum ≤ 8) (k : jj_WP d K bc bs (pc + 3) L (.long (if y < x then y else x) :: st) h Q) : jj_WP d K bc bs pc L (.long y :: .long x :: st) h Q := by
  intro p l e R s m args below meth c mc ms Z C RR H locs cells slots ls S
  have hts := C.2.2.2.2.2.2.1
  have b1 := S.2.2.1
  have b2 := S.2.2.2.1
  have b3 := C.2.2.2.2.2.2.2.2.2.2.1
  have b4 := C.2.2.2.2.2.2.2.2.2.2.2.1
  have b5 := C.2.2.2.2.2.2.2.2.1
  have b6 := C.2.2.2.2.2.2.2.2.2.1
  exact va_mmin_long C.1 C.2.1 (by rw [C.2.2.1]; exact S.2.2.2.2.1.symm) C.2.2.2.2.2.1 (hts _ hl) (hts _ hs) (hts _ hi) (hts _ hc) (by omega) (by rw [jj_sum]; omega) (by omega) (by omega) dg (k p l e R s m args below meth c mc ms Z C RR H locs cells slots ls S)
/-- a new array with the ints of an old one -/
def wK (h : jj_H) (a : Nat) : jj_H := wC (wA h 21 (jN h a)) a 0 (jZ h + 1) 0 (jN h a)
theorem j_clone {idx a : Nat} (hl : Cond.methodLink K.1.cls idx ⟨"[I", "clone", "()Ljava/lang/Object;"⟩ ∈ jj_tb) (hsa : Cond.sameMethod "[I" "java/lang/Object" "clone" "()Ljava/lang/Object;" ∈ jj_tb) (hna : Cond.native ⟨"java/lang/Object", "clone", "()Ljava/lang/Object;"⟩ ∈ jj_tb) (hin : Cond.instanceMethod ⟨"java/lang/Object", "clone", "()Ljava/lang/Object;"⟩ ∈ jj_tb) (hse : Cond.selects "[I" ⟨"[I", "clone", "()Ljava/lang/Object;"⟩ ⟨"java/lang/Object", "clone", "()Ljava/lang/Object;"⟩ ∈ jj_tb) (hfr : 1 ≤ K.2.2.2.2.1) (hlo : 60 ≤ K.2.2.2.2.2) (dg : decode K.2.1 pc = .ok (.invokevirtual idx, 3)) (hro : (st.map fun v => v.category).sum ≤ 8) (hk : jK h a = 21) (k : jj_WP d K bc bs (pc + 3) L (.ref (jZ h + 1) :: st) (wK h a) Q) : jj_WP d K (bc + 1) (bs + jN h a) pc L (.ref a :: st) h Q := by
  intro p l e R s m args below meth c mc ms Z C RR H locs cells slots ls S
  obtain ⟨q, rfl, hq, hcq⟩ := S.1.arr hk (by omega)
  have hts := C.2.2.2.2.2.2.1
  have b1 := S.2.2.1
  have b2 := S.2.2.2.1
  have b3 := C.2.2.2.2.2.2.2.2.2.2.1
  have b4 := C.2.2.2.2.2.2.2.2.2.2.2.1
  have b5 := C.2.2.2.2.2.2.2.2.1
  have b6 := C.2.2.2.2.2.2.2.2.2.1
  generalize hf : (fun i => jI h 1000 (q + 1) i) = f
  have hc0 : H[d.2.2.1 + q]? = some (vp_cell (d.2.1 21) (jN h (q + 1), .inl f)) := by rw [← hf]; exact hcq
  have hKK := C.2.2.2.2.2.2.2.1.1
  have hnm : s.vm.findClass "[I" = some (d.2.1 21) := by
    have e0 : "[" ++ FieldType.int.toString = "[I" := by decide +kernel
    rw [← e0]
    exact (hKK.2 0 _ rfl).2
  obtain ⟨c0, t0', f1, f2, f3⟩ := Cond.castable_spec (va_Nw.use (A := args) rfl C.2.2.2.2.2.2.2.1.2.2.2)
  cases hnm.symm.trans f1
  have hsz : (vp_cell (d.2.1 21) (jN h (q + 1), .inl f)).slots.size = jN h (q + 1) := arrV_size _ _ _
  have hml : c.maxLocals = ls.size := by rw [C.2.2.1]; exact S.2.2.2.2.1.symm
  intro T hT X
  obtain ⟨-, kA, hkA, comp, hkind⟩ := State.isArrayOf_alike X.warmed.alike ((hKK.2 0 _ rfl).1 0 (fun _ => .null))
  obtain ⟨-, kS, hkS, compS, hkindS⟩ := (hKK.2 0 _ rfl).1 0 (fun _ => .null)
  obtain ⟨vm', X', step⟩ := X.cloneArray C.1 C.2.2.2.2.2.1 (hts _ hl) (hts _ hsa) (hts _ hna) (hts _ hin) (hts _ hse) (a := d.2.2.1 + q) (cell := vp_cell (d.2.1 21) (jN h (q + 1), .inl f)) (by rw [hT]; exact hc0) (fun k h => by cases h) (fun h => by cases h) hnm f2 f3
    (fun i v hv => by
      have hk' : T.vm.classes[d.2.1 21]? = some kA := hkA
      have hft : fits .int v = true := va_fit (cA := d.2.1 21) (n := jN h (q + 1)) (F := fun j => .int (f j)) (fun i _ => rfl) i v hv
      simpa [State.fitsSlot, State.slotType?, hk', hkind, vp_cell, arrV] using hft)
    (g := F0 m pc ls ((Value.ref (q + 1) :: st).map (jj_rv d.2.2.1 d.2.2.2.1))) (rest := st.map (jj_rv d.2.2.1 d.2.2.2.1)) rfl (by rw [hml]) rfl (by rw [C.2.1]; exact dg) (by omega) (by show 2 * 0 + ((st.map (jj_rv d.2.2.1 d.2.2.2.1)).map fun v => v.category).sum + 14 ≤ _; rw [jj_sum]; omega) (by omega) (by rw [hsz]; omega) (hloader := Vm.clonesLoader_of_array hkS hkindS)
  have hcellE : ({ cls := (vp_cell (d.2.1 21) (jN h (q + 1), .inl f)).cls, slots := (vp_cell (d.2.1 21) (jN h (q + 1), .inl f)).slots } : Cell) = vp_cell (d.2.1 21) (jN h (q + 1), .inl f) := rfl
  rw [hcellE, hsz] at X'
  generalize hH1 : H.push (vp_cell (d.2.1 21) (jN h (q + 1), .inl f)) = H1
  have z1 : H1.size = H.size + 1 := by rw [← hH1, Array.size_push]
  have e1 : H1[H.size]? = some (vp_cell (d.2.1 21) (jN h (q + 1), .inl f)) := by rw [← hH1, Array.getElem?_push_size]
  have o1 : ∀ x : Nat, x < H.size → H1[x]? = H[x]? := fun x hx => by rw [← hH1, Array.getElem?_push, if_neg (Nat.ne_of_lt hx)]
  have hne : q + 1 ≠ jZ h + 1 := by omega
  have hP1 : jj_P d.1 d.2.1 d.2.2.1 (wK h (q + 1)) H1 := by
    obtain ⟨p1, p2, p3⟩ := S.1
    refine ⟨by rw [z1, p1]; rfl, fun x hx => ?_, fun j hj => ?_⟩
    · have hx' : (if x = jZ h + 1 then 21 else jK h x) ≠ 0 := hx
      show ∃ i, x = i + 1 ∧ i < jZ h + 1
      by_cases hh : x = jZ h + 1
      · exact ⟨jZ h, hh, by omega⟩
      · rw [if_neg hh] at hx'
        obtain ⟨i, g1, g2⟩ := p2 x hx'
        exact ⟨i, g1, by omega⟩
    · have hj' : j < jZ h + 1 := hj
      by_cases hh : j = jZ h
      · subst hh
        rw [← p1, jj_E_arr (k := 21) (by show (if jZ h + 1 = jZ h + 1 then 21 else jK h _) = 21; rw [if_pos rfl]) (by omega)]
        show H1[H.size]? = some (vp_cell _ _)
        rw [e1, ← hf]
        show some (arrV (d.2.1 21) (jN h (q + 1)) (fun j => .int (jI h 1000 (q + 1) j))) = some (arrV (d.2.1 21) (if jZ h + 1 = jZ h + 1 then jN h (q + 1) else jN h _) (fun j => .int (jI (wK h (q + 1)) 1000 (jZ h + 1) j)))
        rw [if_pos rfl]
        refine congrArg some (jj_arrV_congr fun j hj => ?_)
        unfold wK
        rw [jI_wC, if_pos ⟨rfl, rfl⟩, pk_cpy_in (by omega) (by omega), jI_wA, if_neg hne]
        simp
      · rw [show jj_E d.2.1 d.2.2.1 (wK h (q + 1)) (j + 1) = jj_E d.2.1 d.2.2.1 h (j + 1) from by unfold wK; rw [jj_E_wC (by omega), jj_E_wA (by omega)]]
        exact (p3 j (by omega)).kept (o1 (d.2.2.1 + j) (by omega))
  obtain ⟨t, a1, b1'⟩ := k p l e R s m args below meth c mc ms Z C RR H1 locs (cells + 1) (slots + jN h (q + 1)) ls ⟨hP1, jj_S.push S.2.1 z1 o1, by omega, by omega, S.2.2.2.2⟩ ((T.setVm vm').pushCell (vp_cell (d.2.1 21) (jN h (q + 1), .inl f))) (by rw [← hH1, ← hT]; rfl) X'
  refine ⟨t, step t ?_, b1'⟩
  rw [hcellE, hT]
  rw [List.map_cons, jj_rv_new S.1] at a1
  exact a1
theorem j_castI {idx a : Nat} (hl : Cond.classLink K.1.cls idx "[I" ∈ jj_tb) (dg : decode K.2.1 pc = .ok (.checkcast idx, 3)) (hk : jK h a = 21) (k : jj_WP d K bc bs (pc + 3) L (.ref a :: st) h Q) : jj_WP d K bc bs pc L (.ref a :: st) h Q := by
  intro p l e R s m args below meth c mc ms Z C RR H locs cells slots ls S
  obtain ⟨q, rfl, hq, hcq⟩ := S.1.arr hk (by omega)
  have hnm : s.vm.findClass "[I" = some (d.2.1 21) := by
    have e0 : "[" ++ FieldType.int.toString = "[I" := by decide +kernel
    rw [← e0]
    exact (C.2.2.2.2.2.2.2.1.1.2 0 _ rfl).2
  exact va_castA C.1 C.2.1 C.2.2.2.2.2.1 (C.2.2.2.2.2.2.1 _ hl) (jj_one hcq) 0 rfl hnm dg (k p l e R s m args below meth c mc ms Z C RR H locs cells slots ls S)
theorem ml_max_X6_9 : Cond.methodLink RX6 9 Lib.Math.max.name ∈ jj_tb := jj_in 93 (by decide +kernel) (by decide +kernel)
theorem sm_max : Cond.static Lib.Math.max.name ∈ jj_tb := jj_in 94 (by decide +kernel) (by decide +kernel)
theorem co_max : Cond.code Lib.Math.max.name Lib.Math.max.code 2 (some .int) ∈ jj_tb := jj_in 95 (by decide +kernel) (by decide +kernel)
theorem it_Math : Cond.initialized "java/lang/Math" ∈ jj_tb := it_J9
theorem ml_min_X8_49 : Cond.methodLink RX8 49 Lib.Math.min.name ∈ jj_tb := jj_in 429 (by decide +kernel) (by decide +kernel)
theorem ml_min_J7_304 : Cond.methodLink RJ7 304 Lib.Math.min.name ∈ jj_tb := jj_in 493 (by decide +kernel) (by decide +kernel)
theorem sm_min : Cond.static Lib.Math.min.name ∈ jj_tb := jj_in 430 (by decide +kernel) (by decide +kernel)
theorem co_min : Cond.code Lib.Math.min.name Lib.Math.min.code 2 (some .int) ∈ jj_tb := jj_in 431 (by decide +kernel) (by decide +kernel)
theorem ml_minl_X1_28 : Cond.methodLink RX1 28 Lib.MathLoose.min_long.x ∈ jj_tb := jj_in 760 (by decide +kernel) (by decide +kernel)
theorem ml_minl_X2_76 : Cond.methodLink RX2 76 Lib.MathLoose.min_long.x ∈ jj_tb := jj_in 804 (by decide +kernel) (by decide +kernel)
theorem sm_minl : Cond.static Lib.MathLoose.min_long.x ∈ jj_tb := jj_in 761 (by decide +kernel) (by decide +kernel)
theorem co_minl : Cond.code Lib.MathLoose.min_long.x Lib.MathLoose.min_long.code 4 (some .long) ∈ jj_tb := jj_in 762 (by decide +kernel) (by decide +kernel)
theorem ml_clone : Cond.methodLink RJ7 316 ⟨"[I", "clone", "()Ljava/lang/Object;"⟩ ∈ jj_tb := jj_in 486 (by decide +kernel) (by decide +kernel)
theorem sa_clone : Cond.sameMethod "[I" "java/lang/Object" "clone" "()Ljava/lang/Object;" ∈ jj_tb := jj_in 487 (by decide +kernel) (by decide +kernel)
theorem na_clone : Cond.native ⟨"java/lang/Object", "clone", "()Ljava/lang/Object;"⟩ ∈ jj_tb := jj_in 488 (by decide +kernel) (by decide +kernel)
theorem im_clone : Cond.instanceMethod ⟨"java/lang/Object", "clone", "()Ljava/lang/Object;"⟩ ∈ jj_tb := jj_in 489 (by decide +kernel) (by decide +kernel)
theorem se_clone : Cond.selects "[I" ⟨"[I", "clone", "()Ljava/lang/Object;"⟩ ⟨"java/lang/Object", "clone", "()Ljava/lang/Object;"⟩ ∈ jj_tb := jj_in 490 (by decide +kernel) (by decide +kernel)
theorem cl_J7_317 : Cond.classLink RJ7 317 "[I" ∈ jj_tb := jj_in 492 (by decide +kernel) (by decide +kernel)
end JSPEC
end
