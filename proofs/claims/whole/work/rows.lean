section
-- ===== PART A: goes FIRST, ahead of the names: the tables' words, and 'selects' of the private methods out of them =====
/-- a private method of a class that the tables say can be made, by its rows of tables_1 -/
def lw_okq (q : MethodName × Nat) : Prop := (q.1.cls ≠ "java/lang/invoke/MethodHandle" ∧ q.1.cls ≠ "java/lang/invoke/VarHandle") ∧ Cond.instantiable q.1.cls q.2 ∈ tables_1 ∧ Cond.privateMethod q.1 ∈ tables_1 ∧ Cond.instanceMethod q.1 ∈ tables_1
theorem lw_p0 : lw_okq (⟨"GroveMerge$Tree", "putCarried", "(II)V"⟩, 6) := ⟨⟨by decide +kernel, by decide +kernel⟩, List.mem_of_getElem? (i := 29) (by decide +kernel), List.mem_of_getElem? (i := 158) (by decide +kernel), List.mem_of_getElem? (i := 159) (by decide +kernel)⟩
theorem lw_p1 : lw_okq (⟨"GroveMerge$Tree", "renumberFrom", "(I)V"⟩, 6) := ⟨⟨by decide +kernel, by decide +kernel⟩, List.mem_of_getElem? (i := 29) (by decide +kernel), List.mem_of_getElem? (i := 165) (by decide +kernel), List.mem_of_getElem? (i := 166) (by decide +kernel)⟩
theorem lw_p2 : lw_okq (⟨"GroveMerge$History", "reachOf", "(I)I"⟩, 5) := ⟨⟨by decide +kernel, by decide +kernel⟩, List.mem_of_getElem? (i := 79) (by decide +kernel), List.mem_of_getElem? (i := 177) (by decide +kernel), List.mem_of_getElem? (i := 178) (by decide +kernel)⟩
theorem lw_p3 : lw_okq (⟨"GroveMerge", "requireNode", "(I)V"⟩, 7) := ⟨⟨by decide +kernel, by decide +kernel⟩, List.mem_of_getElem? (i := 21) (by decide +kernel), List.mem_of_getElem? (i := 249) (by decide +kernel), List.mem_of_getElem? (i := 250) (by decide +kernel)⟩
theorem lw_p4 : lw_okq (⟨"java/lang/Throwable", "fillInStackTrace", "(I)Ljava/lang/Throwable;"⟩, 6) := ⟨⟨by decide +kernel, by decide +kernel⟩, List.mem_of_getElem? (i := 297) (by decide +kernel), List.mem_of_getElem? (i := 295) (by decide +kernel), List.mem_of_getElem? (i := 296) (by decide +kernel)⟩
theorem lw_p5 : lw_okq (⟨"GroveMerge$Tree", "takeOut", "(I)I"⟩, 6) := ⟨⟨by decide +kernel, by decide +kernel⟩, List.mem_of_getElem? (i := 29) (by decide +kernel), List.mem_of_getElem? (i := 413) (by decide +kernel), List.mem_of_getElem? (i := 414) (by decide +kernel)⟩
theorem lw_p6 : lw_okq (⟨"GroveMerge", "requireCommit", "(I)V"⟩, 7) := ⟨⟨by decide +kernel, by decide +kernel⟩, List.mem_of_getElem? (i := 21) (by decide +kernel), List.mem_of_getElem? (i := 455) (by decide +kernel), List.mem_of_getElem? (i := 456) (by decide +kernel)⟩
theorem lw_p7 : lw_okq (⟨"GroveMerge$History", "isReachedFromAnother", "(II)Z"⟩, 5) := ⟨⟨by decide +kernel, by decide +kernel⟩, List.mem_of_getElem? (i := 79) (by decide +kernel), List.mem_of_getElem? (i := 473) (by decide +kernel), List.mem_of_getElem? (i := 474) (by decide +kernel)⟩
theorem lw_p8 : lw_okq (⟨"GroveMerge$Merger", "settle", "(ILGroveMerge$Tree;LGroveMerge$Tree;LGroveMerge$Tree;)V"⟩, 3) := ⟨⟨by decide +kernel, by decide +kernel⟩, List.mem_of_getElem? (i := 108) (by decide +kernel), List.mem_of_getElem? (i := 515) (by decide +kernel), List.mem_of_getElem? (i := 516) (by decide +kernel)⟩
theorem lw_p9 : lw_okq (⟨"GroveMerge$Merger", "name", "(II)V"⟩, 3) := ⟨⟨by decide +kernel, by decide +kernel⟩, List.mem_of_getElem? (i := 108) (by decide +kernel), List.mem_of_getElem? (i := 520) (by decide +kernel), List.mem_of_getElem? (i := 521) (by decide +kernel)⟩
theorem lw_p10 : lw_okq (⟨"GroveMerge$Merger", "nameThoseWithoutParent", "()V"⟩, 3) := ⟨⟨by decide +kernel, by decide +kernel⟩, List.mem_of_getElem? (i := 108) (by decide +kernel), List.mem_of_getElem? (i := 527) (by decide +kernel), List.mem_of_getElem? (i := 528) (by decide +kernel)⟩
theorem lw_p11 : lw_okq (⟨"GroveMerge$Merger", "nameThoseCutOff", "()V"⟩, 3) := ⟨⟨by decide +kernel, by decide +kernel⟩, List.mem_of_getElem? (i := 108) (by decide +kernel), List.mem_of_getElem? (i := 531) (by decide +kernel), List.mem_of_getElem? (i := 532) (by decide +kernel)⟩
theorem lw_p12 : lw_okq (⟨"GroveMerge$Merger", "comesToRoot", "(I)Z"⟩, 3) := ⟨⟨by decide +kernel, by decide +kernel⟩, List.mem_of_getElem? (i := 108) (by decide +kernel), List.mem_of_getElem? (i := 535) (by decide +kernel), List.mem_of_getElem? (i := 536) (by decide +kernel)⟩
theorem lw_p13 : lw_okq (⟨"GroveMerge$Merger", "arrange", "(LGroveMerge$Tree;LGroveMerge$Tree;)V"⟩, 3) := ⟨⟨by decide +kernel, by decide +kernel⟩, List.mem_of_getElem? (i := 108) (by decide +kernel), List.mem_of_getElem? (i := 539) (by decide +kernel), List.mem_of_getElem? (i := 540) (by decide +kernel)⟩
theorem lw_p14 : lw_okq (⟨"GroveMerge$Merger", "arrangeChildren", "(ILGroveMerge$Tree;LGroveMerge$Tree;)V"⟩, 3) := ⟨⟨by decide +kernel, by decide +kernel⟩, List.mem_of_getElem? (i := 108) (by decide +kernel), List.mem_of_getElem? (i := 544) (by decide +kernel), List.mem_of_getElem? (i := 545) (by decide +kernel)⟩
theorem lw_p15 : lw_okq (⟨"GroveMerge$Merger", "isChildNowAsIn", "(LGroveMerge$Tree;II)Z"⟩, 3) := ⟨⟨by decide +kernel, by decide +kernel⟩, List.mem_of_getElem? (i := 108) (by decide +kernel), List.mem_of_getElem? (i := 548) (by decide +kernel), List.mem_of_getElem? (i := 549) (by decide +kernel)⟩
def lw_privs_1 : List (MethodName × Nat) := [(⟨"GroveMerge$Tree", "putCarried", "(II)V"⟩, 6), (⟨"GroveMerge$Tree", "renumberFrom", "(I)V"⟩, 6), (⟨"GroveMerge$History", "reachOf", "(I)I"⟩, 5), (⟨"GroveMerge", "requireNode", "(I)V"⟩, 7), (⟨"java/lang/Throwable", "fillInStackTrace", "(I)Ljava/lang/Throwable;"⟩, 6), (⟨"GroveMerge$Tree", "takeOut", "(I)I"⟩, 6), (⟨"GroveMerge", "requireCommit", "(I)V"⟩, 7), (⟨"GroveMerge$History", "isReachedFromAnother", "(II)Z"⟩, 5), (⟨"GroveMerge$Merger", "settle", "(ILGroveMerge$Tree;LGroveMerge$Tree;LGroveMerge$Tree;)V"⟩, 3), (⟨"GroveMerge$Merger", "name", "(II)V"⟩, 3), (⟨"GroveMerge$Merger", "nameThoseWithoutParent", "()V"⟩, 3), (⟨"GroveMerge$Merger", "nameThoseCutOff", "()V"⟩, 3), (⟨"GroveMerge$Merger", "comesToRoot", "(I)Z"⟩, 3), (⟨"GroveMerge$Merger", "arrange", "(LGroveMerge$Tree;LGroveMerge$Tree;)V"⟩, 3), (⟨"GroveMerge$Merger", "arrangeChildren", "(ILGroveMerge$Tree;LGroveMerge$Tree;)V"⟩, 3), (⟨"GroveMerge$Merger", "isChildNowAsIn", "(LGroveMerge$Tree;II)Z"⟩, 3)]
theorem lw_r1 : ∀ q ∈ lw_privs_1, lw_okq q := List.forall_mem_cons.mpr ⟨lw_p0, List.forall_mem_cons.mpr ⟨lw_p1, List.forall_mem_cons.mpr ⟨lw_p2, List.forall_mem_cons.mpr ⟨lw_p3, List.forall_mem_cons.mpr ⟨lw_p4, List.forall_mem_cons.mpr ⟨lw_p5, List.forall_mem_cons.mpr ⟨lw_p6, List.forall_mem_cons.mpr ⟨lw_p7, List.forall_mem_cons.mpr ⟨lw_p8, List.forall_mem_cons.mpr ⟨lw_p9, List.forall_mem_cons.mpr ⟨lw_p10, List.forall_mem_cons.mpr ⟨lw_p11, List.forall_mem_cons.mpr ⟨lw_p12, List.forall_mem_cons.mpr ⟨lw_p13, List.forall_mem_cons.mpr ⟨lw_p14, List.forall_mem_cons.mpr ⟨lw_p15, fun _ h => absurd h List.not_mem_nil⟩⟩⟩⟩⟩⟩⟩⟩⟩⟩⟩⟩⟩⟩⟩⟩
theorem lw_p16 : lw_okq (⟨"GroveMerge$Tree", "areAlike", "(II)Z"⟩, 6) := ⟨⟨by decide +kernel, by decide +kernel⟩, List.mem_of_getElem? (i := 29) (by decide +kernel), List.mem_of_getElem? (i := 600) (by decide +kernel), List.mem_of_getElem? (i := 601) (by decide +kernel)⟩
theorem lw_p17 : lw_okq (⟨"GroveMerge$EditDistance", "compareWithAll", "(LGroveMerge$Tree;LGroveMerge$Tree;I)V"⟩, 4) := ⟨⟨by decide +kernel, by decide +kernel⟩, List.mem_of_getElem? (i := 129) (by decide +kernel), List.mem_of_getElem? (i := 623) (by decide +kernel), List.mem_of_getElem? (i := 624) (by decide +kernel)⟩
theorem lw_p18 : lw_okq (⟨"GroveMerge$EditDistance", "compareParts", "(LGroveMerge$Tree;LGroveMerge$Tree;II)V"⟩, 4) := ⟨⟨by decide +kernel, by decide +kernel⟩, List.mem_of_getElem? (i := 129) (by decide +kernel), List.mem_of_getElem? (i := 627) (by decide +kernel), List.mem_of_getElem? (i := 628) (by decide +kernel)⟩
theorem lw_p19 : lw_okq (⟨"GroveMerge$EditDistance", "least", "(III)I"⟩, 4) := ⟨⟨by decide +kernel, by decide +kernel⟩, List.mem_of_getElem? (i := 129) (by decide +kernel), List.mem_of_getElem? (i := 631) (by decide +kernel), List.mem_of_getElem? (i := 632) (by decide +kernel)⟩
theorem lw_p20 : lw_okq (⟨"GroveMergeModel", "copy", "(II)V"⟩, 27) := ⟨⟨by decide +kernel, by decide +kernel⟩, List.mem_of_getElem? (i := 653) (by decide +kernel), List.mem_of_getElem? (i := 659) (by decide +kernel), List.mem_of_getElem? (i := 660) (by decide +kernel)⟩
theorem lw_p21 : lw_okq (⟨"GroveMergeModel", "has", "(II)Z"⟩, 27) := ⟨⟨by decide +kernel, by decide +kernel⟩, List.mem_of_getElem? (i := 653) (by decide +kernel), List.mem_of_getElem? (i := 754) (by decide +kernel), List.mem_of_getElem? (i := 755) (by decide +kernel)⟩
theorem lw_p22 : lw_okq (⟨"GroveMergeModel", "children", "(II)I"⟩, 27) := ⟨⟨by decide +kernel, by decide +kernel⟩, List.mem_of_getElem? (i := 653) (by decide +kernel), List.mem_of_getElem? (i := 758) (by decide +kernel), List.mem_of_getElem? (i := 759) (by decide +kernel)⟩
theorem lw_p23 : lw_okq (⟨"GroveMergeModel", "isChild", "(III)Z"⟩, 27) := ⟨⟨by decide +kernel, by decide +kernel⟩, List.mem_of_getElem? (i := 653) (by decide +kernel), List.mem_of_getElem? (i := 762) (by decide +kernel), List.mem_of_getElem? (i := 763) (by decide +kernel)⟩
theorem lw_p24 : lw_okq (⟨"GroveMergeModel", "hang", "(IIII)V"⟩, 27) := ⟨⟨by decide +kernel, by decide +kernel⟩, List.mem_of_getElem? (i := 653) (by decide +kernel), List.mem_of_getElem? (i := 766) (by decide +kernel), List.mem_of_getElem? (i := 767) (by decide +kernel)⟩
theorem lw_p25 : lw_okq (⟨"GroveMergeModel", "shift", "(IIII)V"⟩, 27) := ⟨⟨by decide +kernel, by decide +kernel⟩, List.mem_of_getElem? (i := 653) (by decide +kernel), List.mem_of_getElem? (i := 770) (by decide +kernel), List.mem_of_getElem? (i := 771) (by decide +kernel)⟩
theorem lw_p26 : lw_okq (⟨"GroveMergeModel", "walk", "(I)V"⟩, 27) := ⟨⟨by decide +kernel, by decide +kernel⟩, List.mem_of_getElem? (i := 653) (by decide +kernel), List.mem_of_getElem? (i := 778) (by decide +kernel), List.mem_of_getElem? (i := 779) (by decide +kernel)⟩
theorem lw_p27 : lw_okq (⟨"GroveMergeModel", "childAt", "(III)I"⟩, 27) := ⟨⟨by decide +kernel, by decide +kernel⟩, List.mem_of_getElem? (i := 653) (by decide +kernel), List.mem_of_getElem? (i := 782) (by decide +kernel), List.mem_of_getElem? (i := 783) (by decide +kernel)⟩
theorem lw_p28 : lw_okq (⟨"GroveMergeModel", "unhang", "(II)V"⟩, 27) := ⟨⟨by decide +kernel, by decide +kernel⟩, List.mem_of_getElem? (i := 653) (by decide +kernel), List.mem_of_getElem? (i := 786) (by decide +kernel), List.mem_of_getElem? (i := 787) (by decide +kernel)⟩
theorem lw_p29 : lw_okq (⟨"GroveMergeModel", "isAt", "(III)Z"⟩, 27) := ⟨⟨by decide +kernel, by decide +kernel⟩, List.mem_of_getElem? (i := 653) (by decide +kernel), List.mem_of_getElem? (i := 790) (by decide +kernel), List.mem_of_getElem? (i := 791) (by decide +kernel)⟩
theorem lw_p30 : lw_okq (⟨"GroveMergeModel", "isCommit", "(I)Z"⟩, 27) := ⟨⟨by decide +kernel, by decide +kernel⟩, List.mem_of_getElem? (i := 653) (by decide +kernel), List.mem_of_getElem? (i := 810) (by decide +kernel), List.mem_of_getElem? (i := 811) (by decide +kernel)⟩
theorem lw_p31 : lw_okq (⟨"GroveMergeModel", "baseOf", "(II)I"⟩, 27) := ⟨⟨by decide +kernel, by decide +kernel⟩, List.mem_of_getElem? (i := 653) (by decide +kernel), List.mem_of_getElem? (i := 818) (by decide +kernel), List.mem_of_getElem? (i := 819) (by decide +kernel)⟩
def lw_privs_2 : List (MethodName × Nat) := [(⟨"GroveMerge$Tree", "areAlike", "(II)Z"⟩, 6), (⟨"GroveMerge$EditDistance", "compareWithAll", "(LGroveMerge$Tree;LGroveMerge$Tree;I)V"⟩, 4), (⟨"GroveMerge$EditDistance", "compareParts", "(LGroveMerge$Tree;LGroveMerge$Tree;II)V"⟩, 4), (⟨"GroveMerge$EditDistance", "least", "(III)I"⟩, 4), (⟨"GroveMergeModel", "copy", "(II)V"⟩, 27), (⟨"GroveMergeModel", "has", "(II)Z"⟩, 27), (⟨"GroveMergeModel", "children", "(II)I"⟩, 27), (⟨"GroveMergeModel", "isChild", "(III)Z"⟩, 27), (⟨"GroveMergeModel", "hang", "(IIII)V"⟩, 27), (⟨"GroveMergeModel", "shift", "(IIII)V"⟩, 27), (⟨"GroveMergeModel", "walk", "(I)V"⟩, 27), (⟨"GroveMergeModel", "childAt", "(III)I"⟩, 27), (⟨"GroveMergeModel", "unhang", "(II)V"⟩, 27), (⟨"GroveMergeModel", "isAt", "(III)Z"⟩, 27), (⟨"GroveMergeModel", "isCommit", "(I)Z"⟩, 27), (⟨"GroveMergeModel", "baseOf", "(II)I"⟩, 27)]
theorem lw_r2 : ∀ q ∈ lw_privs_2, lw_okq q := List.forall_mem_cons.mpr ⟨lw_p16, List.forall_mem_cons.mpr ⟨lw_p17, List.forall_mem_cons.mpr ⟨lw_p18, List.forall_mem_cons.mpr ⟨lw_p19, List.forall_mem_cons.mpr ⟨lw_p20, List.forall_mem_cons.mpr ⟨lw_p21, List.forall_mem_cons.mpr ⟨lw_p22, List.forall_mem_cons.mpr ⟨lw_p23, List.forall_mem_cons.mpr ⟨lw_p24, List.forall_mem_cons.mpr ⟨lw_p25, List.forall_mem_cons.mpr ⟨lw_p26, List.forall_mem_cons.mpr ⟨lw_p27, List.forall_mem_cons.mpr ⟨lw_p28, List.forall_mem_cons.mpr ⟨lw_p29, List.forall_mem_cons.mpr ⟨lw_p30, List.forall_mem_cons.mpr ⟨lw_p31, fun _ h => absurd h List.not_mem_nil⟩⟩⟩⟩⟩⟩⟩⟩⟩⟩⟩⟩⟩⟩⟩⟩
theorem lw_p32 : lw_okq (⟨"GroveMergeModel", "isHeads", "()Z"⟩, 27) := ⟨⟨by decide +kernel, by decide +kernel⟩, List.mem_of_getElem? (i := 653) (by decide +kernel), List.mem_of_getElem? (i := 826) (by decide +kernel), List.mem_of_getElem? (i := 827) (by decide +kernel)⟩
theorem lw_p33 : lw_okq (⟨"GroveMergeModel", "meet", "(III)V"⟩, 27) := ⟨⟨by decide +kernel, by decide +kernel⟩, List.mem_of_getElem? (i := 653) (by decide +kernel), List.mem_of_getElem? (i := 830) (by decide +kernel), List.mem_of_getElem? (i := 831) (by decide +kernel)⟩
theorem lw_p34 : lw_okq (⟨"GroveMergeModel", "stay", "(III)I"⟩, 27) := ⟨⟨by decide +kernel, by decide +kernel⟩, List.mem_of_getElem? (i := 653) (by decide +kernel), List.mem_of_getElem? (i := 834) (by decide +kernel), List.mem_of_getElem? (i := 835) (by decide +kernel)⟩
theorem lw_p35 : lw_okq (⟨"GroveMergeModel", "countKinds", "()I"⟩, 27) := ⟨⟨by decide +kernel, by decide +kernel⟩, List.mem_of_getElem? (i := 653) (by decide +kernel), List.mem_of_getElem? (i := 841) (by decide +kernel), List.mem_of_getElem? (i := 842) (by decide +kernel)⟩
theorem lw_p36 : lw_okq (⟨"GroveMergeModel", "findOrphans", "()V"⟩, 27) := ⟨⟨by decide +kernel, by decide +kernel⟩, List.mem_of_getElem? (i := 653) (by decide +kernel), List.mem_of_getElem? (i := 845) (by decide +kernel), List.mem_of_getElem? (i := 846) (by decide +kernel)⟩
theorem lw_p37 : lw_okq (⟨"GroveMergeModel", "findRings", "()V"⟩, 27) := ⟨⟨by decide +kernel, by decide +kernel⟩, List.mem_of_getElem? (i := 653) (by decide +kernel), List.mem_of_getElem? (i := 849) (by decide +kernel), List.mem_of_getElem? (i := 850) (by decide +kernel)⟩
theorem lw_p38 : lw_okq (⟨"GroveMergeModel", "comes", "(I)Z"⟩, 27) := ⟨⟨by decide +kernel, by decide +kernel⟩, List.mem_of_getElem? (i := 653) (by decide +kernel), List.mem_of_getElem? (i := 853) (by decide +kernel), List.mem_of_getElem? (i := 854) (by decide +kernel)⟩
theorem lw_p39 : lw_okq (⟨"GroveMergeModel", "build", "(I)V"⟩, 27) := ⟨⟨by decide +kernel, by decide +kernel⟩, List.mem_of_getElem? (i := 653) (by decide +kernel), List.mem_of_getElem? (i := 857) (by decide +kernel), List.mem_of_getElem? (i := 858) (by decide +kernel)⟩
theorem lw_p40 : lw_okq (⟨"GroveMergeModel", "putChildren", "(II)V"⟩, 27) := ⟨⟨by decide +kernel, by decide +kernel⟩, List.mem_of_getElem? (i := 653) (by decide +kernel), List.mem_of_getElem? (i := 861) (by decide +kernel), List.mem_of_getElem? (i := 862) (by decide +kernel)⟩
theorem lw_p41 : lw_okq (⟨"GroveMergeModel", "numberOf", "(I)I"⟩, 27) := ⟨⟨by decide +kernel, by decide +kernel⟩, List.mem_of_getElem? (i := 653) (by decide +kernel), List.mem_of_getElem? (i := 873) (by decide +kernel), List.mem_of_getElem? (i := 874) (by decide +kernel)⟩
theorem lw_p42 : lw_okq (⟨"GroveMergeModel", "found", "(I)I"⟩, 27) := ⟨⟨by decide +kernel, by decide +kernel⟩, List.mem_of_getElem? (i := 653) (by decide +kernel), List.mem_of_getElem? (i := 889) (by decide +kernel), List.mem_of_getElem? (i := 890) (by decide +kernel)⟩
theorem lw_p43 : lw_okq (⟨"GroveMergeModel", "isFound", "(III)Z"⟩, 27) := ⟨⟨by decide +kernel, by decide +kernel⟩, List.mem_of_getElem? (i := 653) (by decide +kernel), List.mem_of_getElem? (i := 893) (by decide +kernel), List.mem_of_getElem? (i := 894) (by decide +kernel)⟩
theorem lw_p44 : lw_okq (⟨"GroveMergeModel", "fail", "(I)I"⟩, 27) := ⟨⟨by decide +kernel, by decide +kernel⟩, List.mem_of_getElem? (i := 653) (by decide +kernel), List.mem_of_getElem? (i := 901) (by decide +kernel), List.mem_of_getElem? (i := 902) (by decide +kernel)⟩
theorem lw_p45 : lw_okq (⟨"GroveMergeModel", "areAlike", "(II)Z"⟩, 27) := ⟨⟨by decide +kernel, by decide +kernel⟩, List.mem_of_getElem? (i := 653) (by decide +kernel), List.mem_of_getElem? (i := 909) (by decide +kernel), List.mem_of_getElem? (i := 910) (by decide +kernel)⟩
theorem lw_p46 : lw_okq (⟨"GroveMergeModel", "leave", "(II)I"⟩, 27) := ⟨⟨by decide +kernel, by decide +kernel⟩, List.mem_of_getElem? (i := 653) (by decide +kernel), List.mem_of_getElem? (i := 917) (by decide +kernel), List.mem_of_getElem? (i := 918) (by decide +kernel)⟩
theorem lw_p47 : lw_okq (⟨"GroveMergeModel", "compare", "(IIII)V"⟩, 27) := ⟨⟨by decide +kernel, by decide +kernel⟩, List.mem_of_getElem? (i := 653) (by decide +kernel), List.mem_of_getElem? (i := 921) (by decide +kernel), List.mem_of_getElem? (i := 922) (by decide +kernel)⟩
def lw_privs_3 : List (MethodName × Nat) := [(⟨"GroveMergeModel", "isHeads", "()Z"⟩, 27), (⟨"GroveMergeModel", "meet", "(III)V"⟩, 27), (⟨"GroveMergeModel", "stay", "(III)I"⟩, 27), (⟨"GroveMergeModel", "countKinds", "()I"⟩, 27), (⟨"GroveMergeModel", "findOrphans", "()V"⟩, 27), (⟨"GroveMergeModel", "findRings", "()V"⟩, 27), (⟨"GroveMergeModel", "comes", "(I)Z"⟩, 27), (⟨"GroveMergeModel", "build", "(I)V"⟩, 27), (⟨"GroveMergeModel", "putChildren", "(II)V"⟩, 27), (⟨"GroveMergeModel", "numberOf", "(I)I"⟩, 27), (⟨"GroveMergeModel", "found", "(I)I"⟩, 27), (⟨"GroveMergeModel", "isFound", "(III)Z"⟩, 27), (⟨"GroveMergeModel", "fail", "(I)I"⟩, 27), (⟨"GroveMergeModel", "areAlike", "(II)Z"⟩, 27), (⟨"GroveMergeModel", "leave", "(II)I"⟩, 27), (⟨"GroveMergeModel", "compare", "(IIII)V"⟩, 27)]
theorem lw_r3 : ∀ q ∈ lw_privs_3, lw_okq q := List.forall_mem_cons.mpr ⟨lw_p32, List.forall_mem_cons.mpr ⟨lw_p33, List.forall_mem_cons.mpr ⟨lw_p34, List.forall_mem_cons.mpr ⟨lw_p35, List.forall_mem_cons.mpr ⟨lw_p36, List.forall_mem_cons.mpr ⟨lw_p37, List.forall_mem_cons.mpr ⟨lw_p38, List.forall_mem_cons.mpr ⟨lw_p39, List.forall_mem_cons.mpr ⟨lw_p40, List.forall_mem_cons.mpr ⟨lw_p41, List.forall_mem_cons.mpr ⟨lw_p42, List.forall_mem_cons.mpr ⟨lw_p43, List.forall_mem_cons.mpr ⟨lw_p44, List.forall_mem_cons.mpr ⟨lw_p45, List.forall_mem_cons.mpr ⟨lw_p46, List.forall_mem_cons.mpr ⟨lw_p47, fun _ h => absurd h List.not_mem_nil⟩⟩⟩⟩⟩⟩⟩⟩⟩⟩⟩⟩⟩⟩⟩⟩
def lw_privs : List (MethodName × Nat) := lw_privs_1 ++ (lw_privs_2 ++ (lw_privs_3))
def lw_tbl : List Cond := k2_sels lw_privs ++ tables_1
theorem lw_privs_ok : ∀ q ∈ lw_privs, lw_okq q := by
  show ∀ q ∈ lw_privs_1 ++ (lw_privs_2 ++ (lw_privs_3)), lw_okq q
  exact List.forall_mem_append.mpr ⟨lw_r1, List.forall_mem_append.mpr ⟨lw_r2, lw_r3⟩⟩
-- ===== end of PART A; then your names; then what follows =====
end
section
/-! ===== BEGIN words of one list among another's, by their places ===== -/
theorem goodIn_r {big : List Cond} (ws : List Cond) (ps : List Nat) (hp : ws = ps.filterMap (fun i => big[i]?)) (h : ws.all goodWord = true) : GoodIn big ws := by
  intro w hw
  have h1 := List.all_eq_true.mp h w hw
  rw [hp] at hw
  obtain ⟨i, -, hi⟩ := List.mem_filterMap.mp hw
  have hm : w ∈ big := by first | exact List.mem_of_getElem? hi | exact List.getElem?_mem hi
  exact ⟨hm, good_of_word h1⟩
theorem goodIn_app {big a b : List Cond} (ha : GoodIn big a) (hb : GoodIn big b) : GoodIn big (a ++ b) := fun w h => (List.mem_append.mp h).elim (ha w) (hb w)
theorem goodIn_ca {big a b : List Cond} {c : Cond} (ha : GoodIn big (c :: a)) (hb : GoodIn big b) : GoodIn big (c :: (a ++ b)) := fun w h => (List.mem_cons.mp h).elim (fun e => ha w (List.mem_cons.mpr (Or.inl e))) (fun h => (List.mem_append.mp h).elim (fun h => ha w (List.mem_cons.mpr (Or.inr h))) (hb w))
theorem goodIn_sub {big ws : List Cond} (hm : ∀ w ∈ ws, w ∈ big) (h : ws.all goodWord = true) : GoodIn big ws := fun w hw => ⟨hm w hw, good_of_word (List.all_eq_true.mp h w hw)⟩
/-! ===== END ===== -/
/-! ===== BEGIN exceptions that leave a method, and their catching by the caller (launches without stack traces) ===== -/
section VXA
/-! The laws vx_back, vx_callV, vx_callS, vx_callSW, vx_throw0, vx_throwS follow proofs of the library, with one case more: JvmDerived/Free/Laws.lean (Back.of_free), Shelf42/LK1.lean (callV, callS), Shelf/KitTraced.lean (throwNew0V, throwNewS). -/
/-- where a method has thrown q: the class by its name, the cell, what was written, the world -/
def vx_T (XC : String → State → State → Prop) (st : State) (q : Addr) (t : State) (mc ms : Nat) (free : Addr → Prop) : Prop :=
  ∃ (E : String) (ce : Cell) (L : List Loc), XC E st t ∧ t.heap[q]? = some ce ∧ ce.vm = .none ∧ st.vm.findClass E = some ce.cls ∧ st.WarmedH t.vm ∧ st.sameButNew ({ t with vm := st.vm } : State) L mc ms ∧ ∀ z ∈ L, free z.base
def vx_Q (Qc : Array Value → State → Outcome → State → Prop) (XC : String → State → State → Prop) (mc ms : Nat) (free : Addr → Prop) : Array Value → State → Outcome → State → Prop := fun a st o t =>
  (Qc a st o t ∧ ∃ L, FrameEnd st o t L mc ms ∧ ∀ q ∈ L, free q.base) ∨ ∃ q, o = .threw q ∧ vx_T XC st q t mc ms free
/-- a callee that returns or throws -/
def vx_Met (l : Launch) (y : MethodName) (ws : List Cond) (rm : Room) (Pc : Array Value → State → Prop) (Qc : Array Value → State → Outcome → State → Prop) (XC : String → State → State → Prop) (mc ms : Nat) (free : Addr → Prop) : Prop :=
  MetFree l y (headSpec ws rm) Pc (fun _ _ _ _ _ => True) (vx_Q Qc XC mc ms free)
def vx_Post (XC : String → State → State → Prop) (mc ms : Nat) (free : Addr → Prop) : Pt → Array Value → Addr → Pt → Prop := fun A a q B =>
  ∃ (g : JFrame) (mk : MethodId) (t : State) (L : List Loc) (E : String) (ce : Cell), B.U.heap = t.heap ∧ B.U.vm = t.vm ∧ XC E (A.U.calling g mk a) t ∧ t.heap[q]? = some ce ∧ ce.vm = .none ∧ A.U.vm.findClass E = some ce.cls ∧ B.locs = A.locs ++ L ∧ (∀ z ∈ L, free z.base) ∧ B.cells = A.cells + mc ∧ B.slots = A.slots + ms
def vx_Back (l : Launch) (R : Room) (p : Program) (e : Env) (below : List Frame) (s : State) (sargs : Array Value) (y : MethodName) (len W9 : Nat)
    (Pre : Pt → Array Value → Prop) (Post : Pt → Array Value → Option Value → Pt → Prop) (PostX : Pt → Array Value → Addr → Pt → Prop) : Prop :=
  ∀ (m : MethodId) (meth : Method) (c : Code) (A : Pt) (g : JFrame) (ig : Instr) (mk : MethodId) (a : Array Value),
    Stand p l e R s m sargs below meth c A.U A.locs A.cells A.slots → g.method = m → g.locals.size = c.maxLocals → decode c.code g.pc = .ok (ig, len) →
    2 * g.monitorRoom + (g.stack.map fun v => v.category).sum ≤ W9 → A.U.methodNamed? y = some mk → Pre A a →
    (∃ (v : Option Value) (B : Pt), Stand p l e R s m sargs below meth c B.U B.locs B.cells B.slots ∧ Post A a v B ∧
      Steps p.tables e below (doInvoke e (A.U.setTop g) [] mk a).1 (B.U.setTop { g with pc := g.pc + len, stack := v.toList ++ g.stack })) ∨
    (∃ (q : Addr) (B : Pt), Stand p l e R s m sargs below meth c B.U B.locs B.cells B.slots ∧ PostX A a q B ∧
      Steps p.tables e below (doInvoke e (A.U.setTop g) [] mk a).1 ((B.U.setTop g).pushFrame (.throwing q)))
section Payer
variable {l : Launch} {R : Room} {p : Program} {e : Env} {below : List Frame} {s : State} {sargs : Array Value} {y : MethodName} {len W9 : Nat}
theorem vx_back {ws : List Cond} {rm : Room} {Pc : Array Value → State → Prop} {Qc : Array Value → State → Outcome → State → Prop} {XC : String → State → State → Prop} {mc ms : Nat} {free : Addr → Prop} {bytes : ByteArray} {maxL : Nat} {ret : Option FieldType}
    (hM : vx_Met l y ws rm Pc Qc XC mc ms free) (hblind : FrameBlind Pc) (hrc : rm.cells = mc) (hrs : rm.slots = ms)
    (hframes : rm.frames + 1 ≤ R.frames) (hlocals : W9 + (maxL + 11) + rm.locals ≤ R.locals)
    (hws : ∀ w ∈ ws, ∀ a' U, s.WarmedH U.vm → w.before a' U = true) (hcode : Cond.code y bytes maxL ret ∈ ws) (hinit : ∀ a' U, s.WarmedH U.vm → (Cond.initialized y.cls).before a' U = true) :
    vx_Back l R p e below s sargs y len W9 (PreOf R mc ms Pc) (PostOf Qc mc ms free) (vx_Post XC mc ms free) := by
  intro m meth c A g ig mk a X hg hsize hdg hW hn hp
  have h1 : (headSpec ws rm).pre.before a A.U = true := atoms_intro fun w hw => hws w hw _ _ X.warmed
  have h2 : (Cond.code y bytes maxL ret).before a A.U = true := hws _ hcode _ _ X.warmed
  have h3 : (Cond.initialized y.cls).before a A.U = true := hinit _ _ X.warmed
  have h4 : A.cells + (headSpec ws rm).room.cells ≤ R.cells := by rw [show (headSpec ws rm).room.cells = mc from hrc]; exact hp.1
  have h5 : A.slots + (headSpec ws rm).room.slots ≤ R.slots := by rw [show (headSpec ws rm).room.slots = ms from hrs]; exact hp.2.1
  have hPc : Pc a (A.U.calling g mk a) := hblind _ _ _ _ hp.2.2
  obtain ⟨U, Ls, c0, s0⟩ := A
  dsimp only [Pt.U, Pt.locs, Pt.cells, Pt.slots] at h1 h2 h3 h4 h5 X hn hPc ⊢
  obtain ⟨methY, cY, hmY, hcY, -, hlY, -, -, -, -⟩ := Cond.code_spec hn h2
  obtain ⟨kY, hkY, -⟩ := className_of_methodNamed hn
  have hinitY : kY.init = .initialized := Cond.initialized_spec (findClass_of_methodNamed hn) hkY h3
  have h : At U g.method c below := by rw [hg]; exact X.here
  have hlocals9 : W9 + (maxL + 11) + (headSpec ws rm).room.locals ≤ R.locals := hlocals
  have happ : (headSpec ws rm).appliesLoose y e.platform (U.calling g mk a) = true :=
    Spec.appliesLoose_calling (g := g) h hdg hn hkY hinitY
      (X.room_calling (g := g) (R' := (headSpec ws rm).room) hsize hmY hcY hframes (by rw [hlY]; omega) h4 h5) h1
  obtain ⟨mid, hmid⟩ := h.above
  have hfr : (U.setTop g).frames = (.java g :: mid) ++ below := by rw [State.frames_setTop' g h.top, hmid]; rfl
  obtain ⟨o, s₂, hsteps, -, hend, hq⟩ := Steps.callFree hM p X.admits X.cas X.clock (acts := []) hfr happ hPc trivial
  have hq' : vx_Q Qc XC mc ms free a (U.calling g mk a) o s₂ := hq
  rw [State.frames_setTop' g h.top] at hend
  obtain ⟨g₀, hg0⟩ := Option.isSome_iff_exists.mp h.top
  obtain ⟨r, hr⟩ := State.topJava?_eq_some.mp hg0
  have hr' : (({ U with heap := s₂.heap, slotsUsed := s₂.slotsUsed } : State).setVm s₂.vm).frames = .java g₀ :: r := hr
  rcases hq' with ⟨hqc, L, hfe, hL⟩ | ⟨q, rfl, E, ce, L, hx, hce, hcv, hcl, hW₂, hsm, hL⟩
  · obtain ⟨⟨v, rfl⟩, hW₂, e2, q2, q3, q4, q5, q6⟩ := id hfe
    have e3 : s₂ = ({ (U.calling g mk a).setFrames s₂.frames with heap := s₂.heap, slotsUsed := s₂.slotsUsed } : State).setVm s₂.vm := by
      have : s₂ = ({ s₂ with vm := (U.calling g mk a).vm } : State).setVm s₂.vm := rfl
      rw [e2] at this
      exact this
    obtain ⟨c₂, i₂, len₂, hc₂, hd₂, hf₂⟩ := hend
    have hW' : U.WarmedH s₂.vm := hW₂
    have hcc : c₂ = c := by
      have h1 : s₂.code? g.method = U.code? g.method := by
        rw [State.code?_eq, State.code?_eq, hW'.alike.method?]
      exact Option.some.inj (hc₂.symm.trans (h1.trans h.code))
    subst hcc
    have hlen : len₂ = len := by rw [hdg] at hd₂; cases hd₂; rfl
    subst hlen
    have hs₂ : s₂ = (({ U with heap := s₂.heap, slotsUsed := s₂.slotsUsed } : State).setVm s₂.vm).setTop { g with pc := g.pc + len₂, stack := v.toList ++ g.stack } := by
      refine e3.trans ?_
      rw [hf₂, State.calling_eq h.top, State.setFrames_setFrames, State.setTop_of_frames _ hr', hr]
      rfl
    have hsame : U.sameButNew ({ U with heap := s₂.heap, slotsUsed := s₂.slotsUsed } : State) L mc ms := by
      refine ⟨?_, q2, q3, q4, q5, q6⟩
      obtain ⟨t, ht, -⟩ := State.frames_cons hr
      show ({ U with heap := s₂.heap, slotsUsed := s₂.slotsUsed } : State) = { U.setFrames U.frames with heap := s₂.heap, slotsUsed := s₂.slotsUsed }
      rw [State.setFrames_self ht]
    subst hg
    refine Or.inl ⟨v, ⟨(({ U with heap := s₂.heap, slotsUsed := s₂.slotsUsed } : State).setVm s₂.vm), Ls ++ L, c0 + mc, s0 + ms⟩,
      ⟨X.admits, X.cas, X.clock, X.frames, X.room, X.hears, X.method, X.code, (X.here.setHeapUsed s₂.heap s₂.slotsUsed).setVm hW'.alike, X.tail, State.WarmedH.trans X.warmed hW', X.limits, X.bytes, X.same.trans (hsame.setVm s.vm)⟩,
      ⟨g, mk, s₂, L, rfl, rfl, hqc, rfl, hL, rfl, rfl⟩, ?_⟩
    show Steps p.tables e below _ ((({ U with heap := s₂.heap, slotsUsed := s₂.slotsUsed } : State).setVm s₂.vm).setTop { g with pc := g.pc + len₂, stack := v.toList ++ g.stack })
    rw [← hs₂]
    exact hsteps
  · obtain ⟨e2, q2, q3, q4, q5, q6⟩ := id hsm
    have e3 : s₂ = ({ (U.calling g mk a).setFrames s₂.frames with heap := s₂.heap, slotsUsed := s₂.slotsUsed } : State).setVm s₂.vm := by
      have : s₂ = ({ s₂ with vm := (U.calling g mk a).vm } : State).setVm s₂.vm := rfl
      rw [e2] at this
      exact this
    have hf₂ : s₂.frames = .throwing q :: .java g :: U.frames.tail := hend
    have hW' : U.WarmedH s₂.vm := hW₂
    have hs₂ : s₂ = ((({ U with heap := s₂.heap, slotsUsed := s₂.slotsUsed } : State).setVm s₂.vm).setTop g).pushFrame (.throwing q) := by
      refine e3.trans ?_
      rw [hf₂, State.calling_eq h.top, State.setFrames_setFrames, State.pushFrame, State.frames_setTop _ hr', State.setTop_of_frames _ hr', State.setFrames_setFrames, hr]
      rfl
    have hsame : U.sameButNew ({ U with heap := s₂.heap, slotsUsed := s₂.slotsUsed } : State) L mc ms := by
      refine ⟨?_, q2, q3, q4, q5, q6⟩
      obtain ⟨t, ht, -⟩ := State.frames_cons hr
      show ({ U with heap := s₂.heap, slotsUsed := s₂.slotsUsed } : State) = { U.setFrames U.frames with heap := s₂.heap, slotsUsed := s₂.slotsUsed }
      rw [State.setFrames_self ht]
    subst hg
    refine Or.inr ⟨q, ⟨(({ U with heap := s₂.heap, slotsUsed := s₂.slotsUsed } : State).setVm s₂.vm), Ls ++ L, c0 + mc, s0 + ms⟩,
      ⟨X.admits, X.cas, X.clock, X.frames, X.room, X.hears, X.method, X.code, (X.here.setHeapUsed s₂.heap s₂.slotsUsed).setVm hW'.alike, X.tail, State.WarmedH.trans X.warmed hW', X.limits, X.bytes, X.same.trans (hsame.setVm s.vm)⟩,
      ⟨g, mk, s₂, L, E, ce, rfl, rfl, hx, hce, hcv, hcl, rfl, hL, rfl, rfl⟩, ?_⟩
    show Steps p.tables e below _ (((({ U with heap := s₂.heap, slotsUsed := s₂.slotsUsed } : State).setVm s₂.vm).setTop g).pushFrame (.throwing q))
    rw [← hs₂]
    exact hsteps
end Payer
section Calls
variable {p : Program} {l : Launch} {e : Env} {R : Room} {s : State} {m : MethodId} {args : Array Value} {below : List Frame} {meth : Method} {c : Code} {T : State} {locs : List Loc} {cells slots : Nat}
theorem vx_callV (X : Stand p l e R s m args below meth c T locs cells slots) (hexec : p.tables.exec = Jvm.exec) {own C : String} {index : Nat} {y : MethodName} {bytes : ByteArray} {maxL : Nat} {ret : Option FieldType}
    (hown : s.vm.findClass own = some m.cls) (hlink : (Cond.methodLink own index y).before args s = true) (hinst : (Cond.instanceMethod y).before args s = true) (hsel : (Cond.selects C y y).before args s = true)
    (hcode : (Cond.code y bytes maxL ret).before args s = true) (hy : y.cls ≠ "java/lang/invoke/MethodHandle" ∧ y.cls ≠ "java/lang/invoke/VarHandle")
    {W9 : Nat} {Pre : Pt → Array Value → Prop} {Post : Pt → Array Value → Option Value → Pt → Prop} {PostX : Pt → Array Value → Addr → Pt → Prop} (hK : vx_Back l R p e below s args y 3 W9 Pre Post PostX)
    {b : Addr} {cellB : Cell} (hcell : T.heap[b]? = some cellB) (hobj : cellB.vm.isStatics = false) (hcls : s.vm.findClass C = some cellB.cls)
    {g : JFrame} (hg : g.method = m) (hsize : g.locals.size = c.maxLocals) {argsL rest : List Value} (hlen : ∀ sig, parseMethodDescriptor y.desc = some sig → argsL.length = sig.parameters.length)
    (hstack : g.stack = argsL.reverse ++ .ref b :: rest) (hW : 2 * g.monitorRoom + (rest.map fun v => v.category).sum ≤ W9) (hdg : decode c.code g.pc = .ok (.invokevirtual index, 3))
    (hpre : ∀ vm₁, s.WarmedH vm₁ → Pre ⟨T.setVm vm₁, locs, cells, slots⟩ (Value.ref b :: argsL).toArray) :
    (∃ (v : Option Value) (vm₁ : Vm) (B : Pt), s.WarmedH vm₁ ∧ Stand p l e R s m args below meth c B.U B.locs B.cells B.slots ∧ Post ⟨T.setVm vm₁, locs, cells, slots⟩ (Value.ref b :: argsL).toArray v B ∧
      ∀ target, Steps p.tables e below (B.U.setTop { g with pc := g.pc + 3, stack := v.toList ++ rest }) target → Steps p.tables e below (T.setTop g) target) ∨
    (∃ (q : Addr) (vm₁ : Vm) (B : Pt), s.WarmedH vm₁ ∧ Stand p l e R s m args below meth c B.U B.locs B.cells B.slots ∧ PostX ⟨T.setVm vm₁, locs, cells, slots⟩ (Value.ref b :: argsL).toArray q B ∧
      Steps p.tables e below (T.setTop g) ((B.U.setTop { g with stack := rest }).pushFrame (.throwing q))) := by
  obtain ⟨mk, methM, hnamed, hmethM, hstM, habM⟩ := Cond.instanceMethod_spec hinst
  obtain ⟨methM', cM, hmethM', -, -, -, -, -, -, hsigM⟩ := Cond.code_spec hnamed hcode
  cases hmethM.symm.trans hmethM'
  obtain ⟨c2, r2, m2, q1, q2, q3, q4, kP, hkP, hkPi⟩ := Cond.selects_spec hsel
  cases hcls.symm.trans q1
  cases (State.methodFound?_of_named hnamed hy).symm.trans q2
  cases hnamed.symm.trans q3
  have hselP : selectMethod e.platform s.vm cellB.cls mk = .method mk := by rw [Launch.admits_selectMethod X.admits]; exact q4
  obtain ⟨vm₁, X₁, hstep₁⟩ := X.invokevirtual hexec hown hlink hnamed hmethM hstM hkP hkPi hy (a := b) (cell := cellB) hcell
    (fun z h => by rw [h] at hobj; cases hobj) hselP hmethM habM hkP hkPi (g := g) hg (argsL := argsL) (rest := rest) (hlen _ hsigM) hstack hdg
  rcases hK m meth c ⟨T.setVm vm₁, locs, cells, slots⟩ { g with stack := rest } (.invokevirtual index) mk (Value.ref b :: argsL).toArray X₁ hg hsize hdg hW (X₁.named hnamed) (hpre vm₁ X₁.warmed) with ⟨v, B, X', hpost, hsteps⟩ | ⟨q, B, X', hpost, hsteps⟩
  · exact Or.inl ⟨v, vm₁, B, X₁.warmed, X', hpost, fun target h => hstep₁ _ fun acts => by rw [doInvoke_state]; exact hsteps.trans h⟩
  · exact Or.inr ⟨q, vm₁, B, X₁.warmed, X', hpost, hstep₁ _ fun acts => by rw [doInvoke_state]; exact hsteps⟩
theorem vx_callS (X : Stand p l e R s m args below meth c T locs cells slots) (hexec : p.tables.exec = Jvm.exec) {own : String} {index : Nat} {y : MethodName} {bytes : ByteArray} {maxL : Nat} {ret : Option FieldType}
    (hown : s.vm.findClass own = some m.cls) (hlink : (Cond.methodLink own index y).before args s = true) (hstat : (Cond.static y).before args s = true) (hinit : (Cond.initialized y.cls).before args s = true)
    (hcode : (Cond.code y bytes maxL ret).before args s = true) (hy : y.cls ≠ "java/lang/invoke/MethodHandle" ∧ y.cls ≠ "java/lang/invoke/VarHandle")
    {W9 : Nat} {Pre : Pt → Array Value → Prop} {Post : Pt → Array Value → Option Value → Pt → Prop} {PostX : Pt → Array Value → Addr → Pt → Prop} (hK : vx_Back l R p e below s args y 3 W9 Pre Post PostX)
    {g : JFrame} (hg : g.method = m) (hsize : g.locals.size = c.maxLocals) {argsL rest : List Value} (hlen : ∀ sig, parseMethodDescriptor y.desc = some sig → argsL.length = sig.parameters.length)
    (hstack : g.stack = argsL.reverse ++ rest) (hW : 2 * g.monitorRoom + (rest.map fun v => v.category).sum ≤ W9) (hdg : decode c.code g.pc = .ok (.invokestatic index, 3))
    (hpre : ∀ vm₁, s.WarmedH vm₁ → Pre ⟨T.setVm vm₁, locs, cells, slots⟩ argsL.toArray) :
    (∃ (v : Option Value) (vm₁ : Vm) (B : Pt), s.WarmedH vm₁ ∧ Stand p l e R s m args below meth c B.U B.locs B.cells B.slots ∧ Post ⟨T.setVm vm₁, locs, cells, slots⟩ argsL.toArray v B ∧
      ∀ target, Steps p.tables e below (B.U.setTop { g with pc := g.pc + 3, stack := v.toList ++ rest }) target → Steps p.tables e below (T.setTop g) target) ∨
    (∃ (q : Addr) (vm₁ : Vm) (B : Pt), s.WarmedH vm₁ ∧ Stand p l e R s m args below meth c B.U B.locs B.cells B.slots ∧ PostX ⟨T.setVm vm₁, locs, cells, slots⟩ argsL.toArray q B ∧
      Steps p.tables e below (T.setTop g) ((B.U.setTop { g with stack := rest }).pushFrame (.throwing q))) := by
  obtain ⟨mk, hnamed⟩ := Cond.code_named hcode
  obtain ⟨methM, cM, hmethM, -, -, -, -, -, -, hsigM⟩ := Cond.code_spec hnamed hcode
  have hstatic : methM.isStatic = true := Cond.static_spec hnamed hmethM hstat
  obtain ⟨kP, hkP, -⟩ := className_of_methodNamed hnamed
  have hinitP : kP.init = .initialized := Cond.initialized_spec (findClass_of_methodNamed hnamed) hkP hinit
  obtain ⟨vm₁, X₁, hstep₁⟩ := X.invokestatic hexec hown hlink hnamed hmethM hstatic hkP hinitP hy (g := g) hg (argsL := argsL) (rest := rest) (hlen _ hsigM) hstack hdg
  rcases hK m meth c ⟨T.setVm vm₁, locs, cells, slots⟩ { g with stack := rest } (.invokestatic index) mk argsL.toArray X₁ hg hsize hdg hW (X₁.named hnamed) (hpre vm₁ X₁.warmed) with ⟨v, B, X', hpost, hsteps⟩ | ⟨q, B, X', hpost, hsteps⟩
  · exact Or.inl ⟨v, vm₁, B, X₁.warmed, X', hpost, fun target h => hstep₁ _ fun acts => by rw [doInvoke_state]; exact hsteps.trans h⟩
  · exact Or.inr ⟨q, vm₁, B, X₁.warmed, X', hpost, hstep₁ _ fun acts => by rw [doInvoke_state]; exact hsteps⟩
end Calls
theorem vx_cls {s : State} {T : State} {vm₁ : Vm} {E : String} {k : ClassId} (hW : s.WarmedH vm₁) (h : (T.setVm vm₁).vm.findClass E = some k) : s.vm.findClass E = some k := by
  have h1 : vm₁.findClass E = some k := h
  rw [hW.alike.findClass] at h1
  exact h1
/-- the method's frame g, with q thrown over it -/
def vx_W (p : Program) (l : Launch) (e : Env) (R : Room) (s : State) (m : MethodId) (args : Array Value) (below : List Frame) (meth : Method) (c : Code) (H : Heap) (locs : List Loc) (cells slots : Nat) (Q : State → Prop) (g : JFrame) (q : Addr) : Prop :=
  ∀ T : State, T.heap = H → Stand p l e R s m args below meth c T locs cells slots → ∃ t, Steps p.tables e below ((T.setTop g).pushFrame (.throwing q)) t ∧ Q t
def vx_Run (p : Program) (l : Launch) (e : Env) (R : Room) (s : State) (m : MethodId) (args : Array Value) (below : List Frame) (meth : Method) (c : Code) (H : Heap) (locs : List Loc) (cells slots mc ms : Nat) (g : JFrame) (rest : List Value) (Qa : State → Outcome → State → Prop) (XC : String → State → State → Prop) (free : Addr → Prop) : Prop :=
  ∀ T : State, T.heap = H → Stand p l e R s m args below meth c T locs cells slots →
    (∃ (v : Option Value) (st₀ t T' : State) (L : List Loc), st₀.heap = H ∧ Stand p l e R s m args below meth c T' (locs ++ L) (cells + mc) (slots + ms) ∧ (∀ q ∈ L, free q.base) ∧ T'.heap = t.heap ∧ T'.vm = t.vm ∧ Qa st₀ (.returned v) t ∧
      Goes p e below T g T' { g with pc := g.pc + 3, stack := v.toList ++ rest }) ∨
    (∃ (q : Addr) (st₀ t T' : State) (L : List Loc) (E : String) (ce : Cell), st₀.heap = H ∧ Stand p l e R s m args below meth c T' (locs ++ L) (cells + mc) (slots + ms) ∧ (∀ z ∈ L, free z.base) ∧ T'.heap = t.heap ∧ T'.vm = t.vm ∧ XC E st₀ t ∧ t.heap[q]? = some ce ∧ ce.vm = .none ∧ s.vm.findClass E = some ce.cls ∧
      Steps p.tables e below (T.setTop g) ((T'.setTop { g with stack := rest }).pushFrame (.throwing q)))
def vx_X {S : Type} (px : S → Prop) (B : String → S → State → Prop) (A : Nat → Prop) : String → State → State → Prop := fun E st t => ∃ u : S, px u ∧ B E u t ∧ va_F A st t
section Runs
variable {p : Program} {l : Launch} {e : Env} {R : Room} {s : State} {m : MethodId} {args : Array Value} {below : List Frame} {meth : Method} {c : Code} {H : Heap} {locs : List Loc} {cells slots : Nat}
variable {y : MethodName} {bytes cc : ByteArray} {maxL nL mc ms n index : Nat} {ret : Option FieldType} {ws : List Cond} {rm : Room} {Pc : Array Value → State → Prop} {Qc : Array Value → State → Outcome → State → Prop} {XC : String → State → State → Prop} {free : Addr → Prop} {Ts : List Cond} {own C : String} {b : Addr} {As rest : List Value} {g : JFrame}
theorem vx_callBack (cb : CallB R s args own index y bytes maxL ret ws rm mc ms n) (hM : vx_Met l y ws rm Pc Qc XC mc ms free) (hbl : FrameBlind Pc) : vx_Back l R p e below s args y 3 8 (PreOf R mc ms Pc) (PostOf Qc mc ms free) (vx_Post XC mc ms free) := by
  obtain ⟨hrc, hrs, hfr, hlo, hws, hcw, -, hini, -⟩ := cb
  exact vx_back (bytes := bytes) (maxL := maxL) (ret := ret) hM hbl hrc hrs hfr hlo hws hcw (fun a' U hW => word_at hW (Or.inl (by first | rfl | simp [Cond.onTables, Cond.keeps, Cond.steady])) hini)
theorem vx_runV (S : CallFix p m c cc nL s args Ts own) (hM : vx_Met l y ws rm Pc Qc XC mc ms free) (cw : CallW R s args own C index y bytes maxL ret ws rm mc ms n) (hp : PreV s H C b Pc As)
    (hg : g.method = m) (hn : As.length = n) (hsize : g.locals.size = nL) (hstack : g.stack = As.reverse ++ .ref b :: rest) (hW : 2 * g.monitorRoom + (rest.map fun v => v.category).sum ≤ 8) (hdg : decode cc g.pc = .ok (.invokevirtual index, 3)) (hf : cells + mc ≤ R.cells ∧ slots + ms ≤ R.slots) :
    vx_Run p l e R s m args below meth c H locs cells slots mc ms g rest (Qc (Value.ref b :: As).toArray) XC free := by
  have hK : vx_Back l R p e below s args y 3 8 (PreOf R mc ms Pc) (PostOf Qc mc ms free) (vx_Post XC mc ms free) := vx_callBack cw.1 hM hp.1
  obtain ⟨⟨-, -, -, -, -, -, hcode, -, hy, hlen, hl⟩, hin, hse⟩ := cw
  obtain ⟨hx, hb, hml, ho, -⟩ := S
  obtain ⟨-, ⟨cellB, hcB, hoB, hclB⟩, hPc⟩ := hp
  intro T hT X
  rcases vx_callV X hx (C := C) (bytes := bytes) (maxL := maxL) (ret := ret) ho hl hin hse hcode hy hK (by rw [hT]; exact hcB) hoB hclB hg (hsize.trans hml.symm) (argsL := As) (rest := rest) (fun sig h => hn.trans (hlen sig h)) hstack hW (by rw [hb]; exact hdg)
    (fun vm₁ hW₁ => ⟨hf.1, hf.2, hPc (T.setVm vm₁) hT hW₁⟩) with ⟨v, vm₁, ⟨U', l2, c2, s2⟩, hW₁, X', ⟨g', mk, t, L, e1, e2, hq, h1, hL, h2, h3⟩, st⟩ | ⟨q, vm₁, ⟨U', l2, c2, s2⟩, hW₁, X', ⟨g', mk, t, L, E, ce, e1, e2, hq, hce, hcv, hcl, h1, hL, h2, h3⟩, st⟩
  · dsimp only [Pt.U, Pt.locs, Pt.cells, Pt.slots] at X' e1 e2 h1 h2 h3 st
    subst h1; subst h2; subst h3
    exact Or.inl ⟨v, (T.setVm vm₁).calling g' mk (Value.ref b :: As).toArray, t, U', L, hT, X', hL, e1, e2, hq, st⟩
  · dsimp only [Pt.U, Pt.locs, Pt.cells, Pt.slots] at X' e1 e2 h1 h2 h3 st hcl
    subst h1; subst h2; subst h3
    exact Or.inr ⟨q, (T.setVm vm₁).calling g' mk (Value.ref b :: As).toArray, t, U', L, E, ce, hT, X', hL, e1, e2, hq, hce, hcv, vx_cls hW₁ hcl, st⟩
theorem vx_runS (S : CallFix p m c cc nL s args Ts own) (hM : vx_Met l y ws rm Pc Qc XC mc ms free) (cw : CallB R s args own index y bytes maxL ret ws rm mc ms n ∧ (Cond.static y).before args s = true) (hp : PreS s H Pc As)
    (hg : g.method = m) (hn : As.length = n) (hsize : g.locals.size = nL) (hstack : g.stack = As.reverse ++ rest) (hW : 2 * g.monitorRoom + (rest.map fun v => v.category).sum ≤ 8) (hdg : decode cc g.pc = .ok (.invokestatic index, 3)) (hf : cells + mc ≤ R.cells ∧ slots + ms ≤ R.slots) :
    vx_Run p l e R s m args below meth c H locs cells slots mc ms g rest (Qc As.toArray) XC free := by
  have hK : vx_Back l R p e below s args y 3 8 (PreOf R mc ms Pc) (PostOf Qc mc ms free) (vx_Post XC mc ms free) := vx_callBack cw.1 hM hp.1
  obtain ⟨⟨-, -, -, -, -, -, hcode, hini, hy, hlen, hl⟩, hstt⟩ := cw
  obtain ⟨hx, hb, hml, ho, -⟩ := S
  intro T hT X
  rcases vx_callS X hx (bytes := bytes) (maxL := maxL) (ret := ret) ho hl hstt hini hcode hy hK hg (hsize.trans hml.symm) (argsL := As) (rest := rest) (fun sig h => hn.trans (hlen sig h)) hstack hW (by rw [hb]; exact hdg)
    (fun vm₁ hW₁ => ⟨hf.1, hf.2, hp.2 (T.setVm vm₁) hT hW₁⟩) with ⟨v, vm₁, ⟨U', l2, c2, s2⟩, hW₁, X', ⟨g', mk, t, L, e1, e2, hq, h1, hL, h2, h3⟩, st⟩ | ⟨q, vm₁, ⟨U', l2, c2, s2⟩, hW₁, X', ⟨g', mk, t, L, E, ce, e1, e2, hq, hce, hcv, hcl, h1, hL, h2, h3⟩, st⟩
  · dsimp only [Pt.U, Pt.locs, Pt.cells, Pt.slots] at X' e1 e2 h1 h2 h3 st
    subst h1; subst h2; subst h3
    exact Or.inl ⟨v, (T.setVm vm₁).calling g' mk As.toArray, t, U', L, hT, X', hL, e1, e2, hq, st⟩
  · dsimp only [Pt.U, Pt.locs, Pt.cells, Pt.slots] at X' e1 e2 h1 h2 h3 st hcl
    subst h1; subst h2; subst h3
    exact Or.inr ⟨q, (T.setVm vm₁).calling g' mk As.toArray, t, U', L, E, ce, hT, X', hL, e1, e2, hq, hce, hcv, vx_cls hW₁ hcl, st⟩
end Runs
section Rows
variable {p : Program} {l : Launch} {e : Env} {R : Room} {s : State} {m : MethodId} {args : Array Value} {below : List Frame} {meth : Method} {c : Code} {H : Heap} {locs : List Loc} {cells slots : Nat} {Q : State → Prop}
variable {mc ms : Nat} {free : Addr → Prop} {A0 A1 : Nat → Prop} {H0 : Heap} {a : Array Value} {pc : Nat} {ls : Array Slot} {st0 rest : List Value}
theorem vx_keep {st₀ t T' : State} {L : List Loc} (h0 : st₀.heap = H) (e1 : T'.heap = t.heap) (hS : va_S A0 H0 H locs) (hA : ∀ q, q < H.size → A1 q → A0 q) (hf : ∀ q, free q → A0 q) (hL : ∀ q ∈ L, free q.base) (hF : va_F A1 st₀ t) :
    H.size ≤ T'.heap.size ∧ (∀ q : Nat, q < H.size → ¬ A1 q → T'.heap[q]? = H[q]?) ∧ va_S A0 H0 T'.heap (locs ++ L) := by
  obtain ⟨hz, hk⟩ := hF
  rw [h0] at hz hk
  exact ⟨by rw [e1]; exact hz, fun q h1 h2 => by rw [e1]; exact hk q h1 h2,
    ⟨Nat.le_trans hS.1 (by rw [e1]; exact hz), fun q h1 h2 => by rw [e1, hk q (Nat.lt_of_lt_of_le h1 hS.1) (fun z => h2 (hA q (Nat.lt_of_lt_of_le h1 hS.1) z))]; exact hS.2.1 q h1 h2, fun q hq => by
      rcases List.mem_append.mp hq with h | h
      · exact hS.2.2 q h
      · exact hf _ (hL q h)⟩⟩
theorem vx_calli {S SX : Type} {post : Int32 → S → Prop} {px : SX → Prop} {B : S → State → Prop} {BX : String → SX → State → Prop} {AX : Nat → Prop} (hr : vx_Run p l e R s m args below meth c H locs cells slots mc ms (F0 m pc ls st0) rest (va_Qi post B A1 a) (vx_X px BX AX) free) (hS : va_S A0 H0 H locs) (hA : ∀ q, q < H.size → A1 q → A0 q) (hf : ∀ q, free q → A0 q) (hAX : ∀ q, q < H.size → AX q → A0 q)
    (kx : ∀ (E : String) (ce : Cell) (q9 : Addr) (u : SX) (t : State) (H1 : Heap) (locs1 : List Loc), t.heap = H1 → s.vm.Alike t.vm → px u → BX E u t → H.size ≤ H1.size → (∀ q : Nat, q < H.size → ¬ AX q → H1[q]? = H[q]?) → va_S A0 H0 H1 locs1 → H1[q9]? = some ce → ce.vm = .none → s.vm.findClass E = some ce.cls → vx_W p l e R s m args below meth c H1 locs1 (cells + mc) (slots + ms) Q (F0 m pc ls rest) q9)
    (kk : ∀ (r : Int32) (u : S) (t : State) (H1 : Heap) (locs1 : List Loc), t.heap = H1 → s.vm.Alike t.vm → post r u → B u t → H.size ≤ H1.size → (∀ q : Nat, q < H.size → ¬ A1 q → H1[q]? = H[q]?) → va_S A0 H0 H1 locs1 → W p l e R s m args below meth c H1 locs1 (cells + mc) (slots + ms) Q (F0 m (pc + 3) ls (.int r :: rest))) : W p l e R s m args below meth c H locs cells slots Q (F0 m pc ls st0) := by
  intro T hT X
  rcases hr T hT X with ⟨v, st₀, t, T', L, h0, X', hL, e1, e2, ⟨⟨r, u, hv, hp, hb⟩, hF⟩, st⟩ | ⟨q, st₀, t, T', L, E, ce, h0, X', hL, e1, e2, ⟨u, hp, hb, hF⟩, hce, hcv, hcl, st⟩
  · cases hv
    obtain ⟨k1, k2, k3⟩ := vx_keep h0 e1 hS hA hf hL hF
    obtain ⟨t2, a1, b1⟩ := kk r u t T'.heap (locs ++ L) e1.symm (by rw [← e2]; exact X'.warmed.alike) hp hb k1 k2 k3 T' rfl X'
    exact ⟨t2, st t2 a1, b1⟩
  · obtain ⟨k1, k2, k3⟩ := vx_keep h0 e1 hS hAX hf hL hF
    obtain ⟨t2, a1, b1⟩ := kx E ce q u t T'.heap (locs ++ L) e1.symm (by rw [← e2]; exact X'.warmed.alike) hp hb k1 k2 k3 (by rw [e1]; exact hce) hcv hcl T' rfl X'
    exact ⟨t2, st.trans a1, b1⟩
theorem vx_calll {S SX : Type} {post : Int64 → S → Prop} {px : SX → Prop} {B : S → State → Prop} {BX : String → SX → State → Prop} {AX : Nat → Prop} (hr : vx_Run p l e R s m args below meth c H locs cells slots mc ms (F0 m pc ls st0) rest (va_Ql post B A1 a) (vx_X px BX AX) free) (hS : va_S A0 H0 H locs) (hA : ∀ q, q < H.size → A1 q → A0 q) (hf : ∀ q, free q → A0 q) (hAX : ∀ q, q < H.size → AX q → A0 q)
    (kx : ∀ (E : String) (ce : Cell) (q9 : Addr) (u : SX) (t : State) (H1 : Heap) (locs1 : List Loc), t.heap = H1 → s.vm.Alike t.vm → px u → BX E u t → H.size ≤ H1.size → (∀ q : Nat, q < H.size → ¬ AX q → H1[q]? = H[q]?) → va_S A0 H0 H1 locs1 → H1[q9]? = some ce → ce.vm = .none → s.vm.findClass E = some ce.cls → vx_W p l e R s m args below meth c H1 locs1 (cells + mc) (slots + ms) Q (F0 m pc ls rest) q9)
    (kk : ∀ (r : Int64) (u : S) (t : State) (H1 : Heap) (locs1 : List Loc), t.heap = H1 → s.vm.Alike t.vm → post r u → B u t → H.size ≤ H1.size → (∀ q : Nat, q < H.size → ¬ A1 q → H1[q]? = H[q]?) → va_S A0 H0 H1 locs1 → W p l e R s m args below meth c H1 locs1 (cells + mc) (slots + ms) Q (F0 m (pc + 3) ls (.long r :: rest))) : W p l e R s m args below meth c H locs cells slots Q (F0 m pc ls st0) := by
  intro T hT X
  rcases hr T hT X with ⟨v, st₀, t, T', L, h0, X', hL, e1, e2, ⟨⟨r, u, hv, hp, hb⟩, hF⟩, st⟩ | ⟨q, st₀, t, T', L, E, ce, h0, X', hL, e1, e2, ⟨u, hp, hb, hF⟩, hce, hcv, hcl, st⟩
  · cases hv
    obtain ⟨k1, k2, k3⟩ := vx_keep h0 e1 hS hA hf hL hF
    obtain ⟨t2, a1, b1⟩ := kk r u t T'.heap (locs ++ L) e1.symm (by rw [← e2]; exact X'.warmed.alike) hp hb k1 k2 k3 T' rfl X'
    exact ⟨t2, st t2 a1, b1⟩
  · obtain ⟨k1, k2, k3⟩ := vx_keep h0 e1 hS hAX hf hL hF
    obtain ⟨t2, a1, b1⟩ := kx E ce q u t T'.heap (locs ++ L) e1.symm (by rw [← e2]; exact X'.warmed.alike) hp hb k1 k2 k3 (by rw [e1]; exact hce) hcv hcl T' rfl X'
    exact ⟨t2, st.trans a1, b1⟩
theorem vx_callf {S SX : Type} {post : UInt32 → S → Prop} {px : SX → Prop} {B : S → State → Prop} {BX : String → SX → State → Prop} {AX : Nat → Prop} (hr : vx_Run p l e R s m args below meth c H locs cells slots mc ms (F0 m pc ls st0) rest (va_Qf post B A1 a) (vx_X px BX AX) free) (hS : va_S A0 H0 H locs) (hA : ∀ q, q < H.size → A1 q → A0 q) (hf : ∀ q, free q → A0 q) (hAX : ∀ q, q < H.size → AX q → A0 q)
    (kx : ∀ (E : String) (ce : Cell) (q9 : Addr) (u : SX) (t : State) (H1 : Heap) (locs1 : List Loc), t.heap = H1 → s.vm.Alike t.vm → px u → BX E u t → H.size ≤ H1.size → (∀ q : Nat, q < H.size → ¬ AX q → H1[q]? = H[q]?) → va_S A0 H0 H1 locs1 → H1[q9]? = some ce → ce.vm = .none → s.vm.findClass E = some ce.cls → vx_W p l e R s m args below meth c H1 locs1 (cells + mc) (slots + ms) Q (F0 m pc ls rest) q9)
    (kk : ∀ (r : UInt32) (u : S) (t : State) (H1 : Heap) (locs1 : List Loc), t.heap = H1 → s.vm.Alike t.vm → post r u → B u t → H.size ≤ H1.size → (∀ q : Nat, q < H.size → ¬ A1 q → H1[q]? = H[q]?) → va_S A0 H0 H1 locs1 → W p l e R s m args below meth c H1 locs1 (cells + mc) (slots + ms) Q (F0 m (pc + 3) ls (.float r :: rest))) : W p l e R s m args below meth c H locs cells slots Q (F0 m pc ls st0) := by
  intro T hT X
  rcases hr T hT X with ⟨v, st₀, t, T', L, h0, X', hL, e1, e2, ⟨⟨r, u, hv, hp, hb⟩, hF⟩, st⟩ | ⟨q, st₀, t, T', L, E, ce, h0, X', hL, e1, e2, ⟨u, hp, hb, hF⟩, hce, hcv, hcl, st⟩
  · cases hv
    obtain ⟨k1, k2, k3⟩ := vx_keep h0 e1 hS hA hf hL hF
    obtain ⟨t2, a1, b1⟩ := kk r u t T'.heap (locs ++ L) e1.symm (by rw [← e2]; exact X'.warmed.alike) hp hb k1 k2 k3 T' rfl X'
    exact ⟨t2, st t2 a1, b1⟩
  · obtain ⟨k1, k2, k3⟩ := vx_keep h0 e1 hS hAX hf hL hF
    obtain ⟨t2, a1, b1⟩ := kx E ce q u t T'.heap (locs ++ L) e1.symm (by rw [← e2]; exact X'.warmed.alike) hp hb k1 k2 k3 (by rw [e1]; exact hce) hcv hcl T' rfl X'
    exact ⟨t2, st.trans a1, b1⟩
theorem vx_calld {S SX : Type} {post : UInt64 → S → Prop} {px : SX → Prop} {B : S → State → Prop} {BX : String → SX → State → Prop} {AX : Nat → Prop} (hr : vx_Run p l e R s m args below meth c H locs cells slots mc ms (F0 m pc ls st0) rest (va_Qd post B A1 a) (vx_X px BX AX) free) (hS : va_S A0 H0 H locs) (hA : ∀ q, q < H.size → A1 q → A0 q) (hf : ∀ q, free q → A0 q) (hAX : ∀ q, q < H.size → AX q → A0 q)
    (kx : ∀ (E : String) (ce : Cell) (q9 : Addr) (u : SX) (t : State) (H1 : Heap) (locs1 : List Loc), t.heap = H1 → s.vm.Alike t.vm → px u → BX E u t → H.size ≤ H1.size → (∀ q : Nat, q < H.size → ¬ AX q → H1[q]? = H[q]?) → va_S A0 H0 H1 locs1 → H1[q9]? = some ce → ce.vm = .none → s.vm.findClass E = some ce.cls → vx_W p l e R s m args below meth c H1 locs1 (cells + mc) (slots + ms) Q (F0 m pc ls rest) q9)
    (kk : ∀ (r : UInt64) (u : S) (t : State) (H1 : Heap) (locs1 : List Loc), t.heap = H1 → s.vm.Alike t.vm → post r u → B u t → H.size ≤ H1.size → (∀ q : Nat, q < H.size → ¬ A1 q → H1[q]? = H[q]?) → va_S A0 H0 H1 locs1 → W p l e R s m args below meth c H1 locs1 (cells + mc) (slots + ms) Q (F0 m (pc + 3) ls (.double r :: rest))) : W p l e R s m args below meth c H locs cells slots Q (F0 m pc ls st0) := by
  intro T hT X
  rcases hr T hT X with ⟨v, st₀, t, T', L, h0, X', hL, e1, e2, ⟨⟨r, u, hv, hp, hb⟩, hF⟩, st⟩ | ⟨q, st₀, t, T', L, E, ce, h0, X', hL, e1, e2, ⟨u, hp, hb, hF⟩, hce, hcv, hcl, st⟩
  · cases hv
    obtain ⟨k1, k2, k3⟩ := vx_keep h0 e1 hS hA hf hL hF
    obtain ⟨t2, a1, b1⟩ := kk r u t T'.heap (locs ++ L) e1.symm (by rw [← e2]; exact X'.warmed.alike) hp hb k1 k2 k3 T' rfl X'
    exact ⟨t2, st t2 a1, b1⟩
  · obtain ⟨k1, k2, k3⟩ := vx_keep h0 e1 hS hAX hf hL hF
    obtain ⟨t2, a1, b1⟩ := kx E ce q u t T'.heap (locs ++ L) e1.symm (by rw [← e2]; exact X'.warmed.alike) hp hb k1 k2 k3 (by rw [e1]; exact hce) hcv hcl T' rfl X'
    exact ⟨t2, st.trans a1, b1⟩
theorem vx_callv {S SX : Type} {post : S → Prop} {px : SX → Prop} {B : S → State → Prop} {BX : String → SX → State → Prop} {AX : Nat → Prop} (hr : vx_Run p l e R s m args below meth c H locs cells slots mc ms (F0 m pc ls st0) rest (va_Qv post B A1 a) (vx_X px BX AX) free) (hS : va_S A0 H0 H locs) (hA : ∀ q, q < H.size → A1 q → A0 q) (hf : ∀ q, free q → A0 q) (hAX : ∀ q, q < H.size → AX q → A0 q)
    (kx : ∀ (E : String) (ce : Cell) (q9 : Addr) (u : SX) (t : State) (H1 : Heap) (locs1 : List Loc), t.heap = H1 → s.vm.Alike t.vm → px u → BX E u t → H.size ≤ H1.size → (∀ q : Nat, q < H.size → ¬ AX q → H1[q]? = H[q]?) → va_S A0 H0 H1 locs1 → H1[q9]? = some ce → ce.vm = .none → s.vm.findClass E = some ce.cls → vx_W p l e R s m args below meth c H1 locs1 (cells + mc) (slots + ms) Q (F0 m pc ls rest) q9)
    (kk : ∀ (u : S) (t : State) (H1 : Heap) (locs1 : List Loc), t.heap = H1 → s.vm.Alike t.vm → post u → B u t → H.size ≤ H1.size → (∀ q : Nat, q < H.size → ¬ A1 q → H1[q]? = H[q]?) → va_S A0 H0 H1 locs1 → W p l e R s m args below meth c H1 locs1 (cells + mc) (slots + ms) Q (F0 m (pc + 3) ls (rest))) : W p l e R s m args below meth c H locs cells slots Q (F0 m pc ls st0) := by
  intro T hT X
  rcases hr T hT X with ⟨v, st₀, t, T', L, h0, X', hL, e1, e2, ⟨⟨u, hv, hp, hb⟩, hF⟩, st⟩ | ⟨q, st₀, t, T', L, E, ce, h0, X', hL, e1, e2, ⟨u, hp, hb, hF⟩, hce, hcv, hcl, st⟩
  · cases hv
    obtain ⟨k1, k2, k3⟩ := vx_keep h0 e1 hS hA hf hL hF
    obtain ⟨t2, a1, b1⟩ := kk u t T'.heap (locs ++ L) e1.symm (by rw [← e2]; exact X'.warmed.alike) hp hb k1 k2 k3 T' rfl X'
    exact ⟨t2, st t2 a1, b1⟩
  · obtain ⟨k1, k2, k3⟩ := vx_keep h0 e1 hS hAX hf hL hF
    obtain ⟨t2, a1, b1⟩ := kx E ce q u t T'.heap (locs ++ L) e1.symm (by rw [← e2]; exact X'.warmed.alike) hp hb k1 k2 k3 (by rw [e1]; exact hce) hcv hcl T' rfl X'
    exact ⟨t2, st.trans a1, b1⟩
/-- caught by the row x of this method's table; the rows ahead don't take it -/
theorem vx_catch {own name : String} {E : String} {ce : Cell} {q : Addr} (hown : s.vm.findClass own = some m.cls) (pre : List ExceptionTableEntry) (x : ExceptionTableEntry) (suf : List ExceptionTableEntry) (hsplit : c.exceptionTable.toList = pre ++ x :: suf)
    (hpass : ∀ z ∈ pre, covers z pc = false ∨ (z.catchType ≠ 0 ∧ ∃ nm : String, (Cond.classLink own z.catchType nm).before args s = true ∧ va_Nc E nm s)) (hx : covers x pc = true) (h0 : x.catchType ≠ 0)
    (hlink : (Cond.classLink own x.catchType name).before args s = true) (hcast : (Cond.castable E name).before args s = true) (hcell : H[q]? = some ce) (hv : ce.vm = .none) (hcl : s.vm.findClass E = some ce.cls)
    (kk : W p l e R s m args below meth c H locs cells slots Q (F0 m x.handlerPc ls [.ref q])) : vx_W p l e R s m args below meth c H locs cells slots Q (F0 m pc ls rest) q := by
  intro T hT X
  have hpl : e.platform.magicAccessors = ({} : Platform).magicAccessors := by rw [X.admits.platform]
  obtain ⟨c3, c4, hc3, hc4, hasg⟩ := Cond.castable_spec hcast
  cases Option.some.inj (hc3.symm.trans hcl)
  obtain ⟨c5, hc5, hcl5⟩ := Cond.classLink_spec hown hlink e.platform hpl
  cases Option.some.inj (hc4.symm.trans hc5)
  obtain ⟨vm', X', st⟩ := X.thenCaughtThrough q (g := F0 m pc ls rest) rfl (Steps.refl _) (by rw [hT]; exact hcell) (by rw [hv]; rfl) (by obtain ⟨k9, h9, -⟩ := Vm.findClass_spec hcl; exact ⟨k9, h9⟩) pre x suf hsplit
    (fun z hz => by
      rcases hpass z hz with h | ⟨hz0, nm, hl1, hn1⟩
      · exact Or.inl h
      · obtain ⟨c6, hc6, hcl6⟩ := Cond.classLink_spec hown hl1 e.platform hpl
        obtain ⟨a8, b8, h1, h2, h3⟩ := hn1
        cases Option.some.inj (h1.symm.trans hcl)
        cases Option.some.inj (h2.symm.trans hc6)
        exact Or.inr ⟨hz0, _, hcl6, h3⟩) hx (Or.inr ⟨h0, c4, hcl5, hasg⟩)
  obtain ⟨t, a1, b1⟩ := kk (T.setVm vm') hT X'
  exact ⟨t, st.trans a1, b1⟩
end Rows
section Ends
variable {p : Program} {l : Launch} {e : Env} {R : Room} {s : State} {m : MethodId} {args : Array Value} {below : List Frame} {meth : Method} {c : Code} {H : Heap} {locs : List Loc} {cells slots : Nat} {Q : State → Prop}
variable {mc ms : Nat} {free : Addr → Prop} {A0 A1 : Nat → Prop} {H0 : Heap} {a : Array Value} {ls : Array Slot} {st0 rest : List Value}
variable {Qc : Array Value → State → Outcome → State → Prop} {XC : String → State → State → Prop}
/-- what a body that may throw owes at its end -/
def vx_MQ (below : List Frame) (Qc : Array Value → State → Outcome → State → Prop) (XC : String → State → State → Prop) (a : Array Value) (s : State) (mc ms : Nat) (free : Addr → Prop) : State → Prop := fun t =>
  ∃ o, t.status = .running ∧ Ended t below o ∧ vx_Q Qc XC mc ms free a s o t
theorem vx_ret {g : JFrame} {mc ms : Nat} (k : W p l e R s m args below meth c H locs cells slots (MQ below Qc args s mc ms free) g) : W p l e R s m args below meth c H locs cells slots (vx_MQ below Qc XC args s mc ms free) g := by
  intro T hT X
  obtain ⟨t, a1, o, b1, b2, b3, b4⟩ := k T hT X
  exact ⟨t, a1, o, b1, b2, Or.inl ⟨b3, b4⟩⟩
/-- not caught here: it goes on to the caller -/
theorem vx_widen {g : JFrame} {q : Addr} {k n : Nat} (h1 : cells ≤ k) (h2 : slots ≤ n) (kk : vx_W p l e R s m args below meth c H locs k n Q g q) : vx_W p l e R s m args below meth c H locs cells slots Q g q := fun T hT X => kk T hT (stand_widen X h1 h2)
theorem vx_out {pc : Nat} {E : String} {ce : Cell} {q : Addr} {mc ms : Nat} (hout : ∀ x ∈ c.exceptionTable.toList, covers x pc = false) (hlocks : meth.locks = false) (hcell : H[q]? = some ce) (hv : ce.vm = .none) (hcl : s.vm.findClass E = some ce.cls)
    (hx : ∀ t : State, t.heap = H → s.vm.Alike t.vm → XC E s t) (hf : ∀ z ∈ locs, free z.base) (hc : cells ≤ mc) (hs : slots ≤ ms) :
    vx_W p l e R s m args below meth c H locs cells slots (vx_MQ below Qc XC args s mc ms free) (F0 m pc ls rest) q := by
  intro T hT X
  obtain ⟨st1, hrun, hend, hW, hsm⟩ := X.leaveThrown q (g := F0 m pc ls rest) rfl rfl rfl hout hlocks
  have hcell9 : (T.setFrames (.throwing q :: below)).heap[q]? = some ce := by
    show T.heap[q]? = some ce
    rw [hT]; exact hcell
  exact ⟨_, st1, .threw q, hrun, hend, Or.inr ⟨q, rfl, E, ce, locs, hx _ hT hW.alike, hcell9, hv, hcl, hW, hsm.mono hc hs, hf⟩⟩
theorem vx_frame {U : State} {k n : Nat} (h : s.sameButNew ({ U with vm := s.vm } : State) locs k n) : s.heap.size ≤ U.heap.size ∧ ∀ q : Nat, q < s.heap.size → (∀ z ∈ locs, z.base ≠ q) → U.heap[q]? = s.heap[q]? := by
  obtain ⟨-, h2, -, -, -, h6⟩ := h
  refine ⟨h2, fun q hq hz => ?_⟩
  obtain ⟨c9, e1, e2, e3, e4⟩ := h6 q _ (Array.getElem?_eq_getElem hq)
  have hs : c9.slots = (s.heap[q]).slots := Array.ext_getElem? fun i => e4 i fun hm => hz _ hm rfl
  have h9 : c9 = s.heap[q] := by
    rw [hs] at e2
    exact e2
  have e5 : U.heap[q]? = some c9 := e1
  rw [e5, h9, Array.getElem?_eq_getElem hq]
/-- the words of a throw but the four that speak of the heap -/
def vx_no (w : Cond) : Bool := decide (w ≠ .isRef (.static Bundle.tN "UNASSIGNED_STACK" Bundle.steD)) && decide (w ≠ .isRef (.static Bundle.tN "SUPPRESSED_SENTINEL" Bundle.listD)) && decide (w ≠ .laysStatic Bundle.tN "UNASSIGNED_STACK" Bundle.steD) && decide (w ≠ .laysStatic Bundle.tN "SUPPRESSED_SENTINEL" Bundle.listD)
def vx_at0 (own : String) (ic : Nat) (X : String) (names : List String) : List Cond := (Bundle.ownAtoms0 own ic X names).filter vx_no
def vx_atS (own : String) (ic : Nat) (X : String) (names : List String) : List Cond := (Bundle.ownAtoms own ic X names).filter vx_no
/-- a word that the tables alone decide, or a good one -/
def vx_ot (w : Cond) : Bool := w.onTables || goodWord w
theorem vx_ot_at {args a' : Array Value} {s U : State} {w : Cond} (hW : s.WarmedH U.vm) (hvm : s.vm = U.vm) (hg : vx_ot w = true) (h : w.before args s = true) : w.before a' U = true := by
  simp only [vx_ot, Bool.or_eq_true] at hg
  rcases hg with hg | hg
  · exact va_tabs hg hvm h
  · exact word_at hW (good_of_word hg) h
/-- a list's words: the good ones out of the method's own list, the others by premises of their own -/
theorem vx_hat {args : Array Value} {s : State} {L B : List Cond} (h1 : ∀ w ∈ L.filter goodWord, w.before args s = true) (h2 : ∀ w ∈ L.filter (fun w => !goodWord w), w ∈ B) (h3 : ∀ w ∈ B, w.before args s = true) : ∀ w ∈ L, w.before args s = true := by
  intro w hw
  by_cases g : goodWord w = true
  · exact h1 w (List.mem_filter.mpr ⟨hw, g⟩)
  · refine h3 w (h2 w (List.mem_filter.mpr ⟨hw, ?_⟩))
    show (!goodWord w) = true
    cases hgw : goodWord w
    · rfl
    · exact absurd hgw g
theorem vx_c {args : Array Value} {s : State} {w : Cond} {B : List Cond} (h : w.before args s = true) (t : ∀ w ∈ B, w.before args s = true) : ∀ w' ∈ w :: B, w'.before args s = true := fun w' h' => (List.mem_cons.mp h').elim (fun e => by rw [e]; exact h) (t w')
theorem vx_n {args : Array Value} {s : State} : ∀ w ∈ ([] : List Cond), w.before args s = true := fun _ h => nomatch h
theorem vx_own {args : Array Value} {s : State} {L : List Cond} (h1 : ∀ w ∈ L.filter vx_no, w.before args s = true)
    (hU : (Cond.isRef (.static Bundle.tN "UNASSIGNED_STACK" Bundle.steD)).before args s = true) (hN : (Cond.isRef (.static Bundle.tN "SUPPRESSED_SENTINEL" Bundle.listD)).before args s = true)
    (lU : (Cond.laysStatic Bundle.tN "UNASSIGNED_STACK" Bundle.steD).before args s = true) (lN : (Cond.laysStatic Bundle.tN "SUPPRESSED_SENTINEL" Bundle.listD).before args s = true) : ∀ w ∈ L, w.before args s = true := by
  intro w hw
  by_cases e1 : w = .isRef (.static Bundle.tN "UNASSIGNED_STACK" Bundle.steD)
  · rw [e1]; exact hU
  · by_cases e2 : w = .isRef (.static Bundle.tN "SUPPRESSED_SENTINEL" Bundle.listD)
    · rw [e2]; exact hN
    · by_cases e3 : w = .laysStatic Bundle.tN "UNASSIGNED_STACK" Bundle.steD
      · rw [e3]; exact lU
      · by_cases e4 : w = .laysStatic Bundle.tN "SUPPRESSED_SENTINEL" Bundle.listD
        · rw [e4]; exact lN
        · exact h1 w (List.mem_filter.mpr ⟨hw, by unfold vx_no; rw [decide_eq_true e1, decide_eq_true e2, decide_eq_true e3, decide_eq_true e4]; rfl⟩)
/-- where a static field lies, its class's statics cell in H -/
def vx_L (C n d : String) (A : Nat → Prop) (U : State) (H : Heap) : Prop := ∃ (c : ClassId) (k : Class) (i : Nat) (f : Field) (a : Nat) (cell : Cell), U.vm.findClass C = some c ∧ U.fieldFound? C n d = some (c, k, i, f) ∧ f.isStatic = true ∧ k.statics = some a ∧ H[a]? = some cell ∧ cell.vm.isStatics = true ∧ cell.cls = c ∧ f.slot < cell.slots.size ∧ k.staticTypes[f.slot]? = some f.type ∧ ¬ A a
theorem vx_L.moved {C n d : String} {A : Nat → Prop} {u U : State} {H : Heap} (hvm : u.vm.Alike U.vm) (h : vx_L C n d A u H) : vx_L C n d A U H := by
  obtain ⟨c, k, i, f, a, cell, h1, h2, h3, h4, h5, h6, h7, h8, h9, h10⟩ := h
  obtain ⟨k', hi', he⟩ := State.fieldFound?_setVm hvm h2
  exact ⟨c, k', i, f, a, cell, by rw [hvm.findClass]; exact h1, hi', h3, by rw [he]; exact h4, h5, h6, h7, h8, by rw [he]; exact h9, h10⟩
theorem vx_L.kept {C n d : String} {A : Nat → Prop} {U : State} {H H1 : Heap} (h : vx_L C n d A U H) (hq : ∀ a : Nat, a < H.size → ¬ A a → H1[a]? = H[a]?) : vx_L C n d A U H1 := by
  obtain ⟨c, k, i, f, a, cell, h1, h2, h3, h4, h5, h6, h7, h8, h9, h10⟩ := h
  exact ⟨c, k, i, f, a, cell, h1, h2, h3, h4, by rw [hq a (Array.getElem?_eq_some_iff.mp h5).1 h10]; exact h5, h6, h7, h8, h9, h10⟩
theorem vx_L.narrow {C n d : String} {A B : Nat → Prop} {U : State} {H : Heap} (h : vx_L C n d A U H) (hAB : ∀ q, B q → A q) : vx_L C n d B U H := by
  obtain ⟨c, k, i, f, a, cell, h1, h2, h3, h4, h5, h6, h7, h8, h9, h10⟩ := h
  exact ⟨c, k, i, f, a, cell, h1, h2, h3, h4, h5, h6, h7, h8, h9, fun z => h10 (hAB _ z)⟩
theorem vx_L.word {C n d : String} {A : Nat → Prop} {s : State} {args : Array Value} (h : vx_L C n d A s s.heap) : (Cond.laysStatic C n d).before args s = true := by
  obtain ⟨c, k, i, f, a, cell, h1, h2, h3, h4, h5, h6, h7, h8, h9, -⟩ := h
  show (Cond.laysStatic C n d).holds args s none s [] = true
  exact Cond.laysStatic_of h1 h2 h3 h4 h5 h6 h7 h8 h9
/-- .. and what it holds: null or some reference -/
def vx_Zq (C n d : String) (A : Nat → Prop) (U : State) (H : Heap) : Prop := va_Zq C n d A U H ∧ vx_L C n d A U H
theorem vx_Zq.moved {C n d : String} {A : Nat → Prop} {u U : State} {H : Heap} (hvm : u.vm.Alike U.vm) (h : vx_Zq C n d A u H) : vx_Zq C n d A U H := ⟨va_Zq.moved hvm h.1, vx_L.moved hvm h.2⟩
theorem vx_Zq.kept {C n d : String} {A : Nat → Prop} {U : State} {H H1 : Heap} (h : vx_Zq C n d A U H) (hq : ∀ a : Nat, a < H.size → ¬ A a → H1[a]? = H[a]?) : vx_Zq C n d A U H1 := ⟨va_Zq.kept h.1 hq, vx_L.kept h.2 hq⟩
theorem vx_Zq.narrow {C n d : String} {A B : Nat → Prop} {U : State} {H : Heap} (h : vx_Zq C n d A U H) (hAB : ∀ q, B q → A q) : vx_Zq C n d B U H := ⟨va_Zq.narrow h.1 hAB, vx_L.narrow h.2 hAB⟩
theorem vx_Zqof {args : Array Value} {s : State} {C n d : String} {A : Nat → Prop} (hl : (Cond.laysStatic C n d).before args s = true) (hini : (Cond.initialized C).before args s = true) (h : (Cond.isRef (.static C n d)).before args s = true) (hA : ∀ a : Nat, a < s.heap.size → ¬ A a) : vx_Zq C n d A s s.heap := by
  refine ⟨va_Zqof hl hini h hA, ?_⟩
  obtain ⟨c, k, i, f, a, cell, h1, h2, h3, h4, h5, h6, h7, h8, h9⟩ := Cond.laysStatic_spec hl
  exact ⟨c, k, i, f, a, cell, h1, h2, h3, h4, h5, h6, h7, h8, h9, hA a (Array.getElem?_eq_some_iff.mp h5).1⟩
theorem vx_isRef {C n d : String} {v : Value} {A : Nat → Prop} {s : State} {args : Array Value} (h : va_Z C n d v A s s.heap) (hv : v.isRef = true) : (Cond.isRef (.static C n d)).before args s = true := by
  obtain ⟨cf, kf, fi, f, a, cell, h1, h2, h3, h4, h5, h6, h7, -⟩ := h
  have he : (Term.static C n d).eval args s none [] s = some v := by
    simp [Term.eval, State.fieldNamed?, h1, h2, h4, h5, h6, h7]
  simp only [Cond.before, Cond.holds, Cond.value, he]
  cases v <;> simp_all [Value.isRef]
theorem vx_isRefq {C n d : String} {A : Nat → Prop} {s : State} {args : Array Value} (h : va_Zq C n d A s s.heap) : (Cond.isRef (.static C n d)).before args s = true := by
  rcases h with h | ⟨t, h⟩
  · exact vx_isRef h rfl
  · exact vx_isRef h rfl
/-- the same frame, seen from here: as if the method were called anew in this heap -/
theorem vx_rebase {T : State} (X : Stand p l e R s m args below meth c T locs cells slots) {R' : Room} (hf : R'.frames ≤ R.frames) (hl : R'.locals ≤ R.locals) (hc : cells + R'.cells ≤ R.cells) (hs : slots + R'.slots ≤ R.slots) :
    Stand p l e R' ((T.setVm s.vm).setFrames (.invoking m args :: below)) m args below meth c T [] 0 0 := by
  have htop : (T.setVm s.vm).topJava?.isSome := X.here.top
  have hF : ((T.setVm s.vm).setFrames (.invoking m args :: below)).frames = .invoking m args :: below := State.frames_setFrames _ (State.cur_lt_of_top htop)
  obtain ⟨g₀, hg0⟩ := Option.isSome_iff_exists.mp htop
  obtain ⟨r, hr⟩ := State.topJava?_eq_some.mp hg0
  have hl9 : e.platform.stackLimits (T.setVm s.vm).me = e.platform.stackLimits s.me := X.limits
  have hb9 : (T.setVm s.vm).me.stackBytes = s.me.stackBytes := X.bytes
  refine ⟨X.admits, X.cas, X.clock, hF, ?_, X.hears, X.method, X.code, X.here, X.tail, X.warmed, ?_, ?_, ?_⟩
  · have h := X.room
    have hU : ((T.setVm s.vm).setFrames (.invoking m args :: below)).localsInUse = s.localsInUse := by
      rw [State.localsInUse_invoking hF (meth := meth) (c := c) X.method X.code, State.localsInUse_invoking X.frames X.method X.code]
    simp only [State.hasRoom, Bool.and_eq_true, decide_eq_true_eq] at h ⊢
    obtain ⟨⟨⟨⟨h1, h2, h3, h4, h5, h6⟩, h7⟩, h8⟩, h9⟩ := h
    rw [X.frames, List.length_cons] at h2 h3
    have q1 := X.heapSize
    have q2 := X.used
    simp only [hF, hU, List.length_cons, State.stackLimits_setFrames, State.stackBytes_setFrames, hl9, hb9]
    refine ⟨⟨⟨⟨by omega, by omega, by omega, by omega, by omega, h6⟩, ?_⟩, ?_⟩, X.book⟩
    · show T.heap.size + R'.cells ≤ e.platform.maxCells
      omega
    · show T.slotsUsed + R'.slots ≤ e.platform.maxSlots
      omega
  · rw [State.stackLimits_setFrames]; rfl
  · rw [State.stackBytes_setFrames]; rfl
  · refine ⟨?_, Nat.le_refl _, Nat.le_refl _, ?_, ?_, fun a c9 h9 => ⟨c9, h9, rfl, rfl, fun _ _ => rfl⟩⟩
    · obtain ⟨t, ht, -⟩ := State.frames_cons hr
      show T.setVm s.vm = { ((T.setVm s.vm).setFrames (.invoking m args :: below)).setFrames (T.setVm s.vm).frames with heap := T.heap, slotsUsed := T.slotsUsed }
      rw [State.setFrames_setFrames, State.setFrames_self ht]
      rfl
    · show T.slotsUsed = T.slotsUsed + ((T.heap.toList.drop T.heap.size).map (·.slots.size)).sum
      rw [List.drop_eq_nil_of_le (Nat.le_of_eq Array.length_toList)]
      rfl
    · show ((T.heap.toList.drop T.heap.size).map (·.slots.size)).sum ≤ 0
      rw [List.drop_eq_nil_of_le (Nat.le_of_eq Array.length_toList)]
      exact Nat.le_refl _
/-- 'throw new E()': new; dup; invokespecial; athrow -/
theorem vx_throw0 {cc : ByteArray} {pc : Nat} (hexec : p.tables.exec = Jvm.exec) (hb : c.code = cc) (hl : l.stackTraces = false) {own cls : String} {names : List String} {ik ic mc ms : Nat} {A : Nat → Prop}
    (hown : s.vm.findClass own = some m.cls) (hcls : Bundle.fit cls = true) (hnames : ∀ n ∈ names, Bundle.fit n = true)
    (hk : (Cond.classLink own ik cls).before args s = true) (hini : (Cond.initialized cls).before args s = true) (hat : ∀ w ∈ vx_at0 own ic cls names, w.before args s = true)
    (hgood : ∀ w ∈ Cond.classLink own ik cls :: Cond.initialized cls :: vx_at0 own ic cls names, vx_ot w = true)
    (hU : vx_Zq Bundle.tN "UNASSIGNED_STACK" Bundle.steD A s s.heap) (hN : vx_Zq Bundle.tN "SUPPRESSED_SENTINEL" Bundle.listD A s s.heap) (hS : va_S A s.heap H locs) (hsize : ls.size = c.maxLocals)
    (d0 : decode cc pc = .ok (.new ik, 3)) (d3 : decode cc (pc + 3) = .ok (.dup, 1)) (d4 : decode cc (pc + 4) = .ok (.invokespecial ic, 3)) (d7 : decode cc (pc + 7) = .ok (.athrow, 1))
    (hout : ∀ x ∈ c.exceptionTable.toList, covers x (pc + 7) = false)
    (hRframes : names.length + 3 < R.frames) (hRlocals : (rest.map fun v => v.category).sum + (13 * (names.length + 1) + 42) ≤ R.locals) (hRcells : cells + 1 ≤ R.cells) (hRslots : slots + 6 ≤ R.slots) (hlocks : meth.locks = false)
    (hx : ∀ t : State, s.vm.Alike t.vm → H.size ≤ t.heap.size → (∀ q : Nat, q < H.size → t.heap[q]? = H[q]?) → XC cls s t)
    (hf : ∀ z ∈ locs, free z.base) (hc : cells + 1 ≤ mc) (hs : slots + 6 ≤ ms) :
    W p l e R s m args below meth c H locs cells slots (vx_MQ below Qc XC args s mc ms free) (F0 m pc ls rest) := by
  intro T hT X
  have htr : e.platform.stackTraces = false := (show e.platform.stackTraces = l.stackTraces by rw [X.admits.platform]).trans hl
  have Y := vx_rebase X (R' := { frames := R.frames, locals := R.locals, cells := 1, slots := 6 }) (Nat.le_refl _) (Nat.le_refl _) hRcells hRslots
  obtain ⟨s', hA⟩ : ∃ z, z = (T.setVm s.vm).setFrames (.invoking m args :: below) := ⟨_, rfl⟩
  rw [← hA] at Y
  have hvm : s'.vm = s.vm := by rw [hA]; rfl
  have hhp : s'.heap = H := by rw [hA]; exact hT
  have hW0 : s.WarmedH s'.vm := by rw [hvm]; exact State.WarmedH.refl s
  have hat' : ∀ w ∈ vx_at0 own ic cls names, w.before args s' = true := fun w hw => vx_ot_at hW0 hvm.symm (hgood w (List.mem_cons_of_mem _ (List.mem_cons_of_mem _ hw))) (hat w hw)
  have hk' : (Cond.classLink own ik cls).before args s' = true := vx_ot_at hW0 hvm.symm (hgood _ List.mem_cons_self) hk
  have hini' : (Cond.initialized cls).before args s' = true := vx_ot_at hW0 hvm.symm (hgood _ (List.mem_cons_of_mem _ List.mem_cons_self)) hini
  have hU' : vx_Zq Bundle.tN "UNASSIGNED_STACK" Bundle.steD A s' s'.heap := by rw [hhp]; exact vx_Zq.moved hW0.alike (hU.kept hS.2.1)
  have hN' : vx_Zq Bundle.tN "SUPPRESSED_SENTINEL" Bundle.listD A s' s'.heap := by rw [hhp]; exact vx_Zq.moved hW0.alike (hN.kept hS.2.1)
  have h : ∀ w ∈ Bundle.ownAtoms0 own ic cls names, w.before args s' = true := vx_own hat' (vx_isRefq hU'.1) (vx_isRefq hN'.1) hU'.2.word hN'.2.word
  have hown' : s'.vm.findClass own = some m.cls := by rw [hvm]; exact hown
  have hins : (Cond.instantiable cls 6).before args s' = true := h _ (by simp [Bundle.ownAtoms0])
  obtain ⟨vm₁, cX, kX, hfX, hkX, -, -, X₁, st1⟩ := Y.newCold hexec (own := own) (C := cls) (index := ik) (n := 6) hown' hk' hins hini'
    (g := F0 m pc ls rest) rfl (by rw [hb]; exact d0) (Nat.le_refl _) (Nat.le_refl _)
  generalize hT1 : (T.setVm vm₁).pushCell { cls := cX, slots := kX.instanceTypes.map defaultValue, vm := .none } = T1 at X₁ st1
  have hcat : (Value.ref T.heap.size).category = 1 := rfl
  have hcellA : T1.heap[T.heap.size]? = some (freshCell cX kX) := by rw [← hT1]; exact State.heap_pushCell_size _ _
  have d3' : decode c.code (pc + 3) = .ok (.dup, 1) := by rw [hb]; exact d3
  obtain ⟨U, hsteps, hrun, hend, hW, hsame, ce, hce, hO⟩ := X₁.ctorThrow0 hexec htr (own := own) (cls := cls) (names := names) (ic := ic) hown' hcls hnames h (fun x hx => nomatch hx) hfX hkX hcellA (by rw [hhp, hT]; exact Nat.le_refl _)
    (g := { method := m, pc := pc + 4, locals := ls, stack := .ref T.heap.size :: .ref T.heap.size :: rest, locked := none }) rfl hsize rfl rfl (rest := rest) rfl
    (by rw [hb]; exact d4) (by rw [hb]; exact d7) hout hRframes (by simp only [List.map_cons, List.sum_cons, hcat]; omega) hlocks
  obtain ⟨f1, f2⟩ := vx_frame hsame
  rw [hhp] at f1 f2
  have hWs : s.WarmedH U.vm := State.WarmedH.trans hW0 hW
  have hcl : s.vm.findClass cls = some ce.cls := by
    have h9 := hO.cls
    rw [hvm] at h9
    exact h9
  have hall : s.sameButNew ({ U with vm := s.vm } : State) locs mc ms := by
    subst hA
    obtain ⟨e1, e2⟩ := hsame
    rw [State.setFrames_setFrames] at e1
    have h2 : (T.setVm s.vm).sameButNew ({ U with vm := s.vm } : State) [] (0 + 1) (0 + 6) := ⟨e1, e2⟩
    have h3 := X.same.trans h2
    rw [List.append_nil] at h3
    exact h3.mono hc hs
  refine ⟨U, ?_, .threw T.heap.size, hrun, hend, Or.inr ⟨T.heap.size, rfl, cls, ce, locs, hx U hWs.alike f1 (fun q hq => f2 q hq (fun z hz => nomatch hz)), hce, hO.vm, hcl, hWs, hall, hf⟩⟩
  refine st1 _ ?_
  show Steps p.tables e below (T1.setTop { method := m, pc := pc + 3, locals := ls, stack := .ref T.heap.size :: rest, locked := none }) _
  jvm_step X₁.here [X₁.here.top, hexec, d3', Value.category]
  exact hsteps
/-- 'throw new E("text")': new; dup; ldc; invokespecial; athrow -/
theorem vx_throwS {cc : ByteArray} {pc : Nat} (hexec : p.tables.exec = Jvm.exec) (hb : c.code = cc) (hl : l.stackTraces = false) {own cls text : String} {names : List String} {ik is ic mc ms sa : Nat} {A : Nat → Prop}
    (hown : s.vm.findClass own = some m.cls) (hcls : Bundle.fit cls = true) (hnames : ∀ n ∈ names, Bundle.fit n = true)
    (hk : (Cond.classLink own ik cls).before args s = true) (hini : (Cond.initialized cls).before args s = true) (hstr : vk_R own is text sa s) (hat : ∀ w ∈ vx_atS own ic cls names, w.before args s = true)
    (hgood : ∀ w ∈ Cond.classLink own ik cls :: Cond.initialized cls :: vx_atS own ic cls names, vx_ot w = true)
    (hU : vx_Zq Bundle.tN "UNASSIGNED_STACK" Bundle.steD A s s.heap) (hN : vx_Zq Bundle.tN "SUPPRESSED_SENTINEL" Bundle.listD A s s.heap) (hS : va_S A s.heap H locs) (hsize : ls.size = c.maxLocals)
    (d0 : decode cc pc = .ok (.new ik, 3)) (d3 : decode cc (pc + 3) = .ok (.dup, 1)) (d4 : decode cc (pc + 4) = .ok (.ldc is, 2)) (d6 : decode cc (pc + 6) = .ok (.invokespecial ic, 3)) (d9 : decode cc (pc + 9) = .ok (.athrow, 1))
    (hout : ∀ x ∈ c.exceptionTable.toList, covers x (pc + 9) = false)
    (hRframes : names.length + 3 < R.frames) (hRlocals : (rest.map fun v => v.category).sum + (13 * (names.length + 1) + 43) ≤ R.locals) (hRcells : cells + 1 ≤ R.cells) (hRslots : slots + 6 ≤ R.slots) (hlocks : meth.locks = false)
    (hx : ∀ t : State, s.vm.Alike t.vm → H.size ≤ t.heap.size → (∀ q : Nat, q < H.size → t.heap[q]? = H[q]?) → XC cls s t)
    (hf : ∀ z ∈ locs, free z.base) (hc : cells + 1 ≤ mc) (hs : slots + 6 ≤ ms) :
    W p l e R s m args below meth c H locs cells slots (vx_MQ below Qc XC args s mc ms free) (F0 m pc ls rest) := by
  intro T hT X
  have htr : e.platform.stackTraces = false := (show e.platform.stackTraces = l.stackTraces by rw [X.admits.platform]).trans hl
  have Y := vx_rebase X (R' := { frames := R.frames, locals := R.locals, cells := 1, slots := 6 }) (Nat.le_refl _) (Nat.le_refl _) hRcells hRslots
  obtain ⟨s', hA⟩ : ∃ z, z = (T.setVm s.vm).setFrames (.invoking m args :: below) := ⟨_, rfl⟩
  rw [← hA] at Y
  have hvm : s'.vm = s.vm := by rw [hA]; rfl
  have hhp : s'.heap = H := by rw [hA]; exact hT
  have hW0 : s.WarmedH s'.vm := by rw [hvm]; exact State.WarmedH.refl s
  have hat' : ∀ w ∈ vx_atS own ic cls names, w.before args s' = true := fun w hw => vx_ot_at hW0 hvm.symm (hgood w (List.mem_cons_of_mem _ (List.mem_cons_of_mem _ hw))) (hat w hw)
  have hk' : (Cond.classLink own ik cls).before args s' = true := vx_ot_at hW0 hvm.symm (hgood _ List.mem_cons_self) hk
  have hini' : (Cond.initialized cls).before args s' = true := vx_ot_at hW0 hvm.symm (hgood _ (List.mem_cons_of_mem _ List.mem_cons_self)) hini
  have hU' : vx_Zq Bundle.tN "UNASSIGNED_STACK" Bundle.steD A s' s'.heap := by rw [hhp]; exact vx_Zq.moved hW0.alike (hU.kept hS.2.1)
  have hN' : vx_Zq Bundle.tN "SUPPRESSED_SENTINEL" Bundle.listD A s' s'.heap := by rw [hhp]; exact vx_Zq.moved hW0.alike (hN.kept hS.2.1)
  have h : ∀ w ∈ Bundle.ownAtoms own ic cls names, w.before args s' = true := vx_own hat' (vx_isRefq hU'.1) (vx_isRefq hN'.1) hU'.2.word hN'.2.word
  have hown' : s'.vm.findClass own = some m.cls := by rw [hvm]; exact hown
  have hins : (Cond.instantiable cls 6).before args s' = true := h _ (by simp [Bundle.ownAtoms])
  obtain ⟨vm₁, cX, kX, hfX, hkX, -, -, X₁, st1⟩ := Y.newCold hexec (own := own) (C := cls) (index := ik) (n := 6) hown' hk' hins hini'
    (g := F0 m pc ls rest) rfl (by rw [hb]; exact d0) (Nat.le_refl _) (Nat.le_refl _)
  generalize hT1 : (T.setVm vm₁).pushCell { cls := cX, slots := kX.instanceTypes.map defaultValue, vm := .none } = T1 at X₁ st1
  have hcat : (Value.ref T.heap.size).category = 1 := rfl
  have hcellA : T1.heap[T.heap.size]? = some (freshCell cX kX) := by rw [← hT1]; exact State.heap_pushCell_size _ _
  have d3' : decode c.code (pc + 3) = .ok (.dup, 1) := by rw [hb]; exact d3
  have d4' : decode c.code (pc + 4) = .ok (.ldc is, 2) := by rw [hb]; exact d4
  have hstr' : vk_R own is text sa s' := vk_R.warm hW0 hstr
  obtain ⟨U, hsteps, hrun, hend, hW, hsame, ce, hce, hO⟩ := X₁.ctorThrowS hexec htr (own := own) (cls := cls) (names := names) (ic := ic) hown' hcls hnames h (fun x hx => nomatch hx) hfX hkX hcellA (by rw [hhp, hT]; exact Nat.le_refl _) (msg := .ref sa) rfl
    (g := { method := m, pc := pc + 6, locals := ls, stack := .ref sa :: .ref T.heap.size :: .ref T.heap.size :: rest, locked := none }) rfl hsize rfl rfl (rest := rest) rfl
    (by rw [hb]; exact d6) (by rw [hb]; exact d9) hout hRframes (by simp only [List.map_cons, List.sum_cons, hcat]; omega) hlocks
  obtain ⟨f1, f2⟩ := vx_frame hsame
  rw [hhp] at f1 f2
  have hWs : s.WarmedH U.vm := State.WarmedH.trans hW0 hW
  have hcl : s.vm.findClass cls = some ce.cls := by
    have h9 := hO.cls
    rw [hvm] at h9
    exact h9
  have hall : s.sameButNew ({ U with vm := s.vm } : State) locs mc ms := by
    subst hA
    obtain ⟨e1, e2⟩ := hsame
    rw [State.setFrames_setFrames] at e1
    have h2 : (T.setVm s.vm).sameButNew ({ U with vm := s.vm } : State) [] (0 + 1) (0 + 6) := ⟨e1, e2⟩
    have h3 := X.same.trans h2
    rw [List.append_nil] at h3
    exact h3.mono hc hs
  refine ⟨U, ?_, .threw T.heap.size, hrun, hend, Or.inr ⟨T.heap.size, rfl, cls, ce, locs, hx U hWs.alike f1 (fun q hq => f2 q hq (fun z hz => nomatch hz)), hce, hO.vm, hcl, hWs, hall, hf⟩⟩
  refine st1 _ ?_
  show Steps p.tables e below (T1.setTop { method := m, pc := pc + 3, locals := ls, stack := .ref T.heap.size :: rest, locked := none }) _
  jvm_step X₁.here [X₁.here.top, hexec, d3', Value.category]
  exact X₁.ldcString hexec (own := own) (text := text) (index := is) (a := sa) hown' hstr'.1 hstr'.2
    (g := { method := m, pc := pc + 4, locals := ls, stack := .ref T.heap.size :: .ref T.heap.size :: rest, locked := none }) rfl d4' _ hsteps
/-- 'throw new E("text")', the text by a wide index -/
theorem vx_throwSW {cc : ByteArray} {pc : Nat} (hexec : p.tables.exec = Jvm.exec) (hb : c.code = cc) (hl : l.stackTraces = false) {own cls text : String} {names : List String} {ik is ic mc ms sa : Nat} {A : Nat → Prop}
    (hown : s.vm.findClass own = some m.cls) (hcls : Bundle.fit cls = true) (hnames : ∀ n ∈ names, Bundle.fit n = true)
    (hk : (Cond.classLink own ik cls).before args s = true) (hini : (Cond.initialized cls).before args s = true) (hstr : vk_R own is text sa s) (hat : ∀ w ∈ vx_atS own ic cls names, w.before args s = true)
    (hgood : ∀ w ∈ Cond.classLink own ik cls :: Cond.initialized cls :: vx_atS own ic cls names, vx_ot w = true)
    (hU : vx_Zq Bundle.tN "UNASSIGNED_STACK" Bundle.steD A s s.heap) (hN : vx_Zq Bundle.tN "SUPPRESSED_SENTINEL" Bundle.listD A s s.heap) (hS : va_S A s.heap H locs) (hsize : ls.size = c.maxLocals)
    (d0 : decode cc pc = .ok (.new ik, 3)) (d3 : decode cc (pc + 3) = .ok (.dup, 1)) (d4 : decode cc (pc + 4) = .ok (.ldc_w is, 3)) (d7 : decode cc (pc + 7) = .ok (.invokespecial ic, 3)) (d10 : decode cc (pc + 10) = .ok (.athrow, 1))
    (hout : ∀ x ∈ c.exceptionTable.toList, covers x (pc + 10) = false)
    (hRframes : names.length + 3 < R.frames) (hRlocals : (rest.map fun v => v.category).sum + (13 * (names.length + 1) + 43) ≤ R.locals) (hRcells : cells + 1 ≤ R.cells) (hRslots : slots + 6 ≤ R.slots) (hlocks : meth.locks = false)
    (hx : ∀ t : State, s.vm.Alike t.vm → H.size ≤ t.heap.size → (∀ q : Nat, q < H.size → t.heap[q]? = H[q]?) → XC cls s t)
    (hf : ∀ z ∈ locs, free z.base) (hc : cells + 1 ≤ mc) (hs : slots + 6 ≤ ms) :
    W p l e R s m args below meth c H locs cells slots (vx_MQ below Qc XC args s mc ms free) (F0 m pc ls rest) := by
  intro T hT X
  have htr : e.platform.stackTraces = false := (show e.platform.stackTraces = l.stackTraces by rw [X.admits.platform]).trans hl
  have Y := vx_rebase X (R' := { frames := R.frames, locals := R.locals, cells := 1, slots := 6 }) (Nat.le_refl _) (Nat.le_refl _) hRcells hRslots
  obtain ⟨s', hA⟩ : ∃ z, z = (T.setVm s.vm).setFrames (.invoking m args :: below) := ⟨_, rfl⟩
  rw [← hA] at Y
  have hvm : s'.vm = s.vm := by rw [hA]; rfl
  have hhp : s'.heap = H := by rw [hA]; exact hT
  have hW0 : s.WarmedH s'.vm := by rw [hvm]; exact State.WarmedH.refl s
  have hat' : ∀ w ∈ vx_atS own ic cls names, w.before args s' = true := fun w hw => vx_ot_at hW0 hvm.symm (hgood w (List.mem_cons_of_mem _ (List.mem_cons_of_mem _ hw))) (hat w hw)
  have hk' : (Cond.classLink own ik cls).before args s' = true := vx_ot_at hW0 hvm.symm (hgood _ List.mem_cons_self) hk
  have hini' : (Cond.initialized cls).before args s' = true := vx_ot_at hW0 hvm.symm (hgood _ (List.mem_cons_of_mem _ List.mem_cons_self)) hini
  have hU' : vx_Zq Bundle.tN "UNASSIGNED_STACK" Bundle.steD A s' s'.heap := by rw [hhp]; exact vx_Zq.moved hW0.alike (hU.kept hS.2.1)
  have hN' : vx_Zq Bundle.tN "SUPPRESSED_SENTINEL" Bundle.listD A s' s'.heap := by rw [hhp]; exact vx_Zq.moved hW0.alike (hN.kept hS.2.1)
  have h : ∀ w ∈ Bundle.ownAtoms own ic cls names, w.before args s' = true := vx_own hat' (vx_isRefq hU'.1) (vx_isRefq hN'.1) hU'.2.word hN'.2.word
  have hown' : s'.vm.findClass own = some m.cls := by rw [hvm]; exact hown
  have hins : (Cond.instantiable cls 6).before args s' = true := h _ (by simp [Bundle.ownAtoms])
  obtain ⟨vm₁, cX, kX, hfX, hkX, -, -, X₁, st1⟩ := Y.newCold hexec (own := own) (C := cls) (index := ik) (n := 6) hown' hk' hins hini'
    (g := F0 m pc ls rest) rfl (by rw [hb]; exact d0) (Nat.le_refl _) (Nat.le_refl _)
  generalize hT1 : (T.setVm vm₁).pushCell { cls := cX, slots := kX.instanceTypes.map defaultValue, vm := .none } = T1 at X₁ st1
  have hcat : (Value.ref T.heap.size).category = 1 := rfl
  have hcellA : T1.heap[T.heap.size]? = some (freshCell cX kX) := by rw [← hT1]; exact State.heap_pushCell_size _ _
  have d3' : decode c.code (pc + 3) = .ok (.dup, 1) := by rw [hb]; exact d3
  have d4' : decode c.code (pc + 4) = .ok (.ldc_w is, 3) := by rw [hb]; exact d4
  have hstr' : vk_R own is text sa s' := vk_R.warm hW0 hstr
  obtain ⟨U, hsteps, hrun, hend, hW, hsame, ce, hce, hO⟩ := X₁.ctorThrowS hexec htr (own := own) (cls := cls) (names := names) (ic := ic) hown' hcls hnames h (fun x hx => nomatch hx) hfX hkX hcellA (by rw [hhp, hT]; exact Nat.le_refl _) (msg := .ref sa) rfl
    (g := { method := m, pc := pc + 7, locals := ls, stack := .ref sa :: .ref T.heap.size :: .ref T.heap.size :: rest, locked := none }) rfl hsize rfl rfl (rest := rest) rfl
    (by rw [hb]; exact d7) (by rw [hb]; exact d10) hout hRframes (by simp only [List.map_cons, List.sum_cons, hcat]; omega) hlocks
  obtain ⟨f1, f2⟩ := vx_frame hsame
  rw [hhp] at f1 f2
  have hWs : s.WarmedH U.vm := State.WarmedH.trans hW0 hW
  have hcl : s.vm.findClass cls = some ce.cls := by
    have h9 := hO.cls
    rw [hvm] at h9
    exact h9
  have hall : s.sameButNew ({ U with vm := s.vm } : State) locs mc ms := by
    subst hA
    obtain ⟨e1, e2⟩ := hsame
    rw [State.setFrames_setFrames] at e1
    have h2 : (T.setVm s.vm).sameButNew ({ U with vm := s.vm } : State) [] (0 + 1) (0 + 6) := ⟨e1, e2⟩
    have h3 := X.same.trans h2
    rw [List.append_nil] at h3
    exact h3.mono hc hs
  refine ⟨U, ?_, .threw T.heap.size, hrun, hend, Or.inr ⟨T.heap.size, rfl, cls, ce, locs, hx U hWs.alike f1 (fun q hq => f2 q hq (fun z hz => nomatch hz)), hce, hO.vm, hcl, hWs, hall, hf⟩⟩
  refine st1 _ ?_
  show Steps p.tables e below (T1.setTop { method := m, pc := pc + 3, locals := ls, stack := .ref T.heap.size :: rest, locked := none }) _
  jvm_step X₁.here [X₁.here.top, hexec, d3', Value.category]
  exact X₁.ldcStringW hexec (own := own) (text := text) (index := is) (a := sa) hown' hstr'.1 hstr'.2
    (g := { method := m, pc := pc + 4, locals := ls, stack := .ref T.heap.size :: .ref T.heap.size :: rest, locked := none }) rfl d4' _ hsteps
end Ends
section Bodies
variable {l : Launch}
theorem vx_ofW {y : MethodName} {ws ws' : List Cond} {rm : Room} {Pc : Array Value → State → Prop} {Qc : Array Value → State → Outcome → State → Prop} {XC : String → State → State → Prop} {mc ms : Nat} {free : Addr → Prop} {cc : ByteArray} {maxL : Nat} {ret : Option FieldType}
    (hy : plainName y.cls = true) (hw : ws = Cond.code y cc maxL ret :: ws')
    (body : ∀ p e s m args below meth c s₁, BodyLoose p l y (headSpec ws rm) cc maxL ret e s m args below meth c s₁ → c.maxLocals = maxL → (∀ x ∈ c.exceptionTable.toList, False) → Pc args s →
      W p l e (headSpec ws rm).room s m args below meth c s.heap [] 0 0 (vx_MQ below Qc XC args s mc ms free) (entryFrame m args maxL)) : vx_Met l y ws rm Pc Qc XC mc ms free := by
  refine MetFree.of_bodyS (code := cc) (maxLocals := maxL) (ret := ret) hy ?_ ?_
  · intro args s m h hn
    obtain ⟨meth, c, h1, h2, h3, h4, h5, h6, -, -⟩ := Cond.code_spec hn (atoms_spec (ws := ws) h _ (by rw [hw]; exact List.mem_cons_self))
    exact ⟨meth, c, h1, h2, h3, h4, h5, h6⟩
  · intro p e s m args below meth c s₁ B hml hP _
    have hh0 : s₁.heap = s.heap := by rw [B.state]; rfl
    have ht : ∀ x ∈ c.exceptionTable.toList, False := by
      obtain ⟨meth9, c9, h1, h2, -, -, -, -, h7, -⟩ := Cond.code_spec B.named (atoms_spec (ws := ws) B.pre _ (by rw [hw]; exact List.mem_cons_self))
      cases Option.some.inj (h1.symm.trans B.method)
      cases Option.some.inj (h2.symm.trans (Stand.of_body B).code)
      intro x hx
      rw [Array.isEmpty_iff.mp h7] at hx
      cases hx
    obtain ⟨t, a1, o, b1, b2, b3⟩ := body p e s m args below meth c s₁ B hml ht hP s₁ hh0 (Stand.of_body B)
    exact ⟨t, o, a1, b1, b2, b3⟩
/-- the table of a body with handlers -/
theorem vx_table {p : Program} {x y : MethodName} {S : Spec} {cc bytes : ByteArray} {maxL maxL' : Nat} {ret ret' : Option FieldType} {e : Env} {s s₁ : State} {m : MethodId} {args : Array Value} {below : List Frame} {meth : Method} {c : Code} {hh : List (Nat × Nat × Nat × Nat)}
    (B : BodyLoose p l y S cc maxL ret e s m args below meth c s₁) (h : (Cond.codeWith y bytes maxL' ret' hh).before args s = true) : c.exceptionTable.toList = tableOf hh := by
  obtain ⟨m9, meth9, c9, hn9, h1, h2, -, -, h6, -⟩ := Cond.codeWith_spec h
  cases Option.some.inj (hn9.symm.trans B.named)
  cases Option.some.inj (h1.symm.trans B.method)
  cases Option.some.inj (h2.symm.trans (Stand.of_body B).code)
  rw [← h6, table_eq]
end Bodies
end VXA
/-! ===== END ===== -/
/-! ===== BEGIN a static call of a method with an exception table ===== -/
section VXS
variable {p : Program} {l : Launch} {e : Env} {R : Room} {s : State} {m : MethodId} {args : Array Value} {below : List Frame} {meth : Method} {c : Code} {T : State} {H : Heap} {locs : List Loc} {cells slots : Nat}
abbrev vx_CSW (R : Room) (s : State) (args : Array Value) (own : String) (index : Nat) (y : MethodName) (bytes : ByteArray) (maxL : Nat) (ret : Option FieldType) (hh : List (Nat × Nat × Nat × Nat)) (ws : List Cond) (rm : Room) (mc ms n : Nat) : Prop :=
  (rm.cells = mc ∧ rm.slots = ms ∧ rm.frames + 1 ≤ R.frames ∧ 8 + (maxL + 11) + rm.locals ≤ R.locals ∧ (∀ w ∈ ws, ∀ (a' : Array Value) (U : State), s.WarmedH U.vm → w.before a' U = true) ∧ Cond.codeWith y bytes maxL ret hh ∈ ws) ∧
  (Cond.codeWith y bytes maxL ret hh).before args s = true ∧ (Cond.initialized y.cls).before args s = true ∧ (y.cls ≠ "java/lang/invoke/MethodHandle" ∧ y.cls ≠ "java/lang/invoke/VarHandle") ∧
  (∀ sig, parseMethodDescriptor y.desc = some sig → n = sig.parameters.length) ∧ (Cond.methodLink own index y).before args s = true ∧ (Cond.static y).before args s = true
theorem vx_cwSW {own : String} {index maxL mc ms : Nat} {y : MethodName} {bytes : ByteArray} {ret : Option FieldType} {hh : List (Nat × Nat × Nat × Nat)} {Ts ws ws' : List Cond} {rm : Room} (n : Nat) (ht : ∀ w ∈ Ts, w.before args s = true) (hT : GoodIn Ts (va_wsS own index y ws)) (hw : ws = Cond.codeWith y bytes maxL ret hh :: ws') (hrc : rm.cells = mc) (hrs : rm.slots = ms)
    (hd : y.cls ≠ "java/lang/invoke/MethodHandle" ∧ y.cls ≠ "java/lang/invoke/VarHandle" ∧ (parseMethodDescriptor y.desc).map (fun d => d.parameters.length) = some n) (hR : rm.frames + 1 ≤ R.frames ∧ 8 + (maxL + 11) + rm.locals ≤ R.locals) :
    vx_CSW R s args own index y bytes maxL ret hh ws rm mc ms n := by
  have ok : ∀ w ∈ va_wsS own index y ws, w.before args s = true := fun w h => ht w (hT w h).1
  have hG : GoodIn Ts ws := fun w h => hT w (by unfold va_wsS; exact List.mem_append_right _ h)
  have hc : Cond.codeWith y bytes maxL ret hh ∈ ws := by rw [hw]; exact List.mem_cons_self
  refine ⟨⟨hrc, hrs, hR.1, hR.2, pay_in ht hG, hc⟩, ht _ (hG _ hc).1, ok _ (by simp [va_wsS]), ⟨hd.1, hd.2.1⟩, fun sig h => ?_, ok _ (by simp [va_wsS]), ok _ (by simp [va_wsS])⟩
  have h2 := hd.2.2
  rw [h] at h2
  exact (Option.some.inj h2).symm
theorem vx_callSW (X : Stand p l e R s m args below meth c T locs cells slots) (hexec : p.tables.exec = Jvm.exec) {own : String} {index : Nat} {y : MethodName} {bytes : ByteArray} {maxL : Nat} {ret : Option FieldType} {hh : List (Nat × Nat × Nat × Nat)}
    (hown : s.vm.findClass own = some m.cls) (hlink : (Cond.methodLink own index y).before args s = true) (hstat : (Cond.static y).before args s = true) (hinit : (Cond.initialized y.cls).before args s = true)
    (hcode : (Cond.codeWith y bytes maxL ret hh).before args s = true) (hy : y.cls ≠ "java/lang/invoke/MethodHandle" ∧ y.cls ≠ "java/lang/invoke/VarHandle")
    {W9 : Nat} {Pre : Pt → Array Value → Prop} {Post : Pt → Array Value → Option Value → Pt → Prop} (hK : Back l R p e below s args y 3 W9 Pre Post)
    {g : JFrame} (hg : g.method = m) (hsize : g.locals.size = c.maxLocals) {argsL rest : List Value} (hlen : ∀ sig, parseMethodDescriptor y.desc = some sig → argsL.length = sig.parameters.length)
    (hstack : g.stack = argsL.reverse ++ rest) (hW : 2 * g.monitorRoom + (rest.map fun v => v.category).sum ≤ W9) (hdg : decode c.code g.pc = .ok (.invokestatic index, 3))
    (hpre : ∀ vm₁, s.WarmedH vm₁ → Pre ⟨T.setVm vm₁, locs, cells, slots⟩ argsL.toArray) :
    ∃ (v : Option Value) (vm₁ : Vm) (B : Pt), s.WarmedH vm₁ ∧ Stand p l e R s m args below meth c B.U B.locs B.cells B.slots ∧ Post ⟨T.setVm vm₁, locs, cells, slots⟩ argsL.toArray v B ∧
      ∀ target, Steps p.tables e below (B.U.setTop { g with pc := g.pc + 3, stack := v.toList ++ rest }) target → Steps p.tables e below (T.setTop g) target := by
  obtain ⟨mk, methM, cM, hnamed, hmethM, -, -, -, -, -, -, hsigM⟩ := Cond.codeWith_spec hcode
  have hstatic : methM.isStatic = true := Cond.static_spec hnamed hmethM hstat
  obtain ⟨kP, hkP, -⟩ := className_of_methodNamed hnamed
  have hinitP : kP.init = .initialized := Cond.initialized_spec (findClass_of_methodNamed hnamed) hkP hinit
  obtain ⟨vm₁, X₁, hstep₁⟩ := X.invokestatic hexec hown hlink hnamed hmethM hstatic hkP hinitP hy (g := g) hg (argsL := argsL) (rest := rest) (hlen _ hsigM) hstack hdg
  obtain ⟨v, B, X', hpost, hsteps⟩ := hK m meth c ⟨T.setVm vm₁, locs, cells, slots⟩ { g with stack := rest } (.invokestatic index) mk argsL.toArray X₁ hg hsize hdg hW (X₁.named hnamed) (hpre vm₁ X₁.warmed)
  exact ⟨v, vm₁, B, X₁.warmed, X', hpost, fun target h => hstep₁ _ fun acts => by rw [doInvoke_state]; exact hsteps.trans h⟩
theorem vx_runSW {y : MethodName} {bytes cc : ByteArray} {maxL nL mc ms n index : Nat} {ret : Option FieldType} {hh : List (Nat × Nat × Nat × Nat)} {ws : List Cond} {rm : Room} {Pc : Array Value → State → Prop} {Qc : Array Value → State → Outcome → State → Prop} {free : Addr → Prop} {Ts : List Cond} {own : String} {As rest : List Value} {g : JFrame}
    (S : CallFix p m c cc nL s args Ts own) (hM : Met l y ws rm Pc Qc mc ms free) (cw : vx_CSW R s args own index y bytes maxL ret hh ws rm mc ms n) (hp : PreS s H Pc As)
    (hg : g.method = m) (hn : As.length = n) (hsize : g.locals.size = nL) (hstack : g.stack = As.reverse ++ rest) (hW : 2 * g.monitorRoom + (rest.map fun v => v.category).sum ≤ 8) (hdg : decode cc g.pc = .ok (.invokestatic index, 3)) (hf : cells + mc ≤ R.cells ∧ slots + ms ≤ R.slots) :
    va_Run p l e R s m args below meth c H locs cells slots mc ms g rest (Qc As.toArray) (free) := by
  obtain ⟨⟨hrc, hrs, hfr, hlo, hws, hcw⟩, hcode, hini, hy, hlen, hl, hstt⟩ := cw
  have hK : Back l R p e below s args y 3 8 (PreOf R mc ms Pc) (PostOf Qc mc ms free) := va_backW (hh := hh) (bytes := bytes) (maxL := maxL) (ret := ret) hM hp.1 hrc hrs hfr hlo hws hcw (fun a' U hW => word_at hW (Or.inl (by first | rfl | simp [Cond.onTables, Cond.keeps, Cond.steady])) hini)
  obtain ⟨hx, hb, hml, ho, -⟩ := S
  intro T hT X
  obtain ⟨v, vm₁, ⟨U', l2, c2, s2⟩, hW₁, X', ⟨g', mk, t, L, e1, e2, hq, h1, hL, h2, h3⟩, st⟩ := vx_callSW X hx (hh := hh) (bytes := bytes) (maxL := maxL) (ret := ret) ho hl hstt hini hcode hy hK hg (hsize.trans hml.symm) (argsL := As) (rest := rest) (fun sig h => hn.trans (hlen sig h)) hstack hW (by rw [hb]; exact hdg)
    (fun vm₁ hW₁ => ⟨hf.1, hf.2, hp.2 (T.setVm vm₁) hT hW₁⟩)
  dsimp only [Pt.U, Pt.locs, Pt.cells, Pt.slots] at X' e1 e2 h1 h2 h3 st
  subst h1; subst h2; subst h3
  exact ⟨v, (T.setVm vm₁).calling g' mk As.toArray, t, U', L, hT, X', hL, e1, e2, hq, st⟩
/-- not caught here, past rows that name other classes: it goes on to the caller -/
theorem vx_outP {p : Program} {l : Launch} {e : Env} {R : Room} {s : State} {m : MethodId} {args : Array Value} {below : List Frame} {meth : Method} {c : Code} {H : Heap} {locs : List Loc} {cells slots : Nat} {free : Addr → Prop} {ls : Array Slot} {rest : List Value} {Qc : Array Value → State → Outcome → State → Prop} {XC : String → State → State → Prop}
    {pc : Nat} {own E : String} {ce : Cell} {q : Addr} {mc ms : Nat} (hown : s.vm.findClass own = some m.cls) (hlocks : meth.locks = false)
    (hpass : ∀ z ∈ c.exceptionTable.toList, covers z pc = false ∨ (z.catchType ≠ 0 ∧ ∃ nm : String, (Cond.classLink own z.catchType nm).before args s = true ∧ va_Nc E nm s)) (hcell : H[q]? = some ce) (hv : ce.vm = .none) (hcl : s.vm.findClass E = some ce.cls)
    (hx : ∀ t : State, t.heap = H → s.vm.Alike t.vm → XC E s t) (hf : ∀ z ∈ locs, free z.base) (hc : cells ≤ mc) (hs : slots ≤ ms) :
    vx_W p l e R s m args below meth c H locs cells slots (vx_MQ below Qc XC args s mc ms free) (F0 m pc ls rest) q := by
  intro T hT X
  have hpl : e.platform.magicAccessors = ({} : Platform).magicAccessors := by rw [X.admits.platform]
  obtain ⟨vm', hW', X', st⟩ := X.outThrough hlocks q (g := F0 m pc ls rest) rfl rfl rfl (cell := ce) (by rw [hT]; exact hcell) (by rw [hv]; rfl)
    (by obtain ⟨k9, h9, -⟩ := Vm.findClass_spec hcl; exact ⟨k9, h9⟩) (fun z hz => by
      rcases hpass z hz with h | ⟨hz0, nm, hl1, hn1⟩
      · exact Or.inl h
      · obtain ⟨c6, hc6, hcl6⟩ := Cond.classLink_spec hown hl1 e.platform hpl
        obtain ⟨a8, b8, h1, h2, h3⟩ := hn1
        cases Option.some.inj (h1.symm.trans hcl)
        cases Option.some.inj (h2.symm.trans hc6)
        exact Or.inr ⟨hz0, _, hcl6, h3⟩)
  obtain ⟨g₀, hfr⟩ := X'.frames_eq
  have hcell9 : ((T.setVm vm').setFrames (.throwing q :: below)).heap[q]? = some ce := by
    show T.heap[q]? = some ce
    rw [hT]; exact hcell
  have hend : Ended ((T.setVm vm').setFrames (.throwing q :: below)) below (.threw q) := State.frames_setFrames _ (State.cur_lt_of_frames hfr)
  refine ⟨(T.setVm vm').setFrames (.throwing q :: below), ?_, .threw q, X'.here.running, hend, Or.inr ⟨q, rfl, E, ce, locs, hx _ hT (X'.ends _).1.alike, hcell9, hv, hcl, (X'.ends _).1, (X'.ends _).2.mono hc hs, hf⟩⟩
  rw [X.pushThrowing_eq]
  exact st
/-- a thing of a world lies in the heap -/
theorem vx_lt {D : va_G} {cl : List vw_C} {ws : va_W} {H1 : Heap} (h : va_P D cl ws H1) {k : Nat} {q : Nat × va_E} (hk : ws[k]? = some q) : q.1 < H1.size := (h k q hk).lt
end VXS
/-! ===== END ===== -/
/-! ===== BEGIN methods with a table of their own: called by a name, returning or throwing ===== -/
section VXH
/-! vx_backW, vx_callVX, vx_callSX, vx_callVW, vx_runVW, vx_runVX, vx_runSX, vx_ofWH follow the same proofs as their sisters above (Free/Laws.lean, Shelf42/LK1.lean); vx_outP calls Shelf42/NT130.lean (outThrough). -/
section
variable {l : Launch} {R : Room} {p : Program} {e : Env} {below : List Frame} {s : State} {sargs : Array Value} {y : MethodName} {len W9 : Nat}
theorem vx_backW {ws : List Cond} {rm : Room} {Pc : Array Value → State → Prop} {Qc : Array Value → State → Outcome → State → Prop} {XC : String → State → State → Prop} {mc ms : Nat} {free : Addr → Prop} {bytes : ByteArray} {maxL : Nat} {ret : Option FieldType} {hh : List (Nat × Nat × Nat × Nat)}
    (hM : vx_Met l y ws rm Pc Qc XC mc ms free) (hblind : FrameBlind Pc) (hrc : rm.cells = mc) (hrs : rm.slots = ms)
    (hframes : rm.frames + 1 ≤ R.frames) (hlocals : W9 + (maxL + 11) + rm.locals ≤ R.locals)
    (hws : ∀ w ∈ ws, ∀ a' U, s.WarmedH U.vm → w.before a' U = true) (hcode : Cond.codeWith y bytes maxL ret hh ∈ ws) (hinit : ∀ a' U, s.WarmedH U.vm → (Cond.initialized y.cls).before a' U = true) :
    vx_Back l R p e below s sargs y len W9 (PreOf R mc ms Pc) (PostOf Qc mc ms free) (vx_Post XC mc ms free) := by
  intro m meth c A g ig mk a X hg hsize hdg hW hn hp
  have h1 : (headSpec ws rm).pre.before a A.U = true := atoms_intro fun w hw => hws w hw _ _ X.warmed
  have h2 : (Cond.codeWith y bytes maxL ret hh).before a A.U = true := hws _ hcode _ _ X.warmed
  have h3 : (Cond.initialized y.cls).before a A.U = true := hinit _ _ X.warmed
  have h4 : A.cells + (headSpec ws rm).room.cells ≤ R.cells := by rw [show (headSpec ws rm).room.cells = mc from hrc]; exact hp.1
  have h5 : A.slots + (headSpec ws rm).room.slots ≤ R.slots := by rw [show (headSpec ws rm).room.slots = ms from hrs]; exact hp.2.1
  have hPc : Pc a (A.U.calling g mk a) := hblind _ _ _ _ hp.2.2
  obtain ⟨U, Ls, c0, s0⟩ := A
  dsimp only [Pt.U, Pt.locs, Pt.cells, Pt.slots] at h1 h2 h3 h4 h5 X hn hPc ⊢
  obtain ⟨m9, methY, cY, hn9, hmY, hcY, -, hlY, -⟩ := Cond.codeWith_spec h2
  cases Option.some.inj (hn9.symm.trans hn)
  obtain ⟨kY, hkY, -⟩ := className_of_methodNamed hn
  have hinitY : kY.init = .initialized := Cond.initialized_spec (findClass_of_methodNamed hn) hkY h3
  have h : At U g.method c below := by rw [hg]; exact X.here
  have hlocals9 : W9 + (maxL + 11) + (headSpec ws rm).room.locals ≤ R.locals := hlocals
  have happ : (headSpec ws rm).appliesLoose y e.platform (U.calling g mk a) = true :=
    Spec.appliesLoose_calling (g := g) h hdg hn hkY hinitY
      (X.room_calling (g := g) (R' := (headSpec ws rm).room) hsize hmY hcY hframes (by rw [hlY]; omega) h4 h5) h1
  obtain ⟨mid, hmid⟩ := h.above
  have hfr : (U.setTop g).frames = (.java g :: mid) ++ below := by rw [State.frames_setTop' g h.top, hmid]; rfl
  obtain ⟨o, s₂, hsteps, -, hend, hq⟩ := Steps.callFree hM p X.admits X.cas X.clock (acts := []) hfr happ hPc trivial
  have hq' : vx_Q Qc XC mc ms free a (U.calling g mk a) o s₂ := hq
  rw [State.frames_setTop' g h.top] at hend
  obtain ⟨g₀, hg0⟩ := Option.isSome_iff_exists.mp h.top
  obtain ⟨r, hr⟩ := State.topJava?_eq_some.mp hg0
  have hr' : (({ U with heap := s₂.heap, slotsUsed := s₂.slotsUsed } : State).setVm s₂.vm).frames = .java g₀ :: r := hr
  rcases hq' with ⟨hqc, L, hfe, hL⟩ | ⟨q, rfl, E, ce, L, hx, hce, hcv, hcl, hW₂, hsm, hL⟩
  · obtain ⟨⟨v, rfl⟩, hW₂, e2, q2, q3, q4, q5, q6⟩ := id hfe
    have e3 : s₂ = ({ (U.calling g mk a).setFrames s₂.frames with heap := s₂.heap, slotsUsed := s₂.slotsUsed } : State).setVm s₂.vm := by
      have : s₂ = ({ s₂ with vm := (U.calling g mk a).vm } : State).setVm s₂.vm := rfl
      rw [e2] at this
      exact this
    obtain ⟨c₂, i₂, len₂, hc₂, hd₂, hf₂⟩ := hend
    have hW' : U.WarmedH s₂.vm := hW₂
    have hcc : c₂ = c := by
      have h1 : s₂.code? g.method = U.code? g.method := by
        rw [State.code?_eq, State.code?_eq, hW'.alike.method?]
      exact Option.some.inj (hc₂.symm.trans (h1.trans h.code))
    subst hcc
    have hlen : len₂ = len := by rw [hdg] at hd₂; cases hd₂; rfl
    subst hlen
    have hs₂ : s₂ = (({ U with heap := s₂.heap, slotsUsed := s₂.slotsUsed } : State).setVm s₂.vm).setTop { g with pc := g.pc + len₂, stack := v.toList ++ g.stack } := by
      refine e3.trans ?_
      rw [hf₂, State.calling_eq h.top, State.setFrames_setFrames, State.setTop_of_frames _ hr', hr]
      rfl
    have hsame : U.sameButNew ({ U with heap := s₂.heap, slotsUsed := s₂.slotsUsed } : State) L mc ms := by
      refine ⟨?_, q2, q3, q4, q5, q6⟩
      obtain ⟨t, ht, -⟩ := State.frames_cons hr
      show ({ U with heap := s₂.heap, slotsUsed := s₂.slotsUsed } : State) = { U.setFrames U.frames with heap := s₂.heap, slotsUsed := s₂.slotsUsed }
      rw [State.setFrames_self ht]
    subst hg
    refine Or.inl ⟨v, ⟨(({ U with heap := s₂.heap, slotsUsed := s₂.slotsUsed } : State).setVm s₂.vm), Ls ++ L, c0 + mc, s0 + ms⟩,
      ⟨X.admits, X.cas, X.clock, X.frames, X.room, X.hears, X.method, X.code, (X.here.setHeapUsed s₂.heap s₂.slotsUsed).setVm hW'.alike, X.tail, State.WarmedH.trans X.warmed hW', X.limits, X.bytes, X.same.trans (hsame.setVm s.vm)⟩,
      ⟨g, mk, s₂, L, rfl, rfl, hqc, rfl, hL, rfl, rfl⟩, ?_⟩
    show Steps p.tables e below _ ((({ U with heap := s₂.heap, slotsUsed := s₂.slotsUsed } : State).setVm s₂.vm).setTop { g with pc := g.pc + len₂, stack := v.toList ++ g.stack })
    rw [← hs₂]
    exact hsteps
  · obtain ⟨e2, q2, q3, q4, q5, q6⟩ := id hsm
    have e3 : s₂ = ({ (U.calling g mk a).setFrames s₂.frames with heap := s₂.heap, slotsUsed := s₂.slotsUsed } : State).setVm s₂.vm := by
      have : s₂ = ({ s₂ with vm := (U.calling g mk a).vm } : State).setVm s₂.vm := rfl
      rw [e2] at this
      exact this
    have hf₂ : s₂.frames = .throwing q :: .java g :: U.frames.tail := hend
    have hW' : U.WarmedH s₂.vm := hW₂
    have hs₂ : s₂ = ((({ U with heap := s₂.heap, slotsUsed := s₂.slotsUsed } : State).setVm s₂.vm).setTop g).pushFrame (.throwing q) := by
      refine e3.trans ?_
      rw [hf₂, State.calling_eq h.top, State.setFrames_setFrames, State.pushFrame, State.frames_setTop _ hr', State.setTop_of_frames _ hr', State.setFrames_setFrames, hr]
      rfl
    have hsame : U.sameButNew ({ U with heap := s₂.heap, slotsUsed := s₂.slotsUsed } : State) L mc ms := by
      refine ⟨?_, q2, q3, q4, q5, q6⟩
      obtain ⟨t, ht, -⟩ := State.frames_cons hr
      show ({ U with heap := s₂.heap, slotsUsed := s₂.slotsUsed } : State) = { U.setFrames U.frames with heap := s₂.heap, slotsUsed := s₂.slotsUsed }
      rw [State.setFrames_self ht]
    subst hg
    refine Or.inr ⟨q, ⟨(({ U with heap := s₂.heap, slotsUsed := s₂.slotsUsed } : State).setVm s₂.vm), Ls ++ L, c0 + mc, s0 + ms⟩,
      ⟨X.admits, X.cas, X.clock, X.frames, X.room, X.hears, X.method, X.code, (X.here.setHeapUsed s₂.heap s₂.slotsUsed).setVm hW'.alike, X.tail, State.WarmedH.trans X.warmed hW', X.limits, X.bytes, X.same.trans (hsame.setVm s.vm)⟩,
      ⟨g, mk, s₂, L, E, ce, rfl, rfl, hx, hce, hcv, hcl, rfl, hL, rfl, rfl⟩, ?_⟩
    show Steps p.tables e below _ (((({ U with heap := s₂.heap, slotsUsed := s₂.slotsUsed } : State).setVm s₂.vm).setTop g).pushFrame (.throwing q))
    rw [← hs₂]
    exact hsteps
end
variable {p : Program} {l : Launch} {e : Env} {R : Room} {s : State} {m : MethodId} {args : Array Value} {below : List Frame} {meth : Method} {c : Code} {T : State} {H : Heap} {locs : List Loc} {cells slots : Nat}
theorem vx_callVX (X : Stand p l e R s m args below meth c T locs cells slots) (hexec : p.tables.exec = Jvm.exec) {own C : String} {index : Nat} {y : MethodName} {bytes : ByteArray} {maxL : Nat} {ret : Option FieldType} {hh : List (Nat × Nat × Nat × Nat)}
    (hown : s.vm.findClass own = some m.cls) (hlink : (Cond.methodLink own index y).before args s = true) (hinst : (Cond.instanceMethod y).before args s = true) (hsel : (Cond.selects C y y).before args s = true)
    (hcode : (Cond.codeWith y bytes maxL ret hh).before args s = true) (hy : y.cls ≠ "java/lang/invoke/MethodHandle" ∧ y.cls ≠ "java/lang/invoke/VarHandle")
    {W9 : Nat} {Pre : Pt → Array Value → Prop} {Post : Pt → Array Value → Option Value → Pt → Prop} {PostX : Pt → Array Value → Addr → Pt → Prop} (hK : vx_Back l R p e below s args y 3 W9 Pre Post PostX)
    {b : Addr} {cellB : Cell} (hcell : T.heap[b]? = some cellB) (hobj : cellB.vm.isStatics = false) (hcls : s.vm.findClass C = some cellB.cls)
    {g : JFrame} (hg : g.method = m) (hsize : g.locals.size = c.maxLocals) {argsL rest : List Value} (hlen : ∀ sig, parseMethodDescriptor y.desc = some sig → argsL.length = sig.parameters.length)
    (hstack : g.stack = argsL.reverse ++ .ref b :: rest) (hW : 2 * g.monitorRoom + (rest.map fun v => v.category).sum ≤ W9) (hdg : decode c.code g.pc = .ok (.invokevirtual index, 3))
    (hpre : ∀ vm₁, s.WarmedH vm₁ → Pre ⟨T.setVm vm₁, locs, cells, slots⟩ (Value.ref b :: argsL).toArray) :
    (∃ (v : Option Value) (vm₁ : Vm) (B : Pt), s.WarmedH vm₁ ∧ Stand p l e R s m args below meth c B.U B.locs B.cells B.slots ∧ Post ⟨T.setVm vm₁, locs, cells, slots⟩ (Value.ref b :: argsL).toArray v B ∧
      ∀ target, Steps p.tables e below (B.U.setTop { g with pc := g.pc + 3, stack := v.toList ++ rest }) target → Steps p.tables e below (T.setTop g) target) ∨
    (∃ (q : Addr) (vm₁ : Vm) (B : Pt), s.WarmedH vm₁ ∧ Stand p l e R s m args below meth c B.U B.locs B.cells B.slots ∧ PostX ⟨T.setVm vm₁, locs, cells, slots⟩ (Value.ref b :: argsL).toArray q B ∧
      Steps p.tables e below (T.setTop g) ((B.U.setTop { g with stack := rest }).pushFrame (.throwing q))) := by
  obtain ⟨mk, methM, hnamed, hmethM, hstM, habM⟩ := Cond.instanceMethod_spec hinst
  obtain ⟨m8, methM', cM, hn8, hmethM', -, -, -, -, -, -, hsigM⟩ := Cond.codeWith_spec hcode
  cases Option.some.inj (hn8.symm.trans hnamed)
  cases hmethM.symm.trans hmethM'
  obtain ⟨c2, r2, m2, q1, q2, q3, q4, kP, hkP, hkPi⟩ := Cond.selects_spec hsel
  cases hcls.symm.trans q1
  cases (State.methodFound?_of_named hnamed hy).symm.trans q2
  cases hnamed.symm.trans q3
  have hselP : selectMethod e.platform s.vm cellB.cls mk = .method mk := by rw [Launch.admits_selectMethod X.admits]; exact q4
  obtain ⟨vm₁, X₁, hstep₁⟩ := X.invokevirtual hexec hown hlink hnamed hmethM hstM hkP hkPi hy (a := b) (cell := cellB) hcell
    (fun z h => by rw [h] at hobj; cases hobj) hselP hmethM habM hkP hkPi (g := g) hg (argsL := argsL) (rest := rest) (hlen _ hsigM) hstack hdg
  rcases hK m meth c ⟨T.setVm vm₁, locs, cells, slots⟩ { g with stack := rest } (.invokevirtual index) mk (Value.ref b :: argsL).toArray X₁ hg hsize hdg hW (X₁.named hnamed) (hpre vm₁ X₁.warmed) with ⟨v, B, X', hpost, hsteps⟩ | ⟨q, B, X', hpost, hsteps⟩
  · exact Or.inl ⟨v, vm₁, B, X₁.warmed, X', hpost, fun target h => hstep₁ _ fun acts => by rw [doInvoke_state]; exact hsteps.trans h⟩
  · exact Or.inr ⟨q, vm₁, B, X₁.warmed, X', hpost, hstep₁ _ fun acts => by rw [doInvoke_state]; exact hsteps⟩
theorem vx_callSX (X : Stand p l e R s m args below meth c T locs cells slots) (hexec : p.tables.exec = Jvm.exec) {own : String} {index : Nat} {y : MethodName} {bytes : ByteArray} {maxL : Nat} {ret : Option FieldType} {hh : List (Nat × Nat × Nat × Nat)}
    (hown : s.vm.findClass own = some m.cls) (hlink : (Cond.methodLink own index y).before args s = true) (hstat : (Cond.static y).before args s = true) (hinit : (Cond.initialized y.cls).before args s = true)
    (hcode : (Cond.codeWith y bytes maxL ret hh).before args s = true) (hy : y.cls ≠ "java/lang/invoke/MethodHandle" ∧ y.cls ≠ "java/lang/invoke/VarHandle")
    {W9 : Nat} {Pre : Pt → Array Value → Prop} {Post : Pt → Array Value → Option Value → Pt → Prop} {PostX : Pt → Array Value → Addr → Pt → Prop} (hK : vx_Back l R p e below s args y 3 W9 Pre Post PostX)
    {g : JFrame} (hg : g.method = m) (hsize : g.locals.size = c.maxLocals) {argsL rest : List Value} (hlen : ∀ sig, parseMethodDescriptor y.desc = some sig → argsL.length = sig.parameters.length)
    (hstack : g.stack = argsL.reverse ++ rest) (hW : 2 * g.monitorRoom + (rest.map fun v => v.category).sum ≤ W9) (hdg : decode c.code g.pc = .ok (.invokestatic index, 3))
    (hpre : ∀ vm₁, s.WarmedH vm₁ → Pre ⟨T.setVm vm₁, locs, cells, slots⟩ argsL.toArray) :
    (∃ (v : Option Value) (vm₁ : Vm) (B : Pt), s.WarmedH vm₁ ∧ Stand p l e R s m args below meth c B.U B.locs B.cells B.slots ∧ Post ⟨T.setVm vm₁, locs, cells, slots⟩ argsL.toArray v B ∧
      ∀ target, Steps p.tables e below (B.U.setTop { g with pc := g.pc + 3, stack := v.toList ++ rest }) target → Steps p.tables e below (T.setTop g) target) ∨
    (∃ (q : Addr) (vm₁ : Vm) (B : Pt), s.WarmedH vm₁ ∧ Stand p l e R s m args below meth c B.U B.locs B.cells B.slots ∧ PostX ⟨T.setVm vm₁, locs, cells, slots⟩ argsL.toArray q B ∧
      Steps p.tables e below (T.setTop g) ((B.U.setTop { g with stack := rest }).pushFrame (.throwing q))) := by
  obtain ⟨mk, methM, cM, hnamed, hmethM, -, -, -, -, -, -, hsigM⟩ := Cond.codeWith_spec hcode
  have hstatic : methM.isStatic = true := Cond.static_spec hnamed hmethM hstat
  obtain ⟨kP, hkP, -⟩ := className_of_methodNamed hnamed
  have hinitP : kP.init = .initialized := Cond.initialized_spec (findClass_of_methodNamed hnamed) hkP hinit
  obtain ⟨vm₁, X₁, hstep₁⟩ := X.invokestatic hexec hown hlink hnamed hmethM hstatic hkP hinitP hy (g := g) hg (argsL := argsL) (rest := rest) (hlen _ hsigM) hstack hdg
  rcases hK m meth c ⟨T.setVm vm₁, locs, cells, slots⟩ { g with stack := rest } (.invokestatic index) mk argsL.toArray X₁ hg hsize hdg hW (X₁.named hnamed) (hpre vm₁ X₁.warmed) with ⟨v, B, X', hpost, hsteps⟩ | ⟨q, B, X', hpost, hsteps⟩
  · exact Or.inl ⟨v, vm₁, B, X₁.warmed, X', hpost, fun target h => hstep₁ _ fun acts => by rw [doInvoke_state]; exact hsteps.trans h⟩
  · exact Or.inr ⟨q, vm₁, B, X₁.warmed, X', hpost, hstep₁ _ fun acts => by rw [doInvoke_state]; exact hsteps⟩
theorem vx_callVW (X : Stand p l e R s m args below meth c T locs cells slots) (hexec : p.tables.exec = Jvm.exec) {own C : String} {index : Nat} {y : MethodName} {bytes : ByteArray} {maxL : Nat} {ret : Option FieldType} {hh : List (Nat × Nat × Nat × Nat)}
    (hown : s.vm.findClass own = some m.cls) (hlink : (Cond.methodLink own index y).before args s = true) (hinst : (Cond.instanceMethod y).before args s = true) (hsel : (Cond.selects C y y).before args s = true)
    (hcode : (Cond.codeWith y bytes maxL ret hh).before args s = true) (hy : y.cls ≠ "java/lang/invoke/MethodHandle" ∧ y.cls ≠ "java/lang/invoke/VarHandle")
    {W9 : Nat} {Pre : Pt → Array Value → Prop} {Post : Pt → Array Value → Option Value → Pt → Prop} (hK : Back l R p e below s args y 3 W9 Pre Post)
    {b : Addr} {cellB : Cell} (hcell : T.heap[b]? = some cellB) (hobj : cellB.vm.isStatics = false) (hcls : s.vm.findClass C = some cellB.cls)
    {g : JFrame} (hg : g.method = m) (hsize : g.locals.size = c.maxLocals) {argsL rest : List Value} (hlen : ∀ sig, parseMethodDescriptor y.desc = some sig → argsL.length = sig.parameters.length)
    (hstack : g.stack = argsL.reverse ++ .ref b :: rest) (hW : 2 * g.monitorRoom + (rest.map fun v => v.category).sum ≤ W9) (hdg : decode c.code g.pc = .ok (.invokevirtual index, 3))
    (hpre : ∀ vm₁, s.WarmedH vm₁ → Pre ⟨T.setVm vm₁, locs, cells, slots⟩ (Value.ref b :: argsL).toArray) :
    ∃ (v : Option Value) (vm₁ : Vm) (B : Pt), s.WarmedH vm₁ ∧ Stand p l e R s m args below meth c B.U B.locs B.cells B.slots ∧ Post ⟨T.setVm vm₁, locs, cells, slots⟩ (Value.ref b :: argsL).toArray v B ∧
      ∀ target, Steps p.tables e below (B.U.setTop { g with pc := g.pc + 3, stack := v.toList ++ rest }) target → Steps p.tables e below (T.setTop g) target := by
  obtain ⟨mk, methM, hnamed, hmethM, hstM, habM⟩ := Cond.instanceMethod_spec hinst
  obtain ⟨m8, methM', cM, hn8, hmethM', -, -, -, -, -, -, hsigM⟩ := Cond.codeWith_spec hcode
  cases Option.some.inj (hn8.symm.trans hnamed)
  cases hmethM.symm.trans hmethM'
  obtain ⟨c2, r2, m2, q1, q2, q3, q4, kP, hkP, hkPi⟩ := Cond.selects_spec hsel
  cases hcls.symm.trans q1
  cases (State.methodFound?_of_named hnamed hy).symm.trans q2
  cases hnamed.symm.trans q3
  have hselP : selectMethod e.platform s.vm cellB.cls mk = .method mk := by rw [Launch.admits_selectMethod X.admits]; exact q4
  obtain ⟨vm₁, X₁, hstep₁⟩ := X.invokevirtual hexec hown hlink hnamed hmethM hstM hkP hkPi hy (a := b) (cell := cellB) hcell
    (fun z h => by rw [h] at hobj; cases hobj) hselP hmethM habM hkP hkPi (g := g) hg (argsL := argsL) (rest := rest) (hlen _ hsigM) hstack hdg
  obtain ⟨v, B, X', hpost, hsteps⟩ := hK m meth c ⟨T.setVm vm₁, locs, cells, slots⟩ { g with stack := rest } (.invokevirtual index) mk (Value.ref b :: argsL).toArray X₁ hg hsize hdg hW (X₁.named hnamed) (hpre vm₁ X₁.warmed)
  exact ⟨v, vm₁, B, X₁.warmed, X', hpost, fun target h => hstep₁ _ fun acts => by rw [doInvoke_state]; exact hsteps.trans h⟩
abbrev vx_CVW (R : Room) (s : State) (args : Array Value) (own C : String) (index : Nat) (y : MethodName) (bytes : ByteArray) (maxL : Nat) (ret : Option FieldType) (hh : List (Nat × Nat × Nat × Nat)) (ws : List Cond) (rm : Room) (mc ms n : Nat) : Prop :=
  (rm.cells = mc ∧ rm.slots = ms ∧ rm.frames + 1 ≤ R.frames ∧ 8 + (maxL + 11) + rm.locals ≤ R.locals ∧ (∀ w ∈ ws, ∀ (a' : Array Value) (U : State), s.WarmedH U.vm → w.before a' U = true) ∧ Cond.codeWith y bytes maxL ret hh ∈ ws) ∧
  (Cond.codeWith y bytes maxL ret hh).before args s = true ∧ (Cond.initialized y.cls).before args s = true ∧ (y.cls ≠ "java/lang/invoke/MethodHandle" ∧ y.cls ≠ "java/lang/invoke/VarHandle") ∧
  (∀ sig, parseMethodDescriptor y.desc = some sig → n = sig.parameters.length) ∧ (Cond.methodLink own index y).before args s = true ∧ (Cond.instanceMethod y).before args s = true ∧ (Cond.selects C y y).before args s = true
theorem vx_cwVW {own C : String} {index maxL mc ms : Nat} {y : MethodName} {bytes : ByteArray} {ret : Option FieldType} {hh : List (Nat × Nat × Nat × Nat)} {Ts ws ws' : List Cond} {rm : Room} (n : Nat) (ht : ∀ w ∈ Ts, w.before args s = true) (hT : GoodIn Ts (wsV own index C y ws)) (hw : ws = Cond.codeWith y bytes maxL ret hh :: ws') (hrc : rm.cells = mc) (hrs : rm.slots = ms)
    (hd : y.cls = C ∧ y.cls ≠ "java/lang/invoke/MethodHandle" ∧ y.cls ≠ "java/lang/invoke/VarHandle" ∧ (parseMethodDescriptor y.desc).map (fun d => d.parameters.length) = some n) (hR : rm.frames + 1 ≤ R.frames ∧ 8 + (maxL + 11) + rm.locals ≤ R.locals) :
    vx_CVW R s args own C index y bytes maxL ret hh ws rm mc ms n := by
  obtain ⟨hC, hd⟩ := hd
  subst hC
  have ok : ∀ w ∈ wsV own index y.cls y ws, w.before args s = true := fun w h => ht w (hT w h).1
  have hG : GoodIn Ts ws := fun w h => hT w (by unfold wsV; exact List.mem_append_right _ h)
  have hc : Cond.codeWith y bytes maxL ret hh ∈ ws := by rw [hw]; exact List.mem_cons_self
  refine ⟨⟨hrc, hrs, hR.1, hR.2, pay_in ht hG, hc⟩, ht _ (hG _ hc).1, ok _ (by simp [wsV]), ⟨hd.1, hd.2.1⟩, fun sig h => ?_, ok _ (by simp [wsV]), ok _ (by simp [wsV]), ok _ (by simp [wsV])⟩
  have h2 := hd.2.2
  rw [h] at h2
  exact (Option.some.inj h2).symm
theorem vx_runVW {y : MethodName} {bytes cc : ByteArray} {maxL nL mc ms n index : Nat} {ret : Option FieldType} {hh : List (Nat × Nat × Nat × Nat)} {ws : List Cond} {rm : Room} {Pc : Array Value → State → Prop} {Qc : Array Value → State → Outcome → State → Prop} {free : Addr → Prop} {Ts : List Cond} {own C : String} {b : Addr} {As rest : List Value} {g : JFrame}
    (S : CallFix p m c cc nL s args Ts own) (hM : Met l y ws rm Pc Qc mc ms free) (cw : vx_CVW R s args own C index y bytes maxL ret hh ws rm mc ms n) (hp : PreV s H C b Pc As)
    (hg : g.method = m) (hn : As.length = n) (hsize : g.locals.size = nL) (hstack : g.stack = As.reverse ++ .ref b :: rest) (hW : 2 * g.monitorRoom + (rest.map fun v => v.category).sum ≤ 8) (hdg : decode cc g.pc = .ok (.invokevirtual index, 3)) (hf : cells + mc ≤ R.cells ∧ slots + ms ≤ R.slots) :
    va_Run p l e R s m args below meth c H locs cells slots mc ms g rest (Qc (Value.ref b :: As).toArray) free := by
  obtain ⟨⟨hrc, hrs, hfr, hlo, hws, hcw⟩, hcode, hini, hy, hlen, hl, hin, hse⟩ := cw
  have hK : Back l R p e below s args y 3 8 (PreOf R mc ms Pc) (PostOf Qc mc ms free) := va_backW (hh := hh) (bytes := bytes) (maxL := maxL) (ret := ret) hM hp.1 hrc hrs hfr hlo hws hcw (fun a' U hW => word_at hW (Or.inl (by first | rfl | simp [Cond.onTables, Cond.keeps, Cond.steady])) hini)
  obtain ⟨hx, hb, hml, ho, -⟩ := S
  obtain ⟨-, ⟨cellB, hcB, hoB, hclB⟩, hPc⟩ := hp
  intro T hT X
  obtain ⟨v, vm₁, ⟨U', l2, c2, s2⟩, hW₁, X', ⟨g', mk, t, L, e1, e2, hq, h1, hL, h2, h3⟩, st⟩ := vx_callVW X hx (C := C) (hh := hh) (bytes := bytes) (maxL := maxL) (ret := ret) ho hl hin hse hcode hy hK (by rw [hT]; exact hcB) hoB hclB hg (hsize.trans hml.symm) (argsL := As) (rest := rest) (fun sig h => hn.trans (hlen sig h)) hstack hW (by rw [hb]; exact hdg)
    (fun vm₁ hW₁ => ⟨hf.1, hf.2, hPc (T.setVm vm₁) hT hW₁⟩)
  dsimp only [Pt.U, Pt.locs, Pt.cells, Pt.slots] at X' e1 e2 h1 h2 h3 st
  subst h1; subst h2; subst h3
  exact ⟨v, (T.setVm vm₁).calling g' mk (Value.ref b :: As).toArray, t, U', L, hT, X', hL, e1, e2, hq, st⟩
section
variable {y : MethodName} {bytes cc : ByteArray} {maxL nL mc ms n index : Nat} {ret : Option FieldType} {ws : List Cond} {rm : Room} {Pc : Array Value → State → Prop} {Qc : Array Value → State → Outcome → State → Prop} {XC : String → State → State → Prop} {free : Addr → Prop} {Ts : List Cond} {own C : String} {b : Addr} {As rest : List Value} {g : JFrame}
theorem vx_runVX {hh : List (Nat × Nat × Nat × Nat)} (S : CallFix p m c cc nL s args Ts own) (hM : vx_Met l y ws rm Pc Qc XC mc ms free) (cw : vx_CVW R s args own C index y bytes maxL ret hh ws rm mc ms n) (hp : PreV s H C b Pc As)
    (hg : g.method = m) (hn : As.length = n) (hsize : g.locals.size = nL) (hstack : g.stack = As.reverse ++ .ref b :: rest) (hW : 2 * g.monitorRoom + (rest.map fun v => v.category).sum ≤ 8) (hdg : decode cc g.pc = .ok (.invokevirtual index, 3)) (hf : cells + mc ≤ R.cells ∧ slots + ms ≤ R.slots) :
    vx_Run p l e R s m args below meth c H locs cells slots mc ms g rest (Qc (Value.ref b :: As).toArray) XC free := by
  obtain ⟨⟨hrc, hrs, hfr, hlo, hws, hcw⟩, hcode, hini, hy, hlen, hl, hin, hse⟩ := cw
  have hK : vx_Back l R p e below s args y 3 8 (PreOf R mc ms Pc) (PostOf Qc mc ms free) (vx_Post XC mc ms free) := vx_backW (hh := hh) (bytes := bytes) (maxL := maxL) (ret := ret) hM hp.1 hrc hrs hfr hlo hws hcw (fun a' U hW => word_at hW (Or.inl (by first | rfl | simp [Cond.onTables, Cond.keeps, Cond.steady])) hini)
  obtain ⟨hx, hb, hml, ho, -⟩ := S
  obtain ⟨-, ⟨cellB, hcB, hoB, hclB⟩, hPc⟩ := hp
  intro T hT X
  rcases vx_callVX X hx (C := C) (hh := hh) (bytes := bytes) (maxL := maxL) (ret := ret) ho hl hin hse hcode hy hK (by rw [hT]; exact hcB) hoB hclB hg (hsize.trans hml.symm) (argsL := As) (rest := rest) (fun sig h => hn.trans (hlen sig h)) hstack hW (by rw [hb]; exact hdg)
    (fun vm₁ hW₁ => ⟨hf.1, hf.2, hPc (T.setVm vm₁) hT hW₁⟩) with ⟨v, vm₁, ⟨U', l2, c2, s2⟩, hW₁, X', ⟨g', mk, t, L, e1, e2, hq, h1, hL, h2, h3⟩, st⟩ | ⟨q, vm₁, ⟨U', l2, c2, s2⟩, hW₁, X', ⟨g', mk, t, L, E, ce, e1, e2, hq, hce, hcv, hcl, h1, hL, h2, h3⟩, st⟩
  · dsimp only [Pt.U, Pt.locs, Pt.cells, Pt.slots] at X' e1 e2 h1 h2 h3 st
    subst h1; subst h2; subst h3
    exact Or.inl ⟨v, (T.setVm vm₁).calling g' mk (Value.ref b :: As).toArray, t, U', L, hT, X', hL, e1, e2, hq, st⟩
  · dsimp only [Pt.U, Pt.locs, Pt.cells, Pt.slots] at X' e1 e2 h1 h2 h3 st hcl
    subst h1; subst h2; subst h3
    exact Or.inr ⟨q, (T.setVm vm₁).calling g' mk (Value.ref b :: As).toArray, t, U', L, E, ce, hT, X', hL, e1, e2, hq, hce, hcv, vx_cls hW₁ hcl, st⟩
theorem vx_runSX {hh : List (Nat × Nat × Nat × Nat)} (S : CallFix p m c cc nL s args Ts own) (hM : vx_Met l y ws rm Pc Qc XC mc ms free) (cw : vx_CSW R s args own index y bytes maxL ret hh ws rm mc ms n) (hp : PreS s H Pc As)
    (hg : g.method = m) (hn : As.length = n) (hsize : g.locals.size = nL) (hstack : g.stack = As.reverse ++ rest) (hW : 2 * g.monitorRoom + (rest.map fun v => v.category).sum ≤ 8) (hdg : decode cc g.pc = .ok (.invokestatic index, 3)) (hf : cells + mc ≤ R.cells ∧ slots + ms ≤ R.slots) :
    vx_Run p l e R s m args below meth c H locs cells slots mc ms g rest (Qc As.toArray) XC free := by
  obtain ⟨⟨hrc, hrs, hfr, hlo, hws, hcw⟩, hcode, hini, hy, hlen, hl, hstt⟩ := cw
  have hK : vx_Back l R p e below s args y 3 8 (PreOf R mc ms Pc) (PostOf Qc mc ms free) (vx_Post XC mc ms free) := vx_backW (hh := hh) (bytes := bytes) (maxL := maxL) (ret := ret) hM hp.1 hrc hrs hfr hlo hws hcw (fun a' U hW => word_at hW (Or.inl (by first | rfl | simp [Cond.onTables, Cond.keeps, Cond.steady])) hini)
  obtain ⟨hx, hb, hml, ho, -⟩ := S
  intro T hT X
  rcases vx_callSX X hx (hh := hh) (bytes := bytes) (maxL := maxL) (ret := ret) ho hl hstt hini hcode hy hK hg (hsize.trans hml.symm) (argsL := As) (rest := rest) (fun sig h => hn.trans (hlen sig h)) hstack hW (by rw [hb]; exact hdg)
    (fun vm₁ hW₁ => ⟨hf.1, hf.2, hp.2 (T.setVm vm₁) hT hW₁⟩) with ⟨v, vm₁, ⟨U', l2, c2, s2⟩, hW₁, X', ⟨g', mk, t, L, e1, e2, hq, h1, hL, h2, h3⟩, st⟩ | ⟨q, vm₁, ⟨U', l2, c2, s2⟩, hW₁, X', ⟨g', mk, t, L, E, ce, e1, e2, hq, hce, hcv, hcl, h1, hL, h2, h3⟩, st⟩
  · dsimp only [Pt.U, Pt.locs, Pt.cells, Pt.slots] at X' e1 e2 h1 h2 h3 st
    subst h1; subst h2; subst h3
    exact Or.inl ⟨v, (T.setVm vm₁).calling g' mk As.toArray, t, U', L, hT, X', hL, e1, e2, hq, st⟩
  · dsimp only [Pt.U, Pt.locs, Pt.cells, Pt.slots] at X' e1 e2 h1 h2 h3 st hcl
    subst h1; subst h2; subst h3
    exact Or.inr ⟨q, (T.setVm vm₁).calling g' mk As.toArray, t, U', L, E, ce, hT, X', hL, e1, e2, hq, hce, hcv, vx_cls hW₁ hcl, st⟩
end
end VXH
theorem vx_ofWH {l : Launch} {y : MethodName} {ws ws' : List Cond} {rm : Room} {Pc : Array Value → State → Prop} {Qc : Array Value → State → Outcome → State → Prop} {XC : String → State → State → Prop} {mc ms : Nat} {free : Addr → Prop} {cc : ByteArray} {maxL : Nat} {ret : Option FieldType} {hh : List (Nat × Nat × Nat × Nat)}
    (hy : plainName y.cls = true) (hw : ws = Cond.codeWith y cc maxL ret hh :: ws')
    (body : ∀ p e s m args below meth c s₁, BodyLoose p l y (headSpec ws rm) cc maxL ret e s m args below meth c s₁ → c.maxLocals = maxL → Pc args s →
      W p l e (headSpec ws rm).room s m args below meth c s.heap [] 0 0 (vx_MQ below Qc XC args s mc ms free) (entryFrame m args maxL)) : vx_Met l y ws rm Pc Qc XC mc ms free := by
  refine MetFree.of_bodyS (code := cc) (maxLocals := maxL) (ret := ret) hy ?_ ?_
  · intro args s m h hn
    obtain ⟨m9, meth, c, hn9, h1, h2, h3, h4, -, h5, h6, -⟩ := Cond.codeWith_spec (atoms_spec (ws := ws) h _ (by rw [hw]; exact List.mem_cons_self))
    cases hn.symm.trans hn9
    exact ⟨meth, c, h1, h2, h3, h4, h5, h6⟩
  · intro p e s m args below meth c s₁ B hml hP _
    have hh0 : s₁.heap = s.heap := by rw [B.state]; rfl
    obtain ⟨t, a1, o, b1, b2, b3⟩ := body p e s m args below meth c s₁ B hml hP s₁ hh0 (Stand.of_body B)
    exact ⟨t, o, a1, b1, b2, b3⟩
/-! ===== END ===== -/
end
section
/-! ===== BEGIN printed: names, fields, word lists, decode rows ===== -/
def RX0 : String := "GroveMerge$EditDistance"
def TX0 : u_T := fun k => match k with
  | 0 => ("GroveMerge$EditDistance", "ofParts", "[[I", true)
  | 1 => ("GroveMerge$EditDistance", "ofRests", "[[I", true)
  | 2 => ("GroveMerge$EditDistance", "endsA", "[I", true)
  | _ => ("GroveMerge$EditDistance", "endsB", "[I", true)
def tyX0 : Nat → FieldType := fun k => match k with
  | 0 => .array (.array .int)
  | 1 => .array (.array .int)
  | 2 => .array .int
  | _ => .array .int
abbrev wsX00 : List Cond := u_ws RX0 TX0 4
theorem nmX0 : ∀ a, a < 4 → ∀ b, b < 4 → a ≠ b → (TX0 a).2.1 ≠ (TX0 b).2.1 := by decide +kernel
theorem tyX0_ok : ∀ k, k < 4 → parseFieldDescriptor (TX0 k).2.2.1 = some (tyX0 k) := by decide +kernel
abbrev cX0_init : ByteArray := prog_2_method_1_code
def yX0_init : MethodName := ⟨RX0, "<init>", "()V"⟩
abbrev cX0_between : ByteArray := prog_2_method_2_code
def yX0_between : MethodName := ⟨RX0, "between", "(LGroveMerge$Tree;LGroveMerge$Tree;)I"⟩
abbrev cX0_compareWithAll : ByteArray := prog_2_method_3_code
def yX0_compareWithAll : MethodName := ⟨RX0, "compareWithAll", "(LGroveMerge$Tree;LGroveMerge$Tree;I)V"⟩
abbrev cX0_noteEnds : ByteArray := prog_2_method_4_code
def yX0_noteEnds : MethodName := ⟨RX0, "noteEnds", "(LGroveMerge$Tree;[I)V"⟩
abbrev cX0_isWidest : ByteArray := prog_2_method_5_code
def yX0_isWidest : MethodName := ⟨RX0, "isWidest", "(LGroveMerge$Tree;[II)Z"⟩
abbrev cX0_compareParts : ByteArray := prog_2_method_6_code
def yX0_compareParts : MethodName := ⟨RX0, "compareParts", "(LGroveMerge$Tree;LGroveMerge$Tree;II)V"⟩
abbrev cX0_least : ByteArray := prog_2_method_7_code
def yX0_least : MethodName := ⟨RX0, "least", "(III)I"⟩
def RX1 : String := "GroveMerge$History"
def TX1 : u_T := fun k => match k with
  | 0 => ("GroveMerge$History", "trees", "[LGroveMerge$Tree;", true)
  | 1 => ("GroveMerge$History", "firstParent", "[I", true)
  | 2 => ("GroveMerge$History", "secondParent", "[I", true)
  | 3 => ("GroveMerge$History", "size", "I", false)
  | _ => ("GroveMerge$History", "reach", "[I", true)
def tyX1 : Nat → FieldType := fun k => match k with
  | 0 => .array (.object "GroveMerge$Tree")
  | 1 => .array .int
  | 2 => .array .int
  | 3 => .int
  | _ => .array .int
abbrev wsX10 : List Cond := u_ws RX1 TX1 5
theorem nmX1 : ∀ a, a < 5 → ∀ b, b < 5 → a ≠ b → (TX1 a).2.1 ≠ (TX1 b).2.1 := by decide +kernel
theorem tyX1_ok : ∀ k, k < 5 → parseFieldDescriptor (TX1 k).2.2.1 = some (tyX1 k) := by decide +kernel
abbrev cX1_init : ByteArray := prog_3_method_1_code
def yX1_init : MethodName := ⟨RX1, "<init>", "()V"⟩
abbrev cX1_record : ByteArray := prog_3_method_2_code
def yX1_record : MethodName := ⟨RX1, "record", "(LGroveMerge$Tree;II)I"⟩
abbrev cX1_reachOf : ByteArray := prog_3_method_3_code
def yX1_reachOf : MethodName := ⟨RX1, "reachOf", "(I)I"⟩
abbrev cX1_baseOf : ByteArray := prog_3_method_4_code
def yX1_baseOf : MethodName := ⟨RX1, "baseOf", "(II)I"⟩
abbrev cX1_isReachedFromAnother : ByteArray := prog_3_method_5_code
def yX1_isReachedFromAnother : MethodName := ⟨RX1, "isReachedFromAnother", "(II)Z"⟩
def RX2 : String := "GroveMerge$Merger"
def TX2 : u_T := fun k => match k with
  | 0 => ("GroveMerge$Merger", "result", "LGroveMerge$Tree;", true)
  | 1 => ("GroveMerge$Merger", "conflicts", "[I", true)
  | _ => ("GroveMerge$Merger", "conflictCount", "I", false)
def tyX2 : Nat → FieldType := fun k => match k with
  | 0 => .object "GroveMerge$Tree"
  | 1 => .array .int
  | _ => .int
abbrev wsX20 : List Cond := u_ws RX2 TX2 3
theorem nmX2 : ∀ a, a < 3 → ∀ b, b < 3 → a ≠ b → (TX2 a).2.1 ≠ (TX2 b).2.1 := by decide +kernel
theorem tyX2_ok : ∀ k, k < 3 → parseFieldDescriptor (TX2 k).2.2.1 = some (tyX2 k) := by decide +kernel
abbrev cX2_init : ByteArray := prog_4_method_1_code
def yX2_init : MethodName := ⟨RX2, "<init>", "()V"⟩
abbrev cX2_run : ByteArray := prog_4_method_2_code
def yX2_run : MethodName := ⟨RX2, "run", "(LGroveMerge$Tree;LGroveMerge$Tree;LGroveMerge$Tree;)I"⟩
abbrev cX2_settle : ByteArray := prog_4_method_3_code
def yX2_settle : MethodName := ⟨RX2, "settle", "(ILGroveMerge$Tree;LGroveMerge$Tree;LGroveMerge$Tree;)V"⟩
abbrev cX2_agreed : ByteArray := prog_4_method_4_code
def yX2_agreed : MethodName := ⟨RX2, "agreed", "(III)I"⟩
abbrev cX2_name : ByteArray := prog_4_method_5_code
def yX2_name : MethodName := ⟨RX2, "name", "(II)V"⟩
abbrev cX2_nameThoseWithoutParent : ByteArray := prog_4_method_6_code
def yX2_nameThoseWithoutParent : MethodName := ⟨RX2, "nameThoseWithoutParent", "()V"⟩
abbrev cX2_nameThoseCutOff : ByteArray := prog_4_method_7_code
def yX2_nameThoseCutOff : MethodName := ⟨RX2, "nameThoseCutOff", "()V"⟩
abbrev cX2_comesToRoot : ByteArray := prog_4_method_8_code
def yX2_comesToRoot : MethodName := ⟨RX2, "comesToRoot", "(I)Z"⟩
abbrev cX2_arrange : ByteArray := prog_4_method_9_code
def yX2_arrange : MethodName := ⟨RX2, "arrange", "(LGroveMerge$Tree;LGroveMerge$Tree;)V"⟩
abbrev cX2_arrangeChildren : ByteArray := prog_4_method_10_code
def yX2_arrangeChildren : MethodName := ⟨RX2, "arrangeChildren", "(ILGroveMerge$Tree;LGroveMerge$Tree;)V"⟩
abbrev cX2_isChildNowAsIn : ByteArray := prog_4_method_11_code
def yX2_isChildNowAsIn : MethodName := ⟨RX2, "isChildNowAsIn", "(LGroveMerge$Tree;II)Z"⟩
def RX3 : String := "GroveMerge$PathWalk"
def TX3 : u_T := fun k => match k with
  | _ => ("", "", "", false)
def tyX3 : Nat → FieldType := fun k => match k with
  | _ => .int
abbrev wsX30 : List Cond := u_ws RX3 TX3 0
theorem nmX3 : ∀ a, a < 0 → ∀ b, b < 0 → a ≠ b → (TX3 a).2.1 ≠ (TX3 b).2.1 := by decide +kernel
theorem tyX3_ok : ∀ k, k < 0 → parseFieldDescriptor (TX3 k).2.2.1 = some (tyX3 k) := by decide +kernel
abbrev cX3_follow : ByteArray := prog_5_method_2_code
def yX3_follow : MethodName := ⟨RX3, "follow", "(ILGroveMerge$Tree;)I"⟩
abbrev cX3_alongAxis : ByteArray := prog_5_method_3_code
def yX3_alongAxis : MethodName := ⟨RX3, "alongAxis", "(IILGroveMerge$Tree;)I"⟩
abbrev cX3_childrenOf : ByteArray := prog_5_method_4_code
def yX3_childrenOf : MethodName := ⟨RX3, "childrenOf", "(ILGroveMerge$Tree;)I"⟩
abbrev cX3_below : ByteArray := prog_5_method_5_code
def yX3_below : MethodName := ⟨RX3, "below", "(ILGroveMerge$Tree;)I"⟩
abbrev cX3_behind : ByteArray := prog_5_method_6_code
def yX3_behind : MethodName := ⟨RX3, "behind", "(ILGroveMerge$Tree;)I"⟩
abbrev cX3_labelled : ByteArray := prog_5_method_7_code
def yX3_labelled : MethodName := ⟨RX3, "labelled", "(ILGroveMerge$Tree;)I"⟩
def RX4 : String := "GroveMerge$Tree"
def TX4 : u_T := fun k => match k with
  | 0 => ("GroveMerge$Tree", "order", "[I", true)
  | 1 => ("GroveMerge$Tree", "spot", "[I", true)
  | 2 => ("GroveMerge$Tree", "parent", "[I", true)
  | 3 => ("GroveMerge$Tree", "label", "[I", true)
  | 4 => ("GroveMerge$Tree", "size", "I", false)
  | _ => ("GroveMerge$Tree", "carried", "[I", true)
def tyX4 : Nat → FieldType := fun k => match k with
  | 0 => .array .int
  | 1 => .array .int
  | 2 => .array .int
  | 3 => .array .int
  | 4 => .int
  | _ => .array .int
abbrev wsX40 : List Cond := u_ws RX4 TX4 6
theorem nmX4 : ∀ a, a < 6 → ∀ b, b < 6 → a ≠ b → (TX4 a).2.1 ≠ (TX4 b).2.1 := by decide +kernel
theorem tyX4_ok : ∀ k, k < 6 → parseFieldDescriptor (TX4 k).2.2.1 = some (tyX4 k) := by decide +kernel
abbrev cX4_init : ByteArray := prog_6_method_1_code
def yX4_init : MethodName := ⟨RX4, "<init>", "()V"⟩
abbrev cX4_clear : ByteArray := prog_6_method_2_code
def yX4_clear : MethodName := ⟨RX4, "clear", "()V"⟩
abbrev cX4_copyFrom : ByteArray := prog_6_method_3_code
def yX4_copyFrom : MethodName := ⟨RX4, "copyFrom", "(LGroveMerge$Tree;)V"⟩
abbrev cX4_isSameAs : ByteArray := prog_6_method_4_code
def yX4_isSameAs : MethodName := ⟨RX4, "isSameAs", "(LGroveMerge$Tree;)Z"⟩
abbrev cX4_hasAsIn : ByteArray := prog_6_method_5_code
def yX4_hasAsIn : MethodName := ⟨RX4, "hasAsIn", "(LGroveMerge$Tree;I)Z"⟩
abbrev cX4_holds : ByteArray := prog_6_method_6_code
def yX4_holds : MethodName := ⟨RX4, "holds", "(I)Z"⟩
abbrev cX4_isWithin : ByteArray := prog_6_method_7_code
def yX4_isWithin : MethodName := ⟨RX4, "isWithin", "(II)Z"⟩
abbrev cX4_childCount : ByteArray := prog_6_method_8_code
def yX4_childCount : MethodName := ⟨RX4, "childCount", "(I)I"⟩
abbrev cX4_slotFor : ByteArray := prog_6_method_9_code
def yX4_slotFor : MethodName := ⟨RX4, "slotFor", "(II)I"⟩
abbrev cX4_endOf : ByteArray := prog_6_method_10_code
def yX4_endOf : MethodName := ⟨RX4, "endOf", "(I)I"⟩
abbrev cX4_parentSpot : ByteArray := prog_6_method_11_code
def yX4_parentSpot : MethodName := ⟨RX4, "parentSpot", "(I)I"⟩
abbrev cX4_plant : ByteArray := prog_6_method_12_code
def yX4_plant : MethodName := ⟨RX4, "plant", "(II)V"⟩
abbrev cX4_attach : ByteArray := prog_6_method_13_code
def yX4_attach : MethodName := ⟨RX4, "attach", "(IIII)V"⟩
abbrev cX4_prune : ByteArray := prog_6_method_14_code
def yX4_prune : MethodName := ⟨RX4, "prune", "(I)I"⟩
abbrev cX4_transplant : ByteArray := prog_6_method_15_code
def yX4_transplant : MethodName := ⟨RX4, "transplant", "(III)V"⟩
abbrev cX4_putInto : ByteArray := prog_6_method_16_code
def yX4_putInto : MethodName := ⟨RX4, "putInto", "(II)V"⟩
abbrev cX4_takeOut : ByteArray := prog_6_method_17_code
def yX4_takeOut : MethodName := ⟨RX4, "takeOut", "(I)I"⟩
abbrev cX4_putCarried : ByteArray := prog_6_method_18_code
def yX4_putCarried : MethodName := ⟨RX4, "putCarried", "(II)V"⟩
abbrev cX4_renumberFrom : ByteArray := prog_6_method_19_code
def yX4_renumberFrom : MethodName := ⟨RX4, "renumberFrom", "(I)V"⟩
abbrev cX4_pick : ByteArray := prog_6_method_20_code
def yX4_pick : MethodName := ⟨RX4, "pick", "(II)I"⟩
abbrev cX4_firstAlike : ByteArray := prog_6_method_21_code
def yX4_firstAlike : MethodName := ⟨RX4, "firstAlike", "(I)I"⟩
abbrev cX4_areAlike : ByteArray := prog_6_method_22_code
def yX4_areAlike : MethodName := ⟨RX4, "areAlike", "(II)Z"⟩
def RX5 : String := "GroveMerge"
def TX5 : u_T := fun k => match k with
  | 0 => ("GroveMerge", "working", "LGroveMerge$Tree;", true)
  | 1 => ("GroveMerge", "history", "LGroveMerge$History;", true)
  | 2 => ("GroveMerge", "merger", "LGroveMerge$Merger;", true)
  | 3 => ("GroveMerge", "editDistance", "LGroveMerge$EditDistance;", true)
  | 4 => ("GroveMerge", "made", "I", false)
  | 5 => ("GroveMerge", "head", "I", false)
  | _ => ("GroveMerge", "takenIn", "I", false)
def tyX5 : Nat → FieldType := fun k => match k with
  | 0 => .object "GroveMerge$Tree"
  | 1 => .object "GroveMerge$History"
  | 2 => .object "GroveMerge$Merger"
  | 3 => .object "GroveMerge$EditDistance"
  | 4 => .int
  | 5 => .int
  | _ => .int
abbrev wsX50 : List Cond := u_ws RX5 TX5 7
theorem nmX5 : ∀ a, a < 7 → ∀ b, b < 7 → a ≠ b → (TX5 a).2.1 ≠ (TX5 b).2.1 := by decide +kernel
theorem tyX5_ok : ∀ k, k < 7 → parseFieldDescriptor (TX5 k).2.2.1 = some (tyX5 k) := by decide +kernel
abbrev cX5_init : ByteArray := prog_1_method_1_code
def yX5_init : MethodName := ⟨RX5, "<init>", "()V"⟩
abbrev cX5_insert : ByteArray := prog_1_method_2_code
def yX5_insert : MethodName := ⟨RX5, "insert", "(III)I"⟩
abbrev cX5_delete : ByteArray := prog_1_method_3_code
def yX5_delete : MethodName := ⟨RX5, "delete", "(I)I"⟩
abbrev cX5_move : ByteArray := prog_1_method_4_code
def yX5_move : MethodName := ⟨RX5, "move", "(III)V"⟩
abbrev cX5_relabel : ByteArray := prog_1_method_5_code
def yX5_relabel : MethodName := ⟨RX5, "relabel", "(II)V"⟩
abbrev cX5_commit : ByteArray := prog_1_method_6_code
def yX5_commit : MethodName := ⟨RX5, "commit", "()I"⟩
abbrev cX5_checkout : ByteArray := prog_1_method_7_code
def yX5_checkout : MethodName := ⟨RX5, "checkout", "(I)V"⟩
abbrev cX5_base : ByteArray := prog_1_method_8_code
def yX5_base : MethodName := ⟨RX5, "base", "(II)I"⟩
abbrev cX5_merge : ByteArray := prog_1_method_9_code
def yX5_merge : MethodName := ⟨RX5, "merge", "(I)I"⟩
abbrev cX5_conflict : ByteArray := prog_1_method_10_code
def yX5_conflict : MethodName := ⟨RX5, "conflict", "(I)I"⟩
abbrev cX5_about : ByteArray := prog_1_method_11_code
def yX5_about : MethodName := ⟨RX5, "about", "(II)I"⟩
abbrev cX5_child : ByteArray := prog_1_method_12_code
def yX5_child : MethodName := ⟨RX5, "child", "(II)I"⟩
abbrev cX5_nodes : ByteArray := prog_1_method_13_code
def yX5_nodes : MethodName := ⟨RX5, "nodes", "(Z)I"⟩
abbrev cX5_count : ByteArray := prog_1_method_14_code
def yX5_count : MethodName := ⟨RX5, "count", "(I)I"⟩
abbrev cX5_find : ByteArray := prog_1_method_15_code
def yX5_find : MethodName := ⟨RX5, "find", "(II)I"⟩
abbrev cX5_alike : ByteArray := prog_1_method_16_code
def yX5_alike : MethodName := ⟨RX5, "alike", "(I)I"⟩
abbrev cX5_distance : ByteArray := prog_1_method_17_code
def yX5_distance : MethodName := ⟨RX5, "distance", "(II)I"⟩
abbrev cX5_state : ByteArray := prog_1_method_18_code
def yX5_state : MethodName := ⟨RX5, "state", "(I)I"⟩
abbrev cX5_above : ByteArray := prog_1_method_19_code
def yX5_above : MethodName := ⟨RX5, "above", "(II)I"⟩
abbrev cX5_requireNode : ByteArray := prog_1_method_20_code
def yX5_requireNode : MethodName := ⟨RX5, "requireNode", "(I)V"⟩
abbrev cX5_requireCommit : ByteArray := prog_1_method_21_code
def yX5_requireCommit : MethodName := ⟨RX5, "requireCommit", "(I)V"⟩
abbrev cX5_requirePlace : ByteArray := prog_1_method_22_code
def yX5_requirePlace : MethodName := ⟨RX5, "requirePlace", "(II)V"⟩
abbrev cX5_requireLabel : ByteArray := prog_1_method_23_code
def yX5_requireLabel : MethodName := ⟨RX5, "requireLabel", "(I)V"⟩
abbrev cX5_isIn : ByteArray := prog_1_method_24_code
def yX5_isIn : MethodName := ⟨RX5, "isIn", "(II)Z"⟩
def RX6 : String := "GroveMergeModel"
def TX6 : u_T := fun k => match k with
  | 0 => ("GroveMergeModel", "thrown", "I", false)
  | 1 => ("GroveMergeModel", "there", "[Z", true)
  | 2 => ("GroveMergeModel", "label", "[I", true)
  | 3 => ("GroveMergeModel", "parent", "[I", true)
  | 4 => ("GroveMergeModel", "place", "[I", true)
  | 5 => ("GroveMergeModel", "made", "I", false)
  | 6 => ("GroveMergeModel", "commits", "I", false)
  | 7 => ("GroveMergeModel", "one", "[I", true)
  | 8 => ("GroveMergeModel", "two", "[I", true)
  | 9 => ("GroveMergeModel", "reach", "[I", true)
  | 10 => ("GroveMergeModel", "head", "I", false)
  | 11 => ("GroveMergeModel", "taken", "I", false)
  | 12 => ("GroveMergeModel", "conflicts", "I", false)
  | 13 => ("GroveMergeModel", "conflict", "[I", true)
  | 14 => ("GroveMergeModel", "stays", "[Z", true)
  | 15 => ("GroveMergeModel", "kind", "[I", true)
  | 16 => ("GroveMergeModel", "newLabel", "[I", true)
  | 17 => ("GroveMergeModel", "newParent", "[I", true)
  | 18 => ("GroveMergeModel", "many", "I", false)
  | 19 => ("GroveMergeModel", "order", "[I", true)
  | 20 => ("GroveMergeModel", "stack", "[I", true)
  | 21 => ("GroveMergeModel", "top", "I", false)
  | 22 => ("GroveMergeModel", "alike", "[I", true)
  | 23 => ("GroveMergeModel", "post", "[I", true)
  | 24 => ("GroveMergeModel", "leaf", "[I", true)
  | 25 => ("GroveMergeModel", "trees", "[I", true)
  | _ => ("GroveMergeModel", "forests", "[I", true)
def tyX6 : Nat → FieldType := fun k => match k with
  | 0 => .int
  | 1 => .array .boolean
  | 2 => .array .int
  | 3 => .array .int
  | 4 => .array .int
  | 5 => .int
  | 6 => .int
  | 7 => .array .int
  | 8 => .array .int
  | 9 => .array .int
  | 10 => .int
  | 11 => .int
  | 12 => .int
  | 13 => .array .int
  | 14 => .array .boolean
  | 15 => .array .int
  | 16 => .array .int
  | 17 => .array .int
  | 18 => .int
  | 19 => .array .int
  | 20 => .array .int
  | 21 => .int
  | 22 => .array .int
  | 23 => .array .int
  | 24 => .array .int
  | 25 => .array .int
  | _ => .array .int
abbrev wsX60 : List Cond := u_ws RX6 TX6 27
theorem nmX6 : ∀ a, a < 27 → ∀ b, b < 27 → a ≠ b → (TX6 a).2.1 ≠ (TX6 b).2.1 := by decide +kernel
theorem tyX6_ok : ∀ k, k < 27 → parseFieldDescriptor (TX6 k).2.2.1 = some (tyX6 k) := by decide +kernel
abbrev cX6_init : ByteArray := prog_8_method_1_code
def yX6_init : MethodName := ⟨RX6, "<init>", "()V"⟩
abbrev cX6_thrown : ByteArray := prog_8_method_2_code
def yX6_thrown : MethodName := ⟨RX6, "thrown", "()I"⟩
abbrev cX6_fail : ByteArray := prog_8_method_3_code
def yX6_fail : MethodName := ⟨RX6, "fail", "(I)I"⟩
abbrev cX6_copy : ByteArray := prog_8_method_4_code
def yX6_copy : MethodName := ⟨RX6, "copy", "(II)V"⟩
abbrev cX6_has : ByteArray := prog_8_method_5_code
def yX6_has : MethodName := ⟨RX6, "has", "(II)Z"⟩
abbrev cX6_isChild : ByteArray := prog_8_method_6_code
def yX6_isChild : MethodName := ⟨RX6, "isChild", "(III)Z"⟩
abbrev cX6_children : ByteArray := prog_8_method_7_code
def yX6_children : MethodName := ⟨RX6, "children", "(II)I"⟩
abbrev cX6_childAt : ByteArray := prog_8_method_8_code
def yX6_childAt : MethodName := ⟨RX6, "childAt", "(III)I"⟩
abbrev cX6_isAt : ByteArray := prog_8_method_9_code
def yX6_isAt : MethodName := ⟨RX6, "isAt", "(III)Z"⟩
abbrev cX6_shift : ByteArray := prog_8_method_10_code
def yX6_shift : MethodName := ⟨RX6, "shift", "(IIII)V"⟩
abbrev cX6_hang : ByteArray := prog_8_method_11_code
def yX6_hang : MethodName := ⟨RX6, "hang", "(IIII)V"⟩
abbrev cX6_unhang : ByteArray := prog_8_method_12_code
def yX6_unhang : MethodName := ⟨RX6, "unhang", "(II)V"⟩
abbrev cX6_walk : ByteArray := prog_8_method_13_code
def yX6_walk : MethodName := ⟨RX6, "walk", "(I)V"⟩
abbrev cX6_insert : ByteArray := prog_8_method_14_code
def yX6_insert : MethodName := ⟨RX6, "insert", "(III)I"⟩
abbrev cX6_delete : ByteArray := prog_8_method_15_code
def yX6_delete : MethodName := ⟨RX6, "delete", "(I)I"⟩
abbrev cX6_move : ByteArray := prog_8_method_16_code
def yX6_move : MethodName := ⟨RX6, "move", "(III)V"⟩
abbrev cX6_relabel : ByteArray := prog_8_method_17_code
def yX6_relabel : MethodName := ⟨RX6, "relabel", "(II)V"⟩
abbrev cX6_commit : ByteArray := prog_8_method_18_code
def yX6_commit : MethodName := ⟨RX6, "commit", "()I"⟩
abbrev cX6_isCommit : ByteArray := prog_8_method_19_code
def yX6_isCommit : MethodName := ⟨RX6, "isCommit", "(I)Z"⟩
abbrev cX6_checkout : ByteArray := prog_8_method_20_code
def yX6_checkout : MethodName := ⟨RX6, "checkout", "(I)V"⟩
abbrev cX6_baseOf : ByteArray := prog_8_method_21_code
def yX6_baseOf : MethodName := ⟨RX6, "baseOf", "(II)I"⟩
abbrev cX6_base : ByteArray := prog_8_method_22_code
def yX6_base : MethodName := ⟨RX6, "base", "(II)I"⟩
abbrev cX6_isHeads : ByteArray := prog_8_method_23_code
def yX6_isHeads : MethodName := ⟨RX6, "isHeads", "()Z"⟩
abbrev cX6_stay : ByteArray := prog_8_method_24_code
def yX6_stay : MethodName := ⟨RX6, "stay", "(III)I"⟩
abbrev cX6_choose : ByteArray := prog_8_method_25_code
def yX6_choose : MethodName := ⟨RX6, "choose", "(IIZI)I"⟩
abbrev cX6_meet : ByteArray := prog_8_method_26_code
def yX6_meet : MethodName := ⟨RX6, "meet", "(III)V"⟩
abbrev cX6_countKinds : ByteArray := prog_8_method_27_code
def yX6_countKinds : MethodName := ⟨RX6, "countKinds", "()I"⟩
abbrev cX6_comes : ByteArray := prog_8_method_28_code
def yX6_comes : MethodName := ⟨RX6, "comes", "(I)Z"⟩
abbrev cX6_findOrphans : ByteArray := prog_8_method_29_code
def yX6_findOrphans : MethodName := ⟨RX6, "findOrphans", "()V"⟩
abbrev cX6_findRings : ByteArray := prog_8_method_30_code
def yX6_findRings : MethodName := ⟨RX6, "findRings", "()V"⟩
abbrev cX6_putChildren : ByteArray := prog_8_method_31_code
def yX6_putChildren : MethodName := ⟨RX6, "putChildren", "(II)V"⟩
abbrev cX6_build : ByteArray := prog_8_method_32_code
def yX6_build : MethodName := ⟨RX6, "build", "(I)V"⟩
abbrev cX6_merge : ByteArray := prog_8_method_33_code
def yX6_merge : MethodName := ⟨RX6, "merge", "(I)I"⟩
abbrev cX6_conflict : ByteArray := prog_8_method_34_code
def yX6_conflict : MethodName := ⟨RX6, "conflict", "(I)I"⟩
abbrev cX6_numberOf : ByteArray := prog_8_method_35_code
def yX6_numberOf : MethodName := ⟨RX6, "numberOf", "(I)I"⟩
abbrev cX6_about : ByteArray := prog_8_method_36_code
def yX6_about : MethodName := ⟨RX6, "about", "(II)I"⟩
abbrev cX6_child : ByteArray := prog_8_method_37_code
def yX6_child : MethodName := ⟨RX6, "child", "(II)I"⟩
abbrev cX6_nodes : ByteArray := prog_8_method_38_code
def yX6_nodes : MethodName := ⟨RX6, "nodes", "(Z)I"⟩
abbrev cX6_isFound : ByteArray := prog_8_method_39_code
def yX6_isFound : MethodName := ⟨RX6, "isFound", "(III)Z"⟩
abbrev cX6_found : ByteArray := prog_8_method_40_code
def yX6_found : MethodName := ⟨RX6, "found", "(I)I"⟩
abbrev cX6_count : ByteArray := prog_8_method_41_code
def yX6_count : MethodName := ⟨RX6, "count", "(I)I"⟩
abbrev cX6_find : ByteArray := prog_8_method_42_code
def yX6_find : MethodName := ⟨RX6, "find", "(II)I"⟩
abbrev cX6_areAlike : ByteArray := prog_8_method_43_code
def yX6_areAlike : MethodName := ⟨RX6, "areAlike", "(II)Z"⟩
abbrev cX6_alike : ByteArray := prog_8_method_44_code
def yX6_alike : MethodName := ⟨RX6, "alike", "(I)I"⟩
abbrev cX6_leave : ByteArray := prog_8_method_45_code
def yX6_leave : MethodName := ⟨RX6, "leave", "(II)I"⟩
abbrev cX6_least : ByteArray := prog_8_method_46_code
def yX6_least : MethodName := ⟨RX6, "least", "(II)I"⟩
abbrev cX6_compare : ByteArray := prog_8_method_47_code
def yX6_compare : MethodName := ⟨RX6, "compare", "(IIII)V"⟩
abbrev cX6_distance : ByteArray := prog_8_method_48_code
def yX6_distance : MethodName := ⟨RX6, "distance", "(II)I"⟩
abbrev cX6_state : ByteArray := prog_8_method_49_code
def yX6_state : MethodName := ⟨RX6, "state", "(I)I"⟩
abbrev cX6_above : ByteArray := prog_8_method_50_code
def yX6_above : MethodName := ⟨RX6, "above", "(II)I"⟩
def RJx145de : String := "java/io/Serializable"
def TJx145de : u_T := fun k => match k with
  | _ => ("", "", "", false)
def tyJx145de : Nat → FieldType := fun k => match k with
  | _ => .int
abbrev wsJx145de0 : List Cond := u_ws RJx145de TJx145de 0
theorem nmJx145de : ∀ a, a < 0 → ∀ b, b < 0 → a ≠ b → (TJx145de a).2.1 ≠ (TJx145de b).2.1 := by decide +kernel
theorem tyJx145de_ok : ∀ k, k < 0 → parseFieldDescriptor (TJx145de k).2.2.1 = some (tyJx145de k) := by decide +kernel
def RJ6 : String := "java/lang/Integer"
def TJ6 : u_T := fun k => match k with
  | _ => ("", "", "", false)
def tyJ6 : Nat → FieldType := fun k => match k with
  | _ => .int
abbrev wsJ60 : List Cond := u_ws RJ6 TJ6 0
theorem nmJ6 : ∀ a, a < 0 → ∀ b, b < 0 → a ≠ b → (TJ6 a).2.1 ≠ (TJ6 b).2.1 := by decide +kernel
theorem tyJ6_ok : ∀ k, k < 0 → parseFieldDescriptor (TJ6 k).2.2.1 = some (tyJ6 k) := by decide +kernel
abbrev cJ6_bitCount_0f7a4 : ByteArray := prog_14_method_49_code
def yJ6_bitCount_0f7a4 : MethodName := ⟨RJ6, "bitCount", "(I)I"⟩
def RJ9 : String := "java/lang/Math"
def TJ9 : u_T := fun k => match k with
  | _ => ("", "", "", false)
def tyJ9 : Nat → FieldType := fun k => match k with
  | _ => .int
abbrev wsJ90 : List Cond := u_ws RJ9 TJ9 0
theorem nmJ9 : ∀ a, a < 0 → ∀ b, b < 0 → a ≠ b → (TJ9 a).2.1 ≠ (TJ9 b).2.1 := by decide +kernel
theorem tyJ9_ok : ∀ k, k < 0 → parseFieldDescriptor (TJ9 k).2.2.1 = some (tyJ9 k) := by decide +kernel
abbrev cJ9_min_7cf53 : ByteArray := prog_15_method_69_code
def yJ9_min_7cf53 : MethodName := ⟨RJ9, "min", "(II)I"⟩
def RJ0 : String := "java/lang/String"
def TJ0 : u_T := fun k => match k with
  | _ => ("", "", "", false)
def tyJ0 : Nat → FieldType := fun k => match k with
  | _ => .int
abbrev wsJ00 : List Cond := u_ws RJ0 TJ0 0
theorem nmJ0 : ∀ a, a < 0 → ∀ b, b < 0 → a ≠ b → (TJ0 a).2.1 ≠ (TJ0 b).2.1 := by decide +kernel
theorem tyJ0_ok : ∀ k, k < 0 → parseFieldDescriptor (TJ0 k).2.2.1 = some (tyJ0 k) := by decide +kernel
def RJ10 : String := "java/lang/System"
def TJ10 : u_T := fun k => match k with
  | _ => ("", "", "", false)
def tyJ10 : Nat → FieldType := fun k => match k with
  | _ => .int
abbrev wsJ100 : List Cond := u_ws RJ10 TJ10 0
theorem nmJ10 : ∀ a, a < 0 → ∀ b, b < 0 → a ≠ b → (TJ10 a).2.1 ≠ (TJ10 b).2.1 := by decide +kernel
theorem tyJ10_ok : ∀ k, k < 0 → parseFieldDescriptor (TJ10 k).2.2.1 = some (tyJ10 k) := by decide +kernel
def RJ7 : String := "java/util/Arrays"
def TJ7 : u_T := fun k => match k with
  | _ => ("", "", "", false)
def tyJ7 : Nat → FieldType := fun k => match k with
  | _ => .int
abbrev wsJ70 : List Cond := u_ws RJ7 TJ7 0
theorem nmJ7 : ∀ a, a < 0 → ∀ b, b < 0 → a ≠ b → (TJ7 a).2.1 ≠ (TJ7 b).2.1 := by decide +kernel
theorem tyJ7_ok : ∀ k, k < 0 → parseFieldDescriptor (TJ7 k).2.2.1 = some (tyJ7 k) := by decide +kernel
abbrev cJ7_fill_53178 : ByteArray := prog_21_method_103_code
def yJ7_fill_53178 : MethodName := ⟨RJ7, "fill", "([II)V"⟩
def RL : String := "GroveMergeLaw"
abbrev cL_insert : ByteArray := method_3_code
def yL_insert : MethodName := ⟨RL, "insert", "(LGroveMerge;III[J)I"⟩
abbrev cL_delete : ByteArray := method_4_code
def yL_delete : MethodName := ⟨RL, "delete", "(LGroveMerge;I[J)I"⟩
abbrev cL_move : ByteArray := method_5_code
def yL_move : MethodName := ⟨RL, "move", "(LGroveMerge;III)I"⟩
abbrev cL_relabel : ByteArray := method_6_code
def yL_relabel : MethodName := ⟨RL, "relabel", "(LGroveMerge;II)I"⟩
abbrev cL_commit : ByteArray := method_7_code
def yL_commit : MethodName := ⟨RL, "commit", "(LGroveMerge;[J)I"⟩
abbrev cL_checkout : ByteArray := method_8_code
def yL_checkout : MethodName := ⟨RL, "checkout", "(LGroveMerge;I)I"⟩
abbrev cL_base : ByteArray := method_9_code
def yL_base : MethodName := ⟨RL, "base", "(LGroveMerge;II[J)I"⟩
abbrev cL_merge : ByteArray := method_10_code
def yL_merge : MethodName := ⟨RL, "merge", "(LGroveMerge;I[J)I"⟩
abbrev cL_conflict : ByteArray := method_11_code
def yL_conflict : MethodName := ⟨RL, "conflict", "(LGroveMerge;I[J)I"⟩
abbrev cL_about : ByteArray := method_12_code
def yL_about : MethodName := ⟨RL, "about", "(LGroveMerge;II[J)I"⟩
abbrev cL_child : ByteArray := method_13_code
def yL_child : MethodName := ⟨RL, "child", "(LGroveMerge;II[J)I"⟩
abbrev cL_find : ByteArray := method_14_code
def yL_find : MethodName := ⟨RL, "find", "(LGroveMerge;II[J)I"⟩
abbrev cL_alike : ByteArray := method_15_code
def yL_alike : MethodName := ⟨RL, "alike", "(LGroveMerge;I[J)I"⟩
abbrev cL_distance : ByteArray := method_16_code
def yL_distance : MethodName := ⟨RL, "distance", "(LGroveMerge;II[J)I"⟩
abbrev cL_state : ByteArray := method_17_code
def yL_state : MethodName := ⟨RL, "state", "(LGroveMerge;I[J)I"⟩
abbrev cL_above : ByteArray := method_18_code
def yL_above : MethodName := ⟨RL, "above", "(LGroveMerge;II[J)I"⟩
abbrev cL_law : ByteArray := code
def yL_law : MethodName := ⟨RL, "law", "([I)Z"⟩
def wsX0_init : List Cond := .code yX0_init cX0_init 1 none :: ([.methodLink RX0 3 objectInit, .instanceMethod objectInit, .code objectInit ⟨#[0xb1]⟩ 1 none, .classLink RX0 9 "[[I", .arrayClass .int, .fieldLink RX0 11 "GroveMerge$EditDistance" "ofParts" "[[I", .fieldLink RX0 16 "GroveMerge$EditDistance" "ofRests" "[[I", .fieldLink RX0 19 "GroveMerge$EditDistance" "endsA" "[I", .fieldLink RX0 23 "GroveMerge$EditDistance" "endsB" "[I"] ++ wsX00)
def wsX4_parentSpot : List Cond := .code yX4_parentSpot cX4_parentSpot 3 (some .int) :: ([.fieldLink RX4 18 "GroveMerge$Tree" "parent" "[I", .fieldLink RX4 9 "GroveMerge$Tree" "order" "[I", .fieldLink RX4 15 "GroveMerge$Tree" "spot" "[I"] ++ wsX40)
def wsX4_endOf : List Cond := .code yX4_endOf cX4_endOf 3 (some .int) :: ([.fieldLink RX4 36 "GroveMerge$Tree" "size" "I", .methodLink RX4 54 yX4_parentSpot, .instanceMethod yX4_parentSpot, .selects RX4 yX4_parentSpot yX4_parentSpot, .initialized RX4, .code yX4_parentSpot cX4_parentSpot 3 (some .int), .fieldLink RX4 18 "GroveMerge$Tree" "parent" "[I", .fieldLink RX4 9 "GroveMerge$Tree" "order" "[I", .fieldLink RX4 15 "GroveMerge$Tree" "spot" "[I"] ++ wsX40)
def wsX0_noteEnds : List Cond := .code yX0_noteEnds cX0_noteEnds 3 none :: ([.fieldLink RX0 30 "GroveMerge$Tree" "size" "I", .methodLink RX0 48 yX4_endOf, .instanceMethod yX4_endOf, .selects RX4 yX4_endOf yX4_endOf, .initialized RX4, .code yX4_endOf cX4_endOf 3 (some .int), .fieldLink RX4 36 "GroveMerge$Tree" "size" "I", .methodLink RX4 54 yX4_parentSpot, .instanceMethod yX4_parentSpot, .selects RX4 yX4_parentSpot yX4_parentSpot, .code yX4_parentSpot cX4_parentSpot 3 (some .int), .fieldLink RX4 18 "GroveMerge$Tree" "parent" "[I", .fieldLink RX4 9 "GroveMerge$Tree" "order" "[I", .fieldLink RX4 15 "GroveMerge$Tree" "spot" "[I"] ++ wsX40)
def wsX0_isWidest : List Cond := .code yX0_isWidest cX0_isWidest 3 (some .boolean) :: ([.methodLink RX0 52 yX4_parentSpot, .instanceMethod yX4_parentSpot, .selects RX4 yX4_parentSpot yX4_parentSpot, .initialized RX4, .code yX4_parentSpot cX4_parentSpot 3 (some .int), .fieldLink RX4 18 "GroveMerge$Tree" "parent" "[I", .fieldLink RX4 9 "GroveMerge$Tree" "order" "[I", .fieldLink RX4 15 "GroveMerge$Tree" "spot" "[I"] ++ wsX40)
def wsX0_least : List Cond := .code yX0_least cX0_least 5 (some .int) :: ([.fieldLink RX0 16 "GroveMerge$EditDistance" "ofRests" "[[I", .methodLink RX0 65 Lib.Math.min.name, .static Lib.Math.min.name, .initialized "java/lang/Math", .code Lib.Math.min.name Lib.Math.min.code 2 (some .int)] ++ wsX00)
def wsX0_compareParts : List Cond := .code yX0_compareParts cX0_compareParts 10 none :: ([.fieldLink RX0 19 "GroveMerge$EditDistance" "endsA" "[I", .fieldLink RX0 23 "GroveMerge$EditDistance" "endsB" "[I", .fieldLink RX0 16 "GroveMerge$EditDistance" "ofRests" "[[I", .fieldLink RX0 55 "GroveMerge$Tree" "label" "[I", .fieldLink RX0 58 "GroveMerge$Tree" "order" "[I", .fieldLink RX0 11 "GroveMerge$EditDistance" "ofParts" "[[I", .methodLink RX0 61 yX0_least, .instanceMethod yX0_least, .selects RX0 yX0_least yX0_least, .initialized RX0, .code yX0_least cX0_least 5 (some .int), .methodLink RX0 65 Lib.Math.min.name, .static Lib.Math.min.name, .initialized "java/lang/Math", .code Lib.Math.min.name Lib.Math.min.code 2 (some .int)] ++ wsX00 ++ wsX40)
def wsX0_compareWithAll_r1 : List Cond := [Cond.fieldLink RX0 30 "GroveMerge$Tree" "size" "I", Cond.fieldLink RX0 23 "GroveMerge$EditDistance" "endsB" "[I", Cond.methodLink RX0 36 yX0_isWidest, Cond.static yX0_isWidest, Cond.initialized RX0, Cond.code yX0_isWidest cX0_isWidest 3 (some .boolean), Cond.methodLink RX0 52 yX4_parentSpot, Cond.instanceMethod yX4_parentSpot, Cond.selects RX4 yX4_parentSpot yX4_parentSpot, Cond.initialized RX4, Cond.code yX4_parentSpot cX4_parentSpot 3 (some .int), Cond.fieldLink RX4 18 "GroveMerge$Tree" "parent" "[I", Cond.fieldLink RX4 9 "GroveMerge$Tree" "order" "[I", Cond.fieldLink RX4 15 "GroveMerge$Tree" "spot" "[I", Cond.methodLink RX0 44 yX0_compareParts, Cond.instanceMethod yX0_compareParts, Cond.selects RX0 yX0_compareParts yX0_compareParts, Cond.code yX0_compareParts cX0_compareParts 10 none, Cond.fieldLink RX0 19 "GroveMerge$EditDistance" "endsA" "[I", Cond.fieldLink RX0 16 "GroveMerge$EditDistance" "ofRests" "[[I", Cond.fieldLink RX0 55 "GroveMerge$Tree" "label" "[I", Cond.fieldLink RX0 58 "GroveMerge$Tree" "order" "[I", Cond.fieldLink RX0 11 "GroveMerge$EditDistance" "ofParts" "[[I", Cond.methodLink RX0 61 yX0_least]
def wsX0_compareWithAll_r2 : List Cond := [Cond.instanceMethod yX0_least, Cond.selects RX0 yX0_least yX0_least, Cond.code yX0_least cX0_least 5 (some .int), Cond.methodLink RX0 65 Lib.Math.min.name, Cond.static Lib.Math.min.name, Cond.initialized "java/lang/Math", Cond.code Lib.Math.min.name Lib.Math.min.code 2 (some .int)]
def wsX0_compareWithAll : List Cond := .code yX0_compareWithAll cX0_compareWithAll 5 none :: ((wsX0_compareWithAll_r1 ++ wsX0_compareWithAll_r2) ++ wsX40 ++ wsX00)
def wsX0_between_r1 : List Cond := [Cond.fieldLink RX0 19 "GroveMerge$EditDistance" "endsA" "[I", Cond.fieldLink RX0 23 "GroveMerge$EditDistance" "endsB" "[I", Cond.fieldLink RX0 30 "GroveMerge$Tree" "size" "I", Cond.fieldLink RX0 11 "GroveMerge$EditDistance" "ofParts" "[[I", Cond.methodLink RX0 26 yX0_noteEnds, Cond.static yX0_noteEnds, Cond.initialized RX0, Cond.code yX0_noteEnds cX0_noteEnds 3 none, Cond.methodLink RX0 48 yX4_endOf, Cond.instanceMethod yX4_endOf, Cond.selects RX4 yX4_endOf yX4_endOf, Cond.initialized RX4, Cond.code yX4_endOf cX4_endOf 3 (some .int), Cond.fieldLink RX4 36 "GroveMerge$Tree" "size" "I", Cond.methodLink RX4 54 yX4_parentSpot, Cond.instanceMethod yX4_parentSpot, Cond.selects RX4 yX4_parentSpot yX4_parentSpot, Cond.code yX4_parentSpot cX4_parentSpot 3 (some .int), Cond.fieldLink RX4 18 "GroveMerge$Tree" "parent" "[I", Cond.fieldLink RX4 9 "GroveMerge$Tree" "order" "[I", Cond.fieldLink RX4 15 "GroveMerge$Tree" "spot" "[I", Cond.methodLink RX0 36 yX0_isWidest, Cond.static yX0_isWidest, Cond.code yX0_isWidest cX0_isWidest 3 (some .boolean)]
def wsX0_between_r2 : List Cond := [Cond.methodLink RX0 52 yX4_parentSpot, Cond.methodLink RX0 40 yX0_compareWithAll, Cond.instanceMethod yX0_compareWithAll, Cond.selects RX0 yX0_compareWithAll yX0_compareWithAll, Cond.code yX0_compareWithAll cX0_compareWithAll 5 none, Cond.methodLink RX0 44 yX0_compareParts, Cond.instanceMethod yX0_compareParts, Cond.selects RX0 yX0_compareParts yX0_compareParts, Cond.code yX0_compareParts cX0_compareParts 10 none, Cond.fieldLink RX0 16 "GroveMerge$EditDistance" "ofRests" "[[I", Cond.fieldLink RX0 55 "GroveMerge$Tree" "label" "[I", Cond.fieldLink RX0 58 "GroveMerge$Tree" "order" "[I", Cond.methodLink RX0 61 yX0_least, Cond.instanceMethod yX0_least, Cond.selects RX0 yX0_least yX0_least, Cond.code yX0_least cX0_least 5 (some .int), Cond.methodLink RX0 65 Lib.Math.min.name, Cond.static Lib.Math.min.name, Cond.initialized "java/lang/Math", Cond.code Lib.Math.min.name Lib.Math.min.code 2 (some .int)]
def wsX0_between : List Cond := .code yX0_between cX0_between 4 (some .int) :: ((wsX0_between_r1 ++ wsX0_between_r2) ++ wsX00 ++ wsX40)
def wsJ7_fill_53178 : List Cond := .code yJ7_fill_53178 cJ7_fill_53178 4 none :: ([])
def wsX4_clear : List Cond := .code yX4_clear cX4_clear 1 none :: ([.fieldLink RX4 18 "GroveMerge$Tree" "parent" "[I", .fieldLink RX4 21 "GroveMerge$Tree" "label" "[I", .fieldLink RX4 36 "GroveMerge$Tree" "size" "I", .methodLink RX4 30 yJ7_fill_53178, .static yJ7_fill_53178, .initialized RJ7, .code yJ7_fill_53178 cJ7_fill_53178 4 none] ++ wsX40)
def wsX4_init : List Cond := .code yX4_init cX4_init 1 none :: ([.methodLink RX4 3 objectInit, .instanceMethod objectInit, .code objectInit ⟨#[0xb1]⟩ 1 none, .arrayClass .int, .fieldLink RX4 9 "GroveMerge$Tree" "order" "[I", .fieldLink RX4 15 "GroveMerge$Tree" "spot" "[I", .fieldLink RX4 18 "GroveMerge$Tree" "parent" "[I", .fieldLink RX4 21 "GroveMerge$Tree" "label" "[I", .fieldLink RX4 24 "GroveMerge$Tree" "carried" "[I", .methodLink RX4 27 yX4_clear, .instanceMethod yX4_clear, .selects RX4 yX4_clear yX4_clear, .initialized RX4, .code yX4_clear cX4_clear 1 none, .fieldLink RX4 36 "GroveMerge$Tree" "size" "I", .methodLink RX4 30 yJ7_fill_53178, .static yJ7_fill_53178, .initialized RJ7, .code yJ7_fill_53178 cJ7_fill_53178 4 none] ++ wsX40)
def wsX1_init_r1 : List Cond := [Cond.methodLink RX1 3 objectInit, Cond.instanceMethod objectInit, Cond.code objectInit ⟨#[0xb1]⟩ 1 none, Cond.classLink RX1 9 RX4, Cond.fieldLink RX1 11 "GroveMerge$History" "trees" "[LGroveMerge$Tree;", Cond.arrayClass .int, Cond.fieldLink RX1 17 "GroveMerge$History" "firstParent" "[I", Cond.fieldLink RX1 21 "GroveMerge$History" "secondParent" "[I", Cond.fieldLink RX1 24 "GroveMerge$History" "reach" "[I", Cond.instantiable RX4 6, Cond.initialized RX4, Cond.methodLink RX1 27 yX4_init, Cond.instanceMethod yX4_init, Cond.code yX4_init cX4_init 1 none, Cond.methodLink RX4 3 objectInit, Cond.fieldLink RX4 9 "GroveMerge$Tree" "order" "[I", Cond.fieldLink RX4 15 "GroveMerge$Tree" "spot" "[I", Cond.fieldLink RX4 18 "GroveMerge$Tree" "parent" "[I", Cond.fieldLink RX4 21 "GroveMerge$Tree" "label" "[I", Cond.fieldLink RX4 24 "GroveMerge$Tree" "carried" "[I", Cond.methodLink RX4 27 yX4_clear, Cond.instanceMethod yX4_clear, Cond.selects RX4 yX4_clear yX4_clear, Cond.code yX4_clear cX4_clear 1 none]
def wsX1_init_r2 : List Cond := [Cond.fieldLink RX4 36 "GroveMerge$Tree" "size" "I", Cond.methodLink RX4 30 yJ7_fill_53178, Cond.static yJ7_fill_53178, Cond.initialized RJ7, Cond.code yJ7_fill_53178 cJ7_fill_53178 4 none]
def wsX1_init : List Cond := .code yX1_init cX1_init 2 none :: ((wsX1_init_r1 ++ wsX1_init_r2) ++ wsX10 ++ wsX40)
def wsX4_copyFrom : List Cond := .code yX4_copyFrom cX4_copyFrom 2 none :: ([.fieldLink RX4 9 "GroveMerge$Tree" "order" "[I", .methodLink RX4 40 arraycopyName, .native arraycopyName, .static arraycopyName, .initialized "java/lang/System", .fieldLink RX4 15 "GroveMerge$Tree" "spot" "[I", .fieldLink RX4 18 "GroveMerge$Tree" "parent" "[I", .fieldLink RX4 21 "GroveMerge$Tree" "label" "[I", .fieldLink RX4 36 "GroveMerge$Tree" "size" "I"] ++ wsX40)
def wsX1_reachOf : List Cond := .code yX1_reachOf cX1_reachOf 2 (some .int) :: ([.fieldLink RX1 24 "GroveMerge$History" "reach" "[I"] ++ wsX10)
def wsX1_record : List Cond := .code yX1_record cX1_record 5 (some .int) :: ([.fieldLink RX1 28 "GroveMerge$History" "size" "I", .fieldLink RX1 11 "GroveMerge$History" "trees" "[LGroveMerge$Tree;", .fieldLink RX1 17 "GroveMerge$History" "firstParent" "[I", .fieldLink RX1 21 "GroveMerge$History" "secondParent" "[I", .fieldLink RX1 24 "GroveMerge$History" "reach" "[I", .methodLink RX1 32 yX4_copyFrom, .instanceMethod yX4_copyFrom, .selects RX4 yX4_copyFrom yX4_copyFrom, .initialized RX4, .code yX4_copyFrom cX4_copyFrom 2 none, .fieldLink RX4 9 "GroveMerge$Tree" "order" "[I", .methodLink RX4 40 arraycopyName, .native arraycopyName, .static arraycopyName, .initialized "java/lang/System", .fieldLink RX4 15 "GroveMerge$Tree" "spot" "[I", .fieldLink RX4 18 "GroveMerge$Tree" "parent" "[I", .fieldLink RX4 21 "GroveMerge$Tree" "label" "[I", .fieldLink RX4 36 "GroveMerge$Tree" "size" "I", .methodLink RX1 36 yX1_reachOf, .instanceMethod yX1_reachOf, .selects RX1 yX1_reachOf yX1_reachOf, .initialized RX1, .code yX1_reachOf cX1_reachOf 2 (some .int)] ++ wsX10 ++ wsX40)
def wsX5_isIn : List Cond := .code yX5_isIn cX5_isIn 2 (some .boolean) :: ([])
def wsX1_isReachedFromAnother : List Cond := .code yX1_isReachedFromAnother cX1_isReachedFromAnother 4 (some .boolean) :: ([.fieldLink RX1 28 "GroveMerge$History" "size" "I", .fieldLink RX1 24 "GroveMerge$History" "reach" "[I", .static yX5_isIn, .initialized RX5, .code yX5_isIn cX5_isIn 2 (some .boolean)] ++ wsX10)
def wsX1_baseOf : List Cond := .code yX1_baseOf cX1_baseOf 5 (some .int) :: ([.fieldLink RX1 24 "GroveMerge$History" "reach" "[I", .fieldLink RX1 28 "GroveMerge$History" "size" "I", .static yX5_isIn, .initialized RX5, .code yX5_isIn cX5_isIn 2 (some .boolean), .methodLink RX1 44 yX1_isReachedFromAnother, .instanceMethod yX1_isReachedFromAnother, .selects RX1 yX1_isReachedFromAnother yX1_isReachedFromAnother, .initialized RX1, .code yX1_isReachedFromAnother cX1_isReachedFromAnother 4 (some .boolean)] ++ wsX10)
def wsX2_init_r1 : List Cond := [Cond.methodLink RX2 3 objectInit, Cond.instanceMethod objectInit, Cond.code objectInit ⟨#[0xb1]⟩ 1 none, Cond.classLink RX2 9 RX4, Cond.instantiable RX4 6, Cond.initialized RX4, Cond.fieldLink RX2 12 "GroveMerge$Merger" "result" "LGroveMerge$Tree;", Cond.arrayClass .int, Cond.fieldLink RX2 18 "GroveMerge$Merger" "conflicts" "[I", Cond.methodLink RX2 11 yX4_init, Cond.instanceMethod yX4_init, Cond.code yX4_init cX4_init 1 none, Cond.methodLink RX4 3 objectInit, Cond.fieldLink RX4 9 "GroveMerge$Tree" "order" "[I", Cond.fieldLink RX4 15 "GroveMerge$Tree" "spot" "[I", Cond.fieldLink RX4 18 "GroveMerge$Tree" "parent" "[I", Cond.fieldLink RX4 21 "GroveMerge$Tree" "label" "[I", Cond.fieldLink RX4 24 "GroveMerge$Tree" "carried" "[I", Cond.methodLink RX4 27 yX4_clear, Cond.instanceMethod yX4_clear, Cond.selects RX4 yX4_clear yX4_clear, Cond.code yX4_clear cX4_clear 1 none, Cond.fieldLink RX4 36 "GroveMerge$Tree" "size" "I", Cond.methodLink RX4 30 yJ7_fill_53178]
def wsX2_init_r2 : List Cond := [Cond.static yJ7_fill_53178, Cond.initialized RJ7, Cond.code yJ7_fill_53178 cJ7_fill_53178 4 none]
def wsX2_init : List Cond := .code yX2_init cX2_init 1 none :: ((wsX2_init_r1 ++ wsX2_init_r2) ++ wsX40 ++ wsX20)
def wsX4_holds : List Cond := .code yX4_holds cX4_holds 2 (some .boolean) :: ([.fieldLink RX4 21 "GroveMerge$Tree" "label" "[I"] ++ wsX40)
def wsX4_hasAsIn : List Cond := .code yX4_hasAsIn cX4_hasAsIn 3 (some .boolean) :: ([.fieldLink RX4 21 "GroveMerge$Tree" "label" "[I", .fieldLink RX4 18 "GroveMerge$Tree" "parent" "[I"] ++ wsX40)
def wsX2_name : List Cond := .code yX2_name cX2_name 3 none :: ([.fieldLink RX2 18 "GroveMerge$Merger" "conflicts" "[I", .fieldLink RX2 22 "GroveMerge$Merger" "conflictCount" "I"] ++ wsX20)
def wsX2_agreed : List Cond := .code yX2_agreed cX2_agreed 3 (some .int) :: ([])
def wsX2_settle : List Cond := .code yX2_settle cX2_settle 8 none :: ([.fieldLink RX2 55 "GroveMerge$Tree" "label" "[I", .fieldLink RX2 62 "GroveMerge$Tree" "parent" "[I", .fieldLink RX2 12 "GroveMerge$Merger" "result" "LGroveMerge$Tree;", .methodLink RX2 29 yX4_holds, .instanceMethod yX4_holds, .selects RX4 yX4_holds yX4_holds, .initialized RX4, .code yX4_holds cX4_holds 2 (some .boolean), .fieldLink RX4 21 "GroveMerge$Tree" "label" "[I", .methodLink RX2 47 yX4_hasAsIn, .instanceMethod yX4_hasAsIn, .selects RX4 yX4_hasAsIn yX4_hasAsIn, .code yX4_hasAsIn cX4_hasAsIn 3 (some .boolean), .fieldLink RX4 18 "GroveMerge$Tree" "parent" "[I", .methodLink RX2 51 yX2_name, .instanceMethod yX2_name, .selects RX2 yX2_name yX2_name, .initialized RX2, .code yX2_name cX2_name 3 none, .fieldLink RX2 18 "GroveMerge$Merger" "conflicts" "[I", .fieldLink RX2 22 "GroveMerge$Merger" "conflictCount" "I", .methodLink RX2 58 yX2_agreed, .static yX2_agreed, .code yX2_agreed cX2_agreed 3 (some .int)] ++ wsX40 ++ wsX20)
def wsX2_nameThoseWithoutParent : List Cond := .code yX2_nameThoseWithoutParent cX2_nameThoseWithoutParent 2 none :: ([.fieldLink RX2 12 "GroveMerge$Merger" "result" "LGroveMerge$Tree;", .fieldLink RX2 62 "GroveMerge$Tree" "parent" "[I", .methodLink RX2 29 yX4_holds, .instanceMethod yX4_holds, .selects RX4 yX4_holds yX4_holds, .initialized RX4, .code yX4_holds cX4_holds 2 (some .boolean), .fieldLink RX4 21 "GroveMerge$Tree" "label" "[I", .methodLink RX2 51 yX2_name, .instanceMethod yX2_name, .selects RX2 yX2_name yX2_name, .initialized RX2, .code yX2_name cX2_name 3 none, .fieldLink RX2 18 "GroveMerge$Merger" "conflicts" "[I", .fieldLink RX2 22 "GroveMerge$Merger" "conflictCount" "I"] ++ wsX20 ++ wsX40)
def wsX2_comesToRoot : List Cond := .code yX2_comesToRoot cX2_comesToRoot 4 (some .boolean) :: ([.fieldLink RX2 12 "GroveMerge$Merger" "result" "LGroveMerge$Tree;", .fieldLink RX2 62 "GroveMerge$Tree" "parent" "[I"] ++ wsX20 ++ wsX40)
def wsX2_nameThoseCutOff : List Cond := .code yX2_nameThoseCutOff cX2_nameThoseCutOff 2 none :: ([.fieldLink RX2 12 "GroveMerge$Merger" "result" "LGroveMerge$Tree;", .methodLink RX2 29 yX4_holds, .instanceMethod yX4_holds, .selects RX4 yX4_holds yX4_holds, .initialized RX4, .code yX4_holds cX4_holds 2 (some .boolean), .fieldLink RX4 21 "GroveMerge$Tree" "label" "[I", .methodLink RX2 65 yX2_comesToRoot, .instanceMethod yX2_comesToRoot, .selects RX2 yX2_comesToRoot yX2_comesToRoot, .initialized RX2, .code yX2_comesToRoot cX2_comesToRoot 4 (some .boolean), .fieldLink RX2 62 "GroveMerge$Tree" "parent" "[I", .methodLink RX2 51 yX2_name, .instanceMethod yX2_name, .selects RX2 yX2_name yX2_name, .code yX2_name cX2_name 3 none, .fieldLink RX2 18 "GroveMerge$Merger" "conflicts" "[I", .fieldLink RX2 22 "GroveMerge$Merger" "conflictCount" "I"] ++ wsX20 ++ wsX40)
def wsX4_renumberFrom : List Cond := .code yX4_renumberFrom cX4_renumberFrom 3 none :: ([.fieldLink RX4 36 "GroveMerge$Tree" "size" "I", .fieldLink RX4 15 "GroveMerge$Tree" "spot" "[I", .fieldLink RX4 9 "GroveMerge$Tree" "order" "[I"] ++ wsX40)
def wsX4_putCarried : List Cond := .code yX4_putCarried cX4_putCarried 3 none :: ([.fieldLink RX4 9 "GroveMerge$Tree" "order" "[I", .fieldLink RX4 36 "GroveMerge$Tree" "size" "I", .methodLink RX4 40 arraycopyName, .native arraycopyName, .static arraycopyName, .initialized "java/lang/System", .fieldLink RX4 24 "GroveMerge$Tree" "carried" "[I", .methodLink RX4 71 yX4_renumberFrom, .instanceMethod yX4_renumberFrom, .selects RX4 yX4_renumberFrom yX4_renumberFrom, .initialized RX4, .code yX4_renumberFrom cX4_renumberFrom 3 none, .fieldLink RX4 15 "GroveMerge$Tree" "spot" "[I"] ++ wsX40)
def wsX4_putInto : List Cond := .code yX4_putInto cX4_putInto 3 none :: ([.fieldLink RX4 24 "GroveMerge$Tree" "carried" "[I", .methodLink RX4 68 yX4_putCarried, .instanceMethod yX4_putCarried, .selects RX4 yX4_putCarried yX4_putCarried, .initialized RX4, .code yX4_putCarried cX4_putCarried 3 none, .fieldLink RX4 9 "GroveMerge$Tree" "order" "[I", .fieldLink RX4 36 "GroveMerge$Tree" "size" "I", .methodLink RX4 40 arraycopyName, .native arraycopyName, .static arraycopyName, .initialized "java/lang/System", .methodLink RX4 71 yX4_renumberFrom, .instanceMethod yX4_renumberFrom, .selects RX4 yX4_renumberFrom yX4_renumberFrom, .code yX4_renumberFrom cX4_renumberFrom 3 none, .fieldLink RX4 15 "GroveMerge$Tree" "spot" "[I"] ++ wsX40)
def wsX2_isChildNowAsIn : List Cond := .code yX2_isChildNowAsIn cX2_isChildNowAsIn 4 (some .boolean) :: ([.fieldLink RX2 62 "GroveMerge$Tree" "parent" "[I", .fieldLink RX2 12 "GroveMerge$Merger" "result" "LGroveMerge$Tree;"] ++ wsX40 ++ wsX20)
def wsX2_arrangeChildren_r1 : List Cond := [Cond.fieldLink RX2 12 "GroveMerge$Merger" "result" "LGroveMerge$Tree;", Cond.fieldLink RX2 78 "GroveMerge$Tree" "order" "[I", Cond.fieldLink RX2 71 "GroveMerge$Tree" "size" "I", Cond.fieldLink RX2 85 "GroveMerge$Tree" "spot" "[I", Cond.methodLink RX2 81 yX2_isChildNowAsIn, Cond.instanceMethod yX2_isChildNowAsIn, Cond.selects RX2 yX2_isChildNowAsIn yX2_isChildNowAsIn, Cond.initialized RX2, Cond.code yX2_isChildNowAsIn cX2_isChildNowAsIn 4 (some .boolean), Cond.fieldLink RX2 62 "GroveMerge$Tree" "parent" "[I", Cond.methodLink RX2 68 yX4_putInto, Cond.instanceMethod yX4_putInto, Cond.selects RX4 yX4_putInto yX4_putInto, Cond.initialized RX4, Cond.code yX4_putInto cX4_putInto 3 none, Cond.fieldLink RX4 24 "GroveMerge$Tree" "carried" "[I", Cond.methodLink RX4 68 yX4_putCarried, Cond.instanceMethod yX4_putCarried, Cond.selects RX4 yX4_putCarried yX4_putCarried, Cond.code yX4_putCarried cX4_putCarried 3 none, Cond.fieldLink RX4 9 "GroveMerge$Tree" "order" "[I", Cond.fieldLink RX4 36 "GroveMerge$Tree" "size" "I", Cond.methodLink RX4 40 arraycopyName, Cond.native arraycopyName]
def wsX2_arrangeChildren_r2 : List Cond := [Cond.static arraycopyName, Cond.initialized "java/lang/System", Cond.methodLink RX4 71 yX4_renumberFrom, Cond.instanceMethod yX4_renumberFrom, Cond.selects RX4 yX4_renumberFrom yX4_renumberFrom, Cond.code yX4_renumberFrom cX4_renumberFrom 3 none, Cond.fieldLink RX4 15 "GroveMerge$Tree" "spot" "[I"]
def wsX2_arrangeChildren : List Cond := .code yX2_arrangeChildren cX2_arrangeChildren 8 none :: ((wsX2_arrangeChildren_r1 ++ wsX2_arrangeChildren_r2) ++ wsX20 ++ wsX40)
def wsX2_arrange_r1 : List Cond := [Cond.fieldLink RX2 12 "GroveMerge$Merger" "result" "LGroveMerge$Tree;", Cond.fieldLink RX2 71 "GroveMerge$Tree" "size" "I", Cond.methodLink RX2 68 yX4_putInto, Cond.instanceMethod yX4_putInto, Cond.selects RX4 yX4_putInto yX4_putInto, Cond.initialized RX4, Cond.code yX4_putInto cX4_putInto 3 none, Cond.fieldLink RX4 24 "GroveMerge$Tree" "carried" "[I", Cond.methodLink RX4 68 yX4_putCarried, Cond.instanceMethod yX4_putCarried, Cond.selects RX4 yX4_putCarried yX4_putCarried, Cond.code yX4_putCarried cX4_putCarried 3 none, Cond.fieldLink RX4 9 "GroveMerge$Tree" "order" "[I", Cond.fieldLink RX4 36 "GroveMerge$Tree" "size" "I", Cond.methodLink RX4 40 arraycopyName, Cond.native arraycopyName, Cond.static arraycopyName, Cond.initialized "java/lang/System", Cond.methodLink RX4 71 yX4_renumberFrom, Cond.instanceMethod yX4_renumberFrom, Cond.selects RX4 yX4_renumberFrom yX4_renumberFrom, Cond.code yX4_renumberFrom cX4_renumberFrom 3 none, Cond.fieldLink RX4 15 "GroveMerge$Tree" "spot" "[I", Cond.methodLink RX2 74 yX2_arrangeChildren]
def wsX2_arrange_r2 : List Cond := [Cond.instanceMethod yX2_arrangeChildren, Cond.selects RX2 yX2_arrangeChildren yX2_arrangeChildren, Cond.initialized RX2, Cond.code yX2_arrangeChildren cX2_arrangeChildren 8 none, Cond.fieldLink RX2 78 "GroveMerge$Tree" "order" "[I", Cond.fieldLink RX2 85 "GroveMerge$Tree" "spot" "[I", Cond.methodLink RX2 81 yX2_isChildNowAsIn, Cond.instanceMethod yX2_isChildNowAsIn, Cond.selects RX2 yX2_isChildNowAsIn yX2_isChildNowAsIn, Cond.code yX2_isChildNowAsIn cX2_isChildNowAsIn 4 (some .boolean), Cond.fieldLink RX2 62 "GroveMerge$Tree" "parent" "[I"]
def wsX2_arrange : List Cond := .code yX2_arrange cX2_arrange 4 none :: ((wsX2_arrange_r1 ++ wsX2_arrange_r2) ++ wsX20 ++ wsX40)
def wsX2_run_r1 : List Cond := [Cond.fieldLink RX2 22 "GroveMerge$Merger" "conflictCount" "I", Cond.fieldLink RX2 12 "GroveMerge$Merger" "result" "LGroveMerge$Tree;", Cond.methodLink RX2 26 yX4_clear, Cond.instanceMethod yX4_clear, Cond.selects RX4 yX4_clear yX4_clear, Cond.initialized RX4, Cond.code yX4_clear cX4_clear 1 none, Cond.fieldLink RX4 18 "GroveMerge$Tree" "parent" "[I", Cond.fieldLink RX4 21 "GroveMerge$Tree" "label" "[I", Cond.fieldLink RX4 36 "GroveMerge$Tree" "size" "I", Cond.methodLink RX4 30 yJ7_fill_53178, Cond.static yJ7_fill_53178, Cond.initialized RJ7, Cond.code yJ7_fill_53178 cJ7_fill_53178 4 none, Cond.methodLink RX2 29 yX4_holds, Cond.instanceMethod yX4_holds, Cond.selects RX4 yX4_holds yX4_holds, Cond.code yX4_holds cX4_holds 2 (some .boolean), Cond.methodLink RX2 33 yX2_settle, Cond.instanceMethod yX2_settle, Cond.selects RX2 yX2_settle yX2_settle, Cond.initialized RX2, Cond.code yX2_settle cX2_settle 8 none, Cond.fieldLink RX2 55 "GroveMerge$Tree" "label" "[I"]
def wsX2_run_r2 : List Cond := [Cond.fieldLink RX2 62 "GroveMerge$Tree" "parent" "[I", Cond.methodLink RX2 47 yX4_hasAsIn, Cond.instanceMethod yX4_hasAsIn, Cond.selects RX4 yX4_hasAsIn yX4_hasAsIn, Cond.code yX4_hasAsIn cX4_hasAsIn 3 (some .boolean), Cond.methodLink RX2 51 yX2_name, Cond.instanceMethod yX2_name, Cond.selects RX2 yX2_name yX2_name, Cond.code yX2_name cX2_name 3 none, Cond.fieldLink RX2 18 "GroveMerge$Merger" "conflicts" "[I", Cond.methodLink RX2 58 yX2_agreed, Cond.static yX2_agreed, Cond.code yX2_agreed cX2_agreed 3 (some .int), Cond.methodLink RX2 37 yX2_nameThoseWithoutParent, Cond.instanceMethod yX2_nameThoseWithoutParent, Cond.selects RX2 yX2_nameThoseWithoutParent yX2_nameThoseWithoutParent, Cond.code yX2_nameThoseWithoutParent cX2_nameThoseWithoutParent 2 none, Cond.methodLink RX2 40 yX2_nameThoseCutOff, Cond.instanceMethod yX2_nameThoseCutOff, Cond.selects RX2 yX2_nameThoseCutOff yX2_nameThoseCutOff, Cond.code yX2_nameThoseCutOff cX2_nameThoseCutOff 2 none, Cond.methodLink RX2 65 yX2_comesToRoot, Cond.instanceMethod yX2_comesToRoot, Cond.selects RX2 yX2_comesToRoot yX2_comesToRoot]
def wsX2_run_r3 : List Cond := [Cond.code yX2_comesToRoot cX2_comesToRoot 4 (some .boolean), Cond.methodLink RX2 43 yX2_arrange, Cond.instanceMethod yX2_arrange, Cond.selects RX2 yX2_arrange yX2_arrange, Cond.code yX2_arrange cX2_arrange 4 none, Cond.fieldLink RX2 71 "GroveMerge$Tree" "size" "I", Cond.methodLink RX2 68 yX4_putInto, Cond.instanceMethod yX4_putInto, Cond.selects RX4 yX4_putInto yX4_putInto, Cond.code yX4_putInto cX4_putInto 3 none, Cond.fieldLink RX4 24 "GroveMerge$Tree" "carried" "[I", Cond.methodLink RX4 68 yX4_putCarried, Cond.instanceMethod yX4_putCarried, Cond.selects RX4 yX4_putCarried yX4_putCarried, Cond.code yX4_putCarried cX4_putCarried 3 none, Cond.fieldLink RX4 9 "GroveMerge$Tree" "order" "[I", Cond.methodLink RX4 40 arraycopyName, Cond.native arraycopyName, Cond.static arraycopyName, Cond.initialized "java/lang/System", Cond.methodLink RX4 71 yX4_renumberFrom, Cond.instanceMethod yX4_renumberFrom, Cond.selects RX4 yX4_renumberFrom yX4_renumberFrom, Cond.code yX4_renumberFrom cX4_renumberFrom 3 none]
def wsX2_run_r4 : List Cond := [Cond.fieldLink RX4 15 "GroveMerge$Tree" "spot" "[I", Cond.methodLink RX2 74 yX2_arrangeChildren, Cond.instanceMethod yX2_arrangeChildren, Cond.selects RX2 yX2_arrangeChildren yX2_arrangeChildren, Cond.code yX2_arrangeChildren cX2_arrangeChildren 8 none, Cond.fieldLink RX2 78 "GroveMerge$Tree" "order" "[I", Cond.fieldLink RX2 85 "GroveMerge$Tree" "spot" "[I", Cond.methodLink RX2 81 yX2_isChildNowAsIn, Cond.instanceMethod yX2_isChildNowAsIn, Cond.selects RX2 yX2_isChildNowAsIn yX2_isChildNowAsIn, Cond.code yX2_isChildNowAsIn cX2_isChildNowAsIn 4 (some .boolean)]
def wsX2_run : List Cond := .code yX2_run cX2_run 5 (some .int) :: ((wsX2_run_r1 ++ (wsX2_run_r2 ++ (wsX2_run_r3 ++ wsX2_run_r4))) ++ wsX20 ++ wsX40)
def wsX3_childrenOf : List Cond := .code yX3_childrenOf cX3_childrenOf 5 (some .int) :: ([.fieldLink RX3 28 "GroveMerge$Tree" "size" "I", .fieldLink RX3 34 "GroveMerge$Tree" "order" "[I", .fieldLink RX3 38 "GroveMerge$Tree" "parent" "[I", .static yX5_isIn, .initialized RX5, .code yX5_isIn cX5_isIn 2 (some .boolean)] ++ wsX40)
def wsX3_below : List Cond := .code yX3_below cX3_below 5 (some .int) :: ([.fieldLink RX3 28 "GroveMerge$Tree" "size" "I", .fieldLink RX3 34 "GroveMerge$Tree" "order" "[I", .fieldLink RX3 38 "GroveMerge$Tree" "parent" "[I", .static yX5_isIn, .initialized RX5, .code yX5_isIn cX5_isIn 2 (some .boolean)] ++ wsX40)
def wsX3_behind : List Cond := .code yX3_behind cX3_behind 7 (some .int) :: ([.fieldLink RX3 28 "GroveMerge$Tree" "size" "I", .fieldLink RX3 34 "GroveMerge$Tree" "order" "[I", .fieldLink RX3 38 "GroveMerge$Tree" "parent" "[I", .static yX5_isIn, .initialized RX5, .code yX5_isIn cX5_isIn 2 (some .boolean)] ++ wsX40)
def wsX3_alongAxis : List Cond := .code yX3_alongAxis cX3_alongAxis 3 (some .int) :: ([.methodLink RX3 19 yX3_childrenOf, .static yX3_childrenOf, .initialized RX3, .code yX3_childrenOf cX3_childrenOf 5 (some .int), .fieldLink RX3 28 "GroveMerge$Tree" "size" "I", .fieldLink RX3 34 "GroveMerge$Tree" "order" "[I", .fieldLink RX3 38 "GroveMerge$Tree" "parent" "[I", .static yX5_isIn, .initialized RX5, .code yX5_isIn cX5_isIn 2 (some .boolean), .methodLink RX3 22 yX3_below, .static yX3_below, .code yX3_below cX3_below 5 (some .int), .methodLink RX3 25 yX3_behind, .static yX3_behind, .code yX3_behind cX3_behind 7 (some .int)] ++ wsX40)
def wsX3_labelled : List Cond := .code yX3_labelled cX3_labelled 5 (some .int) :: ([.fieldLink RX3 28 "GroveMerge$Tree" "size" "I", .fieldLink RX3 34 "GroveMerge$Tree" "order" "[I", .fieldLink RX3 45 "GroveMerge$Tree" "label" "[I"] ++ wsX40)
def wsX3_follow : List Cond := .code yX3_follow cX3_follow 6 (some .int) :: ([.methodLink RX3 11 yX3_alongAxis, .static yX3_alongAxis, .initialized RX3, .code yX3_alongAxis cX3_alongAxis 3 (some .int), .methodLink RX3 19 yX3_childrenOf, .static yX3_childrenOf, .code yX3_childrenOf cX3_childrenOf 5 (some .int), .fieldLink RX3 28 "GroveMerge$Tree" "size" "I", .fieldLink RX3 34 "GroveMerge$Tree" "order" "[I", .fieldLink RX3 38 "GroveMerge$Tree" "parent" "[I", .static yX5_isIn, .initialized RX5, .code yX5_isIn cX5_isIn 2 (some .boolean), .methodLink RX3 22 yX3_below, .static yX3_below, .code yX3_below cX3_below 5 (some .int), .methodLink RX3 25 yX3_behind, .static yX3_behind, .code yX3_behind cX3_behind 7 (some .int), .methodLink RX3 15 yX3_labelled, .static yX3_labelled, .code yX3_labelled cX3_labelled 5 (some .int), .fieldLink RX3 45 "GroveMerge$Tree" "label" "[I"] ++ wsX40)
def wsX4_isSameAs : List Cond := .code yX4_isSameAs cX4_isSameAs 4 (some .boolean) :: ([.fieldLink RX4 36 "GroveMerge$Tree" "size" "I", .fieldLink RX4 9 "GroveMerge$Tree" "order" "[I", .methodLink RX4 46 yX4_hasAsIn, .instanceMethod yX4_hasAsIn, .selects RX4 yX4_hasAsIn yX4_hasAsIn, .initialized RX4, .code yX4_hasAsIn cX4_hasAsIn 3 (some .boolean), .fieldLink RX4 21 "GroveMerge$Tree" "label" "[I", .fieldLink RX4 18 "GroveMerge$Tree" "parent" "[I"] ++ wsX40)
def wsX4_isWithin : List Cond := .code yX4_isWithin cX4_isWithin 3 (some .boolean) :: ([.fieldLink RX4 15 "GroveMerge$Tree" "spot" "[I", .methodLink RX4 50 yX4_endOf, .instanceMethod yX4_endOf, .selects RX4 yX4_endOf yX4_endOf, .initialized RX4, .code yX4_endOf cX4_endOf 3 (some .int), .fieldLink RX4 36 "GroveMerge$Tree" "size" "I", .methodLink RX4 54 yX4_parentSpot, .instanceMethod yX4_parentSpot, .selects RX4 yX4_parentSpot yX4_parentSpot, .code yX4_parentSpot cX4_parentSpot 3 (some .int), .fieldLink RX4 18 "GroveMerge$Tree" "parent" "[I", .fieldLink RX4 9 "GroveMerge$Tree" "order" "[I"] ++ wsX40)
def wsX4_childCount : List Cond := .code yX4_childCount cX4_childCount 4 (some .int) :: ([.fieldLink RX4 15 "GroveMerge$Tree" "spot" "[I", .fieldLink RX4 36 "GroveMerge$Tree" "size" "I", .fieldLink RX4 18 "GroveMerge$Tree" "parent" "[I", .fieldLink RX4 9 "GroveMerge$Tree" "order" "[I"] ++ wsX40)
def wsX4_slotFor : List Cond := .code yX4_slotFor cX4_slotFor 5 (some .int) :: ([.fieldLink RX4 15 "GroveMerge$Tree" "spot" "[I", .fieldLink RX4 36 "GroveMerge$Tree" "size" "I", .fieldLink RX4 18 "GroveMerge$Tree" "parent" "[I", .fieldLink RX4 9 "GroveMerge$Tree" "order" "[I", .methodLink RX4 50 yX4_endOf, .instanceMethod yX4_endOf, .selects RX4 yX4_endOf yX4_endOf, .initialized RX4, .code yX4_endOf cX4_endOf 3 (some .int), .methodLink RX4 54 yX4_parentSpot, .instanceMethod yX4_parentSpot, .selects RX4 yX4_parentSpot yX4_parentSpot, .code yX4_parentSpot cX4_parentSpot 3 (some .int)] ++ wsX40)
def wsX4_plant : List Cond := .code yX4_plant cX4_plant 3 none :: ([.fieldLink RX4 18 "GroveMerge$Tree" "parent" "[I", .fieldLink RX4 21 "GroveMerge$Tree" "label" "[I", .methodLink RX4 57 yX4_putInto, .instanceMethod yX4_putInto, .selects RX4 yX4_putInto yX4_putInto, .initialized RX4, .code yX4_putInto cX4_putInto 3 none, .fieldLink RX4 24 "GroveMerge$Tree" "carried" "[I", .methodLink RX4 68 yX4_putCarried, .instanceMethod yX4_putCarried, .selects RX4 yX4_putCarried yX4_putCarried, .code yX4_putCarried cX4_putCarried 3 none, .fieldLink RX4 9 "GroveMerge$Tree" "order" "[I", .fieldLink RX4 36 "GroveMerge$Tree" "size" "I", .methodLink RX4 40 arraycopyName, .native arraycopyName, .static arraycopyName, .initialized "java/lang/System", .methodLink RX4 71 yX4_renumberFrom, .instanceMethod yX4_renumberFrom, .selects RX4 yX4_renumberFrom yX4_renumberFrom, .code yX4_renumberFrom cX4_renumberFrom 3 none, .fieldLink RX4 15 "GroveMerge$Tree" "spot" "[I"] ++ wsX40)
def wsX4_attach_r1 : List Cond := [Cond.fieldLink RX4 18 "GroveMerge$Tree" "parent" "[I", Cond.fieldLink RX4 21 "GroveMerge$Tree" "label" "[I", Cond.methodLink RX4 61 yX4_slotFor, Cond.instanceMethod yX4_slotFor, Cond.selects RX4 yX4_slotFor yX4_slotFor, Cond.initialized RX4, Cond.code yX4_slotFor cX4_slotFor 5 (some .int), Cond.fieldLink RX4 15 "GroveMerge$Tree" "spot" "[I", Cond.fieldLink RX4 36 "GroveMerge$Tree" "size" "I", Cond.fieldLink RX4 9 "GroveMerge$Tree" "order" "[I", Cond.methodLink RX4 50 yX4_endOf, Cond.instanceMethod yX4_endOf, Cond.selects RX4 yX4_endOf yX4_endOf, Cond.code yX4_endOf cX4_endOf 3 (some .int), Cond.methodLink RX4 54 yX4_parentSpot, Cond.instanceMethod yX4_parentSpot, Cond.selects RX4 yX4_parentSpot yX4_parentSpot, Cond.code yX4_parentSpot cX4_parentSpot 3 (some .int), Cond.methodLink RX4 57 yX4_putInto, Cond.instanceMethod yX4_putInto, Cond.selects RX4 yX4_putInto yX4_putInto, Cond.code yX4_putInto cX4_putInto 3 none, Cond.fieldLink RX4 24 "GroveMerge$Tree" "carried" "[I", Cond.methodLink RX4 68 yX4_putCarried]
def wsX4_attach_r2 : List Cond := [Cond.instanceMethod yX4_putCarried, Cond.selects RX4 yX4_putCarried yX4_putCarried, Cond.code yX4_putCarried cX4_putCarried 3 none, Cond.methodLink RX4 40 arraycopyName, Cond.native arraycopyName, Cond.static arraycopyName, Cond.initialized "java/lang/System", Cond.methodLink RX4 71 yX4_renumberFrom, Cond.instanceMethod yX4_renumberFrom, Cond.selects RX4 yX4_renumberFrom yX4_renumberFrom, Cond.code yX4_renumberFrom cX4_renumberFrom 3 none]
def wsX4_attach : List Cond := .code yX4_attach cX4_attach 5 none :: ((wsX4_attach_r1 ++ wsX4_attach_r2) ++ wsX40)
def wsX4_takeOut : List Cond := .code yX4_takeOut cX4_takeOut 4 (some .int) :: ([.fieldLink RX4 15 "GroveMerge$Tree" "spot" "[I", .fieldLink RX4 9 "GroveMerge$Tree" "order" "[I", .fieldLink RX4 24 "GroveMerge$Tree" "carried" "[I", .methodLink RX4 40 arraycopyName, .native arraycopyName, .static arraycopyName, .initialized "java/lang/System", .fieldLink RX4 36 "GroveMerge$Tree" "size" "I", .methodLink RX4 50 yX4_endOf, .instanceMethod yX4_endOf, .selects RX4 yX4_endOf yX4_endOf, .initialized RX4, .code yX4_endOf cX4_endOf 3 (some .int), .methodLink RX4 54 yX4_parentSpot, .instanceMethod yX4_parentSpot, .selects RX4 yX4_parentSpot yX4_parentSpot, .code yX4_parentSpot cX4_parentSpot 3 (some .int), .fieldLink RX4 18 "GroveMerge$Tree" "parent" "[I", .methodLink RX4 71 yX4_renumberFrom, .instanceMethod yX4_renumberFrom, .selects RX4 yX4_renumberFrom yX4_renumberFrom, .code yX4_renumberFrom cX4_renumberFrom 3 none] ++ wsX40)
def wsX4_prune_r1 : List Cond := [Cond.fieldLink RX4 18 "GroveMerge$Tree" "parent" "[I", Cond.fieldLink RX4 24 "GroveMerge$Tree" "carried" "[I", Cond.fieldLink RX4 21 "GroveMerge$Tree" "label" "[I", Cond.methodLink RX4 65 yX4_takeOut, Cond.instanceMethod yX4_takeOut, Cond.selects RX4 yX4_takeOut yX4_takeOut, Cond.initialized RX4, Cond.code yX4_takeOut cX4_takeOut 4 (some .int), Cond.fieldLink RX4 15 "GroveMerge$Tree" "spot" "[I", Cond.fieldLink RX4 9 "GroveMerge$Tree" "order" "[I", Cond.methodLink RX4 40 arraycopyName, Cond.native arraycopyName, Cond.static arraycopyName, Cond.initialized "java/lang/System", Cond.fieldLink RX4 36 "GroveMerge$Tree" "size" "I", Cond.methodLink RX4 50 yX4_endOf, Cond.instanceMethod yX4_endOf, Cond.selects RX4 yX4_endOf yX4_endOf, Cond.code yX4_endOf cX4_endOf 3 (some .int), Cond.methodLink RX4 54 yX4_parentSpot, Cond.instanceMethod yX4_parentSpot, Cond.selects RX4 yX4_parentSpot yX4_parentSpot, Cond.code yX4_parentSpot cX4_parentSpot 3 (some .int), Cond.methodLink RX4 71 yX4_renumberFrom]
def wsX4_prune_r2 : List Cond := [Cond.instanceMethod yX4_renumberFrom, Cond.selects RX4 yX4_renumberFrom yX4_renumberFrom, Cond.code yX4_renumberFrom cX4_renumberFrom 3 none]
def wsX4_prune : List Cond := .code yX4_prune cX4_prune 4 (some .int) :: ((wsX4_prune_r1 ++ wsX4_prune_r2) ++ wsX40)
def wsX4_transplant_r1 : List Cond := [Cond.fieldLink RX4 18 "GroveMerge$Tree" "parent" "[I", Cond.methodLink RX4 65 yX4_takeOut, Cond.instanceMethod yX4_takeOut, Cond.selects RX4 yX4_takeOut yX4_takeOut, Cond.initialized RX4, Cond.code yX4_takeOut cX4_takeOut 4 (some .int), Cond.fieldLink RX4 15 "GroveMerge$Tree" "spot" "[I", Cond.fieldLink RX4 9 "GroveMerge$Tree" "order" "[I", Cond.fieldLink RX4 24 "GroveMerge$Tree" "carried" "[I", Cond.methodLink RX4 40 arraycopyName, Cond.native arraycopyName, Cond.static arraycopyName, Cond.initialized "java/lang/System", Cond.fieldLink RX4 36 "GroveMerge$Tree" "size" "I", Cond.methodLink RX4 50 yX4_endOf, Cond.instanceMethod yX4_endOf, Cond.selects RX4 yX4_endOf yX4_endOf, Cond.code yX4_endOf cX4_endOf 3 (some .int), Cond.methodLink RX4 54 yX4_parentSpot, Cond.instanceMethod yX4_parentSpot, Cond.selects RX4 yX4_parentSpot yX4_parentSpot, Cond.code yX4_parentSpot cX4_parentSpot 3 (some .int), Cond.methodLink RX4 71 yX4_renumberFrom, Cond.instanceMethod yX4_renumberFrom]
def wsX4_transplant_r2 : List Cond := [Cond.selects RX4 yX4_renumberFrom yX4_renumberFrom, Cond.code yX4_renumberFrom cX4_renumberFrom 3 none, Cond.methodLink RX4 61 yX4_slotFor, Cond.instanceMethod yX4_slotFor, Cond.selects RX4 yX4_slotFor yX4_slotFor, Cond.code yX4_slotFor cX4_slotFor 5 (some .int), Cond.methodLink RX4 68 yX4_putCarried, Cond.instanceMethod yX4_putCarried, Cond.selects RX4 yX4_putCarried yX4_putCarried, Cond.code yX4_putCarried cX4_putCarried 3 none]
def wsX4_transplant : List Cond := .code yX4_transplant cX4_transplant 6 none :: ((wsX4_transplant_r1 ++ wsX4_transplant_r2) ++ wsX40)
def wsX4_pick : List Cond := .code yX4_pick cX4_pick 5 (some .int) :: ([.fieldLink RX4 36 "GroveMerge$Tree" "size" "I", .fieldLink RX4 9 "GroveMerge$Tree" "order" "[I", .static yX5_isIn, .initialized RX5, .code yX5_isIn cX5_isIn 2 (some .boolean)] ++ wsX40)
def wsX4_areAlike : List Cond := .code yX4_areAlike cX4_areAlike 7 (some .boolean) :: ([.fieldLink RX4 21 "GroveMerge$Tree" "label" "[I", .fieldLink RX4 9 "GroveMerge$Tree" "order" "[I", .methodLink RX4 50 yX4_endOf, .instanceMethod yX4_endOf, .selects RX4 yX4_endOf yX4_endOf, .initialized RX4, .code yX4_endOf cX4_endOf 3 (some .int), .fieldLink RX4 36 "GroveMerge$Tree" "size" "I", .methodLink RX4 54 yX4_parentSpot, .instanceMethod yX4_parentSpot, .selects RX4 yX4_parentSpot yX4_parentSpot, .code yX4_parentSpot cX4_parentSpot 3 (some .int), .fieldLink RX4 18 "GroveMerge$Tree" "parent" "[I", .fieldLink RX4 15 "GroveMerge$Tree" "spot" "[I"] ++ wsX40)
def wsX4_firstAlike : List Cond := .code yX4_firstAlike cX4_firstAlike 3 (some .int) :: ([.fieldLink RX4 15 "GroveMerge$Tree" "spot" "[I", .fieldLink RX4 9 "GroveMerge$Tree" "order" "[I", .methodLink RX4 79 yX4_areAlike, .instanceMethod yX4_areAlike, .selects RX4 yX4_areAlike yX4_areAlike, .initialized RX4, .code yX4_areAlike cX4_areAlike 7 (some .boolean), .fieldLink RX4 21 "GroveMerge$Tree" "label" "[I", .methodLink RX4 50 yX4_endOf, .instanceMethod yX4_endOf, .selects RX4 yX4_endOf yX4_endOf, .code yX4_endOf cX4_endOf 3 (some .int), .fieldLink RX4 36 "GroveMerge$Tree" "size" "I", .methodLink RX4 54 yX4_parentSpot, .instanceMethod yX4_parentSpot, .selects RX4 yX4_parentSpot yX4_parentSpot, .code yX4_parentSpot cX4_parentSpot 3 (some .int), .fieldLink RX4 18 "GroveMerge$Tree" "parent" "[I"] ++ wsX40)
def wsX5_init_r1 : List Cond := [Cond.methodLink RX5 1 objectInit, Cond.instanceMethod objectInit, Cond.code objectInit ⟨#[0xb1]⟩ 1 none, Cond.classLink RX5 7 RX4, Cond.instantiable RX4 6, Cond.initialized RX4, Cond.fieldLink RX5 10 "GroveMerge" "working" "LGroveMerge$Tree;", Cond.classLink RX5 16 RX1, Cond.instantiable RX1 5, Cond.initialized RX1, Cond.fieldLink RX5 19 "GroveMerge" "history" "LGroveMerge$History;", Cond.classLink RX5 23 RX2, Cond.instantiable RX2 3, Cond.initialized RX2, Cond.fieldLink RX5 26 "GroveMerge" "merger" "LGroveMerge$Merger;", Cond.classLink RX5 30 RX0, Cond.instantiable RX0 4, Cond.initialized RX0, Cond.fieldLink RX5 33 "GroveMerge" "editDistance" "LGroveMerge$EditDistance;", Cond.fieldLink RX5 41 "GroveMerge" "made" "I", Cond.fieldLink RX5 49 "GroveMerge" "head" "I", Cond.fieldLink RX5 52 "GroveMerge" "takenIn" "I", Cond.methodLink RX5 9 yX4_init, Cond.instanceMethod yX4_init]
def wsX5_init_r2 : List Cond := [Cond.code yX4_init cX4_init 1 none, Cond.methodLink RX4 3 objectInit, Cond.arrayClass .int, Cond.fieldLink RX4 9 "GroveMerge$Tree" "order" "[I", Cond.fieldLink RX4 15 "GroveMerge$Tree" "spot" "[I", Cond.fieldLink RX4 18 "GroveMerge$Tree" "parent" "[I", Cond.fieldLink RX4 21 "GroveMerge$Tree" "label" "[I", Cond.fieldLink RX4 24 "GroveMerge$Tree" "carried" "[I", Cond.methodLink RX4 27 yX4_clear, Cond.instanceMethod yX4_clear, Cond.selects RX4 yX4_clear yX4_clear, Cond.code yX4_clear cX4_clear 1 none, Cond.fieldLink RX4 36 "GroveMerge$Tree" "size" "I", Cond.methodLink RX4 30 yJ7_fill_53178, Cond.static yJ7_fill_53178, Cond.initialized RJ7, Cond.code yJ7_fill_53178 cJ7_fill_53178 4 none, Cond.methodLink RX5 18 yX1_init, Cond.instanceMethod yX1_init, Cond.code yX1_init cX1_init 2 none, Cond.methodLink RX1 3 objectInit, Cond.classLink RX1 9 RX4, Cond.fieldLink RX1 11 "GroveMerge$History" "trees" "[LGroveMerge$Tree;", Cond.fieldLink RX1 17 "GroveMerge$History" "firstParent" "[I"]
def wsX5_init_r3 : List Cond := [Cond.fieldLink RX1 21 "GroveMerge$History" "secondParent" "[I", Cond.fieldLink RX1 24 "GroveMerge$History" "reach" "[I", Cond.methodLink RX1 27 yX4_init, Cond.instanceMethod yX2_init, Cond.code yX2_init cX2_init 1 none, Cond.methodLink RX2 3 objectInit, Cond.classLink RX2 9 RX4, Cond.fieldLink RX2 12 "GroveMerge$Merger" "result" "LGroveMerge$Tree;", Cond.fieldLink RX2 18 "GroveMerge$Merger" "conflicts" "[I", Cond.methodLink RX2 11 yX4_init, Cond.instanceMethod yX0_init, Cond.code yX0_init cX0_init 1 none, Cond.methodLink RX0 3 objectInit, Cond.classLink RX0 9 "[[I", Cond.fieldLink RX0 11 "GroveMerge$EditDistance" "ofParts" "[[I", Cond.fieldLink RX0 16 "GroveMerge$EditDistance" "ofRests" "[[I", Cond.fieldLink RX0 19 "GroveMerge$EditDistance" "endsA" "[I", Cond.fieldLink RX0 23 "GroveMerge$EditDistance" "endsB" "[I", Cond.methodLink RX5 37 yX4_plant, Cond.instanceMethod yX4_plant, Cond.selects RX4 yX4_plant yX4_plant, Cond.code yX4_plant cX4_plant 3 none, Cond.methodLink RX4 57 yX4_putInto, Cond.instanceMethod yX4_putInto]
def wsX5_init_r4 : List Cond := [Cond.selects RX4 yX4_putInto yX4_putInto, Cond.code yX4_putInto cX4_putInto 3 none, Cond.methodLink RX4 68 yX4_putCarried, Cond.instanceMethod yX4_putCarried, Cond.selects RX4 yX4_putCarried yX4_putCarried, Cond.code yX4_putCarried cX4_putCarried 3 none, Cond.methodLink RX4 40 arraycopyName, Cond.native arraycopyName, Cond.static arraycopyName, Cond.initialized "java/lang/System", Cond.methodLink RX4 71 yX4_renumberFrom, Cond.instanceMethod yX4_renumberFrom, Cond.selects RX4 yX4_renumberFrom yX4_renumberFrom, Cond.code yX4_renumberFrom cX4_renumberFrom 3 none, Cond.methodLink RX5 45 yX1_record, Cond.instanceMethod yX1_record, Cond.selects RX1 yX1_record yX1_record, Cond.code yX1_record cX1_record 5 (some .int), Cond.fieldLink RX1 28 "GroveMerge$History" "size" "I", Cond.methodLink RX1 32 yX4_copyFrom, Cond.instanceMethod yX4_copyFrom, Cond.selects RX4 yX4_copyFrom yX4_copyFrom, Cond.code yX4_copyFrom cX4_copyFrom 2 none, Cond.methodLink RX1 36 yX1_reachOf]
def wsX5_init_r5 : List Cond := [Cond.instanceMethod yX1_reachOf, Cond.selects RX1 yX1_reachOf yX1_reachOf, Cond.code yX1_reachOf cX1_reachOf 2 (some .int)]
def wsX5_init : List Cond := .code yX5_init cX5_init 1 none :: ((wsX5_init_r1 ++ (wsX5_init_r2 ++ (wsX5_init_r3 ++ (wsX5_init_r4 ++ wsX5_init_r5)))) ++ wsX40 ++ wsX50 ++ wsX10 ++ wsX20 ++ wsX00)
def wsX5_requireNode : List Cond := .code yX5_requireNode cX5_requireNode 2 none :: ([.classLink RX5 144 "java/util/NoSuchElementException", .initialized "java/util/NoSuchElementException", .fieldLink RX5 10 "GroveMerge" "working" "LGroveMerge$Tree;", .methodLink RX5 198 yX4_holds, .instanceMethod yX4_holds, .selects RX4 yX4_holds yX4_holds, .initialized RX4, .code yX4_holds cX4_holds 2 (some .boolean), .fieldLink RX4 21 "GroveMerge$Tree" "label" "[I"] ++ wsX50 ++ wsX40 ++ (vx_atS RX5 148 "java/util/NoSuchElementException" ["java/lang/RuntimeException", "java/lang/Exception"]).filter goodWord)
def wsX5_requirePlace : List Cond := .code yX5_requirePlace cX5_requirePlace 2 none :: ([.classLink RX5 155 "java/lang/IndexOutOfBoundsException", .initialized "java/lang/IndexOutOfBoundsException"] ++ (vx_atS RX5 159 "java/lang/IndexOutOfBoundsException" ["java/lang/RuntimeException", "java/lang/Exception"]).filter goodWord)
def wsX5_requireLabel : List Cond := .code yX5_requireLabel cX5_requireLabel 1 none :: ([.classLink RX5 80 "java/lang/IllegalArgumentException", .initialized "java/lang/IllegalArgumentException"] ++ (vx_atS RX5 84 "java/lang/IllegalArgumentException" ["java/lang/RuntimeException", "java/lang/Exception"]).filter goodWord)
def wsX5_insert_r1 : List Cond := [Cond.classLink RX5 69 "java/lang/UnsupportedOperationException", Cond.initialized "java/lang/UnsupportedOperationException", Cond.fieldLink RX5 10 "GroveMerge" "working" "LGroveMerge$Tree;", Cond.fieldLink RX5 41 "GroveMerge" "made" "I", Cond.methodLink RX5 55 yX5_requireNode, Cond.instanceMethod yX5_requireNode, Cond.selects RX5 yX5_requireNode yX5_requireNode, Cond.initialized RX5, Cond.code yX5_requireNode cX5_requireNode 2 none, Cond.classLink RX5 144 "java/util/NoSuchElementException", Cond.initialized "java/util/NoSuchElementException", Cond.methodLink RX5 198 yX4_holds, Cond.instanceMethod yX4_holds, Cond.selects RX4 yX4_holds yX4_holds, Cond.initialized RX4, Cond.code yX4_holds cX4_holds 2 (some .boolean), Cond.fieldLink RX4 21 "GroveMerge$Tree" "label" "[I", Cond.methodLink RX5 59 yX4_childCount, Cond.instanceMethod yX4_childCount, Cond.selects RX4 yX4_childCount yX4_childCount, Cond.code yX4_childCount cX4_childCount 4 (some .int), Cond.fieldLink RX4 15 "GroveMerge$Tree" "spot" "[I", Cond.fieldLink RX4 36 "GroveMerge$Tree" "size" "I", Cond.fieldLink RX4 18 "GroveMerge$Tree" "parent" "[I"]
def wsX5_insert_r2 : List Cond := [Cond.fieldLink RX4 9 "GroveMerge$Tree" "order" "[I", Cond.methodLink RX5 63 yX5_requirePlace, Cond.static yX5_requirePlace, Cond.code yX5_requirePlace cX5_requirePlace 2 none, Cond.classLink RX5 155 "java/lang/IndexOutOfBoundsException", Cond.initialized "java/lang/IndexOutOfBoundsException", Cond.methodLink RX5 66 yX5_requireLabel, Cond.static yX5_requireLabel, Cond.code yX5_requireLabel cX5_requireLabel 1 none, Cond.classLink RX5 80 "java/lang/IllegalArgumentException", Cond.initialized "java/lang/IllegalArgumentException", Cond.methodLink RX5 76 yX4_attach, Cond.instanceMethod yX4_attach, Cond.selects RX4 yX4_attach yX4_attach, Cond.code yX4_attach cX4_attach 5 none, Cond.methodLink RX4 61 yX4_slotFor, Cond.instanceMethod yX4_slotFor, Cond.selects RX4 yX4_slotFor yX4_slotFor, Cond.code yX4_slotFor cX4_slotFor 5 (some .int), Cond.methodLink RX4 50 yX4_endOf, Cond.instanceMethod yX4_endOf, Cond.selects RX4 yX4_endOf yX4_endOf, Cond.code yX4_endOf cX4_endOf 3 (some .int), Cond.methodLink RX4 54 yX4_parentSpot]
def wsX5_insert_r3 : List Cond := [Cond.instanceMethod yX4_parentSpot, Cond.selects RX4 yX4_parentSpot yX4_parentSpot, Cond.code yX4_parentSpot cX4_parentSpot 3 (some .int), Cond.methodLink RX4 57 yX4_putInto, Cond.instanceMethod yX4_putInto, Cond.selects RX4 yX4_putInto yX4_putInto, Cond.code yX4_putInto cX4_putInto 3 none, Cond.fieldLink RX4 24 "GroveMerge$Tree" "carried" "[I", Cond.methodLink RX4 68 yX4_putCarried, Cond.instanceMethod yX4_putCarried, Cond.selects RX4 yX4_putCarried yX4_putCarried, Cond.code yX4_putCarried cX4_putCarried 3 none, Cond.methodLink RX4 40 arraycopyName, Cond.native arraycopyName, Cond.static arraycopyName, Cond.initialized "java/lang/System", Cond.methodLink RX4 71 yX4_renumberFrom, Cond.instanceMethod yX4_renumberFrom, Cond.selects RX4 yX4_renumberFrom yX4_renumberFrom, Cond.code yX4_renumberFrom cX4_renumberFrom 3 none]
def wsX5_insert : List Cond := .code yX5_insert cX5_insert 5 (some .int) :: ((wsX5_insert_r1 ++ (wsX5_insert_r2 ++ wsX5_insert_r3)) ++ wsX50 ++ wsX40 ++ (vx_atS RX5 73 "java/lang/UnsupportedOperationException" ["java/lang/RuntimeException", "java/lang/Exception"]).filter goodWord ++ (vx_atS RX5 148 "java/util/NoSuchElementException" ["java/lang/RuntimeException", "java/lang/Exception"]).filter goodWord ++ (vx_atS RX5 159 "java/lang/IndexOutOfBoundsException" ["java/lang/RuntimeException", "java/lang/Exception"]).filter goodWord ++ (vx_atS RX5 84 "java/lang/IllegalArgumentException" ["java/lang/RuntimeException", "java/lang/Exception"]).filter goodWord)
def wsX5_delete_r1 : List Cond := [Cond.classLink RX5 80 "java/lang/IllegalArgumentException", Cond.initialized "java/lang/IllegalArgumentException", Cond.fieldLink RX5 10 "GroveMerge" "working" "LGroveMerge$Tree;", Cond.methodLink RX5 55 yX5_requireNode, Cond.instanceMethod yX5_requireNode, Cond.selects RX5 yX5_requireNode yX5_requireNode, Cond.initialized RX5, Cond.code yX5_requireNode cX5_requireNode 2 none, Cond.classLink RX5 144 "java/util/NoSuchElementException", Cond.initialized "java/util/NoSuchElementException", Cond.methodLink RX5 198 yX4_holds, Cond.instanceMethod yX4_holds, Cond.selects RX4 yX4_holds yX4_holds, Cond.initialized RX4, Cond.code yX4_holds cX4_holds 2 (some .boolean), Cond.fieldLink RX4 21 "GroveMerge$Tree" "label" "[I", Cond.methodLink RX5 85 yX4_prune, Cond.instanceMethod yX4_prune, Cond.selects RX4 yX4_prune yX4_prune, Cond.code yX4_prune cX4_prune 4 (some .int), Cond.fieldLink RX4 18 "GroveMerge$Tree" "parent" "[I", Cond.fieldLink RX4 24 "GroveMerge$Tree" "carried" "[I", Cond.methodLink RX4 65 yX4_takeOut, Cond.instanceMethod yX4_takeOut]
def wsX5_delete_r2 : List Cond := [Cond.selects RX4 yX4_takeOut yX4_takeOut, Cond.code yX4_takeOut cX4_takeOut 4 (some .int), Cond.fieldLink RX4 15 "GroveMerge$Tree" "spot" "[I", Cond.fieldLink RX4 9 "GroveMerge$Tree" "order" "[I", Cond.methodLink RX4 40 arraycopyName, Cond.native arraycopyName, Cond.static arraycopyName, Cond.initialized "java/lang/System", Cond.fieldLink RX4 36 "GroveMerge$Tree" "size" "I", Cond.methodLink RX4 50 yX4_endOf, Cond.instanceMethod yX4_endOf, Cond.selects RX4 yX4_endOf yX4_endOf, Cond.code yX4_endOf cX4_endOf 3 (some .int), Cond.methodLink RX4 54 yX4_parentSpot, Cond.instanceMethod yX4_parentSpot, Cond.selects RX4 yX4_parentSpot yX4_parentSpot, Cond.code yX4_parentSpot cX4_parentSpot 3 (some .int), Cond.methodLink RX4 71 yX4_renumberFrom, Cond.instanceMethod yX4_renumberFrom, Cond.selects RX4 yX4_renumberFrom yX4_renumberFrom, Cond.code yX4_renumberFrom cX4_renumberFrom 3 none]
def wsX5_delete : List Cond := .code yX5_delete cX5_delete 2 (some .int) :: ((wsX5_delete_r1 ++ wsX5_delete_r2) ++ wsX50 ++ wsX40 ++ (vx_atS RX5 84 "java/lang/IllegalArgumentException" ["java/lang/RuntimeException", "java/lang/Exception"]).filter goodWord ++ (vx_atS RX5 148 "java/util/NoSuchElementException" ["java/lang/RuntimeException", "java/lang/Exception"]).filter goodWord)
def wsX5_move_r1 : List Cond := [Cond.classLink RX5 80 "java/lang/IllegalArgumentException", Cond.initialized "java/lang/IllegalArgumentException", Cond.fieldLink RX5 10 "GroveMerge" "working" "LGroveMerge$Tree;", Cond.fieldLink RX5 94 "GroveMerge$Tree" "parent" "[I", Cond.methodLink RX5 55 yX5_requireNode, Cond.instanceMethod yX5_requireNode, Cond.selects RX5 yX5_requireNode yX5_requireNode, Cond.initialized RX5, Cond.code yX5_requireNode cX5_requireNode 2 none, Cond.classLink RX5 144 "java/util/NoSuchElementException", Cond.initialized "java/util/NoSuchElementException", Cond.methodLink RX5 198 yX4_holds, Cond.instanceMethod yX4_holds, Cond.selects RX4 yX4_holds yX4_holds, Cond.initialized RX4, Cond.code yX4_holds cX4_holds 2 (some .boolean), Cond.fieldLink RX4 21 "GroveMerge$Tree" "label" "[I", Cond.methodLink RX5 88 yX4_isWithin, Cond.instanceMethod yX4_isWithin, Cond.selects RX4 yX4_isWithin yX4_isWithin, Cond.code yX4_isWithin cX4_isWithin 3 (some .boolean), Cond.fieldLink RX4 15 "GroveMerge$Tree" "spot" "[I", Cond.methodLink RX4 50 yX4_endOf, Cond.instanceMethod yX4_endOf]
def wsX5_move_r2 : List Cond := [Cond.selects RX4 yX4_endOf yX4_endOf, Cond.code yX4_endOf cX4_endOf 3 (some .int), Cond.fieldLink RX4 36 "GroveMerge$Tree" "size" "I", Cond.methodLink RX4 54 yX4_parentSpot, Cond.instanceMethod yX4_parentSpot, Cond.selects RX4 yX4_parentSpot yX4_parentSpot, Cond.code yX4_parentSpot cX4_parentSpot 3 (some .int), Cond.fieldLink RX4 18 "GroveMerge$Tree" "parent" "[I", Cond.fieldLink RX4 9 "GroveMerge$Tree" "order" "[I", Cond.methodLink RX5 59 yX4_childCount, Cond.instanceMethod yX4_childCount, Cond.selects RX4 yX4_childCount yX4_childCount, Cond.code yX4_childCount cX4_childCount 4 (some .int), Cond.methodLink RX5 63 yX5_requirePlace, Cond.static yX5_requirePlace, Cond.code yX5_requirePlace cX5_requirePlace 2 none, Cond.classLink RX5 155 "java/lang/IndexOutOfBoundsException", Cond.initialized "java/lang/IndexOutOfBoundsException", Cond.methodLink RX5 98 yX4_transplant, Cond.instanceMethod yX4_transplant, Cond.selects RX4 yX4_transplant yX4_transplant, Cond.code yX4_transplant cX4_transplant 6 none, Cond.methodLink RX4 65 yX4_takeOut, Cond.instanceMethod yX4_takeOut]
def wsX5_move_r3 : List Cond := [Cond.selects RX4 yX4_takeOut yX4_takeOut, Cond.code yX4_takeOut cX4_takeOut 4 (some .int), Cond.fieldLink RX4 24 "GroveMerge$Tree" "carried" "[I", Cond.methodLink RX4 40 arraycopyName, Cond.native arraycopyName, Cond.static arraycopyName, Cond.initialized "java/lang/System", Cond.methodLink RX4 71 yX4_renumberFrom, Cond.instanceMethod yX4_renumberFrom, Cond.selects RX4 yX4_renumberFrom yX4_renumberFrom, Cond.code yX4_renumberFrom cX4_renumberFrom 3 none, Cond.methodLink RX4 61 yX4_slotFor, Cond.instanceMethod yX4_slotFor, Cond.selects RX4 yX4_slotFor yX4_slotFor, Cond.code yX4_slotFor cX4_slotFor 5 (some .int), Cond.methodLink RX4 68 yX4_putCarried, Cond.instanceMethod yX4_putCarried, Cond.selects RX4 yX4_putCarried yX4_putCarried, Cond.code yX4_putCarried cX4_putCarried 3 none]
def wsX5_move : List Cond := .code yX5_move cX5_move 4 none :: ((wsX5_move_r1 ++ (wsX5_move_r2 ++ wsX5_move_r3)) ++ wsX50 ++ wsX40 ++ (vx_atS RX5 84 "java/lang/IllegalArgumentException" ["java/lang/RuntimeException", "java/lang/Exception"]).filter goodWord ++ (vx_atS RX5 148 "java/util/NoSuchElementException" ["java/lang/RuntimeException", "java/lang/Exception"]).filter goodWord ++ (vx_atS RX5 159 "java/lang/IndexOutOfBoundsException" ["java/lang/RuntimeException", "java/lang/Exception"]).filter goodWord)
def wsX5_relabel : List Cond := .code yX5_relabel cX5_relabel 3 none :: ([.fieldLink RX5 10 "GroveMerge" "working" "LGroveMerge$Tree;", .fieldLink RX5 102 "GroveMerge$Tree" "label" "[I", .methodLink RX5 55 yX5_requireNode, .instanceMethod yX5_requireNode, .selects RX5 yX5_requireNode yX5_requireNode, .initialized RX5, .code yX5_requireNode cX5_requireNode 2 none, .classLink RX5 144 "java/util/NoSuchElementException", .initialized "java/util/NoSuchElementException", .methodLink RX5 198 yX4_holds, .instanceMethod yX4_holds, .selects RX4 yX4_holds yX4_holds, .initialized RX4, .code yX4_holds cX4_holds 2 (some .boolean), .fieldLink RX4 21 "GroveMerge$Tree" "label" "[I", .methodLink RX5 66 yX5_requireLabel, .static yX5_requireLabel, .code yX5_requireLabel cX5_requireLabel 1 none, .classLink RX5 80 "java/lang/IllegalArgumentException", .initialized "java/lang/IllegalArgumentException"] ++ wsX50 ++ wsX40 ++ (vx_atS RX5 148 "java/util/NoSuchElementException" ["java/lang/RuntimeException", "java/lang/Exception"]).filter goodWord ++ (vx_atS RX5 84 "java/lang/IllegalArgumentException" ["java/lang/RuntimeException", "java/lang/Exception"]).filter goodWord)
def wsX5_commit_r1 : List Cond := [Cond.classLink RX5 69 "java/lang/UnsupportedOperationException", Cond.initialized "java/lang/UnsupportedOperationException", Cond.fieldLink RX5 19 "GroveMerge" "history" "LGroveMerge$History;", Cond.fieldLink RX5 105 "GroveMerge$History" "size" "I", Cond.fieldLink RX5 10 "GroveMerge" "working" "LGroveMerge$Tree;", Cond.fieldLink RX5 49 "GroveMerge" "head" "I", Cond.fieldLink RX5 52 "GroveMerge" "takenIn" "I", Cond.methodLink RX5 45 yX1_record, Cond.instanceMethod yX1_record, Cond.selects RX1 yX1_record yX1_record, Cond.initialized RX1, Cond.code yX1_record cX1_record 5 (some .int), Cond.fieldLink RX1 28 "GroveMerge$History" "size" "I", Cond.fieldLink RX1 11 "GroveMerge$History" "trees" "[LGroveMerge$Tree;", Cond.fieldLink RX1 17 "GroveMerge$History" "firstParent" "[I", Cond.fieldLink RX1 21 "GroveMerge$History" "secondParent" "[I", Cond.fieldLink RX1 24 "GroveMerge$History" "reach" "[I", Cond.methodLink RX1 32 yX4_copyFrom, Cond.instanceMethod yX4_copyFrom, Cond.selects RX4 yX4_copyFrom yX4_copyFrom, Cond.initialized RX4, Cond.code yX4_copyFrom cX4_copyFrom 2 none, Cond.fieldLink RX4 9 "GroveMerge$Tree" "order" "[I", Cond.methodLink RX4 40 arraycopyName]
def wsX5_commit_r2 : List Cond := [Cond.native arraycopyName, Cond.static arraycopyName, Cond.initialized "java/lang/System", Cond.fieldLink RX4 15 "GroveMerge$Tree" "spot" "[I", Cond.fieldLink RX4 18 "GroveMerge$Tree" "parent" "[I", Cond.fieldLink RX4 21 "GroveMerge$Tree" "label" "[I", Cond.fieldLink RX4 36 "GroveMerge$Tree" "size" "I", Cond.methodLink RX1 36 yX1_reachOf, Cond.instanceMethod yX1_reachOf, Cond.selects RX1 yX1_reachOf yX1_reachOf, Cond.code yX1_reachOf cX1_reachOf 2 (some .int)]
def wsX5_commit : List Cond := .code yX5_commit cX5_commit 1 (some .int) :: ((wsX5_commit_r1 ++ wsX5_commit_r2) ++ wsX50 ++ wsX10 ++ wsX40 ++ (vx_atS RX5 73 "java/lang/UnsupportedOperationException" ["java/lang/RuntimeException", "java/lang/Exception"]).filter goodWord)
def wsX5_requireCommit : List Cond := .code yX5_requireCommit cX5_requireCommit 2 none :: ([.classLink RX5 144 "java/util/NoSuchElementException", .initialized "java/util/NoSuchElementException", .fieldLink RX5 19 "GroveMerge" "history" "LGroveMerge$History;", .fieldLink RX5 105 "GroveMerge$History" "size" "I"] ++ wsX50 ++ wsX10 ++ (vx_atS RX5 148 "java/util/NoSuchElementException" ["java/lang/RuntimeException", "java/lang/Exception"]).filter goodWord)
def wsX5_checkout_r1 : List Cond := [Cond.fieldLink RX5 10 "GroveMerge" "working" "LGroveMerge$Tree;", Cond.fieldLink RX5 19 "GroveMerge" "history" "LGroveMerge$History;", Cond.fieldLink RX5 113 "GroveMerge$History" "trees" "[LGroveMerge$Tree;", Cond.fieldLink RX5 49 "GroveMerge" "head" "I", Cond.fieldLink RX5 52 "GroveMerge" "takenIn" "I", Cond.methodLink RX5 110 yX5_requireCommit, Cond.instanceMethod yX5_requireCommit, Cond.selects RX5 yX5_requireCommit yX5_requireCommit, Cond.initialized RX5, Cond.code yX5_requireCommit cX5_requireCommit 2 none, Cond.classLink RX5 144 "java/util/NoSuchElementException", Cond.initialized "java/util/NoSuchElementException", Cond.fieldLink RX5 105 "GroveMerge$History" "size" "I", Cond.methodLink RX5 117 yX4_copyFrom, Cond.instanceMethod yX4_copyFrom, Cond.selects RX4 yX4_copyFrom yX4_copyFrom, Cond.initialized RX4, Cond.code yX4_copyFrom cX4_copyFrom 2 none, Cond.fieldLink RX4 9 "GroveMerge$Tree" "order" "[I", Cond.methodLink RX4 40 arraycopyName, Cond.native arraycopyName, Cond.static arraycopyName, Cond.initialized "java/lang/System", Cond.fieldLink RX4 15 "GroveMerge$Tree" "spot" "[I"]
def wsX5_checkout_r2 : List Cond := [Cond.fieldLink RX4 18 "GroveMerge$Tree" "parent" "[I", Cond.fieldLink RX4 21 "GroveMerge$Tree" "label" "[I", Cond.fieldLink RX4 36 "GroveMerge$Tree" "size" "I"]
def wsX5_checkout : List Cond := .code yX5_checkout cX5_checkout 2 none :: ((wsX5_checkout_r1 ++ wsX5_checkout_r2) ++ wsX50 ++ wsX10 ++ wsX40 ++ (vx_atS RX5 148 "java/util/NoSuchElementException" ["java/lang/RuntimeException", "java/lang/Exception"]).filter goodWord)
def wsX5_base : List Cond := .code yX5_base cX5_base 3 (some .int) :: ([.fieldLink RX5 19 "GroveMerge" "history" "LGroveMerge$History;", .methodLink RX5 110 yX5_requireCommit, .instanceMethod yX5_requireCommit, .selects RX5 yX5_requireCommit yX5_requireCommit, .initialized RX5, .code yX5_requireCommit cX5_requireCommit 2 none, .classLink RX5 144 "java/util/NoSuchElementException", .initialized "java/util/NoSuchElementException", .fieldLink RX5 105 "GroveMerge$History" "size" "I", .methodLink RX5 121 yX1_baseOf, .instanceMethod yX1_baseOf, .selects RX1 yX1_baseOf yX1_baseOf, .initialized RX1, .code yX1_baseOf cX1_baseOf 5 (some .int), .fieldLink RX1 24 "GroveMerge$History" "reach" "[I", .fieldLink RX1 28 "GroveMerge$History" "size" "I", .static yX5_isIn, .code yX5_isIn cX5_isIn 2 (some .boolean), .methodLink RX1 44 yX1_isReachedFromAnother, .instanceMethod yX1_isReachedFromAnother, .selects RX1 yX1_isReachedFromAnother yX1_isReachedFromAnother, .code yX1_isReachedFromAnother cX1_isReachedFromAnother 4 (some .boolean)] ++ wsX50 ++ wsX10 ++ (vx_atS RX5 148 "java/util/NoSuchElementException" ["java/lang/RuntimeException", "java/lang/Exception"]).filter goodWord)
def wsX5_merge_r1 : List Cond := [Cond.classLink RX5 129 "java/lang/IllegalStateException", Cond.initialized "java/lang/IllegalStateException", Cond.fieldLink RX5 19 "GroveMerge" "history" "LGroveMerge$History;", Cond.fieldLink RX5 113 "GroveMerge$History" "trees" "[LGroveMerge$Tree;", Cond.fieldLink RX5 49 "GroveMerge" "head" "I", Cond.fieldLink RX5 52 "GroveMerge" "takenIn" "I", Cond.fieldLink RX5 10 "GroveMerge" "working" "LGroveMerge$Tree;", Cond.fieldLink RX5 26 "GroveMerge" "merger" "LGroveMerge$Merger;", Cond.fieldLink RX5 138 "GroveMerge$Merger" "result" "LGroveMerge$Tree;", Cond.methodLink RX5 110 yX5_requireCommit, Cond.instanceMethod yX5_requireCommit, Cond.selects RX5 yX5_requireCommit yX5_requireCommit, Cond.initialized RX5, Cond.code yX5_requireCommit cX5_requireCommit 2 none, Cond.classLink RX5 144 "java/util/NoSuchElementException", Cond.initialized "java/util/NoSuchElementException", Cond.fieldLink RX5 105 "GroveMerge$History" "size" "I", Cond.methodLink RX5 125 yX4_isSameAs, Cond.instanceMethod yX4_isSameAs, Cond.selects RX4 yX4_isSameAs yX4_isSameAs, Cond.initialized RX4, Cond.code yX4_isSameAs cX4_isSameAs 4 (some .boolean), Cond.fieldLink RX4 36 "GroveMerge$Tree" "size" "I", Cond.fieldLink RX4 9 "GroveMerge$Tree" "order" "[I"]
def wsX5_merge_r2 : List Cond := [Cond.methodLink RX4 46 yX4_hasAsIn, Cond.instanceMethod yX4_hasAsIn, Cond.selects RX4 yX4_hasAsIn yX4_hasAsIn, Cond.code yX4_hasAsIn cX4_hasAsIn 3 (some .boolean), Cond.fieldLink RX4 21 "GroveMerge$Tree" "label" "[I", Cond.fieldLink RX4 18 "GroveMerge$Tree" "parent" "[I", Cond.methodLink RX5 121 yX1_baseOf, Cond.instanceMethod yX1_baseOf, Cond.selects RX1 yX1_baseOf yX1_baseOf, Cond.initialized RX1, Cond.code yX1_baseOf cX1_baseOf 5 (some .int), Cond.fieldLink RX1 24 "GroveMerge$History" "reach" "[I", Cond.fieldLink RX1 28 "GroveMerge$History" "size" "I", Cond.static yX5_isIn, Cond.code yX5_isIn cX5_isIn 2 (some .boolean), Cond.methodLink RX1 44 yX1_isReachedFromAnother, Cond.instanceMethod yX1_isReachedFromAnother, Cond.selects RX1 yX1_isReachedFromAnother yX1_isReachedFromAnother, Cond.code yX1_isReachedFromAnother cX1_isReachedFromAnother 4 (some .boolean), Cond.methodLink RX5 134 yX2_run, Cond.instanceMethod yX2_run, Cond.selects RX2 yX2_run yX2_run, Cond.initialized RX2, Cond.code yX2_run cX2_run 5 (some .int)]
def wsX5_merge_r3 : List Cond := [Cond.fieldLink RX2 22 "GroveMerge$Merger" "conflictCount" "I", Cond.fieldLink RX2 12 "GroveMerge$Merger" "result" "LGroveMerge$Tree;", Cond.methodLink RX2 26 yX4_clear, Cond.instanceMethod yX4_clear, Cond.selects RX4 yX4_clear yX4_clear, Cond.code yX4_clear cX4_clear 1 none, Cond.methodLink RX4 30 yJ7_fill_53178, Cond.static yJ7_fill_53178, Cond.initialized RJ7, Cond.code yJ7_fill_53178 cJ7_fill_53178 4 none, Cond.methodLink RX2 29 yX4_holds, Cond.instanceMethod yX4_holds, Cond.selects RX4 yX4_holds yX4_holds, Cond.code yX4_holds cX4_holds 2 (some .boolean), Cond.methodLink RX2 33 yX2_settle, Cond.instanceMethod yX2_settle, Cond.selects RX2 yX2_settle yX2_settle, Cond.code yX2_settle cX2_settle 8 none, Cond.fieldLink RX2 55 "GroveMerge$Tree" "label" "[I", Cond.fieldLink RX2 62 "GroveMerge$Tree" "parent" "[I", Cond.methodLink RX2 47 yX4_hasAsIn, Cond.methodLink RX2 51 yX2_name, Cond.instanceMethod yX2_name, Cond.selects RX2 yX2_name yX2_name]
def wsX5_merge_r4 : List Cond := [Cond.code yX2_name cX2_name 3 none, Cond.fieldLink RX2 18 "GroveMerge$Merger" "conflicts" "[I", Cond.methodLink RX2 58 yX2_agreed, Cond.static yX2_agreed, Cond.code yX2_agreed cX2_agreed 3 (some .int), Cond.methodLink RX2 37 yX2_nameThoseWithoutParent, Cond.instanceMethod yX2_nameThoseWithoutParent, Cond.selects RX2 yX2_nameThoseWithoutParent yX2_nameThoseWithoutParent, Cond.code yX2_nameThoseWithoutParent cX2_nameThoseWithoutParent 2 none, Cond.methodLink RX2 40 yX2_nameThoseCutOff, Cond.instanceMethod yX2_nameThoseCutOff, Cond.selects RX2 yX2_nameThoseCutOff yX2_nameThoseCutOff, Cond.code yX2_nameThoseCutOff cX2_nameThoseCutOff 2 none, Cond.methodLink RX2 65 yX2_comesToRoot, Cond.instanceMethod yX2_comesToRoot, Cond.selects RX2 yX2_comesToRoot yX2_comesToRoot, Cond.code yX2_comesToRoot cX2_comesToRoot 4 (some .boolean), Cond.methodLink RX2 43 yX2_arrange, Cond.instanceMethod yX2_arrange, Cond.selects RX2 yX2_arrange yX2_arrange, Cond.code yX2_arrange cX2_arrange 4 none, Cond.fieldLink RX2 71 "GroveMerge$Tree" "size" "I", Cond.methodLink RX2 68 yX4_putInto, Cond.instanceMethod yX4_putInto]
def wsX5_merge_r5 : List Cond := [Cond.selects RX4 yX4_putInto yX4_putInto, Cond.code yX4_putInto cX4_putInto 3 none, Cond.fieldLink RX4 24 "GroveMerge$Tree" "carried" "[I", Cond.methodLink RX4 68 yX4_putCarried, Cond.instanceMethod yX4_putCarried, Cond.selects RX4 yX4_putCarried yX4_putCarried, Cond.code yX4_putCarried cX4_putCarried 3 none, Cond.methodLink RX4 40 arraycopyName, Cond.native arraycopyName, Cond.static arraycopyName, Cond.initialized "java/lang/System", Cond.methodLink RX4 71 yX4_renumberFrom, Cond.instanceMethod yX4_renumberFrom, Cond.selects RX4 yX4_renumberFrom yX4_renumberFrom, Cond.code yX4_renumberFrom cX4_renumberFrom 3 none, Cond.fieldLink RX4 15 "GroveMerge$Tree" "spot" "[I", Cond.methodLink RX2 74 yX2_arrangeChildren, Cond.instanceMethod yX2_arrangeChildren, Cond.selects RX2 yX2_arrangeChildren yX2_arrangeChildren, Cond.code yX2_arrangeChildren cX2_arrangeChildren 8 none, Cond.fieldLink RX2 78 "GroveMerge$Tree" "order" "[I", Cond.fieldLink RX2 85 "GroveMerge$Tree" "spot" "[I", Cond.methodLink RX2 81 yX2_isChildNowAsIn, Cond.instanceMethod yX2_isChildNowAsIn]
def wsX5_merge_r6 : List Cond := [Cond.selects RX2 yX2_isChildNowAsIn yX2_isChildNowAsIn, Cond.code yX2_isChildNowAsIn cX2_isChildNowAsIn 4 (some .boolean), Cond.methodLink RX5 117 yX4_copyFrom, Cond.instanceMethod yX4_copyFrom, Cond.selects RX4 yX4_copyFrom yX4_copyFrom, Cond.code yX4_copyFrom cX4_copyFrom 2 none]
def wsX5_merge : List Cond := .code yX5_merge cX5_merge 4 (some .int) :: ((wsX5_merge_r1 ++ (wsX5_merge_r2 ++ (wsX5_merge_r3 ++ (wsX5_merge_r4 ++ (wsX5_merge_r5 ++ wsX5_merge_r6))))) ++ wsX50 ++ wsX10 ++ wsX20 ++ wsX40 ++ (vx_atS RX5 133 "java/lang/IllegalStateException" ["java/lang/RuntimeException", "java/lang/Exception"]).filter goodWord ++ (vx_atS RX5 148 "java/util/NoSuchElementException" ["java/lang/RuntimeException", "java/lang/Exception"]).filter goodWord)
def wsX5_conflict : List Cond := .code yX5_conflict cX5_conflict 2 (some .int) :: ([.classLink RX5 144 "java/util/NoSuchElementException", .initialized "java/util/NoSuchElementException", .fieldLink RX5 26 "GroveMerge" "merger" "LGroveMerge$Merger;", .fieldLink RX5 141 "GroveMerge$Merger" "conflictCount" "I", .fieldLink RX5 149 "GroveMerge$Merger" "conflicts" "[I"] ++ wsX50 ++ wsX20 ++ (vx_atS RX5 148 "java/util/NoSuchElementException" ["java/lang/RuntimeException", "java/lang/Exception"]).filter goodWord)
def wsX5_about_r1 : List Cond := [Cond.classLink RX5 155 "java/lang/IndexOutOfBoundsException", Cond.initialized "java/lang/IndexOutOfBoundsException", Cond.fieldLink RX5 10 "GroveMerge" "working" "LGroveMerge$Tree;", Cond.fieldLink RX5 102 "GroveMerge$Tree" "label" "[I", Cond.fieldLink RX5 94 "GroveMerge$Tree" "parent" "[I", Cond.fieldLink RX5 152 "GroveMerge$Tree" "spot" "[I", Cond.methodLink RX5 55 yX5_requireNode, Cond.instanceMethod yX5_requireNode, Cond.selects RX5 yX5_requireNode yX5_requireNode, Cond.initialized RX5, Cond.code yX5_requireNode cX5_requireNode 2 none, Cond.classLink RX5 144 "java/util/NoSuchElementException", Cond.initialized "java/util/NoSuchElementException", Cond.methodLink RX5 198 yX4_holds, Cond.instanceMethod yX4_holds, Cond.selects RX4 yX4_holds yX4_holds, Cond.initialized RX4, Cond.code yX4_holds cX4_holds 2 (some .boolean), Cond.fieldLink RX4 21 "GroveMerge$Tree" "label" "[I", Cond.methodLink RX5 59 yX4_childCount, Cond.instanceMethod yX4_childCount, Cond.selects RX4 yX4_childCount yX4_childCount, Cond.code yX4_childCount cX4_childCount 4 (some .int), Cond.fieldLink RX4 15 "GroveMerge$Tree" "spot" "[I"]
def wsX5_about_r2 : List Cond := [Cond.fieldLink RX4 36 "GroveMerge$Tree" "size" "I", Cond.fieldLink RX4 18 "GroveMerge$Tree" "parent" "[I", Cond.fieldLink RX4 9 "GroveMerge$Tree" "order" "[I"]
def wsX5_about : List Cond := .code yX5_about cX5_about 3 (some .int) :: ((wsX5_about_r1 ++ wsX5_about_r2) ++ wsX50 ++ wsX40 ++ (vx_atS RX5 159 "java/lang/IndexOutOfBoundsException" ["java/lang/RuntimeException", "java/lang/Exception"]).filter goodWord ++ (vx_atS RX5 148 "java/util/NoSuchElementException" ["java/lang/RuntimeException", "java/lang/Exception"]).filter goodWord)
def wsX5_child_r1 : List Cond := [Cond.fieldLink RX5 10 "GroveMerge" "working" "LGroveMerge$Tree;", Cond.fieldLink RX5 160 "GroveMerge$Tree" "order" "[I", Cond.methodLink RX5 55 yX5_requireNode, Cond.instanceMethod yX5_requireNode, Cond.selects RX5 yX5_requireNode yX5_requireNode, Cond.initialized RX5, Cond.code yX5_requireNode cX5_requireNode 2 none, Cond.classLink RX5 144 "java/util/NoSuchElementException", Cond.initialized "java/util/NoSuchElementException", Cond.methodLink RX5 198 yX4_holds, Cond.instanceMethod yX4_holds, Cond.selects RX4 yX4_holds yX4_holds, Cond.initialized RX4, Cond.code yX4_holds cX4_holds 2 (some .boolean), Cond.fieldLink RX4 21 "GroveMerge$Tree" "label" "[I", Cond.methodLink RX5 59 yX4_childCount, Cond.instanceMethod yX4_childCount, Cond.selects RX4 yX4_childCount yX4_childCount, Cond.code yX4_childCount cX4_childCount 4 (some .int), Cond.fieldLink RX4 15 "GroveMerge$Tree" "spot" "[I", Cond.fieldLink RX4 36 "GroveMerge$Tree" "size" "I", Cond.fieldLink RX4 18 "GroveMerge$Tree" "parent" "[I", Cond.fieldLink RX4 9 "GroveMerge$Tree" "order" "[I", Cond.methodLink RX5 63 yX5_requirePlace]
def wsX5_child_r2 : List Cond := [Cond.static yX5_requirePlace, Cond.code yX5_requirePlace cX5_requirePlace 2 none, Cond.classLink RX5 155 "java/lang/IndexOutOfBoundsException", Cond.initialized "java/lang/IndexOutOfBoundsException", Cond.methodLink RX5 163 yX4_slotFor, Cond.instanceMethod yX4_slotFor, Cond.selects RX4 yX4_slotFor yX4_slotFor, Cond.code yX4_slotFor cX4_slotFor 5 (some .int), Cond.methodLink RX4 50 yX4_endOf, Cond.instanceMethod yX4_endOf, Cond.selects RX4 yX4_endOf yX4_endOf, Cond.code yX4_endOf cX4_endOf 3 (some .int), Cond.methodLink RX4 54 yX4_parentSpot, Cond.instanceMethod yX4_parentSpot, Cond.selects RX4 yX4_parentSpot yX4_parentSpot, Cond.code yX4_parentSpot cX4_parentSpot 3 (some .int)]
def wsX5_child : List Cond := .code yX5_child cX5_child 3 (some .int) :: ((wsX5_child_r1 ++ wsX5_child_r2) ++ wsX50 ++ wsX40 ++ (vx_atS RX5 148 "java/util/NoSuchElementException" ["java/lang/RuntimeException", "java/lang/Exception"]).filter goodWord ++ (vx_atS RX5 159 "java/lang/IndexOutOfBoundsException" ["java/lang/RuntimeException", "java/lang/Exception"]).filter goodWord)
def wsX5_nodes : List Cond := .code yX5_nodes cX5_nodes 2 (some .int) :: ([.fieldLink RX5 41 "GroveMerge" "made" "I", .fieldLink RX5 10 "GroveMerge" "working" "LGroveMerge$Tree;", .fieldLink RX5 166 "GroveMerge$Tree" "size" "I"] ++ wsX50 ++ wsX40)
def wsJ6_bitCount_0f7a4 : List Cond := .code yJ6_bitCount_0f7a4 cJ6_bitCount_0f7a4 1 (some .int) :: ([.constant RJ6 265 (1431655765), .constant RJ6 266 (858993459), .constant RJ6 267 (252645135)])
def wsX5_count_r1 : List Cond := [Cond.fieldLink RX5 10 "GroveMerge" "working" "LGroveMerge$Tree;", Cond.methodLink RX5 167 yX3_follow, Cond.static yX3_follow, Cond.initialized RX3, Cond.code yX3_follow cX3_follow 6 (some .int), Cond.methodLink RX3 11 yX3_alongAxis, Cond.static yX3_alongAxis, Cond.code yX3_alongAxis cX3_alongAxis 3 (some .int), Cond.methodLink RX3 19 yX3_childrenOf, Cond.static yX3_childrenOf, Cond.code yX3_childrenOf cX3_childrenOf 5 (some .int), Cond.fieldLink RX3 28 "GroveMerge$Tree" "size" "I", Cond.fieldLink RX3 34 "GroveMerge$Tree" "order" "[I", Cond.fieldLink RX3 38 "GroveMerge$Tree" "parent" "[I", Cond.static yX5_isIn, Cond.initialized RX5, Cond.code yX5_isIn cX5_isIn 2 (some .boolean), Cond.methodLink RX3 22 yX3_below, Cond.static yX3_below, Cond.code yX3_below cX3_below 5 (some .int), Cond.methodLink RX3 25 yX3_behind, Cond.static yX3_behind, Cond.code yX3_behind cX3_behind 7 (some .int), Cond.methodLink RX3 15 yX3_labelled]
def wsX5_count_r2 : List Cond := [Cond.static yX3_labelled, Cond.code yX3_labelled cX3_labelled 5 (some .int), Cond.fieldLink RX3 45 "GroveMerge$Tree" "label" "[I", Cond.methodLink RX5 173 yJ6_bitCount_0f7a4, Cond.static yJ6_bitCount_0f7a4, Cond.initialized RJ6, Cond.code yJ6_bitCount_0f7a4 cJ6_bitCount_0f7a4 1 (some .int), Cond.constant RJ6 265 (1431655765), Cond.constant RJ6 266 (858993459), Cond.constant RJ6 267 (252645135)]
def wsX5_count : List Cond := .code yX5_count cX5_count 2 (some .int) :: ((wsX5_count_r1 ++ wsX5_count_r2) ++ wsX50 ++ wsX40)
def wsX5_find_r1 : List Cond := [Cond.classLink RX5 144 "java/util/NoSuchElementException", Cond.initialized "java/util/NoSuchElementException", Cond.fieldLink RX5 10 "GroveMerge" "working" "LGroveMerge$Tree;", Cond.methodLink RX5 167 yX3_follow, Cond.static yX3_follow, Cond.initialized RX3, Cond.code yX3_follow cX3_follow 6 (some .int), Cond.methodLink RX3 11 yX3_alongAxis, Cond.static yX3_alongAxis, Cond.code yX3_alongAxis cX3_alongAxis 3 (some .int), Cond.methodLink RX3 19 yX3_childrenOf, Cond.static yX3_childrenOf, Cond.code yX3_childrenOf cX3_childrenOf 5 (some .int), Cond.fieldLink RX3 28 "GroveMerge$Tree" "size" "I", Cond.fieldLink RX3 34 "GroveMerge$Tree" "order" "[I", Cond.fieldLink RX3 38 "GroveMerge$Tree" "parent" "[I", Cond.static yX5_isIn, Cond.initialized RX5, Cond.code yX5_isIn cX5_isIn 2 (some .boolean), Cond.methodLink RX3 22 yX3_below, Cond.static yX3_below, Cond.code yX3_below cX3_below 5 (some .int), Cond.methodLink RX3 25 yX3_behind, Cond.static yX3_behind]
def wsX5_find_r2 : List Cond := [Cond.code yX3_behind cX3_behind 7 (some .int), Cond.methodLink RX3 15 yX3_labelled, Cond.static yX3_labelled, Cond.code yX3_labelled cX3_labelled 5 (some .int), Cond.fieldLink RX3 45 "GroveMerge$Tree" "label" "[I", Cond.methodLink RX5 173 yJ6_bitCount_0f7a4, Cond.static yJ6_bitCount_0f7a4, Cond.initialized RJ6, Cond.code yJ6_bitCount_0f7a4 cJ6_bitCount_0f7a4 1 (some .int), Cond.constant RJ6 265 (1431655765), Cond.constant RJ6 266 (858993459), Cond.constant RJ6 267 (252645135), Cond.methodLink RX5 180 yX4_pick, Cond.instanceMethod yX4_pick, Cond.selects RX4 yX4_pick yX4_pick, Cond.initialized RX4, Cond.code yX4_pick cX4_pick 5 (some .int), Cond.fieldLink RX4 36 "GroveMerge$Tree" "size" "I", Cond.fieldLink RX4 9 "GroveMerge$Tree" "order" "[I"]
def wsX5_find : List Cond := .code yX5_find cX5_find 4 (some .int) :: ((wsX5_find_r1 ++ wsX5_find_r2) ++ wsX50 ++ wsX40 ++ (vx_atS RX5 148 "java/util/NoSuchElementException" ["java/lang/RuntimeException", "java/lang/Exception"]).filter goodWord)
def wsX5_alike_r1 : List Cond := [Cond.fieldLink RX5 10 "GroveMerge" "working" "LGroveMerge$Tree;", Cond.methodLink RX5 55 yX5_requireNode, Cond.instanceMethod yX5_requireNode, Cond.selects RX5 yX5_requireNode yX5_requireNode, Cond.initialized RX5, Cond.code yX5_requireNode cX5_requireNode 2 none, Cond.classLink RX5 144 "java/util/NoSuchElementException", Cond.initialized "java/util/NoSuchElementException", Cond.methodLink RX5 198 yX4_holds, Cond.instanceMethod yX4_holds, Cond.selects RX4 yX4_holds yX4_holds, Cond.initialized RX4, Cond.code yX4_holds cX4_holds 2 (some .boolean), Cond.fieldLink RX4 21 "GroveMerge$Tree" "label" "[I", Cond.methodLink RX5 183 yX4_firstAlike, Cond.instanceMethod yX4_firstAlike, Cond.selects RX4 yX4_firstAlike yX4_firstAlike, Cond.code yX4_firstAlike cX4_firstAlike 3 (some .int), Cond.fieldLink RX4 15 "GroveMerge$Tree" "spot" "[I", Cond.fieldLink RX4 9 "GroveMerge$Tree" "order" "[I", Cond.methodLink RX4 79 yX4_areAlike, Cond.instanceMethod yX4_areAlike, Cond.selects RX4 yX4_areAlike yX4_areAlike, Cond.code yX4_areAlike cX4_areAlike 7 (some .boolean)]
def wsX5_alike_r2 : List Cond := [Cond.methodLink RX4 50 yX4_endOf, Cond.instanceMethod yX4_endOf, Cond.selects RX4 yX4_endOf yX4_endOf, Cond.code yX4_endOf cX4_endOf 3 (some .int), Cond.fieldLink RX4 36 "GroveMerge$Tree" "size" "I", Cond.methodLink RX4 54 yX4_parentSpot, Cond.instanceMethod yX4_parentSpot, Cond.selects RX4 yX4_parentSpot yX4_parentSpot, Cond.code yX4_parentSpot cX4_parentSpot 3 (some .int), Cond.fieldLink RX4 18 "GroveMerge$Tree" "parent" "[I"]
def wsX5_alike : List Cond := .code yX5_alike cX5_alike 2 (some .int) :: ((wsX5_alike_r1 ++ wsX5_alike_r2) ++ wsX50 ++ wsX40 ++ (vx_atS RX5 148 "java/util/NoSuchElementException" ["java/lang/RuntimeException", "java/lang/Exception"]).filter goodWord)
def wsX5_distance_r1 : List Cond := [Cond.fieldLink RX5 33 "GroveMerge" "editDistance" "LGroveMerge$EditDistance;", Cond.fieldLink RX5 19 "GroveMerge" "history" "LGroveMerge$History;", Cond.fieldLink RX5 113 "GroveMerge$History" "trees" "[LGroveMerge$Tree;", Cond.methodLink RX5 110 yX5_requireCommit, Cond.instanceMethod yX5_requireCommit, Cond.selects RX5 yX5_requireCommit yX5_requireCommit, Cond.initialized RX5, Cond.code yX5_requireCommit cX5_requireCommit 2 none, Cond.classLink RX5 144 "java/util/NoSuchElementException", Cond.initialized "java/util/NoSuchElementException", Cond.fieldLink RX5 105 "GroveMerge$History" "size" "I", Cond.methodLink RX5 186 yX0_between, Cond.instanceMethod yX0_between, Cond.selects RX0 yX0_between yX0_between, Cond.initialized RX0, Cond.code yX0_between cX0_between 4 (some .int), Cond.fieldLink RX0 19 "GroveMerge$EditDistance" "endsA" "[I", Cond.fieldLink RX0 23 "GroveMerge$EditDistance" "endsB" "[I", Cond.fieldLink RX0 30 "GroveMerge$Tree" "size" "I", Cond.fieldLink RX0 11 "GroveMerge$EditDistance" "ofParts" "[[I", Cond.methodLink RX0 26 yX0_noteEnds, Cond.static yX0_noteEnds, Cond.code yX0_noteEnds cX0_noteEnds 3 none, Cond.methodLink RX0 48 yX4_endOf]
def wsX5_distance_r2 : List Cond := [Cond.instanceMethod yX4_endOf, Cond.selects RX4 yX4_endOf yX4_endOf, Cond.initialized RX4, Cond.code yX4_endOf cX4_endOf 3 (some .int), Cond.fieldLink RX4 36 "GroveMerge$Tree" "size" "I", Cond.methodLink RX4 54 yX4_parentSpot, Cond.instanceMethod yX4_parentSpot, Cond.selects RX4 yX4_parentSpot yX4_parentSpot, Cond.code yX4_parentSpot cX4_parentSpot 3 (some .int), Cond.fieldLink RX4 18 "GroveMerge$Tree" "parent" "[I", Cond.fieldLink RX4 9 "GroveMerge$Tree" "order" "[I", Cond.fieldLink RX4 15 "GroveMerge$Tree" "spot" "[I", Cond.methodLink RX0 36 yX0_isWidest, Cond.static yX0_isWidest, Cond.code yX0_isWidest cX0_isWidest 3 (some .boolean), Cond.methodLink RX0 52 yX4_parentSpot, Cond.methodLink RX0 40 yX0_compareWithAll, Cond.instanceMethod yX0_compareWithAll, Cond.selects RX0 yX0_compareWithAll yX0_compareWithAll, Cond.code yX0_compareWithAll cX0_compareWithAll 5 none, Cond.methodLink RX0 44 yX0_compareParts, Cond.instanceMethod yX0_compareParts, Cond.selects RX0 yX0_compareParts yX0_compareParts, Cond.code yX0_compareParts cX0_compareParts 10 none]
def wsX5_distance_r3 : List Cond := [Cond.fieldLink RX0 16 "GroveMerge$EditDistance" "ofRests" "[[I", Cond.fieldLink RX0 55 "GroveMerge$Tree" "label" "[I", Cond.fieldLink RX0 58 "GroveMerge$Tree" "order" "[I", Cond.methodLink RX0 61 yX0_least, Cond.instanceMethod yX0_least, Cond.selects RX0 yX0_least yX0_least, Cond.code yX0_least cX0_least 5 (some .int), Cond.methodLink RX0 65 Lib.Math.min.name, Cond.static Lib.Math.min.name, Cond.initialized "java/lang/Math", Cond.code Lib.Math.min.name Lib.Math.min.code 2 (some .int)]
def wsX5_distance : List Cond := .code yX5_distance cX5_distance 3 (some .int) :: ((wsX5_distance_r1 ++ (wsX5_distance_r2 ++ wsX5_distance_r3)) ++ wsX50 ++ wsX10 ++ wsX00 ++ wsX40 ++ (vx_atS RX5 148 "java/util/NoSuchElementException" ["java/lang/RuntimeException", "java/lang/Exception"]).filter goodWord)
def wsX5_state : List Cond := .code yX5_state cX5_state 2 (some .int) :: ([.classLink RX5 80 "java/lang/IllegalArgumentException", .initialized "java/lang/IllegalArgumentException", .fieldLink RX5 19 "GroveMerge" "history" "LGroveMerge$History;", .fieldLink RX5 105 "GroveMerge$History" "size" "I", .fieldLink RX5 49 "GroveMerge" "head" "I", .fieldLink RX5 52 "GroveMerge" "takenIn" "I"] ++ wsX50 ++ wsX10 ++ (vx_atS RX5 84 "java/lang/IllegalArgumentException" ["java/lang/RuntimeException", "java/lang/Exception"]).filter goodWord)
def wsX5_above : List Cond := .code yX5_above cX5_above 3 (some .int) :: ([.fieldLink RX5 19 "GroveMerge" "history" "LGroveMerge$History;", .fieldLink RX5 192 "GroveMerge$History" "firstParent" "[I", .fieldLink RX5 195 "GroveMerge$History" "secondParent" "[I", .methodLink RX5 110 yX5_requireCommit, .instanceMethod yX5_requireCommit, .selects RX5 yX5_requireCommit yX5_requireCommit, .initialized RX5, .code yX5_requireCommit cX5_requireCommit 2 none, .classLink RX5 144 "java/util/NoSuchElementException", .initialized "java/util/NoSuchElementException", .fieldLink RX5 105 "GroveMerge$History" "size" "I", .methodLink RX5 63 yX5_requirePlace, .static yX5_requirePlace, .code yX5_requirePlace cX5_requirePlace 2 none, .classLink RX5 155 "java/lang/IndexOutOfBoundsException", .initialized "java/lang/IndexOutOfBoundsException"] ++ wsX50 ++ wsX10 ++ (vx_atS RX5 148 "java/util/NoSuchElementException" ["java/lang/RuntimeException", "java/lang/Exception"]).filter goodWord ++ (vx_atS RX5 159 "java/lang/IndexOutOfBoundsException" ["java/lang/RuntimeException", "java/lang/Exception"]).filter goodWord)
def wsX6_copy : List Cond := .code yX6_copy cX6_copy 4 none :: ([.fieldLink RX6 7 "GroveMergeModel" "there" "[Z", .fieldLink RX6 13 "GroveMergeModel" "label" "[I", .fieldLink RX6 17 "GroveMergeModel" "parent" "[I", .fieldLink RX6 20 "GroveMergeModel" "place" "[I"] ++ wsX60)
def wsX6_init_r1 : List Cond := [Cond.methodLink RX6 1 objectInit, Cond.instanceMethod objectInit, Cond.code objectInit ⟨#[0xb1]⟩ 1 none, Cond.arrayClass .boolean, Cond.fieldLink RX6 7 "GroveMergeModel" "there" "[Z", Cond.arrayClass .int, Cond.fieldLink RX6 13 "GroveMergeModel" "label" "[I", Cond.fieldLink RX6 17 "GroveMergeModel" "parent" "[I", Cond.fieldLink RX6 20 "GroveMergeModel" "place" "[I", Cond.fieldLink RX6 23 "GroveMergeModel" "made" "I", Cond.fieldLink RX6 27 "GroveMergeModel" "commits" "I", Cond.fieldLink RX6 30 "GroveMergeModel" "one" "[I", Cond.fieldLink RX6 33 "GroveMergeModel" "two" "[I", Cond.fieldLink RX6 36 "GroveMergeModel" "reach" "[I", Cond.fieldLink RX6 39 "GroveMergeModel" "taken" "I", Cond.fieldLink RX6 42 "GroveMergeModel" "conflict" "[I", Cond.fieldLink RX6 45 "GroveMergeModel" "stays" "[Z", Cond.fieldLink RX6 48 "GroveMergeModel" "kind" "[I", Cond.fieldLink RX6 51 "GroveMergeModel" "newLabel" "[I", Cond.fieldLink RX6 54 "GroveMergeModel" "newParent" "[I", Cond.fieldLink RX6 57 "GroveMergeModel" "order" "[I", Cond.fieldLink RX6 60 "GroveMergeModel" "stack" "[I", Cond.fieldLink RX6 63 "GroveMergeModel" "alike" "[I", Cond.fieldLink RX6 66 "GroveMergeModel" "post" "[I"]
def wsX6_init_r2 : List Cond := [Cond.fieldLink RX6 69 "GroveMergeModel" "leaf" "[I", Cond.fieldLink RX6 72 "GroveMergeModel" "trees" "[I", Cond.fieldLink RX6 75 "GroveMergeModel" "forests" "[I", Cond.methodLink RX6 78 yX6_copy, Cond.instanceMethod yX6_copy, Cond.selects RX6 yX6_copy yX6_copy, Cond.initialized RX6, Cond.code yX6_copy cX6_copy 4 none]
def wsX6_init : List Cond := .code yX6_init cX6_init 1 none :: ((wsX6_init_r1 ++ wsX6_init_r2) ++ wsX60)
def wsX6_thrown : List Cond := .code yX6_thrown cX6_thrown 1 (some .int) :: ([.fieldLink RX6 82 "GroveMergeModel" "thrown" "I"] ++ wsX60)
def wsX6_fail : List Cond := .code yX6_fail cX6_fail 2 (some .int) :: ([.fieldLink RX6 82 "GroveMergeModel" "thrown" "I"] ++ wsX60)
def wsX6_has : List Cond := .code yX6_has cX6_has 3 (some .boolean) :: ([.fieldLink RX6 7 "GroveMergeModel" "there" "[Z"] ++ wsX60)
def wsX6_isChild : List Cond := .code yX6_isChild cX6_isChild 4 (some .boolean) :: ([.fieldLink RX6 7 "GroveMergeModel" "there" "[Z", .fieldLink RX6 17 "GroveMergeModel" "parent" "[I"] ++ wsX60)
def wsX6_children : List Cond := .code yX6_children cX6_children 5 (some .int) :: ([.methodLink RX6 85 yX6_isChild, .instanceMethod yX6_isChild, .selects RX6 yX6_isChild yX6_isChild, .initialized RX6, .code yX6_isChild cX6_isChild 4 (some .boolean), .fieldLink RX6 7 "GroveMergeModel" "there" "[Z", .fieldLink RX6 17 "GroveMergeModel" "parent" "[I"] ++ wsX60)
def wsX6_childAt : List Cond := .code yX6_childAt cX6_childAt 6 (some .int) :: ([.fieldLink RX6 20 "GroveMergeModel" "place" "[I", .methodLink RX6 85 yX6_isChild, .instanceMethod yX6_isChild, .selects RX6 yX6_isChild yX6_isChild, .initialized RX6, .code yX6_isChild cX6_isChild 4 (some .boolean), .fieldLink RX6 7 "GroveMergeModel" "there" "[Z", .fieldLink RX6 17 "GroveMergeModel" "parent" "[I"] ++ wsX60)
def wsX6_isAt : List Cond := .code yX6_isAt cX6_isAt 5 (some .boolean) :: ([.fieldLink RX6 17 "GroveMergeModel" "parent" "[I"] ++ wsX60)
def wsX6_shift : List Cond := .code yX6_shift cX6_shift 6 none :: ([.fieldLink RX6 20 "GroveMergeModel" "place" "[I", .methodLink RX6 85 yX6_isChild, .instanceMethod yX6_isChild, .selects RX6 yX6_isChild yX6_isChild, .initialized RX6, .code yX6_isChild cX6_isChild 4 (some .boolean), .fieldLink RX6 7 "GroveMergeModel" "there" "[Z", .fieldLink RX6 17 "GroveMergeModel" "parent" "[I"] ++ wsX60)
def wsX6_hang : List Cond := .code yX6_hang cX6_hang 5 none :: ([.fieldLink RX6 7 "GroveMergeModel" "there" "[Z", .fieldLink RX6 17 "GroveMergeModel" "parent" "[I", .fieldLink RX6 20 "GroveMergeModel" "place" "[I", .methodLink RX6 89 yX6_shift, .instanceMethod yX6_shift, .selects RX6 yX6_shift yX6_shift, .initialized RX6, .code yX6_shift cX6_shift 6 none, .methodLink RX6 85 yX6_isChild, .instanceMethod yX6_isChild, .selects RX6 yX6_isChild yX6_isChild, .code yX6_isChild cX6_isChild 4 (some .boolean)] ++ wsX60)
def wsX6_unhang : List Cond := .code yX6_unhang cX6_unhang 3 none :: ([.fieldLink RX6 7 "GroveMergeModel" "there" "[Z", .fieldLink RX6 17 "GroveMergeModel" "parent" "[I", .fieldLink RX6 20 "GroveMergeModel" "place" "[I", .methodLink RX6 89 yX6_shift, .instanceMethod yX6_shift, .selects RX6 yX6_shift yX6_shift, .initialized RX6, .code yX6_shift cX6_shift 6 none, .methodLink RX6 85 yX6_isChild, .instanceMethod yX6_isChild, .selects RX6 yX6_isChild yX6_isChild, .code yX6_isChild cX6_isChild 4 (some .boolean)] ++ wsX60)
def wsX6_walk : List Cond := .code yX6_walk cX6_walk 4 none :: ([.fieldLink RX6 93 "GroveMergeModel" "many" "I", .fieldLink RX6 60 "GroveMergeModel" "stack" "[I", .fieldLink RX6 96 "GroveMergeModel" "top" "I", .fieldLink RX6 57 "GroveMergeModel" "order" "[I", .methodLink RX6 99 yX6_children, .instanceMethod yX6_children, .selects RX6 yX6_children yX6_children, .initialized RX6, .code yX6_children cX6_children 5 (some .int), .methodLink RX6 85 yX6_isChild, .instanceMethod yX6_isChild, .selects RX6 yX6_isChild yX6_isChild, .code yX6_isChild cX6_isChild 4 (some .boolean), .fieldLink RX6 7 "GroveMergeModel" "there" "[Z", .fieldLink RX6 17 "GroveMergeModel" "parent" "[I", .methodLink RX6 103 yX6_childAt, .instanceMethod yX6_childAt, .selects RX6 yX6_childAt yX6_childAt, .code yX6_childAt cX6_childAt 6 (some .int), .fieldLink RX6 20 "GroveMergeModel" "place" "[I"] ++ wsX60)
def wsX6_insert_r1 : List Cond := [Cond.fieldLink RX6 23 "GroveMergeModel" "made" "I", Cond.fieldLink RX6 82 "GroveMergeModel" "thrown" "I", Cond.fieldLink RX6 13 "GroveMergeModel" "label" "[I", Cond.methodLink RX6 107 yX6_has, Cond.instanceMethod yX6_has, Cond.selects RX6 yX6_has yX6_has, Cond.initialized RX6, Cond.code yX6_has cX6_has 3 (some .boolean), Cond.fieldLink RX6 7 "GroveMergeModel" "there" "[Z", Cond.methodLink RX6 99 yX6_children, Cond.instanceMethod yX6_children, Cond.selects RX6 yX6_children yX6_children, Cond.code yX6_children cX6_children 5 (some .int), Cond.methodLink RX6 85 yX6_isChild, Cond.instanceMethod yX6_isChild, Cond.selects RX6 yX6_isChild yX6_isChild, Cond.code yX6_isChild cX6_isChild 4 (some .boolean), Cond.fieldLink RX6 17 "GroveMergeModel" "parent" "[I", Cond.methodLink RX6 111 yX6_hang, Cond.instanceMethod yX6_hang, Cond.selects RX6 yX6_hang yX6_hang, Cond.code yX6_hang cX6_hang 5 none, Cond.fieldLink RX6 20 "GroveMergeModel" "place" "[I", Cond.methodLink RX6 89 yX6_shift]
def wsX6_insert_r2 : List Cond := [Cond.instanceMethod yX6_shift, Cond.selects RX6 yX6_shift yX6_shift, Cond.code yX6_shift cX6_shift 6 none]
def wsX6_insert : List Cond := .code yX6_insert cX6_insert 4 (some .int) :: ((wsX6_insert_r1 ++ wsX6_insert_r2) ++ wsX60)
def wsX6_delete_r1 : List Cond := [Cond.fieldLink RX6 82 "GroveMergeModel" "thrown" "I", Cond.fieldLink RX6 93 "GroveMergeModel" "many" "I", Cond.fieldLink RX6 57 "GroveMergeModel" "order" "[I", Cond.fieldLink RX6 7 "GroveMergeModel" "there" "[Z", Cond.methodLink RX6 107 yX6_has, Cond.instanceMethod yX6_has, Cond.selects RX6 yX6_has yX6_has, Cond.initialized RX6, Cond.code yX6_has cX6_has 3 (some .boolean), Cond.methodLink RX6 114 yX6_walk, Cond.instanceMethod yX6_walk, Cond.selects RX6 yX6_walk yX6_walk, Cond.code yX6_walk cX6_walk 4 none, Cond.fieldLink RX6 60 "GroveMergeModel" "stack" "[I", Cond.fieldLink RX6 96 "GroveMergeModel" "top" "I", Cond.methodLink RX6 99 yX6_children, Cond.instanceMethod yX6_children, Cond.selects RX6 yX6_children yX6_children, Cond.code yX6_children cX6_children 5 (some .int), Cond.methodLink RX6 85 yX6_isChild, Cond.instanceMethod yX6_isChild, Cond.selects RX6 yX6_isChild yX6_isChild, Cond.code yX6_isChild cX6_isChild 4 (some .boolean), Cond.fieldLink RX6 17 "GroveMergeModel" "parent" "[I"]
def wsX6_delete_r2 : List Cond := [Cond.methodLink RX6 103 yX6_childAt, Cond.instanceMethod yX6_childAt, Cond.selects RX6 yX6_childAt yX6_childAt, Cond.code yX6_childAt cX6_childAt 6 (some .int), Cond.fieldLink RX6 20 "GroveMergeModel" "place" "[I", Cond.methodLink RX6 118 yX6_unhang, Cond.instanceMethod yX6_unhang, Cond.selects RX6 yX6_unhang yX6_unhang, Cond.code yX6_unhang cX6_unhang 3 none, Cond.methodLink RX6 89 yX6_shift, Cond.instanceMethod yX6_shift, Cond.selects RX6 yX6_shift yX6_shift, Cond.code yX6_shift cX6_shift 6 none, Cond.methodLink RX6 121 yX6_isAt, Cond.instanceMethod yX6_isAt, Cond.selects RX6 yX6_isAt yX6_isAt, Cond.code yX6_isAt cX6_isAt 5 (some .boolean)]
def wsX6_delete : List Cond := .code yX6_delete cX6_delete 5 (some .int) :: ((wsX6_delete_r1 ++ wsX6_delete_r2) ++ wsX60)
def wsX6_move_r1 : List Cond := [Cond.fieldLink RX6 82 "GroveMergeModel" "thrown" "I", Cond.fieldLink RX6 17 "GroveMergeModel" "parent" "[I", Cond.methodLink RX6 107 yX6_has, Cond.instanceMethod yX6_has, Cond.selects RX6 yX6_has yX6_has, Cond.initialized RX6, Cond.code yX6_has cX6_has 3 (some .boolean), Cond.fieldLink RX6 7 "GroveMergeModel" "there" "[Z", Cond.methodLink RX6 121 yX6_isAt, Cond.instanceMethod yX6_isAt, Cond.selects RX6 yX6_isAt yX6_isAt, Cond.code yX6_isAt cX6_isAt 5 (some .boolean), Cond.methodLink RX6 99 yX6_children, Cond.instanceMethod yX6_children, Cond.selects RX6 yX6_children yX6_children, Cond.code yX6_children cX6_children 5 (some .int), Cond.methodLink RX6 85 yX6_isChild, Cond.instanceMethod yX6_isChild, Cond.selects RX6 yX6_isChild yX6_isChild, Cond.code yX6_isChild cX6_isChild 4 (some .boolean), Cond.methodLink RX6 118 yX6_unhang, Cond.instanceMethod yX6_unhang, Cond.selects RX6 yX6_unhang yX6_unhang, Cond.code yX6_unhang cX6_unhang 3 none]
def wsX6_move_r2 : List Cond := [Cond.fieldLink RX6 20 "GroveMergeModel" "place" "[I", Cond.methodLink RX6 89 yX6_shift, Cond.instanceMethod yX6_shift, Cond.selects RX6 yX6_shift yX6_shift, Cond.code yX6_shift cX6_shift 6 none, Cond.methodLink RX6 111 yX6_hang, Cond.instanceMethod yX6_hang, Cond.selects RX6 yX6_hang yX6_hang, Cond.code yX6_hang cX6_hang 5 none]
def wsX6_move : List Cond := .code yX6_move cX6_move 5 none :: ((wsX6_move_r1 ++ wsX6_move_r2) ++ wsX60)
def wsX6_relabel : List Cond := .code yX6_relabel cX6_relabel 3 none :: ([.fieldLink RX6 82 "GroveMergeModel" "thrown" "I", .fieldLink RX6 13 "GroveMergeModel" "label" "[I", .methodLink RX6 107 yX6_has, .instanceMethod yX6_has, .selects RX6 yX6_has yX6_has, .initialized RX6, .code yX6_has cX6_has 3 (some .boolean), .fieldLink RX6 7 "GroveMergeModel" "there" "[Z"] ++ wsX60)
def wsX6_commit : List Cond := .code yX6_commit cX6_commit 1 (some .int) :: ([.fieldLink RX6 27 "GroveMergeModel" "commits" "I", .fieldLink RX6 82 "GroveMergeModel" "thrown" "I", .fieldLink RX6 30 "GroveMergeModel" "one" "[I", .fieldLink RX6 124 "GroveMergeModel" "head" "I", .fieldLink RX6 33 "GroveMergeModel" "two" "[I", .fieldLink RX6 39 "GroveMergeModel" "taken" "I", .fieldLink RX6 36 "GroveMergeModel" "reach" "[I", .methodLink RX6 78 yX6_copy, .instanceMethod yX6_copy, .selects RX6 yX6_copy yX6_copy, .initialized RX6, .code yX6_copy cX6_copy 4 none, .fieldLink RX6 7 "GroveMergeModel" "there" "[Z", .fieldLink RX6 13 "GroveMergeModel" "label" "[I", .fieldLink RX6 17 "GroveMergeModel" "parent" "[I", .fieldLink RX6 20 "GroveMergeModel" "place" "[I"] ++ wsX60)
def wsX6_isCommit : List Cond := .code yX6_isCommit cX6_isCommit 2 (some .boolean) :: ([.fieldLink RX6 27 "GroveMergeModel" "commits" "I"] ++ wsX60)
def wsX6_checkout : List Cond := .code yX6_checkout cX6_checkout 2 none :: ([.fieldLink RX6 82 "GroveMergeModel" "thrown" "I", .fieldLink RX6 124 "GroveMergeModel" "head" "I", .fieldLink RX6 39 "GroveMergeModel" "taken" "I", .methodLink RX6 127 yX6_isCommit, .instanceMethod yX6_isCommit, .selects RX6 yX6_isCommit yX6_isCommit, .initialized RX6, .code yX6_isCommit cX6_isCommit 2 (some .boolean), .fieldLink RX6 27 "GroveMergeModel" "commits" "I", .methodLink RX6 78 yX6_copy, .instanceMethod yX6_copy, .selects RX6 yX6_copy yX6_copy, .code yX6_copy cX6_copy 4 none, .fieldLink RX6 7 "GroveMergeModel" "there" "[Z", .fieldLink RX6 13 "GroveMergeModel" "label" "[I", .fieldLink RX6 17 "GroveMergeModel" "parent" "[I", .fieldLink RX6 20 "GroveMergeModel" "place" "[I"] ++ wsX60)
def wsX6_baseOf : List Cond := .code yX6_baseOf cX6_baseOf 7 (some .int) :: ([.fieldLink RX6 36 "GroveMergeModel" "reach" "[I", .fieldLink RX6 27 "GroveMergeModel" "commits" "I"] ++ wsX60)
def wsX6_base : List Cond := .code yX6_base cX6_base 3 (some .int) :: ([.fieldLink RX6 82 "GroveMergeModel" "thrown" "I", .methodLink RX6 127 yX6_isCommit, .instanceMethod yX6_isCommit, .selects RX6 yX6_isCommit yX6_isCommit, .initialized RX6, .code yX6_isCommit cX6_isCommit 2 (some .boolean), .fieldLink RX6 27 "GroveMergeModel" "commits" "I", .methodLink RX6 131 yX6_baseOf, .instanceMethod yX6_baseOf, .selects RX6 yX6_baseOf yX6_baseOf, .code yX6_baseOf cX6_baseOf 7 (some .int), .fieldLink RX6 36 "GroveMergeModel" "reach" "[I"] ++ wsX60)
def wsX6_isHeads : List Cond := .code yX6_isHeads cX6_isHeads 5 (some .boolean) :: ([.fieldLink RX6 124 "GroveMergeModel" "head" "I", .fieldLink RX6 7 "GroveMergeModel" "there" "[Z", .fieldLink RX6 13 "GroveMergeModel" "label" "[I", .fieldLink RX6 17 "GroveMergeModel" "parent" "[I", .fieldLink RX6 20 "GroveMergeModel" "place" "[I"] ++ wsX60)
def wsX6_stay : List Cond := .code yX6_stay cX6_stay 5 (some .int) :: ([.fieldLink RX6 7 "GroveMergeModel" "there" "[Z", .fieldLink RX6 13 "GroveMergeModel" "label" "[I", .fieldLink RX6 17 "GroveMergeModel" "parent" "[I"] ++ wsX60)
def wsX6_choose : List Cond := .code yX6_choose cX6_choose 4 (some .int) :: ([])
def wsX6_meet : List Cond := .code yX6_meet cX6_meet 10 none :: ([.fieldLink RX6 124 "GroveMergeModel" "head" "I", .fieldLink RX6 45 "GroveMergeModel" "stays" "[Z", .fieldLink RX6 48 "GroveMergeModel" "kind" "[I", .fieldLink RX6 7 "GroveMergeModel" "there" "[Z", .fieldLink RX6 51 "GroveMergeModel" "newLabel" "[I", .fieldLink RX6 13 "GroveMergeModel" "label" "[I", .fieldLink RX6 54 "GroveMergeModel" "newParent" "[I", .fieldLink RX6 17 "GroveMergeModel" "parent" "[I", .methodLink RX6 134 yX6_stay, .instanceMethod yX6_stay, .selects RX6 yX6_stay yX6_stay, .initialized RX6, .code yX6_stay cX6_stay 5 (some .int), .methodLink RX6 137 yX6_choose, .static yX6_choose, .code yX6_choose cX6_choose 4 (some .int)] ++ wsX60)
def wsX6_countKinds : List Cond := .code yX6_countKinds cX6_countKinds 3 (some .int) :: ([.fieldLink RX6 48 "GroveMergeModel" "kind" "[I"] ++ wsX60)
def wsX6_comes : List Cond := .code yX6_comes cX6_comes 4 (some .boolean) :: ([.fieldLink RX6 54 "GroveMergeModel" "newParent" "[I"] ++ wsX60)
def wsX6_findOrphans : List Cond := .code yX6_findOrphans cX6_findOrphans 2 none :: ([.fieldLink RX6 48 "GroveMergeModel" "kind" "[I", .fieldLink RX6 45 "GroveMergeModel" "stays" "[Z", .fieldLink RX6 54 "GroveMergeModel" "newParent" "[I"] ++ wsX60)
def wsX6_findRings : List Cond := .code yX6_findRings cX6_findRings 2 none :: ([.fieldLink RX6 48 "GroveMergeModel" "kind" "[I", .fieldLink RX6 45 "GroveMergeModel" "stays" "[Z", .methodLink RX6 141 yX6_comes, .instanceMethod yX6_comes, .selects RX6 yX6_comes yX6_comes, .initialized RX6, .code yX6_comes cX6_comes 4 (some .boolean), .fieldLink RX6 54 "GroveMergeModel" "newParent" "[I"] ++ wsX60)
def wsX6_putChildren_r1 : List Cond := [Cond.fieldLink RX6 124 "GroveMergeModel" "head" "I", Cond.fieldLink RX6 45 "GroveMergeModel" "stays" "[Z", Cond.fieldLink RX6 54 "GroveMergeModel" "newParent" "[I", Cond.fieldLink RX6 7 "GroveMergeModel" "there" "[Z", Cond.fieldLink RX6 20 "GroveMergeModel" "place" "[I", Cond.methodLink RX6 99 yX6_children, Cond.instanceMethod yX6_children, Cond.selects RX6 yX6_children yX6_children, Cond.initialized RX6, Cond.code yX6_children cX6_children 5 (some .int), Cond.methodLink RX6 85 yX6_isChild, Cond.instanceMethod yX6_isChild, Cond.selects RX6 yX6_isChild yX6_isChild, Cond.code yX6_isChild cX6_isChild 4 (some .boolean), Cond.fieldLink RX6 17 "GroveMergeModel" "parent" "[I", Cond.methodLink RX6 103 yX6_childAt, Cond.instanceMethod yX6_childAt, Cond.selects RX6 yX6_childAt yX6_childAt, Cond.code yX6_childAt cX6_childAt 6 (some .int), Cond.methodLink RX6 111 yX6_hang, Cond.instanceMethod yX6_hang, Cond.selects RX6 yX6_hang yX6_hang, Cond.code yX6_hang cX6_hang 5 none, Cond.methodLink RX6 89 yX6_shift]
def wsX6_putChildren_r2 : List Cond := [Cond.instanceMethod yX6_shift, Cond.selects RX6 yX6_shift yX6_shift, Cond.code yX6_shift cX6_shift 6 none]
def wsX6_putChildren : List Cond := .code yX6_putChildren cX6_putChildren 8 none :: ((wsX6_putChildren_r1 ++ wsX6_putChildren_r2) ++ wsX60)
def wsX6_build_r1 : List Cond := [Cond.fieldLink RX6 7 "GroveMergeModel" "there" "[Z", Cond.fieldLink RX6 13 "GroveMergeModel" "label" "[I", Cond.fieldLink RX6 45 "GroveMergeModel" "stays" "[Z", Cond.fieldLink RX6 51 "GroveMergeModel" "newLabel" "[I", Cond.fieldLink RX6 17 "GroveMergeModel" "parent" "[I", Cond.fieldLink RX6 20 "GroveMergeModel" "place" "[I", Cond.methodLink RX6 144 yX6_putChildren, Cond.instanceMethod yX6_putChildren, Cond.selects RX6 yX6_putChildren yX6_putChildren, Cond.initialized RX6, Cond.code yX6_putChildren cX6_putChildren 8 none, Cond.fieldLink RX6 124 "GroveMergeModel" "head" "I", Cond.fieldLink RX6 54 "GroveMergeModel" "newParent" "[I", Cond.methodLink RX6 99 yX6_children, Cond.instanceMethod yX6_children, Cond.selects RX6 yX6_children yX6_children, Cond.code yX6_children cX6_children 5 (some .int), Cond.methodLink RX6 85 yX6_isChild, Cond.instanceMethod yX6_isChild, Cond.selects RX6 yX6_isChild yX6_isChild, Cond.code yX6_isChild cX6_isChild 4 (some .boolean), Cond.methodLink RX6 103 yX6_childAt, Cond.instanceMethod yX6_childAt, Cond.selects RX6 yX6_childAt yX6_childAt]
def wsX6_build_r2 : List Cond := [Cond.code yX6_childAt cX6_childAt 6 (some .int), Cond.methodLink RX6 111 yX6_hang, Cond.instanceMethod yX6_hang, Cond.selects RX6 yX6_hang yX6_hang, Cond.code yX6_hang cX6_hang 5 none, Cond.methodLink RX6 89 yX6_shift, Cond.instanceMethod yX6_shift, Cond.selects RX6 yX6_shift yX6_shift, Cond.code yX6_shift cX6_shift 6 none, Cond.methodLink RX6 78 yX6_copy, Cond.instanceMethod yX6_copy, Cond.selects RX6 yX6_copy yX6_copy, Cond.code yX6_copy cX6_copy 4 none]
def wsX6_build : List Cond := .code yX6_build cX6_build 3 none :: ((wsX6_build_r1 ++ wsX6_build_r2) ++ wsX60)
def wsX6_merge_r1 : List Cond := [Cond.fieldLink RX6 39 "GroveMergeModel" "taken" "I", Cond.fieldLink RX6 82 "GroveMergeModel" "thrown" "I", Cond.fieldLink RX6 124 "GroveMergeModel" "head" "I", Cond.fieldLink RX6 165 "GroveMergeModel" "conflicts" "I", Cond.fieldLink RX6 48 "GroveMergeModel" "kind" "[I", Cond.fieldLink RX6 42 "GroveMergeModel" "conflict" "[I", Cond.methodLink RX6 127 yX6_isCommit, Cond.instanceMethod yX6_isCommit, Cond.selects RX6 yX6_isCommit yX6_isCommit, Cond.initialized RX6, Cond.code yX6_isCommit cX6_isCommit 2 (some .boolean), Cond.fieldLink RX6 27 "GroveMergeModel" "commits" "I", Cond.methodLink RX6 147 yX6_isHeads, Cond.instanceMethod yX6_isHeads, Cond.selects RX6 yX6_isHeads yX6_isHeads, Cond.code yX6_isHeads cX6_isHeads 5 (some .boolean), Cond.fieldLink RX6 7 "GroveMergeModel" "there" "[Z", Cond.fieldLink RX6 13 "GroveMergeModel" "label" "[I", Cond.fieldLink RX6 17 "GroveMergeModel" "parent" "[I", Cond.fieldLink RX6 20 "GroveMergeModel" "place" "[I", Cond.methodLink RX6 131 yX6_baseOf, Cond.instanceMethod yX6_baseOf, Cond.selects RX6 yX6_baseOf yX6_baseOf, Cond.code yX6_baseOf cX6_baseOf 7 (some .int)]
def wsX6_merge_r2 : List Cond := [Cond.fieldLink RX6 36 "GroveMergeModel" "reach" "[I", Cond.methodLink RX6 151 yX6_meet, Cond.instanceMethod yX6_meet, Cond.selects RX6 yX6_meet yX6_meet, Cond.code yX6_meet cX6_meet 10 none, Cond.fieldLink RX6 45 "GroveMergeModel" "stays" "[Z", Cond.fieldLink RX6 51 "GroveMergeModel" "newLabel" "[I", Cond.fieldLink RX6 54 "GroveMergeModel" "newParent" "[I", Cond.methodLink RX6 134 yX6_stay, Cond.instanceMethod yX6_stay, Cond.selects RX6 yX6_stay yX6_stay, Cond.code yX6_stay cX6_stay 5 (some .int), Cond.methodLink RX6 137 yX6_choose, Cond.static yX6_choose, Cond.code yX6_choose cX6_choose 4 (some .int), Cond.methodLink RX6 155 yX6_countKinds, Cond.instanceMethod yX6_countKinds, Cond.selects RX6 yX6_countKinds yX6_countKinds, Cond.code yX6_countKinds cX6_countKinds 3 (some .int), Cond.methodLink RX6 159 yX6_findOrphans, Cond.instanceMethod yX6_findOrphans, Cond.selects RX6 yX6_findOrphans yX6_findOrphans, Cond.code yX6_findOrphans cX6_findOrphans 2 none, Cond.methodLink RX6 162 yX6_findRings]
def wsX6_merge_r3 : List Cond := [Cond.instanceMethod yX6_findRings, Cond.selects RX6 yX6_findRings yX6_findRings, Cond.code yX6_findRings cX6_findRings 2 none, Cond.methodLink RX6 141 yX6_comes, Cond.instanceMethod yX6_comes, Cond.selects RX6 yX6_comes yX6_comes, Cond.code yX6_comes cX6_comes 4 (some .boolean), Cond.methodLink RX6 168 yX6_build, Cond.instanceMethod yX6_build, Cond.selects RX6 yX6_build yX6_build, Cond.code yX6_build cX6_build 3 none, Cond.methodLink RX6 144 yX6_putChildren, Cond.instanceMethod yX6_putChildren, Cond.selects RX6 yX6_putChildren yX6_putChildren, Cond.code yX6_putChildren cX6_putChildren 8 none, Cond.methodLink RX6 99 yX6_children, Cond.instanceMethod yX6_children, Cond.selects RX6 yX6_children yX6_children, Cond.code yX6_children cX6_children 5 (some .int), Cond.methodLink RX6 85 yX6_isChild, Cond.instanceMethod yX6_isChild, Cond.selects RX6 yX6_isChild yX6_isChild, Cond.code yX6_isChild cX6_isChild 4 (some .boolean), Cond.methodLink RX6 103 yX6_childAt]
def wsX6_merge_r4 : List Cond := [Cond.instanceMethod yX6_childAt, Cond.selects RX6 yX6_childAt yX6_childAt, Cond.code yX6_childAt cX6_childAt 6 (some .int), Cond.methodLink RX6 111 yX6_hang, Cond.instanceMethod yX6_hang, Cond.selects RX6 yX6_hang yX6_hang, Cond.code yX6_hang cX6_hang 5 none, Cond.methodLink RX6 89 yX6_shift, Cond.instanceMethod yX6_shift, Cond.selects RX6 yX6_shift yX6_shift, Cond.code yX6_shift cX6_shift 6 none, Cond.methodLink RX6 78 yX6_copy, Cond.instanceMethod yX6_copy, Cond.selects RX6 yX6_copy yX6_copy, Cond.code yX6_copy cX6_copy 4 none]
def wsX6_merge : List Cond := .code yX6_merge cX6_merge 4 (some .int) :: ((wsX6_merge_r1 ++ (wsX6_merge_r2 ++ (wsX6_merge_r3 ++ wsX6_merge_r4))) ++ wsX60)
def wsX6_conflict : List Cond := .code yX6_conflict cX6_conflict 2 (some .int) :: ([.fieldLink RX6 165 "GroveMergeModel" "conflicts" "I", .fieldLink RX6 82 "GroveMergeModel" "thrown" "I", .fieldLink RX6 42 "GroveMergeModel" "conflict" "[I"] ++ wsX60)
def wsX6_numberOf : List Cond := .code yX6_numberOf cX6_numberOf 3 (some .int) :: ([.fieldLink RX6 57 "GroveMergeModel" "order" "[I", .methodLink RX6 114 yX6_walk, .instanceMethod yX6_walk, .selects RX6 yX6_walk yX6_walk, .initialized RX6, .code yX6_walk cX6_walk 4 none, .fieldLink RX6 93 "GroveMergeModel" "many" "I", .fieldLink RX6 60 "GroveMergeModel" "stack" "[I", .fieldLink RX6 96 "GroveMergeModel" "top" "I", .methodLink RX6 99 yX6_children, .instanceMethod yX6_children, .selects RX6 yX6_children yX6_children, .code yX6_children cX6_children 5 (some .int), .methodLink RX6 85 yX6_isChild, .instanceMethod yX6_isChild, .selects RX6 yX6_isChild yX6_isChild, .code yX6_isChild cX6_isChild 4 (some .boolean), .fieldLink RX6 7 "GroveMergeModel" "there" "[Z", .fieldLink RX6 17 "GroveMergeModel" "parent" "[I", .methodLink RX6 103 yX6_childAt, .instanceMethod yX6_childAt, .selects RX6 yX6_childAt yX6_childAt, .code yX6_childAt cX6_childAt 6 (some .int), .fieldLink RX6 20 "GroveMergeModel" "place" "[I"] ++ wsX60)
def wsX6_about_r1 : List Cond := [Cond.fieldLink RX6 82 "GroveMergeModel" "thrown" "I", Cond.fieldLink RX6 13 "GroveMergeModel" "label" "[I", Cond.fieldLink RX6 17 "GroveMergeModel" "parent" "[I", Cond.methodLink RX6 107 yX6_has, Cond.instanceMethod yX6_has, Cond.selects RX6 yX6_has yX6_has, Cond.initialized RX6, Cond.code yX6_has cX6_has 3 (some .boolean), Cond.fieldLink RX6 7 "GroveMergeModel" "there" "[Z", Cond.methodLink RX6 99 yX6_children, Cond.instanceMethod yX6_children, Cond.selects RX6 yX6_children yX6_children, Cond.code yX6_children cX6_children 5 (some .int), Cond.methodLink RX6 85 yX6_isChild, Cond.instanceMethod yX6_isChild, Cond.selects RX6 yX6_isChild yX6_isChild, Cond.code yX6_isChild cX6_isChild 4 (some .boolean), Cond.methodLink RX6 171 yX6_numberOf, Cond.instanceMethod yX6_numberOf, Cond.selects RX6 yX6_numberOf yX6_numberOf, Cond.code yX6_numberOf cX6_numberOf 3 (some .int), Cond.fieldLink RX6 57 "GroveMergeModel" "order" "[I", Cond.methodLink RX6 114 yX6_walk, Cond.instanceMethod yX6_walk]
def wsX6_about_r2 : List Cond := [Cond.selects RX6 yX6_walk yX6_walk, Cond.code yX6_walk cX6_walk 4 none, Cond.fieldLink RX6 93 "GroveMergeModel" "many" "I", Cond.fieldLink RX6 60 "GroveMergeModel" "stack" "[I", Cond.fieldLink RX6 96 "GroveMergeModel" "top" "I", Cond.methodLink RX6 103 yX6_childAt, Cond.instanceMethod yX6_childAt, Cond.selects RX6 yX6_childAt yX6_childAt, Cond.code yX6_childAt cX6_childAt 6 (some .int), Cond.fieldLink RX6 20 "GroveMergeModel" "place" "[I"]
def wsX6_about : List Cond := .code yX6_about cX6_about 3 (some .int) :: ((wsX6_about_r1 ++ wsX6_about_r2) ++ wsX60)
def wsX6_child : List Cond := .code yX6_child cX6_child 3 (some .int) :: ([.fieldLink RX6 82 "GroveMergeModel" "thrown" "I", .methodLink RX6 107 yX6_has, .instanceMethod yX6_has, .selects RX6 yX6_has yX6_has, .initialized RX6, .code yX6_has cX6_has 3 (some .boolean), .fieldLink RX6 7 "GroveMergeModel" "there" "[Z", .methodLink RX6 99 yX6_children, .instanceMethod yX6_children, .selects RX6 yX6_children yX6_children, .code yX6_children cX6_children 5 (some .int), .methodLink RX6 85 yX6_isChild, .instanceMethod yX6_isChild, .selects RX6 yX6_isChild yX6_isChild, .code yX6_isChild cX6_isChild 4 (some .boolean), .fieldLink RX6 17 "GroveMergeModel" "parent" "[I", .methodLink RX6 103 yX6_childAt, .instanceMethod yX6_childAt, .selects RX6 yX6_childAt yX6_childAt, .code yX6_childAt cX6_childAt 6 (some .int), .fieldLink RX6 20 "GroveMergeModel" "place" "[I"] ++ wsX60)
def wsX6_nodes_r1 : List Cond := [Cond.fieldLink RX6 82 "GroveMergeModel" "thrown" "I", Cond.fieldLink RX6 23 "GroveMergeModel" "made" "I", Cond.fieldLink RX6 93 "GroveMergeModel" "many" "I", Cond.methodLink RX6 114 yX6_walk, Cond.instanceMethod yX6_walk, Cond.selects RX6 yX6_walk yX6_walk, Cond.initialized RX6, Cond.code yX6_walk cX6_walk 4 none, Cond.fieldLink RX6 60 "GroveMergeModel" "stack" "[I", Cond.fieldLink RX6 96 "GroveMergeModel" "top" "I", Cond.fieldLink RX6 57 "GroveMergeModel" "order" "[I", Cond.methodLink RX6 99 yX6_children, Cond.instanceMethod yX6_children, Cond.selects RX6 yX6_children yX6_children, Cond.code yX6_children cX6_children 5 (some .int), Cond.methodLink RX6 85 yX6_isChild, Cond.instanceMethod yX6_isChild, Cond.selects RX6 yX6_isChild yX6_isChild, Cond.code yX6_isChild cX6_isChild 4 (some .boolean), Cond.fieldLink RX6 7 "GroveMergeModel" "there" "[Z", Cond.fieldLink RX6 17 "GroveMergeModel" "parent" "[I", Cond.methodLink RX6 103 yX6_childAt, Cond.instanceMethod yX6_childAt, Cond.selects RX6 yX6_childAt yX6_childAt]
def wsX6_nodes_r2 : List Cond := [Cond.code yX6_childAt cX6_childAt 6 (some .int), Cond.fieldLink RX6 20 "GroveMergeModel" "place" "[I"]
def wsX6_nodes : List Cond := .code yX6_nodes cX6_nodes 2 (some .int) :: ((wsX6_nodes_r1 ++ wsX6_nodes_r2) ++ wsX60)
def wsX6_isFound : List Cond := .code yX6_isFound cX6_isFound 8 (some .boolean) :: ([.fieldLink RX6 17 "GroveMergeModel" "parent" "[I", .fieldLink RX6 20 "GroveMergeModel" "place" "[I", .methodLink RX6 121 yX6_isAt, .instanceMethod yX6_isAt, .selects RX6 yX6_isAt yX6_isAt, .initialized RX6, .code yX6_isAt cX6_isAt 5 (some .boolean)] ++ wsX60)
def wsX6_found : List Cond := .code yX6_found cX6_found 9 (some .int) :: ([.fieldLink RX6 7 "GroveMergeModel" "there" "[Z", .fieldLink RX6 13 "GroveMergeModel" "label" "[I", .methodLink RX6 175 yX6_isFound, .instanceMethod yX6_isFound, .selects RX6 yX6_isFound yX6_isFound, .initialized RX6, .code yX6_isFound cX6_isFound 8 (some .boolean), .fieldLink RX6 17 "GroveMergeModel" "parent" "[I", .fieldLink RX6 20 "GroveMergeModel" "place" "[I", .methodLink RX6 121 yX6_isAt, .instanceMethod yX6_isAt, .selects RX6 yX6_isAt yX6_isAt, .code yX6_isAt cX6_isAt 5 (some .boolean)] ++ wsX60)
def wsX6_count : List Cond := .code yX6_count cX6_count 5 (some .int) :: ([.fieldLink RX6 82 "GroveMergeModel" "thrown" "I", .methodLink RX6 178 yX6_found, .instanceMethod yX6_found, .selects RX6 yX6_found yX6_found, .initialized RX6, .code yX6_found cX6_found 9 (some .int), .fieldLink RX6 7 "GroveMergeModel" "there" "[Z", .fieldLink RX6 13 "GroveMergeModel" "label" "[I", .methodLink RX6 175 yX6_isFound, .instanceMethod yX6_isFound, .selects RX6 yX6_isFound yX6_isFound, .code yX6_isFound cX6_isFound 8 (some .boolean), .fieldLink RX6 17 "GroveMergeModel" "parent" "[I", .fieldLink RX6 20 "GroveMergeModel" "place" "[I", .methodLink RX6 121 yX6_isAt, .instanceMethod yX6_isAt, .selects RX6 yX6_isAt yX6_isAt, .code yX6_isAt cX6_isAt 5 (some .boolean)] ++ wsX60)
def wsX6_find_r1 : List Cond := [Cond.fieldLink RX6 82 "GroveMergeModel" "thrown" "I", Cond.fieldLink RX6 93 "GroveMergeModel" "many" "I", Cond.fieldLink RX6 57 "GroveMergeModel" "order" "[I", Cond.methodLink RX6 178 yX6_found, Cond.instanceMethod yX6_found, Cond.selects RX6 yX6_found yX6_found, Cond.initialized RX6, Cond.code yX6_found cX6_found 9 (some .int), Cond.fieldLink RX6 7 "GroveMergeModel" "there" "[Z", Cond.fieldLink RX6 13 "GroveMergeModel" "label" "[I", Cond.methodLink RX6 175 yX6_isFound, Cond.instanceMethod yX6_isFound, Cond.selects RX6 yX6_isFound yX6_isFound, Cond.code yX6_isFound cX6_isFound 8 (some .boolean), Cond.fieldLink RX6 17 "GroveMergeModel" "parent" "[I", Cond.fieldLink RX6 20 "GroveMergeModel" "place" "[I", Cond.methodLink RX6 121 yX6_isAt, Cond.instanceMethod yX6_isAt, Cond.selects RX6 yX6_isAt yX6_isAt, Cond.code yX6_isAt cX6_isAt 5 (some .boolean), Cond.methodLink RX6 114 yX6_walk, Cond.instanceMethod yX6_walk, Cond.selects RX6 yX6_walk yX6_walk, Cond.code yX6_walk cX6_walk 4 none]
def wsX6_find_r2 : List Cond := [Cond.fieldLink RX6 60 "GroveMergeModel" "stack" "[I", Cond.fieldLink RX6 96 "GroveMergeModel" "top" "I", Cond.methodLink RX6 99 yX6_children, Cond.instanceMethod yX6_children, Cond.selects RX6 yX6_children yX6_children, Cond.code yX6_children cX6_children 5 (some .int), Cond.methodLink RX6 85 yX6_isChild, Cond.instanceMethod yX6_isChild, Cond.selects RX6 yX6_isChild yX6_isChild, Cond.code yX6_isChild cX6_isChild 4 (some .boolean), Cond.methodLink RX6 103 yX6_childAt, Cond.instanceMethod yX6_childAt, Cond.selects RX6 yX6_childAt yX6_childAt, Cond.code yX6_childAt cX6_childAt 6 (some .int), Cond.methodLink RX6 181 yX6_fail, Cond.instanceMethod yX6_fail, Cond.selects RX6 yX6_fail yX6_fail, Cond.code yX6_fail cX6_fail 2 (some .int)]
def wsX6_find : List Cond := .code yX6_find cX6_find 6 (some .int) :: ((wsX6_find_r1 ++ wsX6_find_r2) ++ wsX60)
def wsX6_areAlike : List Cond := .code yX6_areAlike cX6_areAlike 6 (some .boolean) :: ([.fieldLink RX6 13 "GroveMergeModel" "label" "[I", .fieldLink RX6 63 "GroveMergeModel" "alike" "[I", .methodLink RX6 99 yX6_children, .instanceMethod yX6_children, .selects RX6 yX6_children yX6_children, .initialized RX6, .code yX6_children cX6_children 5 (some .int), .methodLink RX6 85 yX6_isChild, .instanceMethod yX6_isChild, .selects RX6 yX6_isChild yX6_isChild, .code yX6_isChild cX6_isChild 4 (some .boolean), .fieldLink RX6 7 "GroveMergeModel" "there" "[Z", .fieldLink RX6 17 "GroveMergeModel" "parent" "[I", .methodLink RX6 103 yX6_childAt, .instanceMethod yX6_childAt, .selects RX6 yX6_childAt yX6_childAt, .code yX6_childAt cX6_childAt 6 (some .int), .fieldLink RX6 20 "GroveMergeModel" "place" "[I"] ++ wsX60)
def wsX6_alike_r1 : List Cond := [Cond.fieldLink RX6 82 "GroveMergeModel" "thrown" "I", Cond.fieldLink RX6 93 "GroveMergeModel" "many" "I", Cond.fieldLink RX6 57 "GroveMergeModel" "order" "[I", Cond.fieldLink RX6 63 "GroveMergeModel" "alike" "[I", Cond.methodLink RX6 107 yX6_has, Cond.instanceMethod yX6_has, Cond.selects RX6 yX6_has yX6_has, Cond.initialized RX6, Cond.code yX6_has cX6_has 3 (some .boolean), Cond.fieldLink RX6 7 "GroveMergeModel" "there" "[Z", Cond.methodLink RX6 114 yX6_walk, Cond.instanceMethod yX6_walk, Cond.selects RX6 yX6_walk yX6_walk, Cond.code yX6_walk cX6_walk 4 none, Cond.fieldLink RX6 60 "GroveMergeModel" "stack" "[I", Cond.fieldLink RX6 96 "GroveMergeModel" "top" "I", Cond.methodLink RX6 99 yX6_children, Cond.instanceMethod yX6_children, Cond.selects RX6 yX6_children yX6_children, Cond.code yX6_children cX6_children 5 (some .int), Cond.methodLink RX6 85 yX6_isChild, Cond.instanceMethod yX6_isChild, Cond.selects RX6 yX6_isChild yX6_isChild, Cond.code yX6_isChild cX6_isChild 4 (some .boolean)]
def wsX6_alike_r2 : List Cond := [Cond.fieldLink RX6 17 "GroveMergeModel" "parent" "[I", Cond.methodLink RX6 103 yX6_childAt, Cond.instanceMethod yX6_childAt, Cond.selects RX6 yX6_childAt yX6_childAt, Cond.code yX6_childAt cX6_childAt 6 (some .int), Cond.fieldLink RX6 20 "GroveMergeModel" "place" "[I", Cond.methodLink RX6 184 yX6_areAlike, Cond.instanceMethod yX6_areAlike, Cond.selects RX6 yX6_areAlike yX6_areAlike, Cond.code yX6_areAlike cX6_areAlike 6 (some .boolean), Cond.fieldLink RX6 13 "GroveMergeModel" "label" "[I"]
def wsX6_alike : List Cond := .code yX6_alike cX6_alike 5 (some .int) :: ((wsX6_alike_r1 ++ wsX6_alike_r2) ++ wsX60)
def wsX6_leave_r1 : List Cond := [Cond.fieldLink RX6 96 "GroveMergeModel" "top" "I", Cond.fieldLink RX6 93 "GroveMergeModel" "many" "I", Cond.fieldLink RX6 57 "GroveMergeModel" "order" "[I", Cond.fieldLink RX6 60 "GroveMergeModel" "stack" "[I", Cond.fieldLink RX6 66 "GroveMergeModel" "post" "[I", Cond.fieldLink RX6 69 "GroveMergeModel" "leaf" "[I", Cond.methodLink RX6 114 yX6_walk, Cond.instanceMethod yX6_walk, Cond.selects RX6 yX6_walk yX6_walk, Cond.initialized RX6, Cond.code yX6_walk cX6_walk 4 none, Cond.methodLink RX6 99 yX6_children, Cond.instanceMethod yX6_children, Cond.selects RX6 yX6_children yX6_children, Cond.code yX6_children cX6_children 5 (some .int), Cond.methodLink RX6 85 yX6_isChild, Cond.instanceMethod yX6_isChild, Cond.selects RX6 yX6_isChild yX6_isChild, Cond.code yX6_isChild cX6_isChild 4 (some .boolean), Cond.fieldLink RX6 7 "GroveMergeModel" "there" "[Z", Cond.fieldLink RX6 17 "GroveMergeModel" "parent" "[I", Cond.methodLink RX6 103 yX6_childAt, Cond.instanceMethod yX6_childAt, Cond.selects RX6 yX6_childAt yX6_childAt]
def wsX6_leave_r2 : List Cond := [Cond.code yX6_childAt cX6_childAt 6 (some .int), Cond.fieldLink RX6 20 "GroveMergeModel" "place" "[I", Cond.methodLink RX6 121 yX6_isAt, Cond.instanceMethod yX6_isAt, Cond.selects RX6 yX6_isAt yX6_isAt, Cond.code yX6_isAt cX6_isAt 5 (some .boolean)]
def wsX6_leave : List Cond := .code yX6_leave cX6_leave 7 (some .int) :: ((wsX6_leave_r1 ++ wsX6_leave_r2) ++ wsX60)
def wsX6_least : List Cond := .code yX6_least cX6_least 2 (some .int) :: ([])
def wsX6_compare : List Cond := .code yX6_compare cX6_compare 12 none :: ([.fieldLink RX6 69 "GroveMergeModel" "leaf" "[I", .fieldLink RX6 75 "GroveMergeModel" "forests" "[I", .fieldLink RX6 13 "GroveMergeModel" "label" "[I", .fieldLink RX6 66 "GroveMergeModel" "post" "[I", .fieldLink RX6 72 "GroveMergeModel" "trees" "[I", .methodLink RX6 187 yX6_least, .static yX6_least, .initialized RX6, .code yX6_least cX6_least 2 (some .int)] ++ wsX60)
def wsX6_distance_r1 : List Cond := [Cond.fieldLink RX6 82 "GroveMergeModel" "thrown" "I", Cond.fieldLink RX6 72 "GroveMergeModel" "trees" "[I", Cond.methodLink RX6 127 yX6_isCommit, Cond.instanceMethod yX6_isCommit, Cond.selects RX6 yX6_isCommit yX6_isCommit, Cond.initialized RX6, Cond.code yX6_isCommit cX6_isCommit 2 (some .boolean), Cond.fieldLink RX6 27 "GroveMergeModel" "commits" "I", Cond.methodLink RX6 190 yX6_leave, Cond.instanceMethod yX6_leave, Cond.selects RX6 yX6_leave yX6_leave, Cond.code yX6_leave cX6_leave 7 (some .int), Cond.fieldLink RX6 96 "GroveMergeModel" "top" "I", Cond.fieldLink RX6 93 "GroveMergeModel" "many" "I", Cond.fieldLink RX6 57 "GroveMergeModel" "order" "[I", Cond.fieldLink RX6 60 "GroveMergeModel" "stack" "[I", Cond.fieldLink RX6 66 "GroveMergeModel" "post" "[I", Cond.fieldLink RX6 69 "GroveMergeModel" "leaf" "[I", Cond.methodLink RX6 114 yX6_walk, Cond.instanceMethod yX6_walk, Cond.selects RX6 yX6_walk yX6_walk, Cond.code yX6_walk cX6_walk 4 none, Cond.methodLink RX6 99 yX6_children, Cond.instanceMethod yX6_children]
def wsX6_distance_r2 : List Cond := [Cond.selects RX6 yX6_children yX6_children, Cond.code yX6_children cX6_children 5 (some .int), Cond.methodLink RX6 85 yX6_isChild, Cond.instanceMethod yX6_isChild, Cond.selects RX6 yX6_isChild yX6_isChild, Cond.code yX6_isChild cX6_isChild 4 (some .boolean), Cond.fieldLink RX6 7 "GroveMergeModel" "there" "[Z", Cond.fieldLink RX6 17 "GroveMergeModel" "parent" "[I", Cond.methodLink RX6 103 yX6_childAt, Cond.instanceMethod yX6_childAt, Cond.selects RX6 yX6_childAt yX6_childAt, Cond.code yX6_childAt cX6_childAt 6 (some .int), Cond.fieldLink RX6 20 "GroveMergeModel" "place" "[I", Cond.methodLink RX6 121 yX6_isAt, Cond.instanceMethod yX6_isAt, Cond.selects RX6 yX6_isAt yX6_isAt, Cond.code yX6_isAt cX6_isAt 5 (some .boolean), Cond.methodLink RX6 193 yX6_compare, Cond.instanceMethod yX6_compare, Cond.selects RX6 yX6_compare yX6_compare, Cond.code yX6_compare cX6_compare 12 none, Cond.fieldLink RX6 75 "GroveMergeModel" "forests" "[I", Cond.fieldLink RX6 13 "GroveMergeModel" "label" "[I", Cond.methodLink RX6 187 yX6_least]
def wsX6_distance_r3 : List Cond := [Cond.static yX6_least, Cond.code yX6_least cX6_least 2 (some .int)]
def wsX6_distance : List Cond := .code yX6_distance cX6_distance 7 (some .int) :: ((wsX6_distance_r1 ++ (wsX6_distance_r2 ++ wsX6_distance_r3)) ++ wsX60)
def wsX6_state : List Cond := .code yX6_state cX6_state 2 (some .int) :: ([.fieldLink RX6 82 "GroveMergeModel" "thrown" "I", .fieldLink RX6 27 "GroveMergeModel" "commits" "I", .fieldLink RX6 124 "GroveMergeModel" "head" "I", .fieldLink RX6 39 "GroveMergeModel" "taken" "I"] ++ wsX60)
def wsX6_above : List Cond := .code yX6_above cX6_above 3 (some .int) :: ([.fieldLink RX6 82 "GroveMergeModel" "thrown" "I", .fieldLink RX6 30 "GroveMergeModel" "one" "[I", .fieldLink RX6 33 "GroveMergeModel" "two" "[I", .methodLink RX6 127 yX6_isCommit, .instanceMethod yX6_isCommit, .selects RX6 yX6_isCommit yX6_isCommit, .initialized RX6, .code yX6_isCommit cX6_isCommit 2 (some .boolean), .fieldLink RX6 27 "GroveMergeModel" "commits" "I"] ++ wsX60)
def wsJ9_min_7cf53 : List Cond := .code yJ9_min_7cf53 cJ9_min_7cf53 2 (some .int) :: ([])
abbrev vwCl : List vw_C := [(RX0, TX0, 4), (RX1, TX1, 5), (RX2, TX2, 3), (RX4, TX4, 6), (RX5, TX5, 7), (RX6, TX6, 27)]
end
section
theorem dJ6_bitCount_0f7a4_0 : decode cJ6_bitCount_0f7a4 0 = .ok (.iload_n 0, 1) := by decide +kernel
theorem dJ6_bitCount_0f7a4_1 : decode cJ6_bitCount_0f7a4 1 = .ok (.iload_n 0, 1) := by decide +kernel
theorem dJ6_bitCount_0f7a4_2 : decode cJ6_bitCount_0f7a4 2 = .ok (.iconst 1, 1) := by decide +kernel
theorem dJ6_bitCount_0f7a4_3 : decode cJ6_bitCount_0f7a4 3 = .ok (.iushr, 1) := by decide +kernel
theorem dJ6_bitCount_0f7a4_4 : decode cJ6_bitCount_0f7a4 4 = .ok (.ldc_w 265, 3) := by decide +kernel
theorem dJ6_bitCount_0f7a4_7 : decode cJ6_bitCount_0f7a4 7 = .ok (.iand, 1) := by decide +kernel
theorem dJ6_bitCount_0f7a4_8 : decode cJ6_bitCount_0f7a4 8 = .ok (.isub, 1) := by decide +kernel
theorem dJ6_bitCount_0f7a4_9 : decode cJ6_bitCount_0f7a4 9 = .ok (.istore_n 0, 1) := by decide +kernel
theorem dJ6_bitCount_0f7a4_10 : decode cJ6_bitCount_0f7a4 10 = .ok (.iload_n 0, 1) := by decide +kernel
theorem dJ6_bitCount_0f7a4_11 : decode cJ6_bitCount_0f7a4 11 = .ok (.ldc_w 266, 3) := by decide +kernel
theorem dJ6_bitCount_0f7a4_14 : decode cJ6_bitCount_0f7a4 14 = .ok (.iand, 1) := by decide +kernel
theorem dJ6_bitCount_0f7a4_15 : decode cJ6_bitCount_0f7a4 15 = .ok (.iload_n 0, 1) := by decide +kernel
theorem dJ6_bitCount_0f7a4_16 : decode cJ6_bitCount_0f7a4 16 = .ok (.iconst 2, 1) := by decide +kernel
theorem dJ6_bitCount_0f7a4_17 : decode cJ6_bitCount_0f7a4 17 = .ok (.iushr, 1) := by decide +kernel
theorem dJ6_bitCount_0f7a4_18 : decode cJ6_bitCount_0f7a4 18 = .ok (.ldc_w 266, 3) := by decide +kernel
theorem dJ6_bitCount_0f7a4_21 : decode cJ6_bitCount_0f7a4 21 = .ok (.iand, 1) := by decide +kernel
theorem dJ6_bitCount_0f7a4_22 : decode cJ6_bitCount_0f7a4 22 = .ok (.iadd, 1) := by decide +kernel
theorem dJ6_bitCount_0f7a4_23 : decode cJ6_bitCount_0f7a4 23 = .ok (.istore_n 0, 1) := by decide +kernel
theorem dJ6_bitCount_0f7a4_24 : decode cJ6_bitCount_0f7a4 24 = .ok (.iload_n 0, 1) := by decide +kernel
theorem dJ6_bitCount_0f7a4_25 : decode cJ6_bitCount_0f7a4 25 = .ok (.iload_n 0, 1) := by decide +kernel
theorem dJ6_bitCount_0f7a4_26 : decode cJ6_bitCount_0f7a4 26 = .ok (.iconst 4, 1) := by decide +kernel
theorem dJ6_bitCount_0f7a4_27 : decode cJ6_bitCount_0f7a4 27 = .ok (.iushr, 1) := by decide +kernel
theorem dJ6_bitCount_0f7a4_28 : decode cJ6_bitCount_0f7a4 28 = .ok (.iadd, 1) := by decide +kernel
theorem dJ6_bitCount_0f7a4_29 : decode cJ6_bitCount_0f7a4 29 = .ok (.ldc_w 267, 3) := by decide +kernel
theorem dJ6_bitCount_0f7a4_32 : decode cJ6_bitCount_0f7a4 32 = .ok (.iand, 1) := by decide +kernel
theorem dJ6_bitCount_0f7a4_33 : decode cJ6_bitCount_0f7a4 33 = .ok (.istore_n 0, 1) := by decide +kernel
theorem dJ6_bitCount_0f7a4_34 : decode cJ6_bitCount_0f7a4 34 = .ok (.iload_n 0, 1) := by decide +kernel
theorem dJ6_bitCount_0f7a4_35 : decode cJ6_bitCount_0f7a4 35 = .ok (.iload_n 0, 1) := by decide +kernel
theorem dJ6_bitCount_0f7a4_36 : decode cJ6_bitCount_0f7a4 36 = .ok (.bipush 8, 2) := by decide +kernel
theorem dJ6_bitCount_0f7a4_38 : decode cJ6_bitCount_0f7a4 38 = .ok (.iushr, 1) := by decide +kernel
theorem dJ6_bitCount_0f7a4_39 : decode cJ6_bitCount_0f7a4 39 = .ok (.iadd, 1) := by decide +kernel
theorem dJ6_bitCount_0f7a4_40 : decode cJ6_bitCount_0f7a4 40 = .ok (.istore_n 0, 1) := by decide +kernel
theorem dJ6_bitCount_0f7a4_41 : decode cJ6_bitCount_0f7a4 41 = .ok (.iload_n 0, 1) := by decide +kernel
theorem dJ6_bitCount_0f7a4_42 : decode cJ6_bitCount_0f7a4 42 = .ok (.iload_n 0, 1) := by decide +kernel
theorem dJ6_bitCount_0f7a4_43 : decode cJ6_bitCount_0f7a4 43 = .ok (.bipush 16, 2) := by decide +kernel
theorem dJ6_bitCount_0f7a4_45 : decode cJ6_bitCount_0f7a4 45 = .ok (.iushr, 1) := by decide +kernel
theorem dJ6_bitCount_0f7a4_46 : decode cJ6_bitCount_0f7a4 46 = .ok (.iadd, 1) := by decide +kernel
theorem dJ6_bitCount_0f7a4_47 : decode cJ6_bitCount_0f7a4 47 = .ok (.istore_n 0, 1) := by decide +kernel
theorem dJ6_bitCount_0f7a4_48 : decode cJ6_bitCount_0f7a4 48 = .ok (.iload_n 0, 1) := by decide +kernel
theorem dJ6_bitCount_0f7a4_49 : decode cJ6_bitCount_0f7a4 49 = .ok (.bipush 63, 2) := by decide +kernel
theorem dJ6_bitCount_0f7a4_51 : decode cJ6_bitCount_0f7a4 51 = .ok (.iand, 1) := by decide +kernel
theorem dJ6_bitCount_0f7a4_52 : decode cJ6_bitCount_0f7a4 52 = .ok (.ireturn, 1) := by decide +kernel
theorem dJ9_min_7cf53_0 : decode cJ9_min_7cf53 0 = .ok (.iload_n 0, 1) := by decide +kernel
theorem dJ9_min_7cf53_1 : decode cJ9_min_7cf53 1 = .ok (.iload_n 1, 1) := by decide +kernel
theorem dJ9_min_7cf53_2 : decode cJ9_min_7cf53 2 = .ok (.if_icmp .gt 7, 3) := by decide +kernel
theorem dJ9_min_7cf53_5 : decode cJ9_min_7cf53 5 = .ok (.iload_n 0, 1) := by decide +kernel
theorem dJ9_min_7cf53_6 : decode cJ9_min_7cf53 6 = .ok (.goto 4, 3) := by decide +kernel
theorem dJ9_min_7cf53_9 : decode cJ9_min_7cf53 9 = .ok (.iload_n 1, 1) := by decide +kernel
theorem dJ9_min_7cf53_10 : decode cJ9_min_7cf53 10 = .ok (.ireturn, 1) := by decide +kernel
theorem dJ7_fill_53178_0 : decode cJ7_fill_53178 0 = .ok (.iconst 0, 1) := by decide +kernel
theorem dJ7_fill_53178_1 : decode cJ7_fill_53178 1 = .ok (.istore_n 2, 1) := by decide +kernel
theorem dJ7_fill_53178_2 : decode cJ7_fill_53178 2 = .ok (.aload_n 0, 1) := by decide +kernel
theorem dJ7_fill_53178_3 : decode cJ7_fill_53178 3 = .ok (.arraylength, 1) := by decide +kernel
theorem dJ7_fill_53178_4 : decode cJ7_fill_53178 4 = .ok (.istore_n 3, 1) := by decide +kernel
theorem dJ7_fill_53178_5 : decode cJ7_fill_53178 5 = .ok (.iload_n 2, 1) := by decide +kernel
theorem dJ7_fill_53178_6 : decode cJ7_fill_53178 6 = .ok (.iload_n 3, 1) := by decide +kernel
theorem dJ7_fill_53178_7 : decode cJ7_fill_53178 7 = .ok (.if_icmp .ge 13, 3) := by decide +kernel
theorem dJ7_fill_53178_10 : decode cJ7_fill_53178 10 = .ok (.aload_n 0, 1) := by decide +kernel
theorem dJ7_fill_53178_11 : decode cJ7_fill_53178 11 = .ok (.iload_n 2, 1) := by decide +kernel
theorem dJ7_fill_53178_12 : decode cJ7_fill_53178 12 = .ok (.iload_n 1, 1) := by decide +kernel
theorem dJ7_fill_53178_13 : decode cJ7_fill_53178 13 = .ok (.iastore, 1) := by decide +kernel
theorem dJ7_fill_53178_14 : decode cJ7_fill_53178 14 = .ok (.iinc 2 1, 3) := by decide +kernel
theorem dJ7_fill_53178_17 : decode cJ7_fill_53178 17 = .ok (.goto (-12), 3) := by decide +kernel
theorem dJ7_fill_53178_20 : decode cJ7_fill_53178 20 = .ok (.return_, 1) := by decide +kernel
end
section
theorem dX0_init_0 : decode cX0_init 0 = .ok (.aload_n 0, 1) := by decide +kernel
theorem dX0_init_1 : decode cX0_init 1 = .ok (.invokespecial 3, 3) := by decide +kernel
theorem dX0_init_4 : decode cX0_init 4 = .ok (.aload_n 0, 1) := by decide +kernel
theorem dX0_init_5 : decode cX0_init 5 = .ok (.bipush 24, 2) := by decide +kernel
theorem dX0_init_7 : decode cX0_init 7 = .ok (.bipush 24, 2) := by decide +kernel
theorem dX0_init_9 : decode cX0_init 9 = .ok (.multianewarray 9 2, 4) := by decide +kernel
theorem dX0_init_13 : decode cX0_init 13 = .ok (.putfield 11, 3) := by decide +kernel
theorem dX0_init_16 : decode cX0_init 16 = .ok (.aload_n 0, 1) := by decide +kernel
theorem dX0_init_17 : decode cX0_init 17 = .ok (.bipush 25, 2) := by decide +kernel
theorem dX0_init_19 : decode cX0_init 19 = .ok (.bipush 25, 2) := by decide +kernel
theorem dX0_init_21 : decode cX0_init 21 = .ok (.multianewarray 9 2, 4) := by decide +kernel
theorem dX0_init_25 : decode cX0_init 25 = .ok (.putfield 16, 3) := by decide +kernel
theorem dX0_init_28 : decode cX0_init 28 = .ok (.aload_n 0, 1) := by decide +kernel
theorem dX0_init_29 : decode cX0_init 29 = .ok (.bipush 24, 2) := by decide +kernel
theorem dX0_init_31 : decode cX0_init 31 = .ok (.newarray .int, 2) := by decide +kernel
theorem dX0_init_33 : decode cX0_init 33 = .ok (.putfield 19, 3) := by decide +kernel
theorem dX0_init_36 : decode cX0_init 36 = .ok (.aload_n 0, 1) := by decide +kernel
theorem dX0_init_37 : decode cX0_init 37 = .ok (.bipush 24, 2) := by decide +kernel
theorem dX0_init_39 : decode cX0_init 39 = .ok (.newarray .int, 2) := by decide +kernel
theorem dX0_init_41 : decode cX0_init 41 = .ok (.putfield 23, 3) := by decide +kernel
theorem dX0_init_44 : decode cX0_init 44 = .ok (.return_, 1) := by decide +kernel
set_option maxRecDepth 20000 in
theorem ggX0_between_X0_noteEnds : GoodIn wsX0_between wsX0_noteEnds := goodIn_r _ [8, 3, 9, 10, 11, 12, 13, 14, 15, 16, 17, 18, 19, 20, 21, 49, 50, 51, 52, 53, 54] (by decide +kernel) (by decide +kernel)
set_option maxRecDepth 20000 in
theorem gX0_between_X0_noteEnds : GoodIn wsX0_between (va_wsS RX0 26 yX0_noteEnds wsX0_noteEnds) := goodIn_app (goodIn_of _ (by decide +kernel)) ggX0_between_X0_noteEnds
set_option maxRecDepth 20000 in
theorem ggX0_between_X0_isWidest : GoodIn wsX0_between wsX0_isWidest := goodIn_r _ [24, 25, 16, 17, 12, 18, 19, 20, 21, 49, 50, 51, 52, 53, 54] (by decide +kernel) (by decide +kernel)
set_option maxRecDepth 20000 in
theorem gX0_between_X0_isWidest : GoodIn wsX0_between (va_wsS RX0 36 yX0_isWidest wsX0_isWidest) := goodIn_app (goodIn_of _ (by decide +kernel)) ggX0_between_X0_isWidest
set_option maxRecDepth 20000 in
theorem ggX0_between_X0_compareWithAll : GoodIn wsX0_between wsX0_compareWithAll := goodIn_r _ [29, 3, 2, 22, 23, 7, 24, 25, 16, 17, 12, 18, 19, 20, 21, 30, 31, 32, 33, 1, 34, 35, 36, 4, 37, 38, 39, 40, 41, 42, 43, 44, 49, 50, 51, 52, 53, 54, 45, 46, 47, 48] (by decide +kernel) (by decide +kernel)
set_option maxRecDepth 20000 in
theorem gX0_between_X0_compareWithAll : GoodIn wsX0_between (wsV RX0 40 RX0 yX0_compareWithAll wsX0_compareWithAll) := goodIn_app (goodIn_of _ (by decide +kernel)) ggX0_between_X0_compareWithAll
theorem dX0_between_0 : decode cX0_between 0 = .ok (.aload_n 1, 1) := by decide +kernel
theorem dX0_between_1 : decode cX0_between 1 = .ok (.aload_n 0, 1) := by decide +kernel
theorem dX0_between_2 : decode cX0_between 2 = .ok (.getfield 19, 3) := by decide +kernel
theorem dX0_between_5 : decode cX0_between 5 = .ok (.invokestatic 26, 3) := by decide +kernel
theorem dX0_between_8 : decode cX0_between 8 = .ok (.aload_n 2, 1) := by decide +kernel
theorem dX0_between_9 : decode cX0_between 9 = .ok (.aload_n 0, 1) := by decide +kernel
theorem dX0_between_10 : decode cX0_between 10 = .ok (.getfield 23, 3) := by decide +kernel
theorem dX0_between_13 : decode cX0_between 13 = .ok (.invokestatic 26, 3) := by decide +kernel
theorem dX0_between_16 : decode cX0_between 16 = .ok (.aload_n 1, 1) := by decide +kernel
theorem dX0_between_17 : decode cX0_between 17 = .ok (.getfield 30, 3) := by decide +kernel
theorem dX0_between_20 : decode cX0_between 20 = .ok (.iconst 1, 1) := by decide +kernel
theorem dX0_between_21 : decode cX0_between 21 = .ok (.isub, 1) := by decide +kernel
theorem dX0_between_22 : decode cX0_between 22 = .ok (.istore_n 3, 1) := by decide +kernel
theorem dX0_between_23 : decode cX0_between 23 = .ok (.iload_n 3, 1) := by decide +kernel
theorem dX0_between_24 : decode cX0_between 24 = .ok (.ifCond .lt 28, 3) := by decide +kernel
theorem dX0_between_27 : decode cX0_between 27 = .ok (.aload_n 1, 1) := by decide +kernel
theorem dX0_between_28 : decode cX0_between 28 = .ok (.aload_n 0, 1) := by decide +kernel
theorem dX0_between_29 : decode cX0_between 29 = .ok (.getfield 19, 3) := by decide +kernel
theorem dX0_between_32 : decode cX0_between 32 = .ok (.iload_n 3, 1) := by decide +kernel
theorem dX0_between_33 : decode cX0_between 33 = .ok (.invokestatic 36, 3) := by decide +kernel
theorem dX0_between_36 : decode cX0_between 36 = .ok (.ifCond .eq 10, 3) := by decide +kernel
theorem dX0_between_39 : decode cX0_between 39 = .ok (.aload_n 0, 1) := by decide +kernel
theorem dX0_between_40 : decode cX0_between 40 = .ok (.aload_n 1, 1) := by decide +kernel
theorem dX0_between_41 : decode cX0_between 41 = .ok (.aload_n 2, 1) := by decide +kernel
theorem dX0_between_42 : decode cX0_between 42 = .ok (.iload_n 3, 1) := by decide +kernel
theorem dX0_between_43 : decode cX0_between 43 = .ok (.invokevirtual 40, 3) := by decide +kernel
theorem dX0_between_46 : decode cX0_between 46 = .ok (.iinc 3 (-1), 3) := by decide +kernel
theorem dX0_between_49 : decode cX0_between 49 = .ok (.goto (-26), 3) := by decide +kernel
theorem dX0_between_52 : decode cX0_between 52 = .ok (.aload_n 0, 1) := by decide +kernel
theorem dX0_between_53 : decode cX0_between 53 = .ok (.getfield 11, 3) := by decide +kernel
theorem dX0_between_56 : decode cX0_between 56 = .ok (.iconst 0, 1) := by decide +kernel
theorem dX0_between_57 : decode cX0_between 57 = .ok (.aaload, 1) := by decide +kernel
theorem dX0_between_58 : decode cX0_between 58 = .ok (.iconst 0, 1) := by decide +kernel
theorem dX0_between_59 : decode cX0_between 59 = .ok (.iaload, 1) := by decide +kernel
theorem dX0_between_60 : decode cX0_between 60 = .ok (.ireturn, 1) := by decide +kernel
set_option maxRecDepth 20000 in
theorem ggX0_compareWithAll_X0_isWidest : GoodIn wsX0_compareWithAll wsX0_isWidest := goodIn_r _ [6, 7, 8, 9, 10, 11, 12, 13, 14, 32, 33, 34, 35, 36, 37] (by decide +kernel) (by decide +kernel)
set_option maxRecDepth 20000 in
theorem gX0_compareWithAll_X0_isWidest : GoodIn wsX0_compareWithAll (va_wsS RX0 36 yX0_isWidest wsX0_isWidest) := goodIn_app (goodIn_of _ (by decide +kernel)) ggX0_compareWithAll_X0_isWidest
set_option maxRecDepth 20000 in
theorem ggX0_compareWithAll_X0_compareParts : GoodIn wsX0_compareWithAll wsX0_compareParts := goodIn_r _ [18, 19, 2, 20, 21, 22, 23, 24, 25, 26, 5, 27, 28, 29, 30, 31, 38, 39, 40, 41, 32, 33, 34, 35, 36, 37] (by decide +kernel) (by decide +kernel)
set_option maxRecDepth 20000 in
theorem gX0_compareWithAll_X0_compareParts : GoodIn wsX0_compareWithAll (wsV RX0 44 RX0 yX0_compareParts wsX0_compareParts) := goodIn_app (goodIn_of _ (by decide +kernel)) ggX0_compareWithAll_X0_compareParts
theorem dX0_compareWithAll_0 : decode cX0_compareWithAll 0 = .ok (.aload_n 2, 1) := by decide +kernel
theorem dX0_compareWithAll_1 : decode cX0_compareWithAll 1 = .ok (.getfield 30, 3) := by decide +kernel
theorem dX0_compareWithAll_4 : decode cX0_compareWithAll 4 = .ok (.iconst 1, 1) := by decide +kernel
theorem dX0_compareWithAll_5 : decode cX0_compareWithAll 5 = .ok (.isub, 1) := by decide +kernel
theorem dX0_compareWithAll_6 : decode cX0_compareWithAll 6 = .ok (.istore 4, 2) := by decide +kernel
theorem dX0_compareWithAll_8 : decode cX0_compareWithAll 8 = .ok (.iload 4, 2) := by decide +kernel
theorem dX0_compareWithAll_10 : decode cX0_compareWithAll 10 = .ok (.ifCond .lt 31, 3) := by decide +kernel
theorem dX0_compareWithAll_13 : decode cX0_compareWithAll 13 = .ok (.aload_n 2, 1) := by decide +kernel
theorem dX0_compareWithAll_14 : decode cX0_compareWithAll 14 = .ok (.aload_n 0, 1) := by decide +kernel
theorem dX0_compareWithAll_15 : decode cX0_compareWithAll 15 = .ok (.getfield 23, 3) := by decide +kernel
theorem dX0_compareWithAll_18 : decode cX0_compareWithAll 18 = .ok (.iload 4, 2) := by decide +kernel
theorem dX0_compareWithAll_20 : decode cX0_compareWithAll 20 = .ok (.invokestatic 36, 3) := by decide +kernel
theorem dX0_compareWithAll_23 : decode cX0_compareWithAll 23 = .ok (.ifCond .eq 12, 3) := by decide +kernel
theorem dX0_compareWithAll_26 : decode cX0_compareWithAll 26 = .ok (.aload_n 0, 1) := by decide +kernel
theorem dX0_compareWithAll_27 : decode cX0_compareWithAll 27 = .ok (.aload_n 1, 1) := by decide +kernel
theorem dX0_compareWithAll_28 : decode cX0_compareWithAll 28 = .ok (.aload_n 2, 1) := by decide +kernel
theorem dX0_compareWithAll_29 : decode cX0_compareWithAll 29 = .ok (.iload_n 3, 1) := by decide +kernel
theorem dX0_compareWithAll_30 : decode cX0_compareWithAll 30 = .ok (.iload 4, 2) := by decide +kernel
theorem dX0_compareWithAll_32 : decode cX0_compareWithAll 32 = .ok (.invokevirtual 44, 3) := by decide +kernel
theorem dX0_compareWithAll_35 : decode cX0_compareWithAll 35 = .ok (.iinc 4 (-1), 3) := by decide +kernel
theorem dX0_compareWithAll_38 : decode cX0_compareWithAll 38 = .ok (.goto (-30), 3) := by decide +kernel
theorem dX0_compareWithAll_41 : decode cX0_compareWithAll 41 = .ok (.return_, 1) := by decide +kernel
set_option maxRecDepth 20000 in
theorem ggX0_noteEnds_X4_endOf : GoodIn wsX0_noteEnds wsX4_endOf := goodIn_r _ [6, 7, 8, 9, 10, 5, 11, 12, 13, 14, 15, 16, 17, 18, 19, 20] (by decide +kernel) (by decide +kernel)
set_option maxRecDepth 20000 in
theorem gX0_noteEnds_X4_endOf : GoodIn wsX0_noteEnds (wsV RX0 48 RX4 yX4_endOf wsX4_endOf) := goodIn_app (goodIn_of _ (by decide +kernel)) ggX0_noteEnds_X4_endOf
theorem dX0_noteEnds_0 : decode cX0_noteEnds 0 = .ok (.iconst 0, 1) := by decide +kernel
theorem dX0_noteEnds_1 : decode cX0_noteEnds 1 = .ok (.istore_n 2, 1) := by decide +kernel
theorem dX0_noteEnds_2 : decode cX0_noteEnds 2 = .ok (.iload_n 2, 1) := by decide +kernel
theorem dX0_noteEnds_3 : decode cX0_noteEnds 3 = .ok (.aload_n 0, 1) := by decide +kernel
theorem dX0_noteEnds_4 : decode cX0_noteEnds 4 = .ok (.getfield 30, 3) := by decide +kernel
theorem dX0_noteEnds_7 : decode cX0_noteEnds 7 = .ok (.if_icmp .ge 17, 3) := by decide +kernel
theorem dX0_noteEnds_10 : decode cX0_noteEnds 10 = .ok (.aload_n 1, 1) := by decide +kernel
theorem dX0_noteEnds_11 : decode cX0_noteEnds 11 = .ok (.iload_n 2, 1) := by decide +kernel
theorem dX0_noteEnds_12 : decode cX0_noteEnds 12 = .ok (.aload_n 0, 1) := by decide +kernel
theorem dX0_noteEnds_13 : decode cX0_noteEnds 13 = .ok (.iload_n 2, 1) := by decide +kernel
theorem dX0_noteEnds_14 : decode cX0_noteEnds 14 = .ok (.invokevirtual 48, 3) := by decide +kernel
theorem dX0_noteEnds_17 : decode cX0_noteEnds 17 = .ok (.iastore, 1) := by decide +kernel
theorem dX0_noteEnds_18 : decode cX0_noteEnds 18 = .ok (.iinc 2 1, 3) := by decide +kernel
theorem dX0_noteEnds_21 : decode cX0_noteEnds 21 = .ok (.goto (-19), 3) := by decide +kernel
theorem dX0_noteEnds_24 : decode cX0_noteEnds 24 = .ok (.return_, 1) := by decide +kernel
set_option maxRecDepth 20000 in
theorem ggX0_isWidest_X4_parentSpot : GoodIn wsX0_isWidest wsX4_parentSpot := goodIn_r _ [5, 6, 7, 8, 9, 10, 11, 12, 13, 14] (by decide +kernel) (by decide +kernel)
set_option maxRecDepth 20000 in
theorem gX0_isWidest_X4_parentSpot : GoodIn wsX0_isWidest (wsV RX0 52 RX4 yX4_parentSpot wsX4_parentSpot) := goodIn_app (goodIn_of _ (by decide +kernel)) ggX0_isWidest_X4_parentSpot
theorem dX0_isWidest_0 : decode cX0_isWidest 0 = .ok (.iload_n 2, 1) := by decide +kernel
theorem dX0_isWidest_1 : decode cX0_isWidest 1 = .ok (.ifCond .eq 16, 3) := by decide +kernel
theorem dX0_isWidest_4 : decode cX0_isWidest 4 = .ok (.aload_n 1, 1) := by decide +kernel
theorem dX0_isWidest_5 : decode cX0_isWidest 5 = .ok (.aload_n 0, 1) := by decide +kernel
theorem dX0_isWidest_6 : decode cX0_isWidest 6 = .ok (.iload_n 2, 1) := by decide +kernel
theorem dX0_isWidest_7 : decode cX0_isWidest 7 = .ok (.invokevirtual 52, 3) := by decide +kernel
theorem dX0_isWidest_10 : decode cX0_isWidest 10 = .ok (.iaload, 1) := by decide +kernel
theorem dX0_isWidest_11 : decode cX0_isWidest 11 = .ok (.aload_n 1, 1) := by decide +kernel
theorem dX0_isWidest_12 : decode cX0_isWidest 12 = .ok (.iload_n 2, 1) := by decide +kernel
theorem dX0_isWidest_13 : decode cX0_isWidest 13 = .ok (.iaload, 1) := by decide +kernel
theorem dX0_isWidest_14 : decode cX0_isWidest 14 = .ok (.if_icmp .eq 7, 3) := by decide +kernel
theorem dX0_isWidest_17 : decode cX0_isWidest 17 = .ok (.iconst 1, 1) := by decide +kernel
theorem dX0_isWidest_18 : decode cX0_isWidest 18 = .ok (.goto 4, 3) := by decide +kernel
theorem dX0_isWidest_21 : decode cX0_isWidest 21 = .ok (.iconst 0, 1) := by decide +kernel
theorem dX0_isWidest_22 : decode cX0_isWidest 22 = .ok (.ireturn, 1) := by decide +kernel
set_option maxRecDepth 20000 in
theorem ggX0_compareParts_X0_least : GoodIn wsX0_compareParts wsX0_least := goodIn_r _ [11, 3, 12, 13, 14, 15, 16, 17, 18, 19] (by decide +kernel) (by decide +kernel)
set_option maxRecDepth 20000 in
theorem gX0_compareParts_X0_least : GoodIn wsX0_compareParts (wsV RX0 61 RX0 yX0_least wsX0_least) := goodIn_app (goodIn_of _ (by decide +kernel)) ggX0_compareParts_X0_least
theorem dX0_compareParts_0 : decode cX0_compareParts 0 = .ok (.aload_n 0, 1) := by decide +kernel
theorem dX0_compareParts_1 : decode cX0_compareParts 1 = .ok (.getfield 19, 3) := by decide +kernel
theorem dX0_compareParts_4 : decode cX0_compareParts 4 = .ok (.iload_n 3, 1) := by decide +kernel
theorem dX0_compareParts_5 : decode cX0_compareParts 5 = .ok (.iaload, 1) := by decide +kernel
theorem dX0_compareParts_6 : decode cX0_compareParts 6 = .ok (.istore 5, 2) := by decide +kernel
theorem dX0_compareParts_8 : decode cX0_compareParts 8 = .ok (.aload_n 0, 1) := by decide +kernel
theorem dX0_compareParts_9 : decode cX0_compareParts 9 = .ok (.getfield 23, 3) := by decide +kernel
theorem dX0_compareParts_12 : decode cX0_compareParts 12 = .ok (.iload 4, 2) := by decide +kernel
theorem dX0_compareParts_14 : decode cX0_compareParts 14 = .ok (.iaload, 1) := by decide +kernel
theorem dX0_compareParts_15 : decode cX0_compareParts 15 = .ok (.istore 6, 2) := by decide +kernel
theorem dX0_compareParts_17 : decode cX0_compareParts 17 = .ok (.iload 5, 2) := by decide +kernel
theorem dX0_compareParts_19 : decode cX0_compareParts 19 = .ok (.istore 7, 2) := by decide +kernel
theorem dX0_compareParts_21 : decode cX0_compareParts 21 = .ok (.iload 7, 2) := by decide +kernel
theorem dX0_compareParts_23 : decode cX0_compareParts 23 = .ok (.iload_n 3, 1) := by decide +kernel
theorem dX0_compareParts_24 : decode cX0_compareParts 24 = .ok (.if_icmp .lt 229, 3) := by decide +kernel
theorem dX0_compareParts_27 : decode cX0_compareParts 27 = .ok (.iload 6, 2) := by decide +kernel
theorem dX0_compareParts_29 : decode cX0_compareParts 29 = .ok (.istore 8, 2) := by decide +kernel
theorem dX0_compareParts_31 : decode cX0_compareParts 31 = .ok (.iload 8, 2) := by decide +kernel
theorem dX0_compareParts_33 : decode cX0_compareParts 33 = .ok (.iload 4, 2) := by decide +kernel
theorem dX0_compareParts_35 : decode cX0_compareParts 35 = .ok (.if_icmp .lt 212, 3) := by decide +kernel
theorem dX0_compareParts_38 : decode cX0_compareParts 38 = .ok (.iload 7, 2) := by decide +kernel
theorem dX0_compareParts_40 : decode cX0_compareParts 40 = .ok (.iload 5, 2) := by decide +kernel
theorem dX0_compareParts_42 : decode cX0_compareParts 42 = .ok (.if_icmp .eq 10, 3) := by decide +kernel
theorem dX0_compareParts_45 : decode cX0_compareParts 45 = .ok (.iload 8, 2) := by decide +kernel
theorem dX0_compareParts_47 : decode cX0_compareParts 47 = .ok (.iload 6, 2) := by decide +kernel
theorem dX0_compareParts_49 : decode cX0_compareParts 49 = .ok (.if_icmp .ne 27, 3) := by decide +kernel
theorem dX0_compareParts_52 : decode cX0_compareParts 52 = .ok (.aload_n 0, 1) := by decide +kernel
theorem dX0_compareParts_53 : decode cX0_compareParts 53 = .ok (.getfield 16, 3) := by decide +kernel
theorem dX0_compareParts_56 : decode cX0_compareParts 56 = .ok (.iload 7, 2) := by decide +kernel
theorem dX0_compareParts_58 : decode cX0_compareParts 58 = .ok (.aaload, 1) := by decide +kernel
theorem dX0_compareParts_59 : decode cX0_compareParts 59 = .ok (.iload 8, 2) := by decide +kernel
theorem dX0_compareParts_61 : decode cX0_compareParts 61 = .ok (.iload 5, 2) := by decide +kernel
theorem dX0_compareParts_63 : decode cX0_compareParts 63 = .ok (.iload 7, 2) := by decide +kernel
theorem dX0_compareParts_65 : decode cX0_compareParts 65 = .ok (.isub, 1) := by decide +kernel
theorem dX0_compareParts_66 : decode cX0_compareParts 66 = .ok (.iload 6, 2) := by decide +kernel
theorem dX0_compareParts_68 : decode cX0_compareParts 68 = .ok (.iadd, 1) := by decide +kernel
theorem dX0_compareParts_69 : decode cX0_compareParts 69 = .ok (.iload 8, 2) := by decide +kernel
theorem dX0_compareParts_71 : decode cX0_compareParts 71 = .ok (.isub, 1) := by decide +kernel
theorem dX0_compareParts_72 : decode cX0_compareParts 72 = .ok (.iastore, 1) := by decide +kernel
theorem dX0_compareParts_73 : decode cX0_compareParts 73 = .ok (.goto 168, 3) := by decide +kernel
theorem dX0_compareParts_76 : decode cX0_compareParts 76 = .ok (.aload_n 0, 1) := by decide +kernel
theorem dX0_compareParts_77 : decode cX0_compareParts 77 = .ok (.getfield 19, 3) := by decide +kernel
theorem dX0_compareParts_80 : decode cX0_compareParts 80 = .ok (.iload 7, 2) := by decide +kernel
theorem dX0_compareParts_82 : decode cX0_compareParts 82 = .ok (.iaload, 1) := by decide +kernel
theorem dX0_compareParts_83 : decode cX0_compareParts 83 = .ok (.iload 5, 2) := by decide +kernel
theorem dX0_compareParts_85 : decode cX0_compareParts 85 = .ok (.if_icmp .ne 107, 3) := by decide +kernel
theorem dX0_compareParts_88 : decode cX0_compareParts 88 = .ok (.aload_n 0, 1) := by decide +kernel
theorem dX0_compareParts_89 : decode cX0_compareParts 89 = .ok (.getfield 23, 3) := by decide +kernel
theorem dX0_compareParts_92 : decode cX0_compareParts 92 = .ok (.iload 8, 2) := by decide +kernel
theorem dX0_compareParts_94 : decode cX0_compareParts 94 = .ok (.iaload, 1) := by decide +kernel
theorem dX0_compareParts_95 : decode cX0_compareParts 95 = .ok (.iload 6, 2) := by decide +kernel
theorem dX0_compareParts_97 : decode cX0_compareParts 97 = .ok (.if_icmp .ne 95, 3) := by decide +kernel
theorem dX0_compareParts_100 : decode cX0_compareParts 100 = .ok (.aload_n 1, 1) := by decide +kernel
theorem dX0_compareParts_101 : decode cX0_compareParts 101 = .ok (.getfield 55, 3) := by decide +kernel
theorem dX0_compareParts_104 : decode cX0_compareParts 104 = .ok (.aload_n 1, 1) := by decide +kernel
theorem dX0_compareParts_105 : decode cX0_compareParts 105 = .ok (.getfield 58, 3) := by decide +kernel
theorem dX0_compareParts_108 : decode cX0_compareParts 108 = .ok (.iload 7, 2) := by decide +kernel
theorem dX0_compareParts_110 : decode cX0_compareParts 110 = .ok (.iaload, 1) := by decide +kernel
theorem dX0_compareParts_111 : decode cX0_compareParts 111 = .ok (.iaload, 1) := by decide +kernel
theorem dX0_compareParts_112 : decode cX0_compareParts 112 = .ok (.aload_n 2, 1) := by decide +kernel
theorem dX0_compareParts_113 : decode cX0_compareParts 113 = .ok (.getfield 55, 3) := by decide +kernel
theorem dX0_compareParts_116 : decode cX0_compareParts 116 = .ok (.aload_n 2, 1) := by decide +kernel
theorem dX0_compareParts_117 : decode cX0_compareParts 117 = .ok (.getfield 58, 3) := by decide +kernel
theorem dX0_compareParts_120 : decode cX0_compareParts 120 = .ok (.iload 8, 2) := by decide +kernel
theorem dX0_compareParts_122 : decode cX0_compareParts 122 = .ok (.iaload, 1) := by decide +kernel
theorem dX0_compareParts_123 : decode cX0_compareParts 123 = .ok (.iaload, 1) := by decide +kernel
theorem dX0_compareParts_124 : decode cX0_compareParts 124 = .ok (.if_icmp .ne 7, 3) := by decide +kernel
theorem dX0_compareParts_127 : decode cX0_compareParts 127 = .ok (.iconst 0, 1) := by decide +kernel
theorem dX0_compareParts_128 : decode cX0_compareParts 128 = .ok (.goto 4, 3) := by decide +kernel
theorem dX0_compareParts_131 : decode cX0_compareParts 131 = .ok (.iconst 1, 1) := by decide +kernel
theorem dX0_compareParts_132 : decode cX0_compareParts 132 = .ok (.istore 9, 2) := by decide +kernel
theorem dX0_compareParts_134 : decode cX0_compareParts 134 = .ok (.aload_n 0, 1) := by decide +kernel
theorem dX0_compareParts_135 : decode cX0_compareParts 135 = .ok (.getfield 16, 3) := by decide +kernel
theorem dX0_compareParts_138 : decode cX0_compareParts 138 = .ok (.iload 7, 2) := by decide +kernel
theorem dX0_compareParts_140 : decode cX0_compareParts 140 = .ok (.aaload, 1) := by decide +kernel
theorem dX0_compareParts_141 : decode cX0_compareParts 141 = .ok (.iload 8, 2) := by decide +kernel
theorem dX0_compareParts_143 : decode cX0_compareParts 143 = .ok (.aload_n 0, 1) := by decide +kernel
theorem dX0_compareParts_144 : decode cX0_compareParts 144 = .ok (.iload 7, 2) := by decide +kernel
theorem dX0_compareParts_146 : decode cX0_compareParts 146 = .ok (.iload 8, 2) := by decide +kernel
theorem dX0_compareParts_148 : decode cX0_compareParts 148 = .ok (.aload_n 0, 1) := by decide +kernel
theorem dX0_compareParts_149 : decode cX0_compareParts 149 = .ok (.getfield 16, 3) := by decide +kernel
theorem dX0_compareParts_152 : decode cX0_compareParts 152 = .ok (.iload 7, 2) := by decide +kernel
theorem dX0_compareParts_154 : decode cX0_compareParts 154 = .ok (.iconst 1, 1) := by decide +kernel
theorem dX0_compareParts_155 : decode cX0_compareParts 155 = .ok (.iadd, 1) := by decide +kernel
theorem dX0_compareParts_156 : decode cX0_compareParts 156 = .ok (.aaload, 1) := by decide +kernel
theorem dX0_compareParts_157 : decode cX0_compareParts 157 = .ok (.iload 8, 2) := by decide +kernel
theorem dX0_compareParts_159 : decode cX0_compareParts 159 = .ok (.iconst 1, 1) := by decide +kernel
theorem dX0_compareParts_160 : decode cX0_compareParts 160 = .ok (.iadd, 1) := by decide +kernel
theorem dX0_compareParts_161 : decode cX0_compareParts 161 = .ok (.iaload, 1) := by decide +kernel
theorem dX0_compareParts_162 : decode cX0_compareParts 162 = .ok (.iload 9, 2) := by decide +kernel
theorem dX0_compareParts_164 : decode cX0_compareParts 164 = .ok (.iadd, 1) := by decide +kernel
theorem dX0_compareParts_165 : decode cX0_compareParts 165 = .ok (.invokevirtual 61, 3) := by decide +kernel
theorem dX0_compareParts_168 : decode cX0_compareParts 168 = .ok (.iastore, 1) := by decide +kernel
theorem dX0_compareParts_169 : decode cX0_compareParts 169 = .ok (.aload_n 0, 1) := by decide +kernel
theorem dX0_compareParts_170 : decode cX0_compareParts 170 = .ok (.getfield 11, 3) := by decide +kernel
theorem dX0_compareParts_173 : decode cX0_compareParts 173 = .ok (.iload 7, 2) := by decide +kernel
theorem dX0_compareParts_175 : decode cX0_compareParts 175 = .ok (.aaload, 1) := by decide +kernel
theorem dX0_compareParts_176 : decode cX0_compareParts 176 = .ok (.iload 8, 2) := by decide +kernel
theorem dX0_compareParts_178 : decode cX0_compareParts 178 = .ok (.aload_n 0, 1) := by decide +kernel
theorem dX0_compareParts_179 : decode cX0_compareParts 179 = .ok (.getfield 16, 3) := by decide +kernel
theorem dX0_compareParts_182 : decode cX0_compareParts 182 = .ok (.iload 7, 2) := by decide +kernel
theorem dX0_compareParts_184 : decode cX0_compareParts 184 = .ok (.aaload, 1) := by decide +kernel
theorem dX0_compareParts_185 : decode cX0_compareParts 185 = .ok (.iload 8, 2) := by decide +kernel
theorem dX0_compareParts_187 : decode cX0_compareParts 187 = .ok (.iaload, 1) := by decide +kernel
theorem dX0_compareParts_188 : decode cX0_compareParts 188 = .ok (.iastore, 1) := by decide +kernel
theorem dX0_compareParts_189 : decode cX0_compareParts 189 = .ok (.goto 52, 3) := by decide +kernel
theorem dX0_compareParts_192 : decode cX0_compareParts 192 = .ok (.aload_n 0, 1) := by decide +kernel
theorem dX0_compareParts_193 : decode cX0_compareParts 193 = .ok (.getfield 16, 3) := by decide +kernel
theorem dX0_compareParts_196 : decode cX0_compareParts 196 = .ok (.iload 7, 2) := by decide +kernel
theorem dX0_compareParts_198 : decode cX0_compareParts 198 = .ok (.aaload, 1) := by decide +kernel
theorem dX0_compareParts_199 : decode cX0_compareParts 199 = .ok (.iload 8, 2) := by decide +kernel
theorem dX0_compareParts_201 : decode cX0_compareParts 201 = .ok (.aload_n 0, 1) := by decide +kernel
theorem dX0_compareParts_202 : decode cX0_compareParts 202 = .ok (.iload 7, 2) := by decide +kernel
theorem dX0_compareParts_204 : decode cX0_compareParts 204 = .ok (.iload 8, 2) := by decide +kernel
theorem dX0_compareParts_206 : decode cX0_compareParts 206 = .ok (.aload_n 0, 1) := by decide +kernel
theorem dX0_compareParts_207 : decode cX0_compareParts 207 = .ok (.getfield 16, 3) := by decide +kernel
theorem dX0_compareParts_210 : decode cX0_compareParts 210 = .ok (.aload_n 0, 1) := by decide +kernel
theorem dX0_compareParts_211 : decode cX0_compareParts 211 = .ok (.getfield 19, 3) := by decide +kernel
theorem dX0_compareParts_214 : decode cX0_compareParts 214 = .ok (.iload 7, 2) := by decide +kernel
theorem dX0_compareParts_216 : decode cX0_compareParts 216 = .ok (.iaload, 1) := by decide +kernel
theorem dX0_compareParts_217 : decode cX0_compareParts 217 = .ok (.aaload, 1) := by decide +kernel
theorem dX0_compareParts_218 : decode cX0_compareParts 218 = .ok (.aload_n 0, 1) := by decide +kernel
theorem dX0_compareParts_219 : decode cX0_compareParts 219 = .ok (.getfield 23, 3) := by decide +kernel
theorem dX0_compareParts_222 : decode cX0_compareParts 222 = .ok (.iload 8, 2) := by decide +kernel
theorem dX0_compareParts_224 : decode cX0_compareParts 224 = .ok (.iaload, 1) := by decide +kernel
theorem dX0_compareParts_225 : decode cX0_compareParts 225 = .ok (.iaload, 1) := by decide +kernel
theorem dX0_compareParts_226 : decode cX0_compareParts 226 = .ok (.aload_n 0, 1) := by decide +kernel
theorem dX0_compareParts_227 : decode cX0_compareParts 227 = .ok (.getfield 11, 3) := by decide +kernel
theorem dX0_compareParts_230 : decode cX0_compareParts 230 = .ok (.iload 7, 2) := by decide +kernel
theorem dX0_compareParts_232 : decode cX0_compareParts 232 = .ok (.aaload, 1) := by decide +kernel
theorem dX0_compareParts_233 : decode cX0_compareParts 233 = .ok (.iload 8, 2) := by decide +kernel
theorem dX0_compareParts_235 : decode cX0_compareParts 235 = .ok (.iaload, 1) := by decide +kernel
theorem dX0_compareParts_236 : decode cX0_compareParts 236 = .ok (.iadd, 1) := by decide +kernel
theorem dX0_compareParts_237 : decode cX0_compareParts 237 = .ok (.invokevirtual 61, 3) := by decide +kernel
theorem dX0_compareParts_240 : decode cX0_compareParts 240 = .ok (.iastore, 1) := by decide +kernel
theorem dX0_compareParts_241 : decode cX0_compareParts 241 = .ok (.iinc 8 (-1), 3) := by decide +kernel
theorem dX0_compareParts_244 : decode cX0_compareParts 244 = .ok (.goto (-213), 3) := by decide +kernel
theorem dX0_compareParts_247 : decode cX0_compareParts 247 = .ok (.iinc 7 (-1), 3) := by decide +kernel
theorem dX0_compareParts_250 : decode cX0_compareParts 250 = .ok (.goto (-229), 3) := by decide +kernel
theorem dX0_compareParts_253 : decode cX0_compareParts 253 = .ok (.return_, 1) := by decide +kernel
theorem dX0_least_0 : decode cX0_least 0 = .ok (.aload_n 0, 1) := by decide +kernel
theorem dX0_least_1 : decode cX0_least 1 = .ok (.getfield 16, 3) := by decide +kernel
theorem dX0_least_4 : decode cX0_least 4 = .ok (.iload_n 1, 1) := by decide +kernel
theorem dX0_least_5 : decode cX0_least 5 = .ok (.iconst 1, 1) := by decide +kernel
theorem dX0_least_6 : decode cX0_least 6 = .ok (.iadd, 1) := by decide +kernel
theorem dX0_least_7 : decode cX0_least 7 = .ok (.aaload, 1) := by decide +kernel
theorem dX0_least_8 : decode cX0_least 8 = .ok (.iload_n 2, 1) := by decide +kernel
theorem dX0_least_9 : decode cX0_least 9 = .ok (.iaload, 1) := by decide +kernel
theorem dX0_least_10 : decode cX0_least 10 = .ok (.aload_n 0, 1) := by decide +kernel
theorem dX0_least_11 : decode cX0_least 11 = .ok (.getfield 16, 3) := by decide +kernel
theorem dX0_least_14 : decode cX0_least 14 = .ok (.iload_n 1, 1) := by decide +kernel
theorem dX0_least_15 : decode cX0_least 15 = .ok (.aaload, 1) := by decide +kernel
theorem dX0_least_16 : decode cX0_least 16 = .ok (.iload_n 2, 1) := by decide +kernel
theorem dX0_least_17 : decode cX0_least 17 = .ok (.iconst 1, 1) := by decide +kernel
theorem dX0_least_18 : decode cX0_least 18 = .ok (.iadd, 1) := by decide +kernel
theorem dX0_least_19 : decode cX0_least 19 = .ok (.iaload, 1) := by decide +kernel
theorem dX0_least_20 : decode cX0_least 20 = .ok (.invokestatic 65, 3) := by decide +kernel
theorem dX0_least_23 : decode cX0_least 23 = .ok (.iconst 1, 1) := by decide +kernel
theorem dX0_least_24 : decode cX0_least 24 = .ok (.iadd, 1) := by decide +kernel
theorem dX0_least_25 : decode cX0_least 25 = .ok (.istore 4, 2) := by decide +kernel
theorem dX0_least_27 : decode cX0_least 27 = .ok (.iload 4, 2) := by decide +kernel
theorem dX0_least_29 : decode cX0_least 29 = .ok (.iload_n 3, 1) := by decide +kernel
theorem dX0_least_30 : decode cX0_least 30 = .ok (.invokestatic 65, 3) := by decide +kernel
theorem dX0_least_33 : decode cX0_least 33 = .ok (.ireturn, 1) := by decide +kernel
end
section
set_option maxRecDepth 20000 in
theorem ggX1_init_X4_init : GoodIn wsX1_init wsX4_init := goodIn_r _ [14, 15, 2, 3, 6, 16, 17, 18, 19, 20, 21, 22, 23, 11, 24, 25, 26, 27, 28, 29, 35, 36, 37, 38, 39, 40] (by decide +kernel) (by decide +kernel)
set_option maxRecDepth 20000 in
theorem gX1_init_X4_init : GoodIn wsX1_init (wsX4_init) := ggX1_init_X4_init
theorem dX1_init_0 : decode cX1_init 0 = .ok (.aload_n 0, 1) := by decide +kernel
theorem dX1_init_1 : decode cX1_init 1 = .ok (.invokespecial 3, 3) := by decide +kernel
theorem dX1_init_4 : decode cX1_init 4 = .ok (.aload_n 0, 1) := by decide +kernel
theorem dX1_init_5 : decode cX1_init 5 = .ok (.bipush 12, 2) := by decide +kernel
theorem dX1_init_7 : decode cX1_init 7 = .ok (.anewarray 9, 3) := by decide +kernel
theorem dX1_init_10 : decode cX1_init 10 = .ok (.putfield 11, 3) := by decide +kernel
theorem dX1_init_13 : decode cX1_init 13 = .ok (.aload_n 0, 1) := by decide +kernel
theorem dX1_init_14 : decode cX1_init 14 = .ok (.bipush 12, 2) := by decide +kernel
theorem dX1_init_16 : decode cX1_init 16 = .ok (.newarray .int, 2) := by decide +kernel
theorem dX1_init_18 : decode cX1_init 18 = .ok (.putfield 17, 3) := by decide +kernel
theorem dX1_init_21 : decode cX1_init 21 = .ok (.aload_n 0, 1) := by decide +kernel
theorem dX1_init_22 : decode cX1_init 22 = .ok (.bipush 12, 2) := by decide +kernel
theorem dX1_init_24 : decode cX1_init 24 = .ok (.newarray .int, 2) := by decide +kernel
theorem dX1_init_26 : decode cX1_init 26 = .ok (.putfield 21, 3) := by decide +kernel
theorem dX1_init_29 : decode cX1_init 29 = .ok (.aload_n 0, 1) := by decide +kernel
theorem dX1_init_30 : decode cX1_init 30 = .ok (.bipush 12, 2) := by decide +kernel
theorem dX1_init_32 : decode cX1_init 32 = .ok (.newarray .int, 2) := by decide +kernel
theorem dX1_init_34 : decode cX1_init 34 = .ok (.putfield 24, 3) := by decide +kernel
theorem dX1_init_37 : decode cX1_init 37 = .ok (.iconst 0, 1) := by decide +kernel
theorem dX1_init_38 : decode cX1_init 38 = .ok (.istore_n 1, 1) := by decide +kernel
theorem dX1_init_39 : decode cX1_init 39 = .ok (.iload_n 1, 1) := by decide +kernel
theorem dX1_init_40 : decode cX1_init 40 = .ok (.bipush 12, 2) := by decide +kernel
theorem dX1_init_42 : decode cX1_init 42 = .ok (.if_icmp .ge 22, 3) := by decide +kernel
theorem dX1_init_45 : decode cX1_init 45 = .ok (.aload_n 0, 1) := by decide +kernel
theorem dX1_init_46 : decode cX1_init 46 = .ok (.getfield 11, 3) := by decide +kernel
theorem dX1_init_49 : decode cX1_init 49 = .ok (.iload_n 1, 1) := by decide +kernel
theorem dX1_init_50 : decode cX1_init 50 = .ok (.new 9, 3) := by decide +kernel
theorem dX1_init_53 : decode cX1_init 53 = .ok (.dup, 1) := by decide +kernel
theorem dX1_init_54 : decode cX1_init 54 = .ok (.invokespecial 27, 3) := by decide +kernel
theorem dX1_init_57 : decode cX1_init 57 = .ok (.aastore, 1) := by decide +kernel
theorem dX1_init_58 : decode cX1_init 58 = .ok (.iinc 1 1, 3) := by decide +kernel
theorem dX1_init_61 : decode cX1_init 61 = .ok (.goto (-22), 3) := by decide +kernel
theorem dX1_init_64 : decode cX1_init 64 = .ok (.return_, 1) := by decide +kernel
set_option maxRecDepth 20000 in
theorem ggX1_record_X4_copyFrom : GoodIn wsX1_record wsX4_copyFrom := goodIn_r _ [10, 11, 12, 13, 14, 15, 16, 17, 18, 19, 30, 31, 32, 33, 34, 35] (by decide +kernel) (by decide +kernel)
set_option maxRecDepth 20000 in
theorem gX1_record_X4_copyFrom : GoodIn wsX1_record (wsV RX1 32 RX4 yX4_copyFrom wsX4_copyFrom) := goodIn_app (goodIn_of _ (by decide +kernel)) ggX1_record_X4_copyFrom
set_option maxRecDepth 20000 in
theorem ggX1_record_X1_reachOf : GoodIn wsX1_record wsX1_reachOf := goodIn_r _ [24, 5, 25, 26, 27, 28, 29] (by decide +kernel) (by decide +kernel)
set_option maxRecDepth 20000 in
theorem gX1_record_X1_reachOf : GoodIn wsX1_record (wsV RX1 36 RX1 yX1_reachOf wsX1_reachOf) := goodIn_app (goodIn_of _ (by decide +kernel)) ggX1_record_X1_reachOf
theorem dX1_record_0 : decode cX1_record 0 = .ok (.aload_n 0, 1) := by decide +kernel
theorem dX1_record_1 : decode cX1_record 1 = .ok (.getfield 28, 3) := by decide +kernel
theorem dX1_record_4 : decode cX1_record 4 = .ok (.istore 4, 2) := by decide +kernel
theorem dX1_record_6 : decode cX1_record 6 = .ok (.aload_n 0, 1) := by decide +kernel
theorem dX1_record_7 : decode cX1_record 7 = .ok (.dup, 1) := by decide +kernel
theorem dX1_record_8 : decode cX1_record 8 = .ok (.getfield 28, 3) := by decide +kernel
theorem dX1_record_11 : decode cX1_record 11 = .ok (.iconst 1, 1) := by decide +kernel
theorem dX1_record_12 : decode cX1_record 12 = .ok (.iadd, 1) := by decide +kernel
theorem dX1_record_13 : decode cX1_record 13 = .ok (.putfield 28, 3) := by decide +kernel
theorem dX1_record_16 : decode cX1_record 16 = .ok (.aload_n 0, 1) := by decide +kernel
theorem dX1_record_17 : decode cX1_record 17 = .ok (.getfield 11, 3) := by decide +kernel
theorem dX1_record_20 : decode cX1_record 20 = .ok (.iload 4, 2) := by decide +kernel
theorem dX1_record_22 : decode cX1_record 22 = .ok (.aaload, 1) := by decide +kernel
theorem dX1_record_23 : decode cX1_record 23 = .ok (.aload_n 1, 1) := by decide +kernel
theorem dX1_record_24 : decode cX1_record 24 = .ok (.invokevirtual 32, 3) := by decide +kernel
theorem dX1_record_27 : decode cX1_record 27 = .ok (.aload_n 0, 1) := by decide +kernel
theorem dX1_record_28 : decode cX1_record 28 = .ok (.getfield 17, 3) := by decide +kernel
theorem dX1_record_31 : decode cX1_record 31 = .ok (.iload 4, 2) := by decide +kernel
theorem dX1_record_33 : decode cX1_record 33 = .ok (.iload_n 2, 1) := by decide +kernel
theorem dX1_record_34 : decode cX1_record 34 = .ok (.iastore, 1) := by decide +kernel
theorem dX1_record_35 : decode cX1_record 35 = .ok (.aload_n 0, 1) := by decide +kernel
theorem dX1_record_36 : decode cX1_record 36 = .ok (.getfield 21, 3) := by decide +kernel
theorem dX1_record_39 : decode cX1_record 39 = .ok (.iload 4, 2) := by decide +kernel
theorem dX1_record_41 : decode cX1_record 41 = .ok (.iload_n 3, 1) := by decide +kernel
theorem dX1_record_42 : decode cX1_record 42 = .ok (.iastore, 1) := by decide +kernel
theorem dX1_record_43 : decode cX1_record 43 = .ok (.aload_n 0, 1) := by decide +kernel
theorem dX1_record_44 : decode cX1_record 44 = .ok (.getfield 24, 3) := by decide +kernel
theorem dX1_record_47 : decode cX1_record 47 = .ok (.iload 4, 2) := by decide +kernel
theorem dX1_record_49 : decode cX1_record 49 = .ok (.iconst 1, 1) := by decide +kernel
theorem dX1_record_50 : decode cX1_record 50 = .ok (.iload 4, 2) := by decide +kernel
theorem dX1_record_52 : decode cX1_record 52 = .ok (.ishl, 1) := by decide +kernel
theorem dX1_record_53 : decode cX1_record 53 = .ok (.aload_n 0, 1) := by decide +kernel
theorem dX1_record_54 : decode cX1_record 54 = .ok (.iload_n 2, 1) := by decide +kernel
theorem dX1_record_55 : decode cX1_record 55 = .ok (.invokevirtual 36, 3) := by decide +kernel
theorem dX1_record_58 : decode cX1_record 58 = .ok (.ior, 1) := by decide +kernel
theorem dX1_record_59 : decode cX1_record 59 = .ok (.aload_n 0, 1) := by decide +kernel
theorem dX1_record_60 : decode cX1_record 60 = .ok (.iload_n 3, 1) := by decide +kernel
theorem dX1_record_61 : decode cX1_record 61 = .ok (.invokevirtual 36, 3) := by decide +kernel
theorem dX1_record_64 : decode cX1_record 64 = .ok (.ior, 1) := by decide +kernel
theorem dX1_record_65 : decode cX1_record 65 = .ok (.iastore, 1) := by decide +kernel
theorem dX1_record_66 : decode cX1_record 66 = .ok (.iload 4, 2) := by decide +kernel
theorem dX1_record_68 : decode cX1_record 68 = .ok (.ireturn, 1) := by decide +kernel
theorem dX1_reachOf_0 : decode cX1_reachOf 0 = .ok (.iload_n 1, 1) := by decide +kernel
theorem dX1_reachOf_1 : decode cX1_reachOf 1 = .ok (.iconst (-1), 1) := by decide +kernel
theorem dX1_reachOf_2 : decode cX1_reachOf 2 = .ok (.if_icmp .ne 7, 3) := by decide +kernel
theorem dX1_reachOf_5 : decode cX1_reachOf 5 = .ok (.iconst 0, 1) := by decide +kernel
theorem dX1_reachOf_6 : decode cX1_reachOf 6 = .ok (.goto 9, 3) := by decide +kernel
theorem dX1_reachOf_9 : decode cX1_reachOf 9 = .ok (.aload_n 0, 1) := by decide +kernel
theorem dX1_reachOf_10 : decode cX1_reachOf 10 = .ok (.getfield 24, 3) := by decide +kernel
theorem dX1_reachOf_13 : decode cX1_reachOf 13 = .ok (.iload_n 1, 1) := by decide +kernel
theorem dX1_reachOf_14 : decode cX1_reachOf 14 = .ok (.iaload, 1) := by decide +kernel
theorem dX1_reachOf_15 : decode cX1_reachOf 15 = .ok (.ireturn, 1) := by decide +kernel
set_option maxRecDepth 20000 in
theorem ggX1_baseOf_X5_isIn : GoodIn wsX1_baseOf wsX5_isIn := goodIn_r _ [5] (by decide +kernel) (by decide +kernel)
set_option maxRecDepth 20000 in
theorem gX1_baseOf_X5_isIn_n40 : GoodIn wsX1_baseOf (wsX5_isIn) := ggX1_baseOf_X5_isIn
set_option maxRecDepth 20000 in
theorem ggX1_baseOf_X1_isReachedFromAnother : GoodIn wsX1_baseOf wsX1_isReachedFromAnother := goodIn_r _ [10, 2, 1, 3, 4, 5, 11, 12, 13, 14, 15] (by decide +kernel) (by decide +kernel)
set_option maxRecDepth 20000 in
theorem gX1_baseOf_X1_isReachedFromAnother : GoodIn wsX1_baseOf (wsV RX1 44 RX1 yX1_isReachedFromAnother wsX1_isReachedFromAnother) := goodIn_app (goodIn_of _ (by decide +kernel)) ggX1_baseOf_X1_isReachedFromAnother
theorem dX1_baseOf_0 : decode cX1_baseOf 0 = .ok (.aload_n 0, 1) := by decide +kernel
theorem dX1_baseOf_1 : decode cX1_baseOf 1 = .ok (.getfield 24, 3) := by decide +kernel
theorem dX1_baseOf_4 : decode cX1_baseOf 4 = .ok (.iload_n 1, 1) := by decide +kernel
theorem dX1_baseOf_5 : decode cX1_baseOf 5 = .ok (.iaload, 1) := by decide +kernel
theorem dX1_baseOf_6 : decode cX1_baseOf 6 = .ok (.aload_n 0, 1) := by decide +kernel
theorem dX1_baseOf_7 : decode cX1_baseOf 7 = .ok (.getfield 24, 3) := by decide +kernel
theorem dX1_baseOf_10 : decode cX1_baseOf 10 = .ok (.iload_n 2, 1) := by decide +kernel
theorem dX1_baseOf_11 : decode cX1_baseOf 11 = .ok (.iaload, 1) := by decide +kernel
theorem dX1_baseOf_12 : decode cX1_baseOf 12 = .ok (.iand, 1) := by decide +kernel
theorem dX1_baseOf_13 : decode cX1_baseOf 13 = .ok (.istore_n 3, 1) := by decide +kernel
theorem dX1_baseOf_14 : decode cX1_baseOf 14 = .ok (.iconst 0, 1) := by decide +kernel
theorem dX1_baseOf_15 : decode cX1_baseOf 15 = .ok (.istore 4, 2) := by decide +kernel
theorem dX1_baseOf_17 : decode cX1_baseOf 17 = .ok (.iload 4, 2) := by decide +kernel
theorem dX1_baseOf_19 : decode cX1_baseOf 19 = .ok (.aload_n 0, 1) := by decide +kernel
theorem dX1_baseOf_20 : decode cX1_baseOf 20 = .ok (.getfield 28, 3) := by decide +kernel
theorem dX1_baseOf_23 : decode cX1_baseOf 23 = .ok (.if_icmp .ge 31, 3) := by decide +kernel
theorem dX1_baseOf_26 : decode cX1_baseOf 26 = .ok (.iload_n 3, 1) := by decide +kernel
theorem dX1_baseOf_27 : decode cX1_baseOf 27 = .ok (.iload 4, 2) := by decide +kernel
theorem dX1_baseOf_29 : decode cX1_baseOf 29 = .ok (.invokestatic 40, 3) := by decide +kernel
theorem dX1_baseOf_32 : decode cX1_baseOf 32 = .ok (.ifCond .eq 16, 3) := by decide +kernel
theorem dX1_baseOf_35 : decode cX1_baseOf 35 = .ok (.aload_n 0, 1) := by decide +kernel
theorem dX1_baseOf_36 : decode cX1_baseOf 36 = .ok (.iload 4, 2) := by decide +kernel
theorem dX1_baseOf_38 : decode cX1_baseOf 38 = .ok (.iload_n 3, 1) := by decide +kernel
theorem dX1_baseOf_39 : decode cX1_baseOf 39 = .ok (.invokevirtual 44, 3) := by decide +kernel
theorem dX1_baseOf_42 : decode cX1_baseOf 42 = .ok (.ifCond .ne 6, 3) := by decide +kernel
theorem dX1_baseOf_45 : decode cX1_baseOf 45 = .ok (.iload 4, 2) := by decide +kernel
theorem dX1_baseOf_47 : decode cX1_baseOf 47 = .ok (.ireturn, 1) := by decide +kernel
theorem dX1_baseOf_48 : decode cX1_baseOf 48 = .ok (.iinc 4 1, 3) := by decide +kernel
theorem dX1_baseOf_51 : decode cX1_baseOf 51 = .ok (.goto (-34), 3) := by decide +kernel
theorem dX1_baseOf_54 : decode cX1_baseOf 54 = .ok (.iconst 0, 1) := by decide +kernel
theorem dX1_baseOf_55 : decode cX1_baseOf 55 = .ok (.ireturn, 1) := by decide +kernel
set_option maxRecDepth 20000 in
theorem ggX1_isReachedFromAnother_X5_isIn : GoodIn wsX1_isReachedFromAnother wsX5_isIn := goodIn_r _ [5] (by decide +kernel) (by decide +kernel)
set_option maxRecDepth 20000 in
theorem gX1_isReachedFromAnother_X5_isIn_n40 : GoodIn wsX1_isReachedFromAnother (wsX5_isIn) := ggX1_isReachedFromAnother_X5_isIn
theorem dX1_isReachedFromAnother_0 : decode cX1_isReachedFromAnother 0 = .ok (.iconst 0, 1) := by decide +kernel
theorem dX1_isReachedFromAnother_1 : decode cX1_isReachedFromAnother 1 = .ok (.istore_n 3, 1) := by decide +kernel
theorem dX1_isReachedFromAnother_2 : decode cX1_isReachedFromAnother 2 = .ok (.iload_n 3, 1) := by decide +kernel
theorem dX1_isReachedFromAnother_3 : decode cX1_isReachedFromAnother 3 = .ok (.aload_n 0, 1) := by decide +kernel
theorem dX1_isReachedFromAnother_4 : decode cX1_isReachedFromAnother 4 = .ok (.getfield 28, 3) := by decide +kernel
theorem dX1_isReachedFromAnother_7 : decode cX1_isReachedFromAnother 7 = .ok (.if_icmp .ge 37, 3) := by decide +kernel
theorem dX1_isReachedFromAnother_10 : decode cX1_isReachedFromAnother 10 = .ok (.iload_n 3, 1) := by decide +kernel
theorem dX1_isReachedFromAnother_11 : decode cX1_isReachedFromAnother 11 = .ok (.iload_n 1, 1) := by decide +kernel
theorem dX1_isReachedFromAnother_12 : decode cX1_isReachedFromAnother 12 = .ok (.if_icmp .eq 26, 3) := by decide +kernel
theorem dX1_isReachedFromAnother_15 : decode cX1_isReachedFromAnother 15 = .ok (.iload_n 2, 1) := by decide +kernel
theorem dX1_isReachedFromAnother_16 : decode cX1_isReachedFromAnother 16 = .ok (.iload_n 3, 1) := by decide +kernel
theorem dX1_isReachedFromAnother_17 : decode cX1_isReachedFromAnother 17 = .ok (.invokestatic 40, 3) := by decide +kernel
theorem dX1_isReachedFromAnother_20 : decode cX1_isReachedFromAnother 20 = .ok (.ifCond .eq 18, 3) := by decide +kernel
theorem dX1_isReachedFromAnother_23 : decode cX1_isReachedFromAnother 23 = .ok (.aload_n 0, 1) := by decide +kernel
theorem dX1_isReachedFromAnother_24 : decode cX1_isReachedFromAnother 24 = .ok (.getfield 24, 3) := by decide +kernel
theorem dX1_isReachedFromAnother_27 : decode cX1_isReachedFromAnother 27 = .ok (.iload_n 3, 1) := by decide +kernel
theorem dX1_isReachedFromAnother_28 : decode cX1_isReachedFromAnother 28 = .ok (.iaload, 1) := by decide +kernel
theorem dX1_isReachedFromAnother_29 : decode cX1_isReachedFromAnother 29 = .ok (.iload_n 1, 1) := by decide +kernel
theorem dX1_isReachedFromAnother_30 : decode cX1_isReachedFromAnother 30 = .ok (.invokestatic 40, 3) := by decide +kernel
theorem dX1_isReachedFromAnother_33 : decode cX1_isReachedFromAnother 33 = .ok (.ifCond .eq 5, 3) := by decide +kernel
theorem dX1_isReachedFromAnother_36 : decode cX1_isReachedFromAnother 36 = .ok (.iconst 1, 1) := by decide +kernel
theorem dX1_isReachedFromAnother_37 : decode cX1_isReachedFromAnother 37 = .ok (.ireturn, 1) := by decide +kernel
theorem dX1_isReachedFromAnother_38 : decode cX1_isReachedFromAnother 38 = .ok (.iinc 3 1, 3) := by decide +kernel
theorem dX1_isReachedFromAnother_41 : decode cX1_isReachedFromAnother 41 = .ok (.goto (-39), 3) := by decide +kernel
theorem dX1_isReachedFromAnother_44 : decode cX1_isReachedFromAnother 44 = .ok (.iconst 0, 1) := by decide +kernel
theorem dX1_isReachedFromAnother_45 : decode cX1_isReachedFromAnother 45 = .ok (.ireturn, 1) := by decide +kernel
end
section
set_option maxRecDepth 20000 in
theorem ggX2_init_X4_init : GoodIn wsX2_init wsX4_init := goodIn_r _ [12, 13, 2, 3, 8, 14, 15, 16, 17, 18, 19, 20, 21, 6, 22, 23, 24, 25, 26, 27, 28, 29, 30, 31, 32, 33] (by decide +kernel) (by decide +kernel)
set_option maxRecDepth 20000 in
theorem gX2_init_X4_init : GoodIn wsX2_init (wsX4_init) := ggX2_init_X4_init
theorem dX2_init_0 : decode cX2_init 0 = .ok (.aload_n 0, 1) := by decide +kernel
theorem dX2_init_1 : decode cX2_init 1 = .ok (.invokespecial 3, 3) := by decide +kernel
theorem dX2_init_4 : decode cX2_init 4 = .ok (.aload_n 0, 1) := by decide +kernel
theorem dX2_init_5 : decode cX2_init 5 = .ok (.new 9, 3) := by decide +kernel
theorem dX2_init_8 : decode cX2_init 8 = .ok (.dup, 1) := by decide +kernel
theorem dX2_init_9 : decode cX2_init 9 = .ok (.invokespecial 11, 3) := by decide +kernel
theorem dX2_init_12 : decode cX2_init 12 = .ok (.putfield 12, 3) := by decide +kernel
theorem dX2_init_15 : decode cX2_init 15 = .ok (.aload_n 0, 1) := by decide +kernel
theorem dX2_init_16 : decode cX2_init 16 = .ok (.bipush 24, 2) := by decide +kernel
theorem dX2_init_18 : decode cX2_init 18 = .ok (.newarray .int, 2) := by decide +kernel
theorem dX2_init_20 : decode cX2_init 20 = .ok (.putfield 18, 3) := by decide +kernel
theorem dX2_init_23 : decode cX2_init 23 = .ok (.return_, 1) := by decide +kernel
set_option maxRecDepth 20000 in
theorem ggX2_run_X4_clear : GoodIn wsX2_run wsX4_clear := goodIn_r _ [7, 8, 9, 10, 11, 12, 13, 14, 87, 88, 89, 90, 91, 92] (by decide +kernel) (by decide +kernel)
set_option maxRecDepth 20000 in
theorem gX2_run_X4_clear : GoodIn wsX2_run (wsV RX2 26 RX4 yX4_clear wsX4_clear) := goodIn_app (goodIn_of _ (by decide +kernel)) ggX2_run_X4_clear
set_option maxRecDepth 20000 in
theorem ggX2_run_X4_holds : GoodIn wsX2_run wsX4_holds := goodIn_r _ [18, 9, 87, 88, 89, 90, 91, 92] (by decide +kernel) (by decide +kernel)
set_option maxRecDepth 20000 in
theorem gX2_run_X4_holds : GoodIn wsX2_run (wsV RX2 29 RX4 yX4_holds wsX4_holds) := goodIn_app (goodIn_of _ (by decide +kernel)) ggX2_run_X4_holds
set_option maxRecDepth 20000 in
theorem ggX2_run_X2_settle : GoodIn wsX2_run wsX2_settle := goodIn_r _ [23, 24, 25, 2, 15, 16, 17, 6, 18, 9, 26, 27, 28, 29, 8, 30, 31, 32, 22, 33, 34, 1, 35, 36, 37, 87, 88, 89, 90, 91, 92, 84, 85, 86] (by decide +kernel) (by decide +kernel)
set_option maxRecDepth 20000 in
theorem gX2_run_X2_settle : GoodIn wsX2_run (wsV RX2 33 RX2 yX2_settle wsX2_settle) := goodIn_app (goodIn_of _ (by decide +kernel)) ggX2_run_X2_settle
set_option maxRecDepth 20000 in
theorem ggX2_run_X2_nameThoseWithoutParent : GoodIn wsX2_run wsX2_nameThoseWithoutParent := goodIn_r _ [41, 2, 25, 15, 16, 17, 6, 18, 9, 30, 31, 32, 22, 33, 34, 1, 84, 85, 86, 87, 88, 89, 90, 91, 92] (by decide +kernel) (by decide +kernel)
set_option maxRecDepth 20000 in
theorem gX2_run_X2_nameThoseWithoutParent : GoodIn wsX2_run (wsV RX2 37 RX2 yX2_nameThoseWithoutParent wsX2_nameThoseWithoutParent) := goodIn_app (goodIn_of _ (by decide +kernel)) ggX2_run_X2_nameThoseWithoutParent
set_option maxRecDepth 20000 in
theorem ggX2_run_X2_nameThoseCutOff : GoodIn wsX2_run wsX2_nameThoseCutOff := goodIn_r _ [45, 2, 15, 16, 17, 6, 18, 9, 46, 47, 48, 22, 49, 25, 30, 31, 32, 33, 34, 1, 84, 85, 86, 87, 88, 89, 90, 91, 92] (by decide +kernel) (by decide +kernel)
set_option maxRecDepth 20000 in
theorem gX2_run_X2_nameThoseCutOff : GoodIn wsX2_run (wsV RX2 40 RX2 yX2_nameThoseCutOff wsX2_nameThoseCutOff) := goodIn_app (goodIn_of _ (by decide +kernel)) ggX2_run_X2_nameThoseCutOff
set_option maxRecDepth 20000 in
theorem ggX2_run_X2_arrange : GoodIn wsX2_run wsX2_arrange := goodIn_r _ [53, 2, 54, 55, 56, 57, 6, 58, 59, 60, 61, 62, 63, 64, 10, 65, 66, 67, 68, 69, 70, 71, 72, 73, 74, 75, 76, 22, 77, 78, 79, 80, 81, 82, 83, 25, 84, 85, 86, 87, 88, 89, 90, 91, 92] (by decide +kernel) (by decide +kernel)
set_option maxRecDepth 20000 in
theorem gX2_run_X2_arrange : GoodIn wsX2_run (wsV RX2 43 RX2 yX2_arrange wsX2_arrange) := goodIn_app (goodIn_of _ (by decide +kernel)) ggX2_run_X2_arrange
theorem dX2_run_0 : decode cX2_run 0 = .ok (.aload_n 0, 1) := by decide +kernel
theorem dX2_run_1 : decode cX2_run 1 = .ok (.iconst 0, 1) := by decide +kernel
theorem dX2_run_2 : decode cX2_run 2 = .ok (.putfield 22, 3) := by decide +kernel
theorem dX2_run_5 : decode cX2_run 5 = .ok (.aload_n 0, 1) := by decide +kernel
theorem dX2_run_6 : decode cX2_run 6 = .ok (.getfield 12, 3) := by decide +kernel
theorem dX2_run_9 : decode cX2_run 9 = .ok (.invokevirtual 26, 3) := by decide +kernel
theorem dX2_run_12 : decode cX2_run 12 = .ok (.iconst 0, 1) := by decide +kernel
theorem dX2_run_13 : decode cX2_run 13 = .ok (.istore 4, 2) := by decide +kernel
theorem dX2_run_15 : decode cX2_run 15 = .ok (.iload 4, 2) := by decide +kernel
theorem dX2_run_17 : decode cX2_run 17 = .ok (.bipush 24, 2) := by decide +kernel
theorem dX2_run_19 : decode cX2_run 19 = .ok (.if_icmp .ge 36, 3) := by decide +kernel
theorem dX2_run_22 : decode cX2_run 22 = .ok (.aload_n 1, 1) := by decide +kernel
theorem dX2_run_23 : decode cX2_run 23 = .ok (.iload 4, 2) := by decide +kernel
theorem dX2_run_25 : decode cX2_run 25 = .ok (.invokevirtual 29, 3) := by decide +kernel
theorem dX2_run_28 : decode cX2_run 28 = .ok (.ifCond .ne 12, 3) := by decide +kernel
theorem dX2_run_31 : decode cX2_run 31 = .ok (.aload_n 2, 1) := by decide +kernel
theorem dX2_run_32 : decode cX2_run 32 = .ok (.iload 4, 2) := by decide +kernel
theorem dX2_run_34 : decode cX2_run 34 = .ok (.invokevirtual 29, 3) := by decide +kernel
theorem dX2_run_37 : decode cX2_run 37 = .ok (.ifCond .eq 12, 3) := by decide +kernel
theorem dX2_run_40 : decode cX2_run 40 = .ok (.aload_n 0, 1) := by decide +kernel
theorem dX2_run_41 : decode cX2_run 41 = .ok (.iload 4, 2) := by decide +kernel
theorem dX2_run_43 : decode cX2_run 43 = .ok (.aload_n 1, 1) := by decide +kernel
theorem dX2_run_44 : decode cX2_run 44 = .ok (.aload_n 2, 1) := by decide +kernel
theorem dX2_run_45 : decode cX2_run 45 = .ok (.aload_n 3, 1) := by decide +kernel
theorem dX2_run_46 : decode cX2_run 46 = .ok (.invokevirtual 33, 3) := by decide +kernel
theorem dX2_run_49 : decode cX2_run 49 = .ok (.iinc 4 1, 3) := by decide +kernel
theorem dX2_run_52 : decode cX2_run 52 = .ok (.goto (-37), 3) := by decide +kernel
theorem dX2_run_55 : decode cX2_run 55 = .ok (.aload_n 0, 1) := by decide +kernel
theorem dX2_run_56 : decode cX2_run 56 = .ok (.getfield 22, 3) := by decide +kernel
theorem dX2_run_59 : decode cX2_run 59 = .ok (.ifCond .ne 7, 3) := by decide +kernel
theorem dX2_run_62 : decode cX2_run 62 = .ok (.aload_n 0, 1) := by decide +kernel
theorem dX2_run_63 : decode cX2_run 63 = .ok (.invokevirtual 37, 3) := by decide +kernel
theorem dX2_run_66 : decode cX2_run 66 = .ok (.aload_n 0, 1) := by decide +kernel
theorem dX2_run_67 : decode cX2_run 67 = .ok (.getfield 22, 3) := by decide +kernel
theorem dX2_run_70 : decode cX2_run 70 = .ok (.ifCond .ne 7, 3) := by decide +kernel
theorem dX2_run_73 : decode cX2_run 73 = .ok (.aload_n 0, 1) := by decide +kernel
theorem dX2_run_74 : decode cX2_run 74 = .ok (.invokevirtual 40, 3) := by decide +kernel
theorem dX2_run_77 : decode cX2_run 77 = .ok (.aload_n 0, 1) := by decide +kernel
theorem dX2_run_78 : decode cX2_run 78 = .ok (.getfield 22, 3) := by decide +kernel
theorem dX2_run_81 : decode cX2_run 81 = .ok (.ifCond .ne 9, 3) := by decide +kernel
theorem dX2_run_84 : decode cX2_run 84 = .ok (.aload_n 0, 1) := by decide +kernel
theorem dX2_run_85 : decode cX2_run 85 = .ok (.aload_n 1, 1) := by decide +kernel
theorem dX2_run_86 : decode cX2_run 86 = .ok (.aload_n 2, 1) := by decide +kernel
theorem dX2_run_87 : decode cX2_run 87 = .ok (.invokevirtual 43, 3) := by decide +kernel
theorem dX2_run_90 : decode cX2_run 90 = .ok (.aload_n 0, 1) := by decide +kernel
theorem dX2_run_91 : decode cX2_run 91 = .ok (.getfield 22, 3) := by decide +kernel
theorem dX2_run_94 : decode cX2_run 94 = .ok (.ireturn, 1) := by decide +kernel
set_option maxRecDepth 20000 in
theorem ggX2_settle_X4_holds : GoodIn wsX2_settle wsX4_holds := goodIn_r _ [8, 9, 25, 26, 27, 28, 29, 30] (by decide +kernel) (by decide +kernel)
set_option maxRecDepth 20000 in
theorem gX2_settle_X4_holds : GoodIn wsX2_settle (wsV RX2 29 RX4 yX4_holds wsX4_holds) := goodIn_app (goodIn_of _ (by decide +kernel)) ggX2_settle_X4_holds
set_option maxRecDepth 20000 in
theorem ggX2_settle_X4_hasAsIn : GoodIn wsX2_settle wsX4_hasAsIn := goodIn_r _ [13, 9, 14, 25, 26, 27, 28, 29, 30] (by decide +kernel) (by decide +kernel)
set_option maxRecDepth 20000 in
theorem gX2_settle_X4_hasAsIn : GoodIn wsX2_settle (wsV RX2 47 RX4 yX4_hasAsIn wsX4_hasAsIn) := goodIn_app (goodIn_of _ (by decide +kernel)) ggX2_settle_X4_hasAsIn
set_option maxRecDepth 20000 in
theorem ggX2_settle_X2_name : GoodIn wsX2_settle wsX2_name := goodIn_r _ [19, 20, 21, 31, 32, 33] (by decide +kernel) (by decide +kernel)
set_option maxRecDepth 20000 in
theorem gX2_settle_X2_name : GoodIn wsX2_settle (wsV RX2 51 RX2 yX2_name wsX2_name) := goodIn_app (goodIn_of _ (by decide +kernel)) ggX2_settle_X2_name
set_option maxRecDepth 20000 in
theorem ggX2_settle_X2_agreed : GoodIn wsX2_settle wsX2_agreed := goodIn_r _ [24] (by decide +kernel) (by decide +kernel)
set_option maxRecDepth 20000 in
theorem gX2_settle_X2_agreed : GoodIn wsX2_settle (va_wsS RX2 58 yX2_agreed wsX2_agreed) := goodIn_app (goodIn_of _ (by decide +kernel)) ggX2_settle_X2_agreed
theorem dX2_settle_0 : decode cX2_settle 0 = .ok (.aload_n 2, 1) := by decide +kernel
theorem dX2_settle_1 : decode cX2_settle 1 = .ok (.iload_n 1, 1) := by decide +kernel
theorem dX2_settle_2 : decode cX2_settle 2 = .ok (.invokevirtual 29, 3) := by decide +kernel
theorem dX2_settle_5 : decode cX2_settle 5 = .ok (.ifCond .eq 15, 3) := by decide +kernel
theorem dX2_settle_8 : decode cX2_settle 8 = .ok (.aload_n 3, 1) := by decide +kernel
theorem dX2_settle_9 : decode cX2_settle 9 = .ok (.iload_n 1, 1) := by decide +kernel
theorem dX2_settle_10 : decode cX2_settle 10 = .ok (.invokevirtual 29, 3) := by decide +kernel
theorem dX2_settle_13 : decode cX2_settle 13 = .ok (.ifCond .eq 7, 3) := by decide +kernel
theorem dX2_settle_16 : decode cX2_settle 16 = .ok (.iconst 1, 1) := by decide +kernel
theorem dX2_settle_17 : decode cX2_settle 17 = .ok (.goto 4, 3) := by decide +kernel
theorem dX2_settle_20 : decode cX2_settle 20 = .ok (.iconst 0, 1) := by decide +kernel
theorem dX2_settle_21 : decode cX2_settle 21 = .ok (.istore 5, 2) := by decide +kernel
theorem dX2_settle_23 : decode cX2_settle 23 = .ok (.iload 5, 2) := by decide +kernel
theorem dX2_settle_25 : decode cX2_settle 25 = .ok (.ifCond .ne 45, 3) := by decide +kernel
theorem dX2_settle_28 : decode cX2_settle 28 = .ok (.aload 4, 2) := by decide +kernel
theorem dX2_settle_30 : decode cX2_settle 30 = .ok (.iload_n 1, 1) := by decide +kernel
theorem dX2_settle_31 : decode cX2_settle 31 = .ok (.invokevirtual 29, 3) := by decide +kernel
theorem dX2_settle_34 : decode cX2_settle 34 = .ok (.ifCond .eq 36, 3) := by decide +kernel
theorem dX2_settle_37 : decode cX2_settle 37 = .ok (.aload_n 2, 1) := by decide +kernel
theorem dX2_settle_38 : decode cX2_settle 38 = .ok (.iload_n 1, 1) := by decide +kernel
theorem dX2_settle_39 : decode cX2_settle 39 = .ok (.invokevirtual 29, 3) := by decide +kernel
theorem dX2_settle_42 : decode cX2_settle 42 = .ok (.ifCond .eq 7, 3) := by decide +kernel
theorem dX2_settle_45 : decode cX2_settle 45 = .ok (.aload_n 2, 1) := by decide +kernel
theorem dX2_settle_46 : decode cX2_settle 46 = .ok (.goto 4, 3) := by decide +kernel
theorem dX2_settle_49 : decode cX2_settle 49 = .ok (.aload_n 3, 1) := by decide +kernel
theorem dX2_settle_50 : decode cX2_settle 50 = .ok (.astore 6, 2) := by decide +kernel
theorem dX2_settle_52 : decode cX2_settle 52 = .ok (.aload 6, 2) := by decide +kernel
theorem dX2_settle_54 : decode cX2_settle 54 = .ok (.aload 4, 2) := by decide +kernel
theorem dX2_settle_56 : decode cX2_settle 56 = .ok (.iload_n 1, 1) := by decide +kernel
theorem dX2_settle_57 : decode cX2_settle 57 = .ok (.invokevirtual 47, 3) := by decide +kernel
theorem dX2_settle_60 : decode cX2_settle 60 = .ok (.ifCond .ne 9, 3) := by decide +kernel
theorem dX2_settle_63 : decode cX2_settle 63 = .ok (.aload_n 0, 1) := by decide +kernel
theorem dX2_settle_64 : decode cX2_settle 64 = .ok (.iload_n 1, 1) := by decide +kernel
theorem dX2_settle_65 : decode cX2_settle 65 = .ok (.iconst 1, 1) := by decide +kernel
theorem dX2_settle_66 : decode cX2_settle 66 = .ok (.invokevirtual 51, 3) := by decide +kernel
theorem dX2_settle_69 : decode cX2_settle 69 = .ok (.return_, 1) := by decide +kernel
theorem dX2_settle_70 : decode cX2_settle 70 = .ok (.aload_n 2, 1) := by decide +kernel
theorem dX2_settle_71 : decode cX2_settle 71 = .ok (.getfield 55, 3) := by decide +kernel
theorem dX2_settle_74 : decode cX2_settle 74 = .ok (.iload_n 1, 1) := by decide +kernel
theorem dX2_settle_75 : decode cX2_settle 75 = .ok (.iaload, 1) := by decide +kernel
theorem dX2_settle_76 : decode cX2_settle 76 = .ok (.aload_n 3, 1) := by decide +kernel
theorem dX2_settle_77 : decode cX2_settle 77 = .ok (.getfield 55, 3) := by decide +kernel
theorem dX2_settle_80 : decode cX2_settle 80 = .ok (.iload_n 1, 1) := by decide +kernel
theorem dX2_settle_81 : decode cX2_settle 81 = .ok (.iaload, 1) := by decide +kernel
theorem dX2_settle_82 : decode cX2_settle 82 = .ok (.aload 4, 2) := by decide +kernel
theorem dX2_settle_84 : decode cX2_settle 84 = .ok (.getfield 55, 3) := by decide +kernel
theorem dX2_settle_87 : decode cX2_settle 87 = .ok (.iload_n 1, 1) := by decide +kernel
theorem dX2_settle_88 : decode cX2_settle 88 = .ok (.iaload, 1) := by decide +kernel
theorem dX2_settle_89 : decode cX2_settle 89 = .ok (.invokestatic 58, 3) := by decide +kernel
theorem dX2_settle_92 : decode cX2_settle 92 = .ok (.istore 6, 2) := by decide +kernel
theorem dX2_settle_94 : decode cX2_settle 94 = .ok (.aload_n 2, 1) := by decide +kernel
theorem dX2_settle_95 : decode cX2_settle 95 = .ok (.getfield 62, 3) := by decide +kernel
theorem dX2_settle_98 : decode cX2_settle 98 = .ok (.iload_n 1, 1) := by decide +kernel
theorem dX2_settle_99 : decode cX2_settle 99 = .ok (.iaload, 1) := by decide +kernel
theorem dX2_settle_100 : decode cX2_settle 100 = .ok (.aload_n 3, 1) := by decide +kernel
theorem dX2_settle_101 : decode cX2_settle 101 = .ok (.getfield 62, 3) := by decide +kernel
theorem dX2_settle_104 : decode cX2_settle 104 = .ok (.iload_n 1, 1) := by decide +kernel
theorem dX2_settle_105 : decode cX2_settle 105 = .ok (.iaload, 1) := by decide +kernel
theorem dX2_settle_106 : decode cX2_settle 106 = .ok (.aload 4, 2) := by decide +kernel
theorem dX2_settle_108 : decode cX2_settle 108 = .ok (.getfield 62, 3) := by decide +kernel
theorem dX2_settle_111 : decode cX2_settle 111 = .ok (.iload_n 1, 1) := by decide +kernel
theorem dX2_settle_112 : decode cX2_settle 112 = .ok (.iaload, 1) := by decide +kernel
theorem dX2_settle_113 : decode cX2_settle 113 = .ok (.invokestatic 58, 3) := by decide +kernel
theorem dX2_settle_116 : decode cX2_settle 116 = .ok (.istore 7, 2) := by decide +kernel
theorem dX2_settle_118 : decode cX2_settle 118 = .ok (.iload 6, 2) := by decide +kernel
theorem dX2_settle_120 : decode cX2_settle 120 = .ok (.bipush (-3), 2) := by decide +kernel
theorem dX2_settle_122 : decode cX2_settle 122 = .ok (.if_icmp .ne 12, 3) := by decide +kernel
theorem dX2_settle_125 : decode cX2_settle 125 = .ok (.aload_n 0, 1) := by decide +kernel
theorem dX2_settle_126 : decode cX2_settle 126 = .ok (.iload_n 1, 1) := by decide +kernel
theorem dX2_settle_127 : decode cX2_settle 127 = .ok (.iconst 2, 1) := by decide +kernel
theorem dX2_settle_128 : decode cX2_settle 128 = .ok (.invokevirtual 51, 3) := by decide +kernel
theorem dX2_settle_131 : decode cX2_settle 131 = .ok (.goto 41, 3) := by decide +kernel
theorem dX2_settle_134 : decode cX2_settle 134 = .ok (.iload 7, 2) := by decide +kernel
theorem dX2_settle_136 : decode cX2_settle 136 = .ok (.bipush (-3), 2) := by decide +kernel
theorem dX2_settle_138 : decode cX2_settle 138 = .ok (.if_icmp .ne 12, 3) := by decide +kernel
theorem dX2_settle_141 : decode cX2_settle 141 = .ok (.aload_n 0, 1) := by decide +kernel
theorem dX2_settle_142 : decode cX2_settle 142 = .ok (.iload_n 1, 1) := by decide +kernel
theorem dX2_settle_143 : decode cX2_settle 143 = .ok (.iconst 3, 1) := by decide +kernel
theorem dX2_settle_144 : decode cX2_settle 144 = .ok (.invokevirtual 51, 3) := by decide +kernel
theorem dX2_settle_147 : decode cX2_settle 147 = .ok (.goto 25, 3) := by decide +kernel
theorem dX2_settle_150 : decode cX2_settle 150 = .ok (.aload_n 0, 1) := by decide +kernel
theorem dX2_settle_151 : decode cX2_settle 151 = .ok (.getfield 12, 3) := by decide +kernel
theorem dX2_settle_154 : decode cX2_settle 154 = .ok (.getfield 55, 3) := by decide +kernel
theorem dX2_settle_157 : decode cX2_settle 157 = .ok (.iload_n 1, 1) := by decide +kernel
theorem dX2_settle_158 : decode cX2_settle 158 = .ok (.iload 6, 2) := by decide +kernel
theorem dX2_settle_160 : decode cX2_settle 160 = .ok (.iastore, 1) := by decide +kernel
theorem dX2_settle_161 : decode cX2_settle 161 = .ok (.aload_n 0, 1) := by decide +kernel
theorem dX2_settle_162 : decode cX2_settle 162 = .ok (.getfield 12, 3) := by decide +kernel
theorem dX2_settle_165 : decode cX2_settle 165 = .ok (.getfield 62, 3) := by decide +kernel
theorem dX2_settle_168 : decode cX2_settle 168 = .ok (.iload_n 1, 1) := by decide +kernel
theorem dX2_settle_169 : decode cX2_settle 169 = .ok (.iload 7, 2) := by decide +kernel
theorem dX2_settle_171 : decode cX2_settle 171 = .ok (.iastore, 1) := by decide +kernel
theorem dX2_settle_172 : decode cX2_settle 172 = .ok (.return_, 1) := by decide +kernel
theorem dX2_agreed_0 : decode cX2_agreed 0 = .ok (.iload_n 0, 1) := by decide +kernel
theorem dX2_agreed_1 : decode cX2_agreed 1 = .ok (.iload_n 1, 1) := by decide +kernel
theorem dX2_agreed_2 : decode cX2_agreed 2 = .ok (.if_icmp .eq 9, 3) := by decide +kernel
theorem dX2_agreed_5 : decode cX2_agreed 5 = .ok (.iload_n 1, 1) := by decide +kernel
theorem dX2_agreed_6 : decode cX2_agreed 6 = .ok (.bipush (-2), 2) := by decide +kernel
theorem dX2_agreed_8 : decode cX2_agreed 8 = .ok (.if_icmp .ne 5, 3) := by decide +kernel
theorem dX2_agreed_11 : decode cX2_agreed 11 = .ok (.iload_n 0, 1) := by decide +kernel
theorem dX2_agreed_12 : decode cX2_agreed 12 = .ok (.ireturn, 1) := by decide +kernel
theorem dX2_agreed_13 : decode cX2_agreed 13 = .ok (.iload_n 0, 1) := by decide +kernel
theorem dX2_agreed_14 : decode cX2_agreed 14 = .ok (.bipush (-2), 2) := by decide +kernel
theorem dX2_agreed_16 : decode cX2_agreed 16 = .ok (.if_icmp .eq 8, 3) := by decide +kernel
theorem dX2_agreed_19 : decode cX2_agreed 19 = .ok (.iload_n 0, 1) := by decide +kernel
theorem dX2_agreed_20 : decode cX2_agreed 20 = .ok (.iload_n 2, 1) := by decide +kernel
theorem dX2_agreed_21 : decode cX2_agreed 21 = .ok (.if_icmp .ne 5, 3) := by decide +kernel
theorem dX2_agreed_24 : decode cX2_agreed 24 = .ok (.iload_n 1, 1) := by decide +kernel
theorem dX2_agreed_25 : decode cX2_agreed 25 = .ok (.ireturn, 1) := by decide +kernel
theorem dX2_agreed_26 : decode cX2_agreed 26 = .ok (.iload_n 1, 1) := by decide +kernel
theorem dX2_agreed_27 : decode cX2_agreed 27 = .ok (.iload_n 2, 1) := by decide +kernel
theorem dX2_agreed_28 : decode cX2_agreed 28 = .ok (.if_icmp .ne 7, 3) := by decide +kernel
theorem dX2_agreed_31 : decode cX2_agreed 31 = .ok (.iload_n 0, 1) := by decide +kernel
theorem dX2_agreed_32 : decode cX2_agreed 32 = .ok (.goto 5, 3) := by decide +kernel
theorem dX2_agreed_35 : decode cX2_agreed 35 = .ok (.bipush (-3), 2) := by decide +kernel
theorem dX2_agreed_37 : decode cX2_agreed 37 = .ok (.ireturn, 1) := by decide +kernel
theorem dX2_name_0 : decode cX2_name 0 = .ok (.aload_n 0, 1) := by decide +kernel
theorem dX2_name_1 : decode cX2_name 1 = .ok (.getfield 18, 3) := by decide +kernel
theorem dX2_name_4 : decode cX2_name 4 = .ok (.aload_n 0, 1) := by decide +kernel
theorem dX2_name_5 : decode cX2_name 5 = .ok (.getfield 22, 3) := by decide +kernel
theorem dX2_name_8 : decode cX2_name 8 = .ok (.iload_n 1, 1) := by decide +kernel
theorem dX2_name_9 : decode cX2_name 9 = .ok (.bipush 32, 2) := by decide +kernel
theorem dX2_name_11 : decode cX2_name 11 = .ok (.iload_n 2, 1) := by decide +kernel
theorem dX2_name_12 : decode cX2_name 12 = .ok (.imul, 1) := by decide +kernel
theorem dX2_name_13 : decode cX2_name 13 = .ok (.iadd, 1) := by decide +kernel
theorem dX2_name_14 : decode cX2_name 14 = .ok (.iastore, 1) := by decide +kernel
theorem dX2_name_15 : decode cX2_name 15 = .ok (.aload_n 0, 1) := by decide +kernel
theorem dX2_name_16 : decode cX2_name 16 = .ok (.dup, 1) := by decide +kernel
theorem dX2_name_17 : decode cX2_name 17 = .ok (.getfield 22, 3) := by decide +kernel
theorem dX2_name_20 : decode cX2_name 20 = .ok (.iconst 1, 1) := by decide +kernel
theorem dX2_name_21 : decode cX2_name 21 = .ok (.iadd, 1) := by decide +kernel
theorem dX2_name_22 : decode cX2_name 22 = .ok (.putfield 22, 3) := by decide +kernel
theorem dX2_name_25 : decode cX2_name 25 = .ok (.return_, 1) := by decide +kernel
set_option maxRecDepth 20000 in
theorem ggX2_nameThoseWithoutParent_X4_holds : GoodIn wsX2_nameThoseWithoutParent wsX4_holds := goodIn_r _ [7, 8, 19, 20, 21, 22, 23, 24] (by decide +kernel) (by decide +kernel)
set_option maxRecDepth 20000 in
theorem gX2_nameThoseWithoutParent_X4_holds : GoodIn wsX2_nameThoseWithoutParent (wsV RX2 29 RX4 yX4_holds wsX4_holds) := goodIn_app (goodIn_of _ (by decide +kernel)) ggX2_nameThoseWithoutParent_X4_holds
set_option maxRecDepth 20000 in
theorem ggX2_nameThoseWithoutParent_X2_name : GoodIn wsX2_nameThoseWithoutParent wsX2_name := goodIn_r _ [13, 14, 15, 16, 17, 18] (by decide +kernel) (by decide +kernel)
set_option maxRecDepth 20000 in
theorem gX2_nameThoseWithoutParent_X2_name : GoodIn wsX2_nameThoseWithoutParent (wsV RX2 51 RX2 yX2_name wsX2_name) := goodIn_app (goodIn_of _ (by decide +kernel)) ggX2_nameThoseWithoutParent_X2_name
theorem dX2_nameThoseWithoutParent_0 : decode cX2_nameThoseWithoutParent 0 = .ok (.iconst 1, 1) := by decide +kernel
theorem dX2_nameThoseWithoutParent_1 : decode cX2_nameThoseWithoutParent 1 = .ok (.istore_n 1, 1) := by decide +kernel
theorem dX2_nameThoseWithoutParent_2 : decode cX2_nameThoseWithoutParent 2 = .ok (.iload_n 1, 1) := by decide +kernel
theorem dX2_nameThoseWithoutParent_3 : decode cX2_nameThoseWithoutParent 3 = .ok (.bipush 24, 2) := by decide +kernel
theorem dX2_nameThoseWithoutParent_5 : decode cX2_nameThoseWithoutParent 5 = .ok (.if_icmp .ge 45, 3) := by decide +kernel
theorem dX2_nameThoseWithoutParent_8 : decode cX2_nameThoseWithoutParent 8 = .ok (.aload_n 0, 1) := by decide +kernel
theorem dX2_nameThoseWithoutParent_9 : decode cX2_nameThoseWithoutParent 9 = .ok (.getfield 12, 3) := by decide +kernel
theorem dX2_nameThoseWithoutParent_12 : decode cX2_nameThoseWithoutParent 12 = .ok (.iload_n 1, 1) := by decide +kernel
theorem dX2_nameThoseWithoutParent_13 : decode cX2_nameThoseWithoutParent 13 = .ok (.invokevirtual 29, 3) := by decide +kernel
theorem dX2_nameThoseWithoutParent_16 : decode cX2_nameThoseWithoutParent 16 = .ok (.ifCond .eq 28, 3) := by decide +kernel
theorem dX2_nameThoseWithoutParent_19 : decode cX2_nameThoseWithoutParent 19 = .ok (.aload_n 0, 1) := by decide +kernel
theorem dX2_nameThoseWithoutParent_20 : decode cX2_nameThoseWithoutParent 20 = .ok (.getfield 12, 3) := by decide +kernel
theorem dX2_nameThoseWithoutParent_23 : decode cX2_nameThoseWithoutParent 23 = .ok (.aload_n 0, 1) := by decide +kernel
theorem dX2_nameThoseWithoutParent_24 : decode cX2_nameThoseWithoutParent 24 = .ok (.getfield 12, 3) := by decide +kernel
theorem dX2_nameThoseWithoutParent_27 : decode cX2_nameThoseWithoutParent 27 = .ok (.getfield 62, 3) := by decide +kernel
theorem dX2_nameThoseWithoutParent_30 : decode cX2_nameThoseWithoutParent 30 = .ok (.iload_n 1, 1) := by decide +kernel
theorem dX2_nameThoseWithoutParent_31 : decode cX2_nameThoseWithoutParent 31 = .ok (.iaload, 1) := by decide +kernel
theorem dX2_nameThoseWithoutParent_32 : decode cX2_nameThoseWithoutParent 32 = .ok (.invokevirtual 29, 3) := by decide +kernel
theorem dX2_nameThoseWithoutParent_35 : decode cX2_nameThoseWithoutParent 35 = .ok (.ifCond .ne 9, 3) := by decide +kernel
theorem dX2_nameThoseWithoutParent_38 : decode cX2_nameThoseWithoutParent 38 = .ok (.aload_n 0, 1) := by decide +kernel
theorem dX2_nameThoseWithoutParent_39 : decode cX2_nameThoseWithoutParent 39 = .ok (.iload_n 1, 1) := by decide +kernel
theorem dX2_nameThoseWithoutParent_40 : decode cX2_nameThoseWithoutParent 40 = .ok (.iconst 4, 1) := by decide +kernel
theorem dX2_nameThoseWithoutParent_41 : decode cX2_nameThoseWithoutParent 41 = .ok (.invokevirtual 51, 3) := by decide +kernel
theorem dX2_nameThoseWithoutParent_44 : decode cX2_nameThoseWithoutParent 44 = .ok (.iinc 1 1, 3) := by decide +kernel
theorem dX2_nameThoseWithoutParent_47 : decode cX2_nameThoseWithoutParent 47 = .ok (.goto (-45), 3) := by decide +kernel
theorem dX2_nameThoseWithoutParent_50 : decode cX2_nameThoseWithoutParent 50 = .ok (.return_, 1) := by decide +kernel
set_option maxRecDepth 20000 in
theorem ggX2_nameThoseCutOff_X4_holds : GoodIn wsX2_nameThoseCutOff wsX4_holds := goodIn_r _ [6, 7, 23, 24, 25, 26, 27, 28] (by decide +kernel) (by decide +kernel)
set_option maxRecDepth 20000 in
theorem gX2_nameThoseCutOff_X4_holds : GoodIn wsX2_nameThoseCutOff (wsV RX2 29 RX4 yX4_holds wsX4_holds) := goodIn_app (goodIn_of _ (by decide +kernel)) ggX2_nameThoseCutOff_X4_holds
set_option maxRecDepth 20000 in
theorem ggX2_nameThoseCutOff_X2_comesToRoot : GoodIn wsX2_nameThoseCutOff wsX2_comesToRoot := goodIn_r _ [12, 1, 13, 20, 21, 22, 23, 24, 25, 26, 27, 28] (by decide +kernel) (by decide +kernel)
set_option maxRecDepth 20000 in
theorem gX2_nameThoseCutOff_X2_comesToRoot : GoodIn wsX2_nameThoseCutOff (wsV RX2 65 RX2 yX2_comesToRoot wsX2_comesToRoot) := goodIn_app (goodIn_of _ (by decide +kernel)) ggX2_nameThoseCutOff_X2_comesToRoot
set_option maxRecDepth 20000 in
theorem ggX2_nameThoseCutOff_X2_name : GoodIn wsX2_nameThoseCutOff wsX2_name := goodIn_r _ [17, 18, 19, 20, 21, 22] (by decide +kernel) (by decide +kernel)
set_option maxRecDepth 20000 in
theorem gX2_nameThoseCutOff_X2_name : GoodIn wsX2_nameThoseCutOff (wsV RX2 51 RX2 yX2_name wsX2_name) := goodIn_app (goodIn_of _ (by decide +kernel)) ggX2_nameThoseCutOff_X2_name
theorem dX2_nameThoseCutOff_0 : decode cX2_nameThoseCutOff 0 = .ok (.iconst 1, 1) := by decide +kernel
theorem dX2_nameThoseCutOff_1 : decode cX2_nameThoseCutOff 1 = .ok (.istore_n 1, 1) := by decide +kernel
theorem dX2_nameThoseCutOff_2 : decode cX2_nameThoseCutOff 2 = .ok (.iload_n 1, 1) := by decide +kernel
theorem dX2_nameThoseCutOff_3 : decode cX2_nameThoseCutOff 3 = .ok (.bipush 24, 2) := by decide +kernel
theorem dX2_nameThoseCutOff_5 : decode cX2_nameThoseCutOff 5 = .ok (.if_icmp .ge 34, 3) := by decide +kernel
theorem dX2_nameThoseCutOff_8 : decode cX2_nameThoseCutOff 8 = .ok (.aload_n 0, 1) := by decide +kernel
theorem dX2_nameThoseCutOff_9 : decode cX2_nameThoseCutOff 9 = .ok (.getfield 12, 3) := by decide +kernel
theorem dX2_nameThoseCutOff_12 : decode cX2_nameThoseCutOff 12 = .ok (.iload_n 1, 1) := by decide +kernel
theorem dX2_nameThoseCutOff_13 : decode cX2_nameThoseCutOff 13 = .ok (.invokevirtual 29, 3) := by decide +kernel
theorem dX2_nameThoseCutOff_16 : decode cX2_nameThoseCutOff 16 = .ok (.ifCond .eq 17, 3) := by decide +kernel
theorem dX2_nameThoseCutOff_19 : decode cX2_nameThoseCutOff 19 = .ok (.aload_n 0, 1) := by decide +kernel
theorem dX2_nameThoseCutOff_20 : decode cX2_nameThoseCutOff 20 = .ok (.iload_n 1, 1) := by decide +kernel
theorem dX2_nameThoseCutOff_21 : decode cX2_nameThoseCutOff 21 = .ok (.invokevirtual 65, 3) := by decide +kernel
theorem dX2_nameThoseCutOff_24 : decode cX2_nameThoseCutOff 24 = .ok (.ifCond .ne 9, 3) := by decide +kernel
theorem dX2_nameThoseCutOff_27 : decode cX2_nameThoseCutOff 27 = .ok (.aload_n 0, 1) := by decide +kernel
theorem dX2_nameThoseCutOff_28 : decode cX2_nameThoseCutOff 28 = .ok (.iload_n 1, 1) := by decide +kernel
theorem dX2_nameThoseCutOff_29 : decode cX2_nameThoseCutOff 29 = .ok (.iconst 5, 1) := by decide +kernel
theorem dX2_nameThoseCutOff_30 : decode cX2_nameThoseCutOff 30 = .ok (.invokevirtual 51, 3) := by decide +kernel
theorem dX2_nameThoseCutOff_33 : decode cX2_nameThoseCutOff 33 = .ok (.iinc 1 1, 3) := by decide +kernel
theorem dX2_nameThoseCutOff_36 : decode cX2_nameThoseCutOff 36 = .ok (.goto (-34), 3) := by decide +kernel
theorem dX2_nameThoseCutOff_39 : decode cX2_nameThoseCutOff 39 = .ok (.return_, 1) := by decide +kernel
theorem dX2_comesToRoot_0 : decode cX2_comesToRoot 0 = .ok (.iload_n 1, 1) := by decide +kernel
theorem dX2_comesToRoot_1 : decode cX2_comesToRoot 1 = .ok (.istore_n 2, 1) := by decide +kernel
theorem dX2_comesToRoot_2 : decode cX2_comesToRoot 2 = .ok (.iconst 0, 1) := by decide +kernel
theorem dX2_comesToRoot_3 : decode cX2_comesToRoot 3 = .ok (.istore_n 3, 1) := by decide +kernel
theorem dX2_comesToRoot_4 : decode cX2_comesToRoot 4 = .ok (.iload_n 3, 1) := by decide +kernel
theorem dX2_comesToRoot_5 : decode cX2_comesToRoot 5 = .ok (.bipush 24, 2) := by decide +kernel
theorem dX2_comesToRoot_7 : decode cX2_comesToRoot 7 = .ok (.if_icmp .ge 23, 3) := by decide +kernel
theorem dX2_comesToRoot_10 : decode cX2_comesToRoot 10 = .ok (.iload_n 2, 1) := by decide +kernel
theorem dX2_comesToRoot_11 : decode cX2_comesToRoot 11 = .ok (.ifCond .le 19, 3) := by decide +kernel
theorem dX2_comesToRoot_14 : decode cX2_comesToRoot 14 = .ok (.aload_n 0, 1) := by decide +kernel
theorem dX2_comesToRoot_15 : decode cX2_comesToRoot 15 = .ok (.getfield 12, 3) := by decide +kernel
theorem dX2_comesToRoot_18 : decode cX2_comesToRoot 18 = .ok (.getfield 62, 3) := by decide +kernel
theorem dX2_comesToRoot_21 : decode cX2_comesToRoot 21 = .ok (.iload_n 2, 1) := by decide +kernel
theorem dX2_comesToRoot_22 : decode cX2_comesToRoot 22 = .ok (.iaload, 1) := by decide +kernel
theorem dX2_comesToRoot_23 : decode cX2_comesToRoot 23 = .ok (.istore_n 2, 1) := by decide +kernel
theorem dX2_comesToRoot_24 : decode cX2_comesToRoot 24 = .ok (.iinc 3 1, 3) := by decide +kernel
theorem dX2_comesToRoot_27 : decode cX2_comesToRoot 27 = .ok (.goto (-23), 3) := by decide +kernel
theorem dX2_comesToRoot_30 : decode cX2_comesToRoot 30 = .ok (.iload_n 2, 1) := by decide +kernel
theorem dX2_comesToRoot_31 : decode cX2_comesToRoot 31 = .ok (.ifCond .ne 7, 3) := by decide +kernel
theorem dX2_comesToRoot_34 : decode cX2_comesToRoot 34 = .ok (.iconst 1, 1) := by decide +kernel
theorem dX2_comesToRoot_35 : decode cX2_comesToRoot 35 = .ok (.goto 4, 3) := by decide +kernel
theorem dX2_comesToRoot_38 : decode cX2_comesToRoot 38 = .ok (.iconst 0, 1) := by decide +kernel
theorem dX2_comesToRoot_39 : decode cX2_comesToRoot 39 = .ok (.ireturn, 1) := by decide +kernel
set_option maxRecDepth 20000 in
theorem ggX2_arrange_X4_putInto : GoodIn wsX2_arrange wsX4_putInto := goodIn_r _ [7, 8, 9, 10, 11, 6, 12, 13, 14, 15, 16, 17, 18, 19, 20, 21, 22, 23, 39, 40, 41, 42, 43, 44] (by decide +kernel) (by decide +kernel)
set_option maxRecDepth 20000 in
theorem gX2_arrange_X4_putInto : GoodIn wsX2_arrange (wsV RX2 68 RX4 yX4_putInto wsX4_putInto) := goodIn_app (goodIn_of _ (by decide +kernel)) ggX2_arrange_X4_putInto
set_option maxRecDepth 20000 in
theorem ggX2_arrange_X2_arrangeChildren : GoodIn wsX2_arrange wsX2_arrangeChildren := goodIn_r _ [28, 1, 29, 2, 30, 31, 32, 33, 27, 34, 35, 3, 4, 5, 6, 7, 8, 9, 10, 11, 12, 13, 14, 15, 16, 17, 18, 19, 20, 21, 22, 23, 36, 37, 38, 39, 40, 41, 42, 43, 44] (by decide +kernel) (by decide +kernel)
set_option maxRecDepth 20000 in
theorem gX2_arrange_X2_arrangeChildren : GoodIn wsX2_arrange (wsV RX2 74 RX2 yX2_arrangeChildren wsX2_arrangeChildren) := goodIn_app (goodIn_of _ (by decide +kernel)) ggX2_arrange_X2_arrangeChildren
theorem dX2_arrange_0 : decode cX2_arrange 0 = .ok (.aload_n 0, 1) := by decide +kernel
theorem dX2_arrange_1 : decode cX2_arrange 1 = .ok (.getfield 12, 3) := by decide +kernel
theorem dX2_arrange_4 : decode cX2_arrange 4 = .ok (.iconst 0, 1) := by decide +kernel
theorem dX2_arrange_5 : decode cX2_arrange 5 = .ok (.iconst 0, 1) := by decide +kernel
theorem dX2_arrange_6 : decode cX2_arrange 6 = .ok (.invokevirtual 68, 3) := by decide +kernel
theorem dX2_arrange_9 : decode cX2_arrange 9 = .ok (.iconst 0, 1) := by decide +kernel
theorem dX2_arrange_10 : decode cX2_arrange 10 = .ok (.istore_n 3, 1) := by decide +kernel
theorem dX2_arrange_11 : decode cX2_arrange 11 = .ok (.iload_n 3, 1) := by decide +kernel
theorem dX2_arrange_12 : decode cX2_arrange 12 = .ok (.bipush 24, 2) := by decide +kernel
theorem dX2_arrange_14 : decode cX2_arrange 14 = .ok (.if_icmp .ge 27, 3) := by decide +kernel
theorem dX2_arrange_17 : decode cX2_arrange 17 = .ok (.iload_n 3, 1) := by decide +kernel
theorem dX2_arrange_18 : decode cX2_arrange 18 = .ok (.aload_n 0, 1) := by decide +kernel
theorem dX2_arrange_19 : decode cX2_arrange 19 = .ok (.getfield 12, 3) := by decide +kernel
theorem dX2_arrange_22 : decode cX2_arrange 22 = .ok (.getfield 71, 3) := by decide +kernel
theorem dX2_arrange_25 : decode cX2_arrange 25 = .ok (.if_icmp .ge 16, 3) := by decide +kernel
theorem dX2_arrange_28 : decode cX2_arrange 28 = .ok (.aload_n 0, 1) := by decide +kernel
theorem dX2_arrange_29 : decode cX2_arrange 29 = .ok (.iload_n 3, 1) := by decide +kernel
theorem dX2_arrange_30 : decode cX2_arrange 30 = .ok (.aload_n 1, 1) := by decide +kernel
theorem dX2_arrange_31 : decode cX2_arrange 31 = .ok (.aload_n 2, 1) := by decide +kernel
theorem dX2_arrange_32 : decode cX2_arrange 32 = .ok (.invokevirtual 74, 3) := by decide +kernel
theorem dX2_arrange_35 : decode cX2_arrange 35 = .ok (.iinc 3 1, 3) := by decide +kernel
theorem dX2_arrange_38 : decode cX2_arrange 38 = .ok (.goto (-27), 3) := by decide +kernel
theorem dX2_arrange_41 : decode cX2_arrange 41 = .ok (.return_, 1) := by decide +kernel
set_option maxRecDepth 20000 in
theorem ggX2_arrangeChildren_X2_isChildNowAsIn : GoodIn wsX2_arrangeChildren wsX2_isChildNowAsIn := goodIn_r _ [9, 10, 1, 35, 36, 37, 38, 39, 40, 32, 33, 34] (by decide +kernel) (by decide +kernel)
set_option maxRecDepth 20000 in
theorem gX2_arrangeChildren_X2_isChildNowAsIn : GoodIn wsX2_arrangeChildren (wsV RX2 81 RX2 yX2_isChildNowAsIn wsX2_isChildNowAsIn) := goodIn_app (goodIn_of _ (by decide +kernel)) ggX2_arrangeChildren_X2_isChildNowAsIn
set_option maxRecDepth 20000 in
theorem ggX2_arrangeChildren_X4_putInto : GoodIn wsX2_arrangeChildren wsX4_putInto := goodIn_r _ [15, 16, 17, 18, 19, 14, 20, 21, 22, 23, 24, 25, 26, 27, 28, 29, 30, 31, 35, 36, 37, 38, 39, 40] (by decide +kernel) (by decide +kernel)
set_option maxRecDepth 20000 in
theorem gX2_arrangeChildren_X4_putInto : GoodIn wsX2_arrangeChildren (wsV RX2 68 RX4 yX4_putInto wsX4_putInto) := goodIn_app (goodIn_of _ (by decide +kernel)) ggX2_arrangeChildren_X4_putInto
theorem dX2_arrangeChildren_0 : decode cX2_arrangeChildren 0 = .ok (.aload_n 0, 1) := by decide +kernel
theorem dX2_arrangeChildren_1 : decode cX2_arrangeChildren 1 = .ok (.getfield 12, 3) := by decide +kernel
theorem dX2_arrangeChildren_4 : decode cX2_arrangeChildren 4 = .ok (.getfield 78, 3) := by decide +kernel
theorem dX2_arrangeChildren_7 : decode cX2_arrangeChildren 7 = .ok (.iload_n 1, 1) := by decide +kernel
theorem dX2_arrangeChildren_8 : decode cX2_arrangeChildren 8 = .ok (.iaload, 1) := by decide +kernel
theorem dX2_arrangeChildren_9 : decode cX2_arrangeChildren 9 = .ok (.istore 4, 2) := by decide +kernel
theorem dX2_arrangeChildren_11 : decode cX2_arrangeChildren 11 = .ok (.iload_n 1, 1) := by decide +kernel
theorem dX2_arrangeChildren_12 : decode cX2_arrangeChildren 12 = .ok (.iconst 1, 1) := by decide +kernel
theorem dX2_arrangeChildren_13 : decode cX2_arrangeChildren 13 = .ok (.iadd, 1) := by decide +kernel
theorem dX2_arrangeChildren_14 : decode cX2_arrangeChildren 14 = .ok (.istore 5, 2) := by decide +kernel
theorem dX2_arrangeChildren_16 : decode cX2_arrangeChildren 16 = .ok (.iconst 0, 1) := by decide +kernel
theorem dX2_arrangeChildren_17 : decode cX2_arrangeChildren 17 = .ok (.istore 6, 2) := by decide +kernel
theorem dX2_arrangeChildren_19 : decode cX2_arrangeChildren 19 = .ok (.iload 6, 2) := by decide +kernel
theorem dX2_arrangeChildren_21 : decode cX2_arrangeChildren 21 = .ok (.aload_n 2, 1) := by decide +kernel
theorem dX2_arrangeChildren_22 : decode cX2_arrangeChildren 22 = .ok (.getfield 71, 3) := by decide +kernel
theorem dX2_arrangeChildren_25 : decode cX2_arrangeChildren 25 = .ok (.if_icmp .ge 44, 3) := by decide +kernel
theorem dX2_arrangeChildren_28 : decode cX2_arrangeChildren 28 = .ok (.aload_n 2, 1) := by decide +kernel
theorem dX2_arrangeChildren_29 : decode cX2_arrangeChildren 29 = .ok (.getfield 78, 3) := by decide +kernel
theorem dX2_arrangeChildren_32 : decode cX2_arrangeChildren 32 = .ok (.iload 6, 2) := by decide +kernel
theorem dX2_arrangeChildren_34 : decode cX2_arrangeChildren 34 = .ok (.iaload, 1) := by decide +kernel
theorem dX2_arrangeChildren_35 : decode cX2_arrangeChildren 35 = .ok (.istore 7, 2) := by decide +kernel
theorem dX2_arrangeChildren_37 : decode cX2_arrangeChildren 37 = .ok (.aload_n 0, 1) := by decide +kernel
theorem dX2_arrangeChildren_38 : decode cX2_arrangeChildren 38 = .ok (.aload_n 2, 1) := by decide +kernel
theorem dX2_arrangeChildren_39 : decode cX2_arrangeChildren 39 = .ok (.iload 7, 2) := by decide +kernel
theorem dX2_arrangeChildren_41 : decode cX2_arrangeChildren 41 = .ok (.iload 4, 2) := by decide +kernel
theorem dX2_arrangeChildren_43 : decode cX2_arrangeChildren 43 = .ok (.invokevirtual 81, 3) := by decide +kernel
theorem dX2_arrangeChildren_46 : decode cX2_arrangeChildren 46 = .ok (.ifCond .eq 17, 3) := by decide +kernel
theorem dX2_arrangeChildren_49 : decode cX2_arrangeChildren 49 = .ok (.aload_n 0, 1) := by decide +kernel
theorem dX2_arrangeChildren_50 : decode cX2_arrangeChildren 50 = .ok (.getfield 12, 3) := by decide +kernel
theorem dX2_arrangeChildren_53 : decode cX2_arrangeChildren 53 = .ok (.iload 5, 2) := by decide +kernel
theorem dX2_arrangeChildren_55 : decode cX2_arrangeChildren 55 = .ok (.iload 7, 2) := by decide +kernel
theorem dX2_arrangeChildren_57 : decode cX2_arrangeChildren 57 = .ok (.invokevirtual 68, 3) := by decide +kernel
theorem dX2_arrangeChildren_60 : decode cX2_arrangeChildren 60 = .ok (.iinc 5 1, 3) := by decide +kernel
theorem dX2_arrangeChildren_63 : decode cX2_arrangeChildren 63 = .ok (.iinc 6 1, 3) := by decide +kernel
theorem dX2_arrangeChildren_66 : decode cX2_arrangeChildren 66 = .ok (.goto (-47), 3) := by decide +kernel
theorem dX2_arrangeChildren_69 : decode cX2_arrangeChildren 69 = .ok (.iload_n 1, 1) := by decide +kernel
theorem dX2_arrangeChildren_70 : decode cX2_arrangeChildren 70 = .ok (.iconst 1, 1) := by decide +kernel
theorem dX2_arrangeChildren_71 : decode cX2_arrangeChildren 71 = .ok (.iadd, 1) := by decide +kernel
theorem dX2_arrangeChildren_72 : decode cX2_arrangeChildren 72 = .ok (.istore 5, 2) := by decide +kernel
theorem dX2_arrangeChildren_74 : decode cX2_arrangeChildren 74 = .ok (.iconst 0, 1) := by decide +kernel
theorem dX2_arrangeChildren_75 : decode cX2_arrangeChildren 75 = .ok (.istore 6, 2) := by decide +kernel
theorem dX2_arrangeChildren_77 : decode cX2_arrangeChildren 77 = .ok (.iload 6, 2) := by decide +kernel
theorem dX2_arrangeChildren_79 : decode cX2_arrangeChildren 79 = .ok (.aload_n 3, 1) := by decide +kernel
theorem dX2_arrangeChildren_80 : decode cX2_arrangeChildren 80 = .ok (.getfield 71, 3) := by decide +kernel
theorem dX2_arrangeChildren_83 : decode cX2_arrangeChildren 83 = .ok (.if_icmp .ge 67, 3) := by decide +kernel
theorem dX2_arrangeChildren_86 : decode cX2_arrangeChildren 86 = .ok (.aload_n 3, 1) := by decide +kernel
theorem dX2_arrangeChildren_87 : decode cX2_arrangeChildren 87 = .ok (.getfield 78, 3) := by decide +kernel
theorem dX2_arrangeChildren_90 : decode cX2_arrangeChildren 90 = .ok (.iload 6, 2) := by decide +kernel
theorem dX2_arrangeChildren_92 : decode cX2_arrangeChildren 92 = .ok (.iaload, 1) := by decide +kernel
theorem dX2_arrangeChildren_93 : decode cX2_arrangeChildren 93 = .ok (.istore 7, 2) := by decide +kernel
theorem dX2_arrangeChildren_95 : decode cX2_arrangeChildren 95 = .ok (.aload_n 0, 1) := by decide +kernel
theorem dX2_arrangeChildren_96 : decode cX2_arrangeChildren 96 = .ok (.aload_n 3, 1) := by decide +kernel
theorem dX2_arrangeChildren_97 : decode cX2_arrangeChildren 97 = .ok (.iload 7, 2) := by decide +kernel
theorem dX2_arrangeChildren_99 : decode cX2_arrangeChildren 99 = .ok (.iload 4, 2) := by decide +kernel
theorem dX2_arrangeChildren_101 : decode cX2_arrangeChildren 101 = .ok (.invokevirtual 81, 3) := by decide +kernel
theorem dX2_arrangeChildren_104 : decode cX2_arrangeChildren 104 = .ok (.ifCond .eq 40, 3) := by decide +kernel
theorem dX2_arrangeChildren_107 : decode cX2_arrangeChildren 107 = .ok (.aload_n 0, 1) := by decide +kernel
theorem dX2_arrangeChildren_108 : decode cX2_arrangeChildren 108 = .ok (.aload_n 2, 1) := by decide +kernel
theorem dX2_arrangeChildren_109 : decode cX2_arrangeChildren 109 = .ok (.iload 7, 2) := by decide +kernel
theorem dX2_arrangeChildren_111 : decode cX2_arrangeChildren 111 = .ok (.iload 4, 2) := by decide +kernel
theorem dX2_arrangeChildren_113 : decode cX2_arrangeChildren 113 = .ok (.invokevirtual 81, 3) := by decide +kernel
theorem dX2_arrangeChildren_116 : decode cX2_arrangeChildren 116 = .ok (.ifCond .ne 14, 3) := by decide +kernel
theorem dX2_arrangeChildren_119 : decode cX2_arrangeChildren 119 = .ok (.aload_n 0, 1) := by decide +kernel
theorem dX2_arrangeChildren_120 : decode cX2_arrangeChildren 120 = .ok (.getfield 12, 3) := by decide +kernel
theorem dX2_arrangeChildren_123 : decode cX2_arrangeChildren 123 = .ok (.iload 5, 2) := by decide +kernel
theorem dX2_arrangeChildren_125 : decode cX2_arrangeChildren 125 = .ok (.iload 7, 2) := by decide +kernel
theorem dX2_arrangeChildren_127 : decode cX2_arrangeChildren 127 = .ok (.invokevirtual 68, 3) := by decide +kernel
theorem dX2_arrangeChildren_130 : decode cX2_arrangeChildren 130 = .ok (.aload_n 0, 1) := by decide +kernel
theorem dX2_arrangeChildren_131 : decode cX2_arrangeChildren 131 = .ok (.getfield 12, 3) := by decide +kernel
theorem dX2_arrangeChildren_134 : decode cX2_arrangeChildren 134 = .ok (.getfield 85, 3) := by decide +kernel
theorem dX2_arrangeChildren_137 : decode cX2_arrangeChildren 137 = .ok (.iload 7, 2) := by decide +kernel
theorem dX2_arrangeChildren_139 : decode cX2_arrangeChildren 139 = .ok (.iaload, 1) := by decide +kernel
theorem dX2_arrangeChildren_140 : decode cX2_arrangeChildren 140 = .ok (.iconst 1, 1) := by decide +kernel
theorem dX2_arrangeChildren_141 : decode cX2_arrangeChildren 141 = .ok (.iadd, 1) := by decide +kernel
theorem dX2_arrangeChildren_142 : decode cX2_arrangeChildren 142 = .ok (.istore 5, 2) := by decide +kernel
theorem dX2_arrangeChildren_144 : decode cX2_arrangeChildren 144 = .ok (.iinc 6 1, 3) := by decide +kernel
theorem dX2_arrangeChildren_147 : decode cX2_arrangeChildren 147 = .ok (.goto (-70), 3) := by decide +kernel
theorem dX2_arrangeChildren_150 : decode cX2_arrangeChildren 150 = .ok (.return_, 1) := by decide +kernel
theorem dX2_isChildNowAsIn_0 : decode cX2_isChildNowAsIn 0 = .ok (.aload_n 1, 1) := by decide +kernel
theorem dX2_isChildNowAsIn_1 : decode cX2_isChildNowAsIn 1 = .ok (.getfield 62, 3) := by decide +kernel
theorem dX2_isChildNowAsIn_4 : decode cX2_isChildNowAsIn 4 = .ok (.iload_n 2, 1) := by decide +kernel
theorem dX2_isChildNowAsIn_5 : decode cX2_isChildNowAsIn 5 = .ok (.iaload, 1) := by decide +kernel
theorem dX2_isChildNowAsIn_6 : decode cX2_isChildNowAsIn 6 = .ok (.iload_n 3, 1) := by decide +kernel
theorem dX2_isChildNowAsIn_7 : decode cX2_isChildNowAsIn 7 = .ok (.if_icmp .ne 20, 3) := by decide +kernel
theorem dX2_isChildNowAsIn_10 : decode cX2_isChildNowAsIn 10 = .ok (.aload_n 0, 1) := by decide +kernel
theorem dX2_isChildNowAsIn_11 : decode cX2_isChildNowAsIn 11 = .ok (.getfield 12, 3) := by decide +kernel
theorem dX2_isChildNowAsIn_14 : decode cX2_isChildNowAsIn 14 = .ok (.getfield 62, 3) := by decide +kernel
theorem dX2_isChildNowAsIn_17 : decode cX2_isChildNowAsIn 17 = .ok (.iload_n 2, 1) := by decide +kernel
theorem dX2_isChildNowAsIn_18 : decode cX2_isChildNowAsIn 18 = .ok (.iaload, 1) := by decide +kernel
theorem dX2_isChildNowAsIn_19 : decode cX2_isChildNowAsIn 19 = .ok (.iload_n 3, 1) := by decide +kernel
theorem dX2_isChildNowAsIn_20 : decode cX2_isChildNowAsIn 20 = .ok (.if_icmp .ne 7, 3) := by decide +kernel
theorem dX2_isChildNowAsIn_23 : decode cX2_isChildNowAsIn 23 = .ok (.iconst 1, 1) := by decide +kernel
theorem dX2_isChildNowAsIn_24 : decode cX2_isChildNowAsIn 24 = .ok (.goto 4, 3) := by decide +kernel
theorem dX2_isChildNowAsIn_27 : decode cX2_isChildNowAsIn 27 = .ok (.iconst 0, 1) := by decide +kernel
theorem dX2_isChildNowAsIn_28 : decode cX2_isChildNowAsIn 28 = .ok (.ireturn, 1) := by decide +kernel
end
section
set_option maxRecDepth 20000 in
theorem ggX3_follow_X3_alongAxis : GoodIn wsX3_follow wsX3_alongAxis := goodIn_r _ [4, 5, 6, 3, 7, 8, 9, 10, 11, 12, 13, 14, 15, 16, 17, 18, 19, 24, 25, 26, 27, 28, 29] (by decide +kernel) (by decide +kernel)
set_option maxRecDepth 20000 in
theorem gX3_follow_X3_alongAxis : GoodIn wsX3_follow (va_wsS RX3 11 yX3_alongAxis wsX3_alongAxis) := goodIn_app (goodIn_of _ (by decide +kernel)) ggX3_follow_X3_alongAxis
set_option maxRecDepth 20000 in
theorem ggX3_follow_X3_labelled : GoodIn wsX3_follow wsX3_labelled := goodIn_r _ [22, 8, 9, 23, 24, 25, 26, 27, 28, 29] (by decide +kernel) (by decide +kernel)
set_option maxRecDepth 20000 in
theorem gX3_follow_X3_labelled : GoodIn wsX3_follow (va_wsS RX3 15 yX3_labelled wsX3_labelled) := goodIn_app (goodIn_of _ (by decide +kernel)) ggX3_follow_X3_labelled
theorem dX3_follow_0 : decode cX3_follow 0 = .ok (.iconst 1, 1) := by decide +kernel
theorem dX3_follow_1 : decode cX3_follow 1 = .ok (.istore_n 2, 1) := by decide +kernel
theorem dX3_follow_2 : decode cX3_follow 2 = .ok (.iconst 0, 1) := by decide +kernel
theorem dX3_follow_3 : decode cX3_follow 3 = .ok (.istore_n 3, 1) := by decide +kernel
theorem dX3_follow_4 : decode cX3_follow 4 = .ok (.iload_n 3, 1) := by decide +kernel
theorem dX3_follow_5 : decode cX3_follow 5 = .ok (.bipush 6, 2) := by decide +kernel
theorem dX3_follow_7 : decode cX3_follow 7 = .ok (.if_icmp .ge 50, 3) := by decide +kernel
theorem dX3_follow_10 : decode cX3_follow 10 = .ok (.iload_n 0, 1) := by decide +kernel
theorem dX3_follow_11 : decode cX3_follow 11 = .ok (.iload_n 3, 1) := by decide +kernel
theorem dX3_follow_12 : decode cX3_follow 12 = .ok (.iconst 5, 1) := by decide +kernel
theorem dX3_follow_13 : decode cX3_follow 13 = .ok (.imul, 1) := by decide +kernel
theorem dX3_follow_14 : decode cX3_follow 14 = .ok (.ishr, 1) := by decide +kernel
theorem dX3_follow_15 : decode cX3_follow 15 = .ok (.istore 4, 2) := by decide +kernel
theorem dX3_follow_17 : decode cX3_follow 17 = .ok (.iload 4, 2) := by decide +kernel
theorem dX3_follow_19 : decode cX3_follow 19 = .ok (.iconst 3, 1) := by decide +kernel
theorem dX3_follow_20 : decode cX3_follow 20 = .ok (.iand, 1) := by decide +kernel
theorem dX3_follow_21 : decode cX3_follow 21 = .ok (.istore 5, 2) := by decide +kernel
theorem dX3_follow_23 : decode cX3_follow 23 = .ok (.iload 5, 2) := by decide +kernel
theorem dX3_follow_25 : decode cX3_follow 25 = .ok (.ifCond .ne 6, 3) := by decide +kernel
theorem dX3_follow_28 : decode cX3_follow 28 = .ok (.goto 29, 3) := by decide +kernel
theorem dX3_follow_31 : decode cX3_follow 31 = .ok (.iload 5, 2) := by decide +kernel
theorem dX3_follow_33 : decode cX3_follow 33 = .ok (.iload_n 2, 1) := by decide +kernel
theorem dX3_follow_34 : decode cX3_follow 34 = .ok (.aload_n 1, 1) := by decide +kernel
theorem dX3_follow_35 : decode cX3_follow 35 = .ok (.invokestatic 11, 3) := by decide +kernel
theorem dX3_follow_38 : decode cX3_follow 38 = .ok (.iload 4, 2) := by decide +kernel
theorem dX3_follow_40 : decode cX3_follow 40 = .ok (.iconst 2, 1) := by decide +kernel
theorem dX3_follow_41 : decode cX3_follow 41 = .ok (.ishr, 1) := by decide +kernel
theorem dX3_follow_42 : decode cX3_follow 42 = .ok (.bipush 7, 2) := by decide +kernel
theorem dX3_follow_44 : decode cX3_follow 44 = .ok (.iand, 1) := by decide +kernel
theorem dX3_follow_45 : decode cX3_follow 45 = .ok (.aload_n 1, 1) := by decide +kernel
theorem dX3_follow_46 : decode cX3_follow 46 = .ok (.invokestatic 15, 3) := by decide +kernel
theorem dX3_follow_49 : decode cX3_follow 49 = .ok (.iand, 1) := by decide +kernel
theorem dX3_follow_50 : decode cX3_follow 50 = .ok (.istore_n 2, 1) := by decide +kernel
theorem dX3_follow_51 : decode cX3_follow 51 = .ok (.iinc 3 1, 3) := by decide +kernel
theorem dX3_follow_54 : decode cX3_follow 54 = .ok (.goto (-50), 3) := by decide +kernel
theorem dX3_follow_57 : decode cX3_follow 57 = .ok (.iload_n 2, 1) := by decide +kernel
theorem dX3_follow_58 : decode cX3_follow 58 = .ok (.ireturn, 1) := by decide +kernel
set_option maxRecDepth 20000 in
theorem ggX3_alongAxis_X3_childrenOf : GoodIn wsX3_alongAxis wsX3_childrenOf := goodIn_r _ [4, 5, 6, 7, 8, 9, 10, 17, 18, 19, 20, 21, 22] (by decide +kernel) (by decide +kernel)
set_option maxRecDepth 20000 in
theorem gX3_alongAxis_X3_childrenOf : GoodIn wsX3_alongAxis (va_wsS RX3 19 yX3_childrenOf wsX3_childrenOf) := goodIn_app (goodIn_of _ (by decide +kernel)) ggX3_alongAxis_X3_childrenOf
set_option maxRecDepth 20000 in
theorem ggX3_alongAxis_X3_below : GoodIn wsX3_alongAxis wsX3_below := goodIn_r _ [13, 5, 6, 7, 8, 9, 10, 17, 18, 19, 20, 21, 22] (by decide +kernel) (by decide +kernel)
set_option maxRecDepth 20000 in
theorem gX3_alongAxis_X3_below : GoodIn wsX3_alongAxis (va_wsS RX3 22 yX3_below wsX3_below) := goodIn_app (goodIn_of _ (by decide +kernel)) ggX3_alongAxis_X3_below
set_option maxRecDepth 20000 in
theorem ggX3_alongAxis_X3_behind : GoodIn wsX3_alongAxis wsX3_behind := goodIn_r _ [16, 5, 6, 7, 8, 9, 10, 17, 18, 19, 20, 21, 22] (by decide +kernel) (by decide +kernel)
set_option maxRecDepth 20000 in
theorem gX3_alongAxis_X3_behind : GoodIn wsX3_alongAxis (va_wsS RX3 25 yX3_behind wsX3_behind) := goodIn_app (goodIn_of _ (by decide +kernel)) ggX3_alongAxis_X3_behind
theorem dX3_alongAxis_0 : decode cX3_alongAxis 0 = .ok (.iload_n 0, 1) := by decide +kernel
theorem dX3_alongAxis_1 : decode cX3_alongAxis 1 = .ok (.iconst 1, 1) := by decide +kernel
theorem dX3_alongAxis_2 : decode cX3_alongAxis 2 = .ok (.if_icmp .ne 9, 3) := by decide +kernel
theorem dX3_alongAxis_5 : decode cX3_alongAxis 5 = .ok (.iload_n 1, 1) := by decide +kernel
theorem dX3_alongAxis_6 : decode cX3_alongAxis 6 = .ok (.aload_n 2, 1) := by decide +kernel
theorem dX3_alongAxis_7 : decode cX3_alongAxis 7 = .ok (.invokestatic 19, 3) := by decide +kernel
theorem dX3_alongAxis_10 : decode cX3_alongAxis 10 = .ok (.ireturn, 1) := by decide +kernel
theorem dX3_alongAxis_11 : decode cX3_alongAxis 11 = .ok (.iload_n 0, 1) := by decide +kernel
theorem dX3_alongAxis_12 : decode cX3_alongAxis 12 = .ok (.iconst 2, 1) := by decide +kernel
theorem dX3_alongAxis_13 : decode cX3_alongAxis 13 = .ok (.if_icmp .ne 11, 3) := by decide +kernel
theorem dX3_alongAxis_16 : decode cX3_alongAxis 16 = .ok (.iload_n 1, 1) := by decide +kernel
theorem dX3_alongAxis_17 : decode cX3_alongAxis 17 = .ok (.aload_n 2, 1) := by decide +kernel
theorem dX3_alongAxis_18 : decode cX3_alongAxis 18 = .ok (.invokestatic 22, 3) := by decide +kernel
theorem dX3_alongAxis_21 : decode cX3_alongAxis 21 = .ok (.goto 8, 3) := by decide +kernel
theorem dX3_alongAxis_24 : decode cX3_alongAxis 24 = .ok (.iload_n 1, 1) := by decide +kernel
theorem dX3_alongAxis_25 : decode cX3_alongAxis 25 = .ok (.aload_n 2, 1) := by decide +kernel
theorem dX3_alongAxis_26 : decode cX3_alongAxis 26 = .ok (.invokestatic 25, 3) := by decide +kernel
theorem dX3_alongAxis_29 : decode cX3_alongAxis 29 = .ok (.ireturn, 1) := by decide +kernel
set_option maxRecDepth 20000 in
theorem ggX3_childrenOf_X5_isIn : GoodIn wsX3_childrenOf wsX5_isIn := goodIn_r _ [6] (by decide +kernel) (by decide +kernel)
set_option maxRecDepth 20000 in
theorem gX3_childrenOf_X5_isIn_n41 : GoodIn wsX3_childrenOf (wsX5_isIn) := ggX3_childrenOf_X5_isIn
theorem dX3_childrenOf_0 : decode cX3_childrenOf 0 = .ok (.iconst 0, 1) := by decide +kernel
theorem dX3_childrenOf_1 : decode cX3_childrenOf 1 = .ok (.istore_n 2, 1) := by decide +kernel
theorem dX3_childrenOf_2 : decode cX3_childrenOf 2 = .ok (.iconst 1, 1) := by decide +kernel
theorem dX3_childrenOf_3 : decode cX3_childrenOf 3 = .ok (.istore_n 3, 1) := by decide +kernel
theorem dX3_childrenOf_4 : decode cX3_childrenOf 4 = .ok (.iload_n 3, 1) := by decide +kernel
theorem dX3_childrenOf_5 : decode cX3_childrenOf 5 = .ok (.aload_n 1, 1) := by decide +kernel
theorem dX3_childrenOf_6 : decode cX3_childrenOf 6 = .ok (.getfield 28, 3) := by decide +kernel
theorem dX3_childrenOf_9 : decode cX3_childrenOf 9 = .ok (.if_icmp .ge 38, 3) := by decide +kernel
theorem dX3_childrenOf_12 : decode cX3_childrenOf 12 = .ok (.aload_n 1, 1) := by decide +kernel
theorem dX3_childrenOf_13 : decode cX3_childrenOf 13 = .ok (.getfield 34, 3) := by decide +kernel
theorem dX3_childrenOf_16 : decode cX3_childrenOf 16 = .ok (.iload_n 3, 1) := by decide +kernel
theorem dX3_childrenOf_17 : decode cX3_childrenOf 17 = .ok (.iaload, 1) := by decide +kernel
theorem dX3_childrenOf_18 : decode cX3_childrenOf 18 = .ok (.istore 4, 2) := by decide +kernel
theorem dX3_childrenOf_20 : decode cX3_childrenOf 20 = .ok (.iload_n 0, 1) := by decide +kernel
theorem dX3_childrenOf_21 : decode cX3_childrenOf 21 = .ok (.aload_n 1, 1) := by decide +kernel
theorem dX3_childrenOf_22 : decode cX3_childrenOf 22 = .ok (.getfield 38, 3) := by decide +kernel
theorem dX3_childrenOf_25 : decode cX3_childrenOf 25 = .ok (.iload 4, 2) := by decide +kernel
theorem dX3_childrenOf_27 : decode cX3_childrenOf 27 = .ok (.iaload, 1) := by decide +kernel
theorem dX3_childrenOf_28 : decode cX3_childrenOf 28 = .ok (.invokestatic 41, 3) := by decide +kernel
theorem dX3_childrenOf_31 : decode cX3_childrenOf 31 = .ok (.ifCond .eq 10, 3) := by decide +kernel
theorem dX3_childrenOf_34 : decode cX3_childrenOf 34 = .ok (.iload_n 2, 1) := by decide +kernel
theorem dX3_childrenOf_35 : decode cX3_childrenOf 35 = .ok (.iconst 1, 1) := by decide +kernel
theorem dX3_childrenOf_36 : decode cX3_childrenOf 36 = .ok (.iload 4, 2) := by decide +kernel
theorem dX3_childrenOf_38 : decode cX3_childrenOf 38 = .ok (.ishl, 1) := by decide +kernel
theorem dX3_childrenOf_39 : decode cX3_childrenOf 39 = .ok (.ior, 1) := by decide +kernel
theorem dX3_childrenOf_40 : decode cX3_childrenOf 40 = .ok (.istore_n 2, 1) := by decide +kernel
theorem dX3_childrenOf_41 : decode cX3_childrenOf 41 = .ok (.iinc 3 1, 3) := by decide +kernel
theorem dX3_childrenOf_44 : decode cX3_childrenOf 44 = .ok (.goto (-40), 3) := by decide +kernel
theorem dX3_childrenOf_47 : decode cX3_childrenOf 47 = .ok (.iload_n 2, 1) := by decide +kernel
theorem dX3_childrenOf_48 : decode cX3_childrenOf 48 = .ok (.ireturn, 1) := by decide +kernel
set_option maxRecDepth 20000 in
theorem ggX3_below_X5_isIn : GoodIn wsX3_below wsX5_isIn := goodIn_r _ [6] (by decide +kernel) (by decide +kernel)
set_option maxRecDepth 20000 in
theorem gX3_below_X5_isIn_n41 : GoodIn wsX3_below (wsX5_isIn) := ggX3_below_X5_isIn
theorem dX3_below_0 : decode cX3_below 0 = .ok (.iconst 0, 1) := by decide +kernel
theorem dX3_below_1 : decode cX3_below 1 = .ok (.istore_n 2, 1) := by decide +kernel
theorem dX3_below_2 : decode cX3_below 2 = .ok (.iconst 1, 1) := by decide +kernel
theorem dX3_below_3 : decode cX3_below 3 = .ok (.istore_n 3, 1) := by decide +kernel
theorem dX3_below_4 : decode cX3_below 4 = .ok (.iload_n 3, 1) := by decide +kernel
theorem dX3_below_5 : decode cX3_below 5 = .ok (.aload_n 1, 1) := by decide +kernel
theorem dX3_below_6 : decode cX3_below 6 = .ok (.getfield 28, 3) := by decide +kernel
theorem dX3_below_9 : decode cX3_below 9 = .ok (.if_icmp .ge 40, 3) := by decide +kernel
theorem dX3_below_12 : decode cX3_below 12 = .ok (.aload_n 1, 1) := by decide +kernel
theorem dX3_below_13 : decode cX3_below 13 = .ok (.getfield 34, 3) := by decide +kernel
theorem dX3_below_16 : decode cX3_below 16 = .ok (.iload_n 3, 1) := by decide +kernel
theorem dX3_below_17 : decode cX3_below 17 = .ok (.iaload, 1) := by decide +kernel
theorem dX3_below_18 : decode cX3_below 18 = .ok (.istore 4, 2) := by decide +kernel
theorem dX3_below_20 : decode cX3_below 20 = .ok (.iload_n 0, 1) := by decide +kernel
theorem dX3_below_21 : decode cX3_below 21 = .ok (.iload_n 2, 1) := by decide +kernel
theorem dX3_below_22 : decode cX3_below 22 = .ok (.ior, 1) := by decide +kernel
theorem dX3_below_23 : decode cX3_below 23 = .ok (.aload_n 1, 1) := by decide +kernel
theorem dX3_below_24 : decode cX3_below 24 = .ok (.getfield 38, 3) := by decide +kernel
theorem dX3_below_27 : decode cX3_below 27 = .ok (.iload 4, 2) := by decide +kernel
theorem dX3_below_29 : decode cX3_below 29 = .ok (.iaload, 1) := by decide +kernel
theorem dX3_below_30 : decode cX3_below 30 = .ok (.invokestatic 41, 3) := by decide +kernel
theorem dX3_below_33 : decode cX3_below 33 = .ok (.ifCond .eq 10, 3) := by decide +kernel
theorem dX3_below_36 : decode cX3_below 36 = .ok (.iload_n 2, 1) := by decide +kernel
theorem dX3_below_37 : decode cX3_below 37 = .ok (.iconst 1, 1) := by decide +kernel
theorem dX3_below_38 : decode cX3_below 38 = .ok (.iload 4, 2) := by decide +kernel
theorem dX3_below_40 : decode cX3_below 40 = .ok (.ishl, 1) := by decide +kernel
theorem dX3_below_41 : decode cX3_below 41 = .ok (.ior, 1) := by decide +kernel
theorem dX3_below_42 : decode cX3_below 42 = .ok (.istore_n 2, 1) := by decide +kernel
theorem dX3_below_43 : decode cX3_below 43 = .ok (.iinc 3 1, 3) := by decide +kernel
theorem dX3_below_46 : decode cX3_below 46 = .ok (.goto (-42), 3) := by decide +kernel
theorem dX3_below_49 : decode cX3_below 49 = .ok (.iload_n 2, 1) := by decide +kernel
theorem dX3_below_50 : decode cX3_below 50 = .ok (.ireturn, 1) := by decide +kernel
set_option maxRecDepth 20000 in
theorem ggX3_behind_X5_isIn : GoodIn wsX3_behind wsX5_isIn := goodIn_r _ [6] (by decide +kernel) (by decide +kernel)
set_option maxRecDepth 20000 in
theorem gX3_behind_X5_isIn_n41 : GoodIn wsX3_behind (wsX5_isIn) := ggX3_behind_X5_isIn
theorem dX3_behind_0 : decode cX3_behind 0 = .ok (.iconst 0, 1) := by decide +kernel
theorem dX3_behind_1 : decode cX3_behind 1 = .ok (.istore_n 2, 1) := by decide +kernel
theorem dX3_behind_2 : decode cX3_behind 2 = .ok (.iconst 0, 1) := by decide +kernel
theorem dX3_behind_3 : decode cX3_behind 3 = .ok (.istore_n 3, 1) := by decide +kernel
theorem dX3_behind_4 : decode cX3_behind 4 = .ok (.iconst 1, 1) := by decide +kernel
theorem dX3_behind_5 : decode cX3_behind 5 = .ok (.istore 4, 2) := by decide +kernel
theorem dX3_behind_7 : decode cX3_behind 7 = .ok (.iload 4, 2) := by decide +kernel
theorem dX3_behind_9 : decode cX3_behind 9 = .ok (.aload_n 1, 1) := by decide +kernel
theorem dX3_behind_10 : decode cX3_behind 10 = .ok (.getfield 28, 3) := by decide +kernel
theorem dX3_behind_13 : decode cX3_behind 13 = .ok (.if_icmp .ge 59, 3) := by decide +kernel
theorem dX3_behind_16 : decode cX3_behind 16 = .ok (.aload_n 1, 1) := by decide +kernel
theorem dX3_behind_17 : decode cX3_behind 17 = .ok (.getfield 34, 3) := by decide +kernel
theorem dX3_behind_20 : decode cX3_behind 20 = .ok (.iload 4, 2) := by decide +kernel
theorem dX3_behind_22 : decode cX3_behind 22 = .ok (.iaload, 1) := by decide +kernel
theorem dX3_behind_23 : decode cX3_behind 23 = .ok (.istore 5, 2) := by decide +kernel
theorem dX3_behind_25 : decode cX3_behind 25 = .ok (.aload_n 1, 1) := by decide +kernel
theorem dX3_behind_26 : decode cX3_behind 26 = .ok (.getfield 38, 3) := by decide +kernel
theorem dX3_behind_29 : decode cX3_behind 29 = .ok (.iload 5, 2) := by decide +kernel
theorem dX3_behind_31 : decode cX3_behind 31 = .ok (.iaload, 1) := by decide +kernel
theorem dX3_behind_32 : decode cX3_behind 32 = .ok (.istore 6, 2) := by decide +kernel
theorem dX3_behind_34 : decode cX3_behind 34 = .ok (.iload_n 3, 1) := by decide +kernel
theorem dX3_behind_35 : decode cX3_behind 35 = .ok (.iload 6, 2) := by decide +kernel
theorem dX3_behind_37 : decode cX3_behind 37 = .ok (.invokestatic 41, 3) := by decide +kernel
theorem dX3_behind_40 : decode cX3_behind 40 = .ok (.ifCond .eq 10, 3) := by decide +kernel
theorem dX3_behind_43 : decode cX3_behind 43 = .ok (.iload_n 2, 1) := by decide +kernel
theorem dX3_behind_44 : decode cX3_behind 44 = .ok (.iconst 1, 1) := by decide +kernel
theorem dX3_behind_45 : decode cX3_behind 45 = .ok (.iload 5, 2) := by decide +kernel
theorem dX3_behind_47 : decode cX3_behind 47 = .ok (.ishl, 1) := by decide +kernel
theorem dX3_behind_48 : decode cX3_behind 48 = .ok (.ior, 1) := by decide +kernel
theorem dX3_behind_49 : decode cX3_behind 49 = .ok (.istore_n 2, 1) := by decide +kernel
theorem dX3_behind_50 : decode cX3_behind 50 = .ok (.iload_n 0, 1) := by decide +kernel
theorem dX3_behind_51 : decode cX3_behind 51 = .ok (.iload 5, 2) := by decide +kernel
theorem dX3_behind_53 : decode cX3_behind 53 = .ok (.invokestatic 41, 3) := by decide +kernel
theorem dX3_behind_56 : decode cX3_behind 56 = .ok (.ifCond .eq 10, 3) := by decide +kernel
theorem dX3_behind_59 : decode cX3_behind 59 = .ok (.iload_n 3, 1) := by decide +kernel
theorem dX3_behind_60 : decode cX3_behind 60 = .ok (.iconst 1, 1) := by decide +kernel
theorem dX3_behind_61 : decode cX3_behind 61 = .ok (.iload 6, 2) := by decide +kernel
theorem dX3_behind_63 : decode cX3_behind 63 = .ok (.ishl, 1) := by decide +kernel
theorem dX3_behind_64 : decode cX3_behind 64 = .ok (.ior, 1) := by decide +kernel
theorem dX3_behind_65 : decode cX3_behind 65 = .ok (.istore_n 3, 1) := by decide +kernel
theorem dX3_behind_66 : decode cX3_behind 66 = .ok (.iinc 4 1, 3) := by decide +kernel
theorem dX3_behind_69 : decode cX3_behind 69 = .ok (.goto (-62), 3) := by decide +kernel
theorem dX3_behind_72 : decode cX3_behind 72 = .ok (.iload_n 2, 1) := by decide +kernel
theorem dX3_behind_73 : decode cX3_behind 73 = .ok (.ireturn, 1) := by decide +kernel
theorem dX3_labelled_0 : decode cX3_labelled 0 = .ok (.iconst 0, 1) := by decide +kernel
theorem dX3_labelled_1 : decode cX3_labelled 1 = .ok (.istore_n 2, 1) := by decide +kernel
theorem dX3_labelled_2 : decode cX3_labelled 2 = .ok (.iconst 0, 1) := by decide +kernel
theorem dX3_labelled_3 : decode cX3_labelled 3 = .ok (.istore_n 3, 1) := by decide +kernel
theorem dX3_labelled_4 : decode cX3_labelled 4 = .ok (.iload_n 3, 1) := by decide +kernel
theorem dX3_labelled_5 : decode cX3_labelled 5 = .ok (.aload_n 1, 1) := by decide +kernel
theorem dX3_labelled_6 : decode cX3_labelled 6 = .ok (.getfield 28, 3) := by decide +kernel
theorem dX3_labelled_9 : decode cX3_labelled 9 = .ok (.if_icmp .ge 41, 3) := by decide +kernel
theorem dX3_labelled_12 : decode cX3_labelled 12 = .ok (.aload_n 1, 1) := by decide +kernel
theorem dX3_labelled_13 : decode cX3_labelled 13 = .ok (.getfield 34, 3) := by decide +kernel
theorem dX3_labelled_16 : decode cX3_labelled 16 = .ok (.iload_n 3, 1) := by decide +kernel
theorem dX3_labelled_17 : decode cX3_labelled 17 = .ok (.iaload, 1) := by decide +kernel
theorem dX3_labelled_18 : decode cX3_labelled 18 = .ok (.istore 4, 2) := by decide +kernel
theorem dX3_labelled_20 : decode cX3_labelled 20 = .ok (.iload_n 0, 1) := by decide +kernel
theorem dX3_labelled_21 : decode cX3_labelled 21 = .ok (.bipush 6, 2) := by decide +kernel
theorem dX3_labelled_23 : decode cX3_labelled 23 = .ok (.if_icmp .ge 14, 3) := by decide +kernel
theorem dX3_labelled_26 : decode cX3_labelled 26 = .ok (.aload_n 1, 1) := by decide +kernel
theorem dX3_labelled_27 : decode cX3_labelled 27 = .ok (.getfield 45, 3) := by decide +kernel
theorem dX3_labelled_30 : decode cX3_labelled 30 = .ok (.iload 4, 2) := by decide +kernel
theorem dX3_labelled_32 : decode cX3_labelled 32 = .ok (.iaload, 1) := by decide +kernel
theorem dX3_labelled_33 : decode cX3_labelled 33 = .ok (.iload_n 0, 1) := by decide +kernel
theorem dX3_labelled_34 : decode cX3_labelled 34 = .ok (.if_icmp .ne 10, 3) := by decide +kernel
theorem dX3_labelled_37 : decode cX3_labelled 37 = .ok (.iload_n 2, 1) := by decide +kernel
theorem dX3_labelled_38 : decode cX3_labelled 38 = .ok (.iconst 1, 1) := by decide +kernel
theorem dX3_labelled_39 : decode cX3_labelled 39 = .ok (.iload 4, 2) := by decide +kernel
theorem dX3_labelled_41 : decode cX3_labelled 41 = .ok (.ishl, 1) := by decide +kernel
theorem dX3_labelled_42 : decode cX3_labelled 42 = .ok (.ior, 1) := by decide +kernel
theorem dX3_labelled_43 : decode cX3_labelled 43 = .ok (.istore_n 2, 1) := by decide +kernel
theorem dX3_labelled_44 : decode cX3_labelled 44 = .ok (.iinc 3 1, 3) := by decide +kernel
theorem dX3_labelled_47 : decode cX3_labelled 47 = .ok (.goto (-43), 3) := by decide +kernel
theorem dX3_labelled_50 : decode cX3_labelled 50 = .ok (.iload_n 2, 1) := by decide +kernel
theorem dX3_labelled_51 : decode cX3_labelled 51 = .ok (.ireturn, 1) := by decide +kernel
end
section
set_option maxRecDepth 20000 in
theorem ggX4_init_X4_clear : GoodIn wsX4_init wsX4_clear := goodIn_r _ [14, 7, 8, 15, 16, 17, 18, 19, 20, 21, 22, 23, 24, 25] (by decide +kernel) (by decide +kernel)
set_option maxRecDepth 20000 in
theorem gX4_init_X4_clear : GoodIn wsX4_init (wsV RX4 27 RX4 yX4_clear wsX4_clear) := goodIn_app (goodIn_of _ (by decide +kernel)) ggX4_init_X4_clear
theorem dX4_init_0 : decode cX4_init 0 = .ok (.aload_n 0, 1) := by decide +kernel
theorem dX4_init_1 : decode cX4_init 1 = .ok (.invokespecial 3, 3) := by decide +kernel
theorem dX4_init_4 : decode cX4_init 4 = .ok (.aload_n 0, 1) := by decide +kernel
theorem dX4_init_5 : decode cX4_init 5 = .ok (.bipush 24, 2) := by decide +kernel
theorem dX4_init_7 : decode cX4_init 7 = .ok (.newarray .int, 2) := by decide +kernel
theorem dX4_init_9 : decode cX4_init 9 = .ok (.putfield 9, 3) := by decide +kernel
theorem dX4_init_12 : decode cX4_init 12 = .ok (.aload_n 0, 1) := by decide +kernel
theorem dX4_init_13 : decode cX4_init 13 = .ok (.bipush 24, 2) := by decide +kernel
theorem dX4_init_15 : decode cX4_init 15 = .ok (.newarray .int, 2) := by decide +kernel
theorem dX4_init_17 : decode cX4_init 17 = .ok (.putfield 15, 3) := by decide +kernel
theorem dX4_init_20 : decode cX4_init 20 = .ok (.aload_n 0, 1) := by decide +kernel
theorem dX4_init_21 : decode cX4_init 21 = .ok (.bipush 24, 2) := by decide +kernel
theorem dX4_init_23 : decode cX4_init 23 = .ok (.newarray .int, 2) := by decide +kernel
theorem dX4_init_25 : decode cX4_init 25 = .ok (.putfield 18, 3) := by decide +kernel
theorem dX4_init_28 : decode cX4_init 28 = .ok (.aload_n 0, 1) := by decide +kernel
theorem dX4_init_29 : decode cX4_init 29 = .ok (.bipush 24, 2) := by decide +kernel
theorem dX4_init_31 : decode cX4_init 31 = .ok (.newarray .int, 2) := by decide +kernel
theorem dX4_init_33 : decode cX4_init 33 = .ok (.putfield 21, 3) := by decide +kernel
theorem dX4_init_36 : decode cX4_init 36 = .ok (.aload_n 0, 1) := by decide +kernel
theorem dX4_init_37 : decode cX4_init 37 = .ok (.bipush 24, 2) := by decide +kernel
theorem dX4_init_39 : decode cX4_init 39 = .ok (.newarray .int, 2) := by decide +kernel
theorem dX4_init_41 : decode cX4_init 41 = .ok (.putfield 24, 3) := by decide +kernel
theorem dX4_init_44 : decode cX4_init 44 = .ok (.aload_n 0, 1) := by decide +kernel
theorem dX4_init_45 : decode cX4_init 45 = .ok (.invokevirtual 27, 3) := by decide +kernel
theorem dX4_init_48 : decode cX4_init 48 = .ok (.return_, 1) := by decide +kernel
set_option maxRecDepth 20000 in
theorem ggX4_clear_J7_fill_53178 : GoodIn wsX4_clear wsJ7_fill_53178 := goodIn_r _ [7] (by decide +kernel) (by decide +kernel)
set_option maxRecDepth 20000 in
theorem gX4_clear_J7_fill_53178 : GoodIn wsX4_clear (va_wsS RX4 30 yJ7_fill_53178 wsJ7_fill_53178) := goodIn_app (goodIn_of _ (by decide +kernel)) ggX4_clear_J7_fill_53178
theorem dX4_clear_0 : decode cX4_clear 0 = .ok (.aload_n 0, 1) := by decide +kernel
theorem dX4_clear_1 : decode cX4_clear 1 = .ok (.getfield 18, 3) := by decide +kernel
theorem dX4_clear_4 : decode cX4_clear 4 = .ok (.bipush (-2), 2) := by decide +kernel
theorem dX4_clear_6 : decode cX4_clear 6 = .ok (.invokestatic 30, 3) := by decide +kernel
theorem dX4_clear_9 : decode cX4_clear 9 = .ok (.aload_n 0, 1) := by decide +kernel
theorem dX4_clear_10 : decode cX4_clear 10 = .ok (.getfield 21, 3) := by decide +kernel
theorem dX4_clear_13 : decode cX4_clear 13 = .ok (.bipush (-2), 2) := by decide +kernel
theorem dX4_clear_15 : decode cX4_clear 15 = .ok (.invokestatic 30, 3) := by decide +kernel
theorem dX4_clear_18 : decode cX4_clear 18 = .ok (.aload_n 0, 1) := by decide +kernel
theorem dX4_clear_19 : decode cX4_clear 19 = .ok (.iconst 0, 1) := by decide +kernel
theorem dX4_clear_20 : decode cX4_clear 20 = .ok (.putfield 36, 3) := by decide +kernel
theorem dX4_clear_23 : decode cX4_clear 23 = .ok (.return_, 1) := by decide +kernel
theorem dX4_copyFrom_0 : decode cX4_copyFrom 0 = .ok (.aload_n 1, 1) := by decide +kernel
theorem dX4_copyFrom_1 : decode cX4_copyFrom 1 = .ok (.getfield 9, 3) := by decide +kernel
theorem dX4_copyFrom_4 : decode cX4_copyFrom 4 = .ok (.iconst 0, 1) := by decide +kernel
theorem dX4_copyFrom_5 : decode cX4_copyFrom 5 = .ok (.aload_n 0, 1) := by decide +kernel
theorem dX4_copyFrom_6 : decode cX4_copyFrom 6 = .ok (.getfield 9, 3) := by decide +kernel
theorem dX4_copyFrom_9 : decode cX4_copyFrom 9 = .ok (.iconst 0, 1) := by decide +kernel
theorem dX4_copyFrom_10 : decode cX4_copyFrom 10 = .ok (.bipush 24, 2) := by decide +kernel
theorem dX4_copyFrom_12 : decode cX4_copyFrom 12 = .ok (.invokestatic 40, 3) := by decide +kernel
theorem dX4_copyFrom_15 : decode cX4_copyFrom 15 = .ok (.aload_n 1, 1) := by decide +kernel
theorem dX4_copyFrom_16 : decode cX4_copyFrom 16 = .ok (.getfield 15, 3) := by decide +kernel
theorem dX4_copyFrom_19 : decode cX4_copyFrom 19 = .ok (.iconst 0, 1) := by decide +kernel
theorem dX4_copyFrom_20 : decode cX4_copyFrom 20 = .ok (.aload_n 0, 1) := by decide +kernel
theorem dX4_copyFrom_21 : decode cX4_copyFrom 21 = .ok (.getfield 15, 3) := by decide +kernel
theorem dX4_copyFrom_24 : decode cX4_copyFrom 24 = .ok (.iconst 0, 1) := by decide +kernel
theorem dX4_copyFrom_25 : decode cX4_copyFrom 25 = .ok (.bipush 24, 2) := by decide +kernel
theorem dX4_copyFrom_27 : decode cX4_copyFrom 27 = .ok (.invokestatic 40, 3) := by decide +kernel
theorem dX4_copyFrom_30 : decode cX4_copyFrom 30 = .ok (.aload_n 1, 1) := by decide +kernel
theorem dX4_copyFrom_31 : decode cX4_copyFrom 31 = .ok (.getfield 18, 3) := by decide +kernel
theorem dX4_copyFrom_34 : decode cX4_copyFrom 34 = .ok (.iconst 0, 1) := by decide +kernel
theorem dX4_copyFrom_35 : decode cX4_copyFrom 35 = .ok (.aload_n 0, 1) := by decide +kernel
theorem dX4_copyFrom_36 : decode cX4_copyFrom 36 = .ok (.getfield 18, 3) := by decide +kernel
theorem dX4_copyFrom_39 : decode cX4_copyFrom 39 = .ok (.iconst 0, 1) := by decide +kernel
theorem dX4_copyFrom_40 : decode cX4_copyFrom 40 = .ok (.bipush 24, 2) := by decide +kernel
theorem dX4_copyFrom_42 : decode cX4_copyFrom 42 = .ok (.invokestatic 40, 3) := by decide +kernel
theorem dX4_copyFrom_45 : decode cX4_copyFrom 45 = .ok (.aload_n 1, 1) := by decide +kernel
theorem dX4_copyFrom_46 : decode cX4_copyFrom 46 = .ok (.getfield 21, 3) := by decide +kernel
theorem dX4_copyFrom_49 : decode cX4_copyFrom 49 = .ok (.iconst 0, 1) := by decide +kernel
theorem dX4_copyFrom_50 : decode cX4_copyFrom 50 = .ok (.aload_n 0, 1) := by decide +kernel
theorem dX4_copyFrom_51 : decode cX4_copyFrom 51 = .ok (.getfield 21, 3) := by decide +kernel
theorem dX4_copyFrom_54 : decode cX4_copyFrom 54 = .ok (.iconst 0, 1) := by decide +kernel
theorem dX4_copyFrom_55 : decode cX4_copyFrom 55 = .ok (.bipush 24, 2) := by decide +kernel
theorem dX4_copyFrom_57 : decode cX4_copyFrom 57 = .ok (.invokestatic 40, 3) := by decide +kernel
theorem dX4_copyFrom_60 : decode cX4_copyFrom 60 = .ok (.aload_n 0, 1) := by decide +kernel
theorem dX4_copyFrom_61 : decode cX4_copyFrom 61 = .ok (.aload_n 1, 1) := by decide +kernel
theorem dX4_copyFrom_62 : decode cX4_copyFrom 62 = .ok (.getfield 36, 3) := by decide +kernel
theorem dX4_copyFrom_65 : decode cX4_copyFrom 65 = .ok (.putfield 36, 3) := by decide +kernel
theorem dX4_copyFrom_68 : decode cX4_copyFrom 68 = .ok (.return_, 1) := by decide +kernel
set_option maxRecDepth 20000 in
theorem ggX4_isSameAs_X4_hasAsIn : GoodIn wsX4_isSameAs wsX4_hasAsIn := goodIn_r _ [7, 8, 9, 10, 11, 12, 13, 14, 15] (by decide +kernel) (by decide +kernel)
set_option maxRecDepth 20000 in
theorem gX4_isSameAs_X4_hasAsIn : GoodIn wsX4_isSameAs (wsV RX4 46 RX4 yX4_hasAsIn wsX4_hasAsIn) := goodIn_app (goodIn_of _ (by decide +kernel)) ggX4_isSameAs_X4_hasAsIn
theorem dX4_isSameAs_0 : decode cX4_isSameAs 0 = .ok (.aload_n 0, 1) := by decide +kernel
theorem dX4_isSameAs_1 : decode cX4_isSameAs 1 = .ok (.getfield 36, 3) := by decide +kernel
theorem dX4_isSameAs_4 : decode cX4_isSameAs 4 = .ok (.aload_n 1, 1) := by decide +kernel
theorem dX4_isSameAs_5 : decode cX4_isSameAs 5 = .ok (.getfield 36, 3) := by decide +kernel
theorem dX4_isSameAs_8 : decode cX4_isSameAs 8 = .ok (.if_icmp .eq 5, 3) := by decide +kernel
theorem dX4_isSameAs_11 : decode cX4_isSameAs 11 = .ok (.iconst 0, 1) := by decide +kernel
theorem dX4_isSameAs_12 : decode cX4_isSameAs 12 = .ok (.ireturn, 1) := by decide +kernel
theorem dX4_isSameAs_13 : decode cX4_isSameAs 13 = .ok (.iconst 0, 1) := by decide +kernel
theorem dX4_isSameAs_14 : decode cX4_isSameAs 14 = .ok (.istore_n 2, 1) := by decide +kernel
theorem dX4_isSameAs_15 : decode cX4_isSameAs 15 = .ok (.iload_n 2, 1) := by decide +kernel
theorem dX4_isSameAs_16 : decode cX4_isSameAs 16 = .ok (.aload_n 0, 1) := by decide +kernel
theorem dX4_isSameAs_17 : decode cX4_isSameAs 17 = .ok (.getfield 36, 3) := by decide +kernel
theorem dX4_isSameAs_20 : decode cX4_isSameAs 20 = .ok (.if_icmp .ge 37, 3) := by decide +kernel
theorem dX4_isSameAs_23 : decode cX4_isSameAs 23 = .ok (.aload_n 0, 1) := by decide +kernel
theorem dX4_isSameAs_24 : decode cX4_isSameAs 24 = .ok (.getfield 9, 3) := by decide +kernel
theorem dX4_isSameAs_27 : decode cX4_isSameAs 27 = .ok (.iload_n 2, 1) := by decide +kernel
theorem dX4_isSameAs_28 : decode cX4_isSameAs 28 = .ok (.iaload, 1) := by decide +kernel
theorem dX4_isSameAs_29 : decode cX4_isSameAs 29 = .ok (.istore_n 3, 1) := by decide +kernel
theorem dX4_isSameAs_30 : decode cX4_isSameAs 30 = .ok (.aload_n 1, 1) := by decide +kernel
theorem dX4_isSameAs_31 : decode cX4_isSameAs 31 = .ok (.getfield 9, 3) := by decide +kernel
theorem dX4_isSameAs_34 : decode cX4_isSameAs 34 = .ok (.iload_n 2, 1) := by decide +kernel
theorem dX4_isSameAs_35 : decode cX4_isSameAs 35 = .ok (.iaload, 1) := by decide +kernel
theorem dX4_isSameAs_36 : decode cX4_isSameAs 36 = .ok (.iload_n 3, 1) := by decide +kernel
theorem dX4_isSameAs_37 : decode cX4_isSameAs 37 = .ok (.if_icmp .ne 12, 3) := by decide +kernel
theorem dX4_isSameAs_40 : decode cX4_isSameAs 40 = .ok (.aload_n 0, 1) := by decide +kernel
theorem dX4_isSameAs_41 : decode cX4_isSameAs 41 = .ok (.aload_n 1, 1) := by decide +kernel
theorem dX4_isSameAs_42 : decode cX4_isSameAs 42 = .ok (.iload_n 3, 1) := by decide +kernel
theorem dX4_isSameAs_43 : decode cX4_isSameAs 43 = .ok (.invokevirtual 46, 3) := by decide +kernel
theorem dX4_isSameAs_46 : decode cX4_isSameAs 46 = .ok (.ifCond .ne 5, 3) := by decide +kernel
theorem dX4_isSameAs_49 : decode cX4_isSameAs 49 = .ok (.iconst 0, 1) := by decide +kernel
theorem dX4_isSameAs_50 : decode cX4_isSameAs 50 = .ok (.ireturn, 1) := by decide +kernel
theorem dX4_isSameAs_51 : decode cX4_isSameAs 51 = .ok (.iinc 2 1, 3) := by decide +kernel
theorem dX4_isSameAs_54 : decode cX4_isSameAs 54 = .ok (.goto (-39), 3) := by decide +kernel
theorem dX4_isSameAs_57 : decode cX4_isSameAs 57 = .ok (.iconst 1, 1) := by decide +kernel
theorem dX4_isSameAs_58 : decode cX4_isSameAs 58 = .ok (.ireturn, 1) := by decide +kernel
theorem dX4_hasAsIn_0 : decode cX4_hasAsIn 0 = .ok (.aload_n 0, 1) := by decide +kernel
theorem dX4_hasAsIn_1 : decode cX4_hasAsIn 1 = .ok (.getfield 21, 3) := by decide +kernel
theorem dX4_hasAsIn_4 : decode cX4_hasAsIn 4 = .ok (.iload_n 2, 1) := by decide +kernel
theorem dX4_hasAsIn_5 : decode cX4_hasAsIn 5 = .ok (.iaload, 1) := by decide +kernel
theorem dX4_hasAsIn_6 : decode cX4_hasAsIn 6 = .ok (.aload_n 1, 1) := by decide +kernel
theorem dX4_hasAsIn_7 : decode cX4_hasAsIn 7 = .ok (.getfield 21, 3) := by decide +kernel
theorem dX4_hasAsIn_10 : decode cX4_hasAsIn 10 = .ok (.iload_n 2, 1) := by decide +kernel
theorem dX4_hasAsIn_11 : decode cX4_hasAsIn 11 = .ok (.iaload, 1) := by decide +kernel
theorem dX4_hasAsIn_12 : decode cX4_hasAsIn 12 = .ok (.if_icmp .ne 22, 3) := by decide +kernel
theorem dX4_hasAsIn_15 : decode cX4_hasAsIn 15 = .ok (.aload_n 0, 1) := by decide +kernel
theorem dX4_hasAsIn_16 : decode cX4_hasAsIn 16 = .ok (.getfield 18, 3) := by decide +kernel
theorem dX4_hasAsIn_19 : decode cX4_hasAsIn 19 = .ok (.iload_n 2, 1) := by decide +kernel
theorem dX4_hasAsIn_20 : decode cX4_hasAsIn 20 = .ok (.iaload, 1) := by decide +kernel
theorem dX4_hasAsIn_21 : decode cX4_hasAsIn 21 = .ok (.aload_n 1, 1) := by decide +kernel
theorem dX4_hasAsIn_22 : decode cX4_hasAsIn 22 = .ok (.getfield 18, 3) := by decide +kernel
theorem dX4_hasAsIn_25 : decode cX4_hasAsIn 25 = .ok (.iload_n 2, 1) := by decide +kernel
theorem dX4_hasAsIn_26 : decode cX4_hasAsIn 26 = .ok (.iaload, 1) := by decide +kernel
theorem dX4_hasAsIn_27 : decode cX4_hasAsIn 27 = .ok (.if_icmp .ne 7, 3) := by decide +kernel
theorem dX4_hasAsIn_30 : decode cX4_hasAsIn 30 = .ok (.iconst 1, 1) := by decide +kernel
theorem dX4_hasAsIn_31 : decode cX4_hasAsIn 31 = .ok (.goto 4, 3) := by decide +kernel
theorem dX4_hasAsIn_34 : decode cX4_hasAsIn 34 = .ok (.iconst 0, 1) := by decide +kernel
theorem dX4_hasAsIn_35 : decode cX4_hasAsIn 35 = .ok (.ireturn, 1) := by decide +kernel
theorem dX4_holds_0 : decode cX4_holds 0 = .ok (.iload_n 1, 1) := by decide +kernel
theorem dX4_holds_1 : decode cX4_holds 1 = .ok (.ifCond .lt 24, 3) := by decide +kernel
theorem dX4_holds_4 : decode cX4_holds 4 = .ok (.iload_n 1, 1) := by decide +kernel
theorem dX4_holds_5 : decode cX4_holds 5 = .ok (.bipush 24, 2) := by decide +kernel
theorem dX4_holds_7 : decode cX4_holds 7 = .ok (.if_icmp .ge 18, 3) := by decide +kernel
theorem dX4_holds_10 : decode cX4_holds 10 = .ok (.aload_n 0, 1) := by decide +kernel
theorem dX4_holds_11 : decode cX4_holds 11 = .ok (.getfield 21, 3) := by decide +kernel
theorem dX4_holds_14 : decode cX4_holds 14 = .ok (.iload_n 1, 1) := by decide +kernel
theorem dX4_holds_15 : decode cX4_holds 15 = .ok (.iaload, 1) := by decide +kernel
theorem dX4_holds_16 : decode cX4_holds 16 = .ok (.bipush (-2), 2) := by decide +kernel
theorem dX4_holds_18 : decode cX4_holds 18 = .ok (.if_icmp .eq 7, 3) := by decide +kernel
theorem dX4_holds_21 : decode cX4_holds 21 = .ok (.iconst 1, 1) := by decide +kernel
theorem dX4_holds_22 : decode cX4_holds 22 = .ok (.goto 4, 3) := by decide +kernel
theorem dX4_holds_25 : decode cX4_holds 25 = .ok (.iconst 0, 1) := by decide +kernel
theorem dX4_holds_26 : decode cX4_holds 26 = .ok (.ireturn, 1) := by decide +kernel
set_option maxRecDepth 20000 in
theorem ggX4_isWithin_X4_endOf : GoodIn wsX4_isWithin wsX4_endOf := goodIn_r _ [6, 7, 8, 9, 10, 5, 11, 12, 13, 1, 14, 15, 16, 17, 18, 19] (by decide +kernel) (by decide +kernel)
set_option maxRecDepth 20000 in
theorem gX4_isWithin_X4_endOf : GoodIn wsX4_isWithin (wsV RX4 50 RX4 yX4_endOf wsX4_endOf) := goodIn_app (goodIn_of _ (by decide +kernel)) ggX4_isWithin_X4_endOf
theorem dX4_isWithin_0 : decode cX4_isWithin 0 = .ok (.aload_n 0, 1) := by decide +kernel
theorem dX4_isWithin_1 : decode cX4_isWithin 1 = .ok (.getfield 15, 3) := by decide +kernel
theorem dX4_isWithin_4 : decode cX4_isWithin 4 = .ok (.iload_n 1, 1) := by decide +kernel
theorem dX4_isWithin_5 : decode cX4_isWithin 5 = .ok (.iaload, 1) := by decide +kernel
theorem dX4_isWithin_6 : decode cX4_isWithin 6 = .ok (.aload_n 0, 1) := by decide +kernel
theorem dX4_isWithin_7 : decode cX4_isWithin 7 = .ok (.getfield 15, 3) := by decide +kernel
theorem dX4_isWithin_10 : decode cX4_isWithin 10 = .ok (.iload_n 2, 1) := by decide +kernel
theorem dX4_isWithin_11 : decode cX4_isWithin 11 = .ok (.iaload, 1) := by decide +kernel
theorem dX4_isWithin_12 : decode cX4_isWithin 12 = .ok (.if_icmp .lt 26, 3) := by decide +kernel
theorem dX4_isWithin_15 : decode cX4_isWithin 15 = .ok (.aload_n 0, 1) := by decide +kernel
theorem dX4_isWithin_16 : decode cX4_isWithin 16 = .ok (.getfield 15, 3) := by decide +kernel
theorem dX4_isWithin_19 : decode cX4_isWithin 19 = .ok (.iload_n 1, 1) := by decide +kernel
theorem dX4_isWithin_20 : decode cX4_isWithin 20 = .ok (.iaload, 1) := by decide +kernel
theorem dX4_isWithin_21 : decode cX4_isWithin 21 = .ok (.aload_n 0, 1) := by decide +kernel
theorem dX4_isWithin_22 : decode cX4_isWithin 22 = .ok (.aload_n 0, 1) := by decide +kernel
theorem dX4_isWithin_23 : decode cX4_isWithin 23 = .ok (.getfield 15, 3) := by decide +kernel
theorem dX4_isWithin_26 : decode cX4_isWithin 26 = .ok (.iload_n 2, 1) := by decide +kernel
theorem dX4_isWithin_27 : decode cX4_isWithin 27 = .ok (.iaload, 1) := by decide +kernel
theorem dX4_isWithin_28 : decode cX4_isWithin 28 = .ok (.invokevirtual 50, 3) := by decide +kernel
theorem dX4_isWithin_31 : decode cX4_isWithin 31 = .ok (.if_icmp .ge 7, 3) := by decide +kernel
theorem dX4_isWithin_34 : decode cX4_isWithin 34 = .ok (.iconst 1, 1) := by decide +kernel
theorem dX4_isWithin_35 : decode cX4_isWithin 35 = .ok (.goto 4, 3) := by decide +kernel
theorem dX4_isWithin_38 : decode cX4_isWithin 38 = .ok (.iconst 0, 1) := by decide +kernel
theorem dX4_isWithin_39 : decode cX4_isWithin 39 = .ok (.ireturn, 1) := by decide +kernel
theorem dX4_childCount_0 : decode cX4_childCount 0 = .ok (.iconst 0, 1) := by decide +kernel
theorem dX4_childCount_1 : decode cX4_childCount 1 = .ok (.istore_n 2, 1) := by decide +kernel
theorem dX4_childCount_2 : decode cX4_childCount 2 = .ok (.aload_n 0, 1) := by decide +kernel
theorem dX4_childCount_3 : decode cX4_childCount 3 = .ok (.getfield 15, 3) := by decide +kernel
theorem dX4_childCount_6 : decode cX4_childCount 6 = .ok (.iload_n 1, 1) := by decide +kernel
theorem dX4_childCount_7 : decode cX4_childCount 7 = .ok (.iaload, 1) := by decide +kernel
theorem dX4_childCount_8 : decode cX4_childCount 8 = .ok (.iconst 1, 1) := by decide +kernel
theorem dX4_childCount_9 : decode cX4_childCount 9 = .ok (.iadd, 1) := by decide +kernel
theorem dX4_childCount_10 : decode cX4_childCount 10 = .ok (.istore_n 3, 1) := by decide +kernel
theorem dX4_childCount_11 : decode cX4_childCount 11 = .ok (.iload_n 3, 1) := by decide +kernel
theorem dX4_childCount_12 : decode cX4_childCount 12 = .ok (.aload_n 0, 1) := by decide +kernel
theorem dX4_childCount_13 : decode cX4_childCount 13 = .ok (.getfield 36, 3) := by decide +kernel
theorem dX4_childCount_16 : decode cX4_childCount 16 = .ok (.if_icmp .ge 27, 3) := by decide +kernel
theorem dX4_childCount_19 : decode cX4_childCount 19 = .ok (.aload_n 0, 1) := by decide +kernel
theorem dX4_childCount_20 : decode cX4_childCount 20 = .ok (.getfield 18, 3) := by decide +kernel
theorem dX4_childCount_23 : decode cX4_childCount 23 = .ok (.aload_n 0, 1) := by decide +kernel
theorem dX4_childCount_24 : decode cX4_childCount 24 = .ok (.getfield 9, 3) := by decide +kernel
theorem dX4_childCount_27 : decode cX4_childCount 27 = .ok (.iload_n 3, 1) := by decide +kernel
theorem dX4_childCount_28 : decode cX4_childCount 28 = .ok (.iaload, 1) := by decide +kernel
theorem dX4_childCount_29 : decode cX4_childCount 29 = .ok (.iaload, 1) := by decide +kernel
theorem dX4_childCount_30 : decode cX4_childCount 30 = .ok (.iload_n 1, 1) := by decide +kernel
theorem dX4_childCount_31 : decode cX4_childCount 31 = .ok (.if_icmp .ne 6, 3) := by decide +kernel
theorem dX4_childCount_34 : decode cX4_childCount 34 = .ok (.iinc 2 1, 3) := by decide +kernel
theorem dX4_childCount_37 : decode cX4_childCount 37 = .ok (.iinc 3 1, 3) := by decide +kernel
theorem dX4_childCount_40 : decode cX4_childCount 40 = .ok (.goto (-29), 3) := by decide +kernel
theorem dX4_childCount_43 : decode cX4_childCount 43 = .ok (.iload_n 2, 1) := by decide +kernel
theorem dX4_childCount_44 : decode cX4_childCount 44 = .ok (.ireturn, 1) := by decide +kernel
set_option maxRecDepth 20000 in
theorem ggX4_slotFor_X4_endOf : GoodIn wsX4_slotFor wsX4_endOf := goodIn_r _ [9, 2, 10, 11, 12, 8, 13, 3, 4, 1, 14, 15, 16, 17, 18, 19] (by decide +kernel) (by decide +kernel)
set_option maxRecDepth 20000 in
theorem gX4_slotFor_X4_endOf : GoodIn wsX4_slotFor (wsV RX4 50 RX4 yX4_endOf wsX4_endOf) := goodIn_app (goodIn_of _ (by decide +kernel)) ggX4_slotFor_X4_endOf
theorem dX4_slotFor_0 : decode cX4_slotFor 0 = .ok (.iconst 0, 1) := by decide +kernel
theorem dX4_slotFor_1 : decode cX4_slotFor 1 = .ok (.istore_n 3, 1) := by decide +kernel
theorem dX4_slotFor_2 : decode cX4_slotFor 2 = .ok (.aload_n 0, 1) := by decide +kernel
theorem dX4_slotFor_3 : decode cX4_slotFor 3 = .ok (.getfield 15, 3) := by decide +kernel
theorem dX4_slotFor_6 : decode cX4_slotFor 6 = .ok (.iload_n 1, 1) := by decide +kernel
theorem dX4_slotFor_7 : decode cX4_slotFor 7 = .ok (.iaload, 1) := by decide +kernel
theorem dX4_slotFor_8 : decode cX4_slotFor 8 = .ok (.iconst 1, 1) := by decide +kernel
theorem dX4_slotFor_9 : decode cX4_slotFor 9 = .ok (.iadd, 1) := by decide +kernel
theorem dX4_slotFor_10 : decode cX4_slotFor 10 = .ok (.istore 4, 2) := by decide +kernel
theorem dX4_slotFor_12 : decode cX4_slotFor 12 = .ok (.iload 4, 2) := by decide +kernel
theorem dX4_slotFor_14 : decode cX4_slotFor 14 = .ok (.aload_n 0, 1) := by decide +kernel
theorem dX4_slotFor_15 : decode cX4_slotFor 15 = .ok (.getfield 36, 3) := by decide +kernel
theorem dX4_slotFor_18 : decode cX4_slotFor 18 = .ok (.if_icmp .ge 36, 3) := by decide +kernel
theorem dX4_slotFor_21 : decode cX4_slotFor 21 = .ok (.aload_n 0, 1) := by decide +kernel
theorem dX4_slotFor_22 : decode cX4_slotFor 22 = .ok (.getfield 18, 3) := by decide +kernel
theorem dX4_slotFor_25 : decode cX4_slotFor 25 = .ok (.aload_n 0, 1) := by decide +kernel
theorem dX4_slotFor_26 : decode cX4_slotFor 26 = .ok (.getfield 9, 3) := by decide +kernel
theorem dX4_slotFor_29 : decode cX4_slotFor 29 = .ok (.iload 4, 2) := by decide +kernel
theorem dX4_slotFor_31 : decode cX4_slotFor 31 = .ok (.iaload, 1) := by decide +kernel
theorem dX4_slotFor_32 : decode cX4_slotFor 32 = .ok (.iaload, 1) := by decide +kernel
theorem dX4_slotFor_33 : decode cX4_slotFor 33 = .ok (.iload_n 1, 1) := by decide +kernel
theorem dX4_slotFor_34 : decode cX4_slotFor 34 = .ok (.if_icmp .ne 14, 3) := by decide +kernel
theorem dX4_slotFor_37 : decode cX4_slotFor 37 = .ok (.iload_n 3, 1) := by decide +kernel
theorem dX4_slotFor_38 : decode cX4_slotFor 38 = .ok (.iload_n 2, 1) := by decide +kernel
theorem dX4_slotFor_39 : decode cX4_slotFor 39 = .ok (.if_icmp .ne 6, 3) := by decide +kernel
theorem dX4_slotFor_42 : decode cX4_slotFor 42 = .ok (.iload 4, 2) := by decide +kernel
theorem dX4_slotFor_44 : decode cX4_slotFor 44 = .ok (.ireturn, 1) := by decide +kernel
theorem dX4_slotFor_45 : decode cX4_slotFor 45 = .ok (.iinc 3 1, 3) := by decide +kernel
theorem dX4_slotFor_48 : decode cX4_slotFor 48 = .ok (.iinc 4 1, 3) := by decide +kernel
theorem dX4_slotFor_51 : decode cX4_slotFor 51 = .ok (.goto (-39), 3) := by decide +kernel
theorem dX4_slotFor_54 : decode cX4_slotFor 54 = .ok (.aload_n 0, 1) := by decide +kernel
theorem dX4_slotFor_55 : decode cX4_slotFor 55 = .ok (.aload_n 0, 1) := by decide +kernel
theorem dX4_slotFor_56 : decode cX4_slotFor 56 = .ok (.getfield 15, 3) := by decide +kernel
theorem dX4_slotFor_59 : decode cX4_slotFor 59 = .ok (.iload_n 1, 1) := by decide +kernel
theorem dX4_slotFor_60 : decode cX4_slotFor 60 = .ok (.iaload, 1) := by decide +kernel
theorem dX4_slotFor_61 : decode cX4_slotFor 61 = .ok (.invokevirtual 50, 3) := by decide +kernel
theorem dX4_slotFor_64 : decode cX4_slotFor 64 = .ok (.ireturn, 1) := by decide +kernel
set_option maxRecDepth 20000 in
theorem ggX4_endOf_X4_parentSpot : GoodIn wsX4_endOf wsX4_parentSpot := goodIn_r _ [6, 7, 8, 9, 10, 11, 12, 13, 14, 15] (by decide +kernel) (by decide +kernel)
set_option maxRecDepth 20000 in
theorem gX4_endOf_X4_parentSpot : GoodIn wsX4_endOf (wsV RX4 54 RX4 yX4_parentSpot wsX4_parentSpot) := goodIn_app (goodIn_of _ (by decide +kernel)) ggX4_endOf_X4_parentSpot
theorem dX4_endOf_0 : decode cX4_endOf 0 = .ok (.iload_n 1, 1) := by decide +kernel
theorem dX4_endOf_1 : decode cX4_endOf 1 = .ok (.iconst 1, 1) := by decide +kernel
theorem dX4_endOf_2 : decode cX4_endOf 2 = .ok (.iadd, 1) := by decide +kernel
theorem dX4_endOf_3 : decode cX4_endOf 3 = .ok (.istore_n 2, 1) := by decide +kernel
theorem dX4_endOf_4 : decode cX4_endOf 4 = .ok (.iload_n 2, 1) := by decide +kernel
theorem dX4_endOf_5 : decode cX4_endOf 5 = .ok (.aload_n 0, 1) := by decide +kernel
theorem dX4_endOf_6 : decode cX4_endOf 6 = .ok (.getfield 36, 3) := by decide +kernel
theorem dX4_endOf_9 : decode cX4_endOf 9 = .ok (.if_icmp .ge 20, 3) := by decide +kernel
theorem dX4_endOf_12 : decode cX4_endOf 12 = .ok (.aload_n 0, 1) := by decide +kernel
theorem dX4_endOf_13 : decode cX4_endOf 13 = .ok (.iload_n 2, 1) := by decide +kernel
theorem dX4_endOf_14 : decode cX4_endOf 14 = .ok (.invokevirtual 54, 3) := by decide +kernel
theorem dX4_endOf_17 : decode cX4_endOf 17 = .ok (.iload_n 1, 1) := by decide +kernel
theorem dX4_endOf_18 : decode cX4_endOf 18 = .ok (.if_icmp .ge 5, 3) := by decide +kernel
theorem dX4_endOf_21 : decode cX4_endOf 21 = .ok (.iload_n 2, 1) := by decide +kernel
theorem dX4_endOf_22 : decode cX4_endOf 22 = .ok (.ireturn, 1) := by decide +kernel
theorem dX4_endOf_23 : decode cX4_endOf 23 = .ok (.iinc 2 1, 3) := by decide +kernel
theorem dX4_endOf_26 : decode cX4_endOf 26 = .ok (.goto (-22), 3) := by decide +kernel
theorem dX4_endOf_29 : decode cX4_endOf 29 = .ok (.aload_n 0, 1) := by decide +kernel
theorem dX4_endOf_30 : decode cX4_endOf 30 = .ok (.getfield 36, 3) := by decide +kernel
theorem dX4_endOf_33 : decode cX4_endOf 33 = .ok (.ireturn, 1) := by decide +kernel
theorem dX4_parentSpot_0 : decode cX4_parentSpot 0 = .ok (.aload_n 0, 1) := by decide +kernel
theorem dX4_parentSpot_1 : decode cX4_parentSpot 1 = .ok (.getfield 18, 3) := by decide +kernel
theorem dX4_parentSpot_4 : decode cX4_parentSpot 4 = .ok (.aload_n 0, 1) := by decide +kernel
theorem dX4_parentSpot_5 : decode cX4_parentSpot 5 = .ok (.getfield 9, 3) := by decide +kernel
theorem dX4_parentSpot_8 : decode cX4_parentSpot 8 = .ok (.iload_n 1, 1) := by decide +kernel
theorem dX4_parentSpot_9 : decode cX4_parentSpot 9 = .ok (.iaload, 1) := by decide +kernel
theorem dX4_parentSpot_10 : decode cX4_parentSpot 10 = .ok (.iaload, 1) := by decide +kernel
theorem dX4_parentSpot_11 : decode cX4_parentSpot 11 = .ok (.istore_n 2, 1) := by decide +kernel
theorem dX4_parentSpot_12 : decode cX4_parentSpot 12 = .ok (.iload_n 2, 1) := by decide +kernel
theorem dX4_parentSpot_13 : decode cX4_parentSpot 13 = .ok (.ifCond .ge 7, 3) := by decide +kernel
theorem dX4_parentSpot_16 : decode cX4_parentSpot 16 = .ok (.iconst (-1), 1) := by decide +kernel
theorem dX4_parentSpot_17 : decode cX4_parentSpot 17 = .ok (.goto 9, 3) := by decide +kernel
theorem dX4_parentSpot_20 : decode cX4_parentSpot 20 = .ok (.aload_n 0, 1) := by decide +kernel
theorem dX4_parentSpot_21 : decode cX4_parentSpot 21 = .ok (.getfield 15, 3) := by decide +kernel
theorem dX4_parentSpot_24 : decode cX4_parentSpot 24 = .ok (.iload_n 2, 1) := by decide +kernel
theorem dX4_parentSpot_25 : decode cX4_parentSpot 25 = .ok (.iaload, 1) := by decide +kernel
theorem dX4_parentSpot_26 : decode cX4_parentSpot 26 = .ok (.ireturn, 1) := by decide +kernel
set_option maxRecDepth 20000 in
theorem ggX4_plant_X4_putInto : GoodIn wsX4_plant wsX4_putInto := goodIn_r _ [7, 8, 9, 10, 11, 6, 12, 13, 14, 15, 16, 17, 18, 19, 20, 21, 22, 23, 24, 25, 26, 27, 28, 29] (by decide +kernel) (by decide +kernel)
set_option maxRecDepth 20000 in
theorem gX4_plant_X4_putInto : GoodIn wsX4_plant (wsV RX4 57 RX4 yX4_putInto wsX4_putInto) := goodIn_app (goodIn_of _ (by decide +kernel)) ggX4_plant_X4_putInto
theorem dX4_plant_0 : decode cX4_plant 0 = .ok (.aload_n 0, 1) := by decide +kernel
theorem dX4_plant_1 : decode cX4_plant 1 = .ok (.getfield 18, 3) := by decide +kernel
theorem dX4_plant_4 : decode cX4_plant 4 = .ok (.iload_n 1, 1) := by decide +kernel
theorem dX4_plant_5 : decode cX4_plant 5 = .ok (.iconst (-1), 1) := by decide +kernel
theorem dX4_plant_6 : decode cX4_plant 6 = .ok (.iastore, 1) := by decide +kernel
theorem dX4_plant_7 : decode cX4_plant 7 = .ok (.aload_n 0, 1) := by decide +kernel
theorem dX4_plant_8 : decode cX4_plant 8 = .ok (.getfield 21, 3) := by decide +kernel
theorem dX4_plant_11 : decode cX4_plant 11 = .ok (.iload_n 1, 1) := by decide +kernel
theorem dX4_plant_12 : decode cX4_plant 12 = .ok (.iload_n 2, 1) := by decide +kernel
theorem dX4_plant_13 : decode cX4_plant 13 = .ok (.iastore, 1) := by decide +kernel
theorem dX4_plant_14 : decode cX4_plant 14 = .ok (.aload_n 0, 1) := by decide +kernel
theorem dX4_plant_15 : decode cX4_plant 15 = .ok (.iconst 0, 1) := by decide +kernel
theorem dX4_plant_16 : decode cX4_plant 16 = .ok (.iload_n 1, 1) := by decide +kernel
theorem dX4_plant_17 : decode cX4_plant 17 = .ok (.invokevirtual 57, 3) := by decide +kernel
theorem dX4_plant_20 : decode cX4_plant 20 = .ok (.return_, 1) := by decide +kernel
set_option maxRecDepth 20000 in
theorem ggX4_attach_X4_slotFor : GoodIn wsX4_attach wsX4_slotFor := goodIn_r _ [7, 8, 9, 1, 10, 11, 12, 13, 6, 14, 15, 16, 17, 18, 36, 37, 38, 39, 40, 41] (by decide +kernel) (by decide +kernel)
set_option maxRecDepth 20000 in
theorem gX4_attach_X4_slotFor : GoodIn wsX4_attach (wsV RX4 61 RX4 yX4_slotFor wsX4_slotFor) := goodIn_app (goodIn_of _ (by decide +kernel)) ggX4_attach_X4_slotFor
set_option maxRecDepth 20000 in
theorem ggX4_attach_X4_putInto : GoodIn wsX4_attach wsX4_putInto := goodIn_r _ [22, 23, 24, 25, 26, 6, 27, 10, 9, 28, 29, 30, 31, 32, 33, 34, 35, 8, 36, 37, 38, 39, 40, 41] (by decide +kernel) (by decide +kernel)
set_option maxRecDepth 20000 in
theorem gX4_attach_X4_putInto : GoodIn wsX4_attach (wsV RX4 57 RX4 yX4_putInto wsX4_putInto) := goodIn_app (goodIn_of _ (by decide +kernel)) ggX4_attach_X4_putInto
theorem dX4_attach_0 : decode cX4_attach 0 = .ok (.aload_n 0, 1) := by decide +kernel
theorem dX4_attach_1 : decode cX4_attach 1 = .ok (.getfield 18, 3) := by decide +kernel
theorem dX4_attach_4 : decode cX4_attach 4 = .ok (.iload_n 1, 1) := by decide +kernel
theorem dX4_attach_5 : decode cX4_attach 5 = .ok (.iload_n 3, 1) := by decide +kernel
theorem dX4_attach_6 : decode cX4_attach 6 = .ok (.iastore, 1) := by decide +kernel
theorem dX4_attach_7 : decode cX4_attach 7 = .ok (.aload_n 0, 1) := by decide +kernel
theorem dX4_attach_8 : decode cX4_attach 8 = .ok (.getfield 21, 3) := by decide +kernel
theorem dX4_attach_11 : decode cX4_attach 11 = .ok (.iload_n 1, 1) := by decide +kernel
theorem dX4_attach_12 : decode cX4_attach 12 = .ok (.iload_n 2, 1) := by decide +kernel
theorem dX4_attach_13 : decode cX4_attach 13 = .ok (.iastore, 1) := by decide +kernel
theorem dX4_attach_14 : decode cX4_attach 14 = .ok (.aload_n 0, 1) := by decide +kernel
theorem dX4_attach_15 : decode cX4_attach 15 = .ok (.aload_n 0, 1) := by decide +kernel
theorem dX4_attach_16 : decode cX4_attach 16 = .ok (.iload_n 3, 1) := by decide +kernel
theorem dX4_attach_17 : decode cX4_attach 17 = .ok (.iload 4, 2) := by decide +kernel
theorem dX4_attach_19 : decode cX4_attach 19 = .ok (.invokevirtual 61, 3) := by decide +kernel
theorem dX4_attach_22 : decode cX4_attach 22 = .ok (.iload_n 1, 1) := by decide +kernel
theorem dX4_attach_23 : decode cX4_attach 23 = .ok (.invokevirtual 57, 3) := by decide +kernel
theorem dX4_attach_26 : decode cX4_attach 26 = .ok (.return_, 1) := by decide +kernel
set_option maxRecDepth 20000 in
theorem ggX4_prune_X4_takeOut : GoodIn wsX4_prune wsX4_takeOut := goodIn_r _ [8, 9, 10, 2, 11, 12, 13, 14, 15, 16, 17, 18, 7, 19, 20, 21, 22, 23, 1, 24, 25, 26, 27, 28, 29, 30, 31, 32, 33] (by decide +kernel) (by decide +kernel)
set_option maxRecDepth 20000 in
theorem gX4_prune_X4_takeOut : GoodIn wsX4_prune (wsV RX4 65 RX4 yX4_takeOut wsX4_takeOut) := goodIn_app (goodIn_of _ (by decide +kernel)) ggX4_prune_X4_takeOut
theorem dX4_prune_0 : decode cX4_prune 0 = .ok (.aload_n 0, 1) := by decide +kernel
theorem dX4_prune_1 : decode cX4_prune 1 = .ok (.iload_n 1, 1) := by decide +kernel
theorem dX4_prune_2 : decode cX4_prune 2 = .ok (.invokevirtual 65, 3) := by decide +kernel
theorem dX4_prune_5 : decode cX4_prune 5 = .ok (.istore_n 2, 1) := by decide +kernel
theorem dX4_prune_6 : decode cX4_prune 6 = .ok (.iconst 0, 1) := by decide +kernel
theorem dX4_prune_7 : decode cX4_prune 7 = .ok (.istore_n 3, 1) := by decide +kernel
theorem dX4_prune_8 : decode cX4_prune 8 = .ok (.iload_n 3, 1) := by decide +kernel
theorem dX4_prune_9 : decode cX4_prune 9 = .ok (.iload_n 2, 1) := by decide +kernel
theorem dX4_prune_10 : decode cX4_prune 10 = .ok (.if_icmp .ge 35, 3) := by decide +kernel
theorem dX4_prune_13 : decode cX4_prune 13 = .ok (.aload_n 0, 1) := by decide +kernel
theorem dX4_prune_14 : decode cX4_prune 14 = .ok (.getfield 18, 3) := by decide +kernel
theorem dX4_prune_17 : decode cX4_prune 17 = .ok (.aload_n 0, 1) := by decide +kernel
theorem dX4_prune_18 : decode cX4_prune 18 = .ok (.getfield 24, 3) := by decide +kernel
theorem dX4_prune_21 : decode cX4_prune 21 = .ok (.iload_n 3, 1) := by decide +kernel
theorem dX4_prune_22 : decode cX4_prune 22 = .ok (.iaload, 1) := by decide +kernel
theorem dX4_prune_23 : decode cX4_prune 23 = .ok (.bipush (-2), 2) := by decide +kernel
theorem dX4_prune_25 : decode cX4_prune 25 = .ok (.iastore, 1) := by decide +kernel
theorem dX4_prune_26 : decode cX4_prune 26 = .ok (.aload_n 0, 1) := by decide +kernel
theorem dX4_prune_27 : decode cX4_prune 27 = .ok (.getfield 21, 3) := by decide +kernel
theorem dX4_prune_30 : decode cX4_prune 30 = .ok (.aload_n 0, 1) := by decide +kernel
theorem dX4_prune_31 : decode cX4_prune 31 = .ok (.getfield 24, 3) := by decide +kernel
theorem dX4_prune_34 : decode cX4_prune 34 = .ok (.iload_n 3, 1) := by decide +kernel
theorem dX4_prune_35 : decode cX4_prune 35 = .ok (.iaload, 1) := by decide +kernel
theorem dX4_prune_36 : decode cX4_prune 36 = .ok (.bipush (-2), 2) := by decide +kernel
theorem dX4_prune_38 : decode cX4_prune 38 = .ok (.iastore, 1) := by decide +kernel
theorem dX4_prune_39 : decode cX4_prune 39 = .ok (.iinc 3 1, 3) := by decide +kernel
theorem dX4_prune_42 : decode cX4_prune 42 = .ok (.goto (-34), 3) := by decide +kernel
theorem dX4_prune_45 : decode cX4_prune 45 = .ok (.iload_n 2, 1) := by decide +kernel
theorem dX4_prune_46 : decode cX4_prune 46 = .ok (.ireturn, 1) := by decide +kernel
set_option maxRecDepth 20000 in
theorem ggX4_transplant_X4_takeOut : GoodIn wsX4_transplant wsX4_takeOut := goodIn_r _ [6, 7, 8, 9, 10, 11, 12, 13, 14, 15, 16, 17, 5, 18, 19, 20, 21, 22, 1, 23, 24, 25, 26, 35, 36, 37, 38, 39, 40] (by decide +kernel) (by decide +kernel)
set_option maxRecDepth 20000 in
theorem gX4_transplant_X4_takeOut : GoodIn wsX4_transplant (wsV RX4 65 RX4 yX4_takeOut wsX4_takeOut) := goodIn_app (goodIn_of _ (by decide +kernel)) ggX4_transplant_X4_takeOut
set_option maxRecDepth 20000 in
theorem ggX4_transplant_X4_slotFor : GoodIn wsX4_transplant wsX4_slotFor := goodIn_r _ [30, 7, 14, 1, 8, 15, 16, 17, 5, 18, 19, 20, 21, 22, 35, 36, 37, 38, 39, 40] (by decide +kernel) (by decide +kernel)
set_option maxRecDepth 20000 in
theorem gX4_transplant_X4_slotFor : GoodIn wsX4_transplant (wsV RX4 61 RX4 yX4_slotFor wsX4_slotFor) := goodIn_app (goodIn_of _ (by decide +kernel)) ggX4_transplant_X4_slotFor
set_option maxRecDepth 20000 in
theorem ggX4_transplant_X4_putCarried : GoodIn wsX4_transplant wsX4_putCarried := goodIn_r _ [34, 8, 14, 10, 11, 12, 13, 9, 23, 24, 25, 5, 26, 7, 35, 36, 37, 38, 39, 40] (by decide +kernel) (by decide +kernel)
set_option maxRecDepth 20000 in
theorem gX4_transplant_X4_putCarried : GoodIn wsX4_transplant (wsV RX4 68 RX4 yX4_putCarried wsX4_putCarried) := goodIn_app (goodIn_of _ (by decide +kernel)) ggX4_transplant_X4_putCarried
theorem dX4_transplant_0 : decode cX4_transplant 0 = .ok (.aload_n 0, 1) := by decide +kernel
theorem dX4_transplant_1 : decode cX4_transplant 1 = .ok (.iload_n 1, 1) := by decide +kernel
theorem dX4_transplant_2 : decode cX4_transplant 2 = .ok (.invokevirtual 65, 3) := by decide +kernel
theorem dX4_transplant_5 : decode cX4_transplant 5 = .ok (.istore 4, 2) := by decide +kernel
theorem dX4_transplant_7 : decode cX4_transplant 7 = .ok (.aload_n 0, 1) := by decide +kernel
theorem dX4_transplant_8 : decode cX4_transplant 8 = .ok (.iload_n 2, 1) := by decide +kernel
theorem dX4_transplant_9 : decode cX4_transplant 9 = .ok (.iload_n 3, 1) := by decide +kernel
theorem dX4_transplant_10 : decode cX4_transplant 10 = .ok (.invokevirtual 61, 3) := by decide +kernel
theorem dX4_transplant_13 : decode cX4_transplant 13 = .ok (.istore 5, 2) := by decide +kernel
theorem dX4_transplant_15 : decode cX4_transplant 15 = .ok (.aload_n 0, 1) := by decide +kernel
theorem dX4_transplant_16 : decode cX4_transplant 16 = .ok (.getfield 18, 3) := by decide +kernel
theorem dX4_transplant_19 : decode cX4_transplant 19 = .ok (.iload_n 1, 1) := by decide +kernel
theorem dX4_transplant_20 : decode cX4_transplant 20 = .ok (.iload_n 2, 1) := by decide +kernel
theorem dX4_transplant_21 : decode cX4_transplant 21 = .ok (.iastore, 1) := by decide +kernel
theorem dX4_transplant_22 : decode cX4_transplant 22 = .ok (.aload_n 0, 1) := by decide +kernel
theorem dX4_transplant_23 : decode cX4_transplant 23 = .ok (.iload 5, 2) := by decide +kernel
theorem dX4_transplant_25 : decode cX4_transplant 25 = .ok (.iload 4, 2) := by decide +kernel
theorem dX4_transplant_27 : decode cX4_transplant 27 = .ok (.invokevirtual 68, 3) := by decide +kernel
theorem dX4_transplant_30 : decode cX4_transplant 30 = .ok (.return_, 1) := by decide +kernel
set_option maxRecDepth 20000 in
theorem ggX4_putInto_X4_putCarried : GoodIn wsX4_putInto wsX4_putCarried := goodIn_r _ [6, 7, 8, 9, 10, 11, 12, 1, 13, 14, 15, 5, 16, 17, 18, 19, 20, 21, 22, 23] (by decide +kernel) (by decide +kernel)
set_option maxRecDepth 20000 in
theorem gX4_putInto_X4_putCarried : GoodIn wsX4_putInto (wsV RX4 68 RX4 yX4_putCarried wsX4_putCarried) := goodIn_app (goodIn_of _ (by decide +kernel)) ggX4_putInto_X4_putCarried
theorem dX4_putInto_0 : decode cX4_putInto 0 = .ok (.aload_n 0, 1) := by decide +kernel
theorem dX4_putInto_1 : decode cX4_putInto 1 = .ok (.getfield 24, 3) := by decide +kernel
theorem dX4_putInto_4 : decode cX4_putInto 4 = .ok (.iconst 0, 1) := by decide +kernel
theorem dX4_putInto_5 : decode cX4_putInto 5 = .ok (.iload_n 2, 1) := by decide +kernel
theorem dX4_putInto_6 : decode cX4_putInto 6 = .ok (.iastore, 1) := by decide +kernel
theorem dX4_putInto_7 : decode cX4_putInto 7 = .ok (.aload_n 0, 1) := by decide +kernel
theorem dX4_putInto_8 : decode cX4_putInto 8 = .ok (.iload_n 1, 1) := by decide +kernel
theorem dX4_putInto_9 : decode cX4_putInto 9 = .ok (.iconst 1, 1) := by decide +kernel
theorem dX4_putInto_10 : decode cX4_putInto 10 = .ok (.invokevirtual 68, 3) := by decide +kernel
theorem dX4_putInto_13 : decode cX4_putInto 13 = .ok (.return_, 1) := by decide +kernel
set_option maxRecDepth 20000 in
theorem ggX4_takeOut_X4_endOf : GoodIn wsX4_takeOut wsX4_endOf := goodIn_r _ [13, 8, 14, 15, 16, 12, 17, 18, 2, 1, 23, 24, 25, 26, 27, 28] (by decide +kernel) (by decide +kernel)
set_option maxRecDepth 20000 in
theorem gX4_takeOut_X4_endOf : GoodIn wsX4_takeOut (wsV RX4 50 RX4 yX4_endOf wsX4_endOf) := goodIn_app (goodIn_of _ (by decide +kernel)) ggX4_takeOut_X4_endOf
set_option maxRecDepth 20000 in
theorem ggX4_takeOut_X4_renumberFrom : GoodIn wsX4_takeOut wsX4_renumberFrom := goodIn_r _ [22, 8, 1, 2, 23, 24, 25, 26, 27, 28] (by decide +kernel) (by decide +kernel)
set_option maxRecDepth 20000 in
theorem gX4_takeOut_X4_renumberFrom : GoodIn wsX4_takeOut (wsV RX4 71 RX4 yX4_renumberFrom wsX4_renumberFrom) := goodIn_app (goodIn_of _ (by decide +kernel)) ggX4_takeOut_X4_renumberFrom
theorem dX4_takeOut_0 : decode cX4_takeOut 0 = .ok (.aload_n 0, 1) := by decide +kernel
theorem dX4_takeOut_1 : decode cX4_takeOut 1 = .ok (.getfield 15, 3) := by decide +kernel
theorem dX4_takeOut_4 : decode cX4_takeOut 4 = .ok (.iload_n 1, 1) := by decide +kernel
theorem dX4_takeOut_5 : decode cX4_takeOut 5 = .ok (.iaload, 1) := by decide +kernel
theorem dX4_takeOut_6 : decode cX4_takeOut 6 = .ok (.istore_n 2, 1) := by decide +kernel
theorem dX4_takeOut_7 : decode cX4_takeOut 7 = .ok (.aload_n 0, 1) := by decide +kernel
theorem dX4_takeOut_8 : decode cX4_takeOut 8 = .ok (.iload_n 2, 1) := by decide +kernel
theorem dX4_takeOut_9 : decode cX4_takeOut 9 = .ok (.invokevirtual 50, 3) := by decide +kernel
theorem dX4_takeOut_12 : decode cX4_takeOut 12 = .ok (.istore_n 3, 1) := by decide +kernel
theorem dX4_takeOut_13 : decode cX4_takeOut 13 = .ok (.aload_n 0, 1) := by decide +kernel
theorem dX4_takeOut_14 : decode cX4_takeOut 14 = .ok (.getfield 9, 3) := by decide +kernel
theorem dX4_takeOut_17 : decode cX4_takeOut 17 = .ok (.iload_n 2, 1) := by decide +kernel
theorem dX4_takeOut_18 : decode cX4_takeOut 18 = .ok (.aload_n 0, 1) := by decide +kernel
theorem dX4_takeOut_19 : decode cX4_takeOut 19 = .ok (.getfield 24, 3) := by decide +kernel
theorem dX4_takeOut_22 : decode cX4_takeOut 22 = .ok (.iconst 0, 1) := by decide +kernel
theorem dX4_takeOut_23 : decode cX4_takeOut 23 = .ok (.iload_n 3, 1) := by decide +kernel
theorem dX4_takeOut_24 : decode cX4_takeOut 24 = .ok (.iload_n 2, 1) := by decide +kernel
theorem dX4_takeOut_25 : decode cX4_takeOut 25 = .ok (.isub, 1) := by decide +kernel
theorem dX4_takeOut_26 : decode cX4_takeOut 26 = .ok (.invokestatic 40, 3) := by decide +kernel
theorem dX4_takeOut_29 : decode cX4_takeOut 29 = .ok (.aload_n 0, 1) := by decide +kernel
theorem dX4_takeOut_30 : decode cX4_takeOut 30 = .ok (.getfield 9, 3) := by decide +kernel
theorem dX4_takeOut_33 : decode cX4_takeOut 33 = .ok (.iload_n 3, 1) := by decide +kernel
theorem dX4_takeOut_34 : decode cX4_takeOut 34 = .ok (.aload_n 0, 1) := by decide +kernel
theorem dX4_takeOut_35 : decode cX4_takeOut 35 = .ok (.getfield 9, 3) := by decide +kernel
theorem dX4_takeOut_38 : decode cX4_takeOut 38 = .ok (.iload_n 2, 1) := by decide +kernel
theorem dX4_takeOut_39 : decode cX4_takeOut 39 = .ok (.aload_n 0, 1) := by decide +kernel
theorem dX4_takeOut_40 : decode cX4_takeOut 40 = .ok (.getfield 36, 3) := by decide +kernel
theorem dX4_takeOut_43 : decode cX4_takeOut 43 = .ok (.iload_n 3, 1) := by decide +kernel
theorem dX4_takeOut_44 : decode cX4_takeOut 44 = .ok (.isub, 1) := by decide +kernel
theorem dX4_takeOut_45 : decode cX4_takeOut 45 = .ok (.invokestatic 40, 3) := by decide +kernel
theorem dX4_takeOut_48 : decode cX4_takeOut 48 = .ok (.aload_n 0, 1) := by decide +kernel
theorem dX4_takeOut_49 : decode cX4_takeOut 49 = .ok (.dup, 1) := by decide +kernel
theorem dX4_takeOut_50 : decode cX4_takeOut 50 = .ok (.getfield 36, 3) := by decide +kernel
theorem dX4_takeOut_53 : decode cX4_takeOut 53 = .ok (.iload_n 3, 1) := by decide +kernel
theorem dX4_takeOut_54 : decode cX4_takeOut 54 = .ok (.iload_n 2, 1) := by decide +kernel
theorem dX4_takeOut_55 : decode cX4_takeOut 55 = .ok (.isub, 1) := by decide +kernel
theorem dX4_takeOut_56 : decode cX4_takeOut 56 = .ok (.isub, 1) := by decide +kernel
theorem dX4_takeOut_57 : decode cX4_takeOut 57 = .ok (.putfield 36, 3) := by decide +kernel
theorem dX4_takeOut_60 : decode cX4_takeOut 60 = .ok (.aload_n 0, 1) := by decide +kernel
theorem dX4_takeOut_61 : decode cX4_takeOut 61 = .ok (.iload_n 2, 1) := by decide +kernel
theorem dX4_takeOut_62 : decode cX4_takeOut 62 = .ok (.invokevirtual 71, 3) := by decide +kernel
theorem dX4_takeOut_65 : decode cX4_takeOut 65 = .ok (.iload_n 3, 1) := by decide +kernel
theorem dX4_takeOut_66 : decode cX4_takeOut 66 = .ok (.iload_n 2, 1) := by decide +kernel
theorem dX4_takeOut_67 : decode cX4_takeOut 67 = .ok (.isub, 1) := by decide +kernel
theorem dX4_takeOut_68 : decode cX4_takeOut 68 = .ok (.ireturn, 1) := by decide +kernel
set_option maxRecDepth 20000 in
theorem ggX4_putCarried_X4_renumberFrom : GoodIn wsX4_putCarried wsX4_renumberFrom := goodIn_r _ [12, 2, 13, 1, 14, 15, 16, 17, 18, 19] (by decide +kernel) (by decide +kernel)
set_option maxRecDepth 20000 in
theorem gX4_putCarried_X4_renumberFrom : GoodIn wsX4_putCarried (wsV RX4 71 RX4 yX4_renumberFrom wsX4_renumberFrom) := goodIn_app (goodIn_of _ (by decide +kernel)) ggX4_putCarried_X4_renumberFrom
theorem dX4_putCarried_0 : decode cX4_putCarried 0 = .ok (.aload_n 0, 1) := by decide +kernel
theorem dX4_putCarried_1 : decode cX4_putCarried 1 = .ok (.getfield 9, 3) := by decide +kernel
theorem dX4_putCarried_4 : decode cX4_putCarried 4 = .ok (.iload_n 1, 1) := by decide +kernel
theorem dX4_putCarried_5 : decode cX4_putCarried 5 = .ok (.aload_n 0, 1) := by decide +kernel
theorem dX4_putCarried_6 : decode cX4_putCarried 6 = .ok (.getfield 9, 3) := by decide +kernel
theorem dX4_putCarried_9 : decode cX4_putCarried 9 = .ok (.iload_n 1, 1) := by decide +kernel
theorem dX4_putCarried_10 : decode cX4_putCarried 10 = .ok (.iload_n 2, 1) := by decide +kernel
theorem dX4_putCarried_11 : decode cX4_putCarried 11 = .ok (.iadd, 1) := by decide +kernel
theorem dX4_putCarried_12 : decode cX4_putCarried 12 = .ok (.aload_n 0, 1) := by decide +kernel
theorem dX4_putCarried_13 : decode cX4_putCarried 13 = .ok (.getfield 36, 3) := by decide +kernel
theorem dX4_putCarried_16 : decode cX4_putCarried 16 = .ok (.iload_n 1, 1) := by decide +kernel
theorem dX4_putCarried_17 : decode cX4_putCarried 17 = .ok (.isub, 1) := by decide +kernel
theorem dX4_putCarried_18 : decode cX4_putCarried 18 = .ok (.invokestatic 40, 3) := by decide +kernel
theorem dX4_putCarried_21 : decode cX4_putCarried 21 = .ok (.aload_n 0, 1) := by decide +kernel
theorem dX4_putCarried_22 : decode cX4_putCarried 22 = .ok (.getfield 24, 3) := by decide +kernel
theorem dX4_putCarried_25 : decode cX4_putCarried 25 = .ok (.iconst 0, 1) := by decide +kernel
theorem dX4_putCarried_26 : decode cX4_putCarried 26 = .ok (.aload_n 0, 1) := by decide +kernel
theorem dX4_putCarried_27 : decode cX4_putCarried 27 = .ok (.getfield 9, 3) := by decide +kernel
theorem dX4_putCarried_30 : decode cX4_putCarried 30 = .ok (.iload_n 1, 1) := by decide +kernel
theorem dX4_putCarried_31 : decode cX4_putCarried 31 = .ok (.iload_n 2, 1) := by decide +kernel
theorem dX4_putCarried_32 : decode cX4_putCarried 32 = .ok (.invokestatic 40, 3) := by decide +kernel
theorem dX4_putCarried_35 : decode cX4_putCarried 35 = .ok (.aload_n 0, 1) := by decide +kernel
theorem dX4_putCarried_36 : decode cX4_putCarried 36 = .ok (.dup, 1) := by decide +kernel
theorem dX4_putCarried_37 : decode cX4_putCarried 37 = .ok (.getfield 36, 3) := by decide +kernel
theorem dX4_putCarried_40 : decode cX4_putCarried 40 = .ok (.iload_n 2, 1) := by decide +kernel
theorem dX4_putCarried_41 : decode cX4_putCarried 41 = .ok (.iadd, 1) := by decide +kernel
theorem dX4_putCarried_42 : decode cX4_putCarried 42 = .ok (.putfield 36, 3) := by decide +kernel
theorem dX4_putCarried_45 : decode cX4_putCarried 45 = .ok (.aload_n 0, 1) := by decide +kernel
theorem dX4_putCarried_46 : decode cX4_putCarried 46 = .ok (.iload_n 1, 1) := by decide +kernel
theorem dX4_putCarried_47 : decode cX4_putCarried 47 = .ok (.invokevirtual 71, 3) := by decide +kernel
theorem dX4_putCarried_50 : decode cX4_putCarried 50 = .ok (.return_, 1) := by decide +kernel
theorem dX4_renumberFrom_0 : decode cX4_renumberFrom 0 = .ok (.iload_n 1, 1) := by decide +kernel
theorem dX4_renumberFrom_1 : decode cX4_renumberFrom 1 = .ok (.istore_n 2, 1) := by decide +kernel
theorem dX4_renumberFrom_2 : decode cX4_renumberFrom 2 = .ok (.iload_n 2, 1) := by decide +kernel
theorem dX4_renumberFrom_3 : decode cX4_renumberFrom 3 = .ok (.aload_n 0, 1) := by decide +kernel
theorem dX4_renumberFrom_4 : decode cX4_renumberFrom 4 = .ok (.getfield 36, 3) := by decide +kernel
theorem dX4_renumberFrom_7 : decode cX4_renumberFrom 7 = .ok (.if_icmp .ge 21, 3) := by decide +kernel
theorem dX4_renumberFrom_10 : decode cX4_renumberFrom 10 = .ok (.aload_n 0, 1) := by decide +kernel
theorem dX4_renumberFrom_11 : decode cX4_renumberFrom 11 = .ok (.getfield 15, 3) := by decide +kernel
theorem dX4_renumberFrom_14 : decode cX4_renumberFrom 14 = .ok (.aload_n 0, 1) := by decide +kernel
theorem dX4_renumberFrom_15 : decode cX4_renumberFrom 15 = .ok (.getfield 9, 3) := by decide +kernel
theorem dX4_renumberFrom_18 : decode cX4_renumberFrom 18 = .ok (.iload_n 2, 1) := by decide +kernel
theorem dX4_renumberFrom_19 : decode cX4_renumberFrom 19 = .ok (.iaload, 1) := by decide +kernel
theorem dX4_renumberFrom_20 : decode cX4_renumberFrom 20 = .ok (.iload_n 2, 1) := by decide +kernel
theorem dX4_renumberFrom_21 : decode cX4_renumberFrom 21 = .ok (.iastore, 1) := by decide +kernel
theorem dX4_renumberFrom_22 : decode cX4_renumberFrom 22 = .ok (.iinc 2 1, 3) := by decide +kernel
theorem dX4_renumberFrom_25 : decode cX4_renumberFrom 25 = .ok (.goto (-23), 3) := by decide +kernel
theorem dX4_renumberFrom_28 : decode cX4_renumberFrom 28 = .ok (.return_, 1) := by decide +kernel
set_option maxRecDepth 20000 in
theorem ggX4_pick_X5_isIn : GoodIn wsX4_pick wsX5_isIn := goodIn_r _ [5] (by decide +kernel) (by decide +kernel)
set_option maxRecDepth 20000 in
theorem gX4_pick_X5_isIn_n75 : GoodIn wsX4_pick (wsX5_isIn) := ggX4_pick_X5_isIn
theorem dX4_pick_0 : decode cX4_pick 0 = .ok (.iconst 0, 1) := by decide +kernel
theorem dX4_pick_1 : decode cX4_pick 1 = .ok (.istore_n 3, 1) := by decide +kernel
theorem dX4_pick_2 : decode cX4_pick 2 = .ok (.iconst 0, 1) := by decide +kernel
theorem dX4_pick_3 : decode cX4_pick 3 = .ok (.istore 4, 2) := by decide +kernel
theorem dX4_pick_5 : decode cX4_pick 5 = .ok (.iload 4, 2) := by decide +kernel
theorem dX4_pick_7 : decode cX4_pick 7 = .ok (.aload_n 0, 1) := by decide +kernel
theorem dX4_pick_8 : decode cX4_pick 8 = .ok (.getfield 36, 3) := by decide +kernel
theorem dX4_pick_11 : decode cX4_pick 11 = .ok (.if_icmp .ge 39, 3) := by decide +kernel
theorem dX4_pick_14 : decode cX4_pick 14 = .ok (.iload_n 1, 1) := by decide +kernel
theorem dX4_pick_15 : decode cX4_pick 15 = .ok (.aload_n 0, 1) := by decide +kernel
theorem dX4_pick_16 : decode cX4_pick 16 = .ok (.getfield 9, 3) := by decide +kernel
theorem dX4_pick_19 : decode cX4_pick 19 = .ok (.iload 4, 2) := by decide +kernel
theorem dX4_pick_21 : decode cX4_pick 21 = .ok (.iaload, 1) := by decide +kernel
theorem dX4_pick_22 : decode cX4_pick 22 = .ok (.invokestatic 75, 3) := by decide +kernel
theorem dX4_pick_25 : decode cX4_pick 25 = .ok (.ifCond .eq 19, 3) := by decide +kernel
theorem dX4_pick_28 : decode cX4_pick 28 = .ok (.iload_n 3, 1) := by decide +kernel
theorem dX4_pick_29 : decode cX4_pick 29 = .ok (.iload_n 2, 1) := by decide +kernel
theorem dX4_pick_30 : decode cX4_pick 30 = .ok (.if_icmp .ne 11, 3) := by decide +kernel
theorem dX4_pick_33 : decode cX4_pick 33 = .ok (.aload_n 0, 1) := by decide +kernel
theorem dX4_pick_34 : decode cX4_pick 34 = .ok (.getfield 9, 3) := by decide +kernel
theorem dX4_pick_37 : decode cX4_pick 37 = .ok (.iload 4, 2) := by decide +kernel
theorem dX4_pick_39 : decode cX4_pick 39 = .ok (.iaload, 1) := by decide +kernel
theorem dX4_pick_40 : decode cX4_pick 40 = .ok (.ireturn, 1) := by decide +kernel
theorem dX4_pick_41 : decode cX4_pick 41 = .ok (.iinc 3 1, 3) := by decide +kernel
theorem dX4_pick_44 : decode cX4_pick 44 = .ok (.iinc 4 1, 3) := by decide +kernel
theorem dX4_pick_47 : decode cX4_pick 47 = .ok (.goto (-42), 3) := by decide +kernel
theorem dX4_pick_50 : decode cX4_pick 50 = .ok (.iconst (-1), 1) := by decide +kernel
theorem dX4_pick_51 : decode cX4_pick 51 = .ok (.ireturn, 1) := by decide +kernel
set_option maxRecDepth 20000 in
theorem ggX4_firstAlike_X4_areAlike : GoodIn wsX4_firstAlike wsX4_areAlike := goodIn_r _ [7, 8, 2, 9, 10, 11, 6, 12, 13, 14, 15, 16, 17, 18, 1, 19, 20, 21, 22, 23, 24] (by decide +kernel) (by decide +kernel)
set_option maxRecDepth 20000 in
theorem gX4_firstAlike_X4_areAlike : GoodIn wsX4_firstAlike (wsV RX4 79 RX4 yX4_areAlike wsX4_areAlike) := goodIn_app (goodIn_of _ (by decide +kernel)) ggX4_firstAlike_X4_areAlike
theorem dX4_firstAlike_0 : decode cX4_firstAlike 0 = .ok (.iconst 0, 1) := by decide +kernel
theorem dX4_firstAlike_1 : decode cX4_firstAlike 1 = .ok (.istore_n 2, 1) := by decide +kernel
theorem dX4_firstAlike_2 : decode cX4_firstAlike 2 = .ok (.iload_n 2, 1) := by decide +kernel
theorem dX4_firstAlike_3 : decode cX4_firstAlike 3 = .ok (.aload_n 0, 1) := by decide +kernel
theorem dX4_firstAlike_4 : decode cX4_firstAlike 4 = .ok (.getfield 15, 3) := by decide +kernel
theorem dX4_firstAlike_7 : decode cX4_firstAlike 7 = .ok (.iload_n 1, 1) := by decide +kernel
theorem dX4_firstAlike_8 : decode cX4_firstAlike 8 = .ok (.iaload, 1) := by decide +kernel
theorem dX4_firstAlike_9 : decode cX4_firstAlike 9 = .ok (.if_icmp .ge 30, 3) := by decide +kernel
theorem dX4_firstAlike_12 : decode cX4_firstAlike 12 = .ok (.aload_n 0, 1) := by decide +kernel
theorem dX4_firstAlike_13 : decode cX4_firstAlike 13 = .ok (.iload_n 2, 1) := by decide +kernel
theorem dX4_firstAlike_14 : decode cX4_firstAlike 14 = .ok (.aload_n 0, 1) := by decide +kernel
theorem dX4_firstAlike_15 : decode cX4_firstAlike 15 = .ok (.getfield 15, 3) := by decide +kernel
theorem dX4_firstAlike_18 : decode cX4_firstAlike 18 = .ok (.iload_n 1, 1) := by decide +kernel
theorem dX4_firstAlike_19 : decode cX4_firstAlike 19 = .ok (.iaload, 1) := by decide +kernel
theorem dX4_firstAlike_20 : decode cX4_firstAlike 20 = .ok (.invokevirtual 79, 3) := by decide +kernel
theorem dX4_firstAlike_23 : decode cX4_firstAlike 23 = .ok (.ifCond .eq 10, 3) := by decide +kernel
theorem dX4_firstAlike_26 : decode cX4_firstAlike 26 = .ok (.aload_n 0, 1) := by decide +kernel
theorem dX4_firstAlike_27 : decode cX4_firstAlike 27 = .ok (.getfield 9, 3) := by decide +kernel
theorem dX4_firstAlike_30 : decode cX4_firstAlike 30 = .ok (.iload_n 2, 1) := by decide +kernel
theorem dX4_firstAlike_31 : decode cX4_firstAlike 31 = .ok (.iaload, 1) := by decide +kernel
theorem dX4_firstAlike_32 : decode cX4_firstAlike 32 = .ok (.ireturn, 1) := by decide +kernel
theorem dX4_firstAlike_33 : decode cX4_firstAlike 33 = .ok (.iinc 2 1, 3) := by decide +kernel
theorem dX4_firstAlike_36 : decode cX4_firstAlike 36 = .ok (.goto (-34), 3) := by decide +kernel
theorem dX4_firstAlike_39 : decode cX4_firstAlike 39 = .ok (.iload_n 1, 1) := by decide +kernel
theorem dX4_firstAlike_40 : decode cX4_firstAlike 40 = .ok (.ireturn, 1) := by decide +kernel
set_option maxRecDepth 20000 in
theorem ggX4_areAlike_X4_endOf : GoodIn wsX4_areAlike wsX4_endOf := goodIn_r _ [7, 8, 9, 10, 11, 6, 12, 13, 2, 14, 15, 16, 17, 18, 19, 20] (by decide +kernel) (by decide +kernel)
set_option maxRecDepth 20000 in
theorem gX4_areAlike_X4_endOf : GoodIn wsX4_areAlike (wsV RX4 50 RX4 yX4_endOf wsX4_endOf) := goodIn_app (goodIn_of _ (by decide +kernel)) ggX4_areAlike_X4_endOf
set_option maxRecDepth 20000 in
theorem ggX4_areAlike_X4_parentSpot : GoodIn wsX4_areAlike wsX4_parentSpot := goodIn_r _ [12, 13, 2, 14, 15, 16, 17, 18, 19, 20] (by decide +kernel) (by decide +kernel)
set_option maxRecDepth 20000 in
theorem gX4_areAlike_X4_parentSpot : GoodIn wsX4_areAlike (wsV RX4 54 RX4 yX4_parentSpot wsX4_parentSpot) := goodIn_app (goodIn_of _ (by decide +kernel)) ggX4_areAlike_X4_parentSpot
theorem dX4_areAlike_0 : decode cX4_areAlike 0 = .ok (.aload_n 0, 1) := by decide +kernel
theorem dX4_areAlike_1 : decode cX4_areAlike 1 = .ok (.iload_n 1, 1) := by decide +kernel
theorem dX4_areAlike_2 : decode cX4_areAlike 2 = .ok (.invokevirtual 50, 3) := by decide +kernel
theorem dX4_areAlike_5 : decode cX4_areAlike 5 = .ok (.iload_n 1, 1) := by decide +kernel
theorem dX4_areAlike_6 : decode cX4_areAlike 6 = .ok (.isub, 1) := by decide +kernel
theorem dX4_areAlike_7 : decode cX4_areAlike 7 = .ok (.istore_n 3, 1) := by decide +kernel
theorem dX4_areAlike_8 : decode cX4_areAlike 8 = .ok (.aload_n 0, 1) := by decide +kernel
theorem dX4_areAlike_9 : decode cX4_areAlike 9 = .ok (.iload_n 2, 1) := by decide +kernel
theorem dX4_areAlike_10 : decode cX4_areAlike 10 = .ok (.invokevirtual 50, 3) := by decide +kernel
theorem dX4_areAlike_13 : decode cX4_areAlike 13 = .ok (.iload_n 2, 1) := by decide +kernel
theorem dX4_areAlike_14 : decode cX4_areAlike 14 = .ok (.isub, 1) := by decide +kernel
theorem dX4_areAlike_15 : decode cX4_areAlike 15 = .ok (.iload_n 3, 1) := by decide +kernel
theorem dX4_areAlike_16 : decode cX4_areAlike 16 = .ok (.if_icmp .ne 28, 3) := by decide +kernel
theorem dX4_areAlike_19 : decode cX4_areAlike 19 = .ok (.aload_n 0, 1) := by decide +kernel
theorem dX4_areAlike_20 : decode cX4_areAlike 20 = .ok (.getfield 21, 3) := by decide +kernel
theorem dX4_areAlike_23 : decode cX4_areAlike 23 = .ok (.aload_n 0, 1) := by decide +kernel
theorem dX4_areAlike_24 : decode cX4_areAlike 24 = .ok (.getfield 9, 3) := by decide +kernel
theorem dX4_areAlike_27 : decode cX4_areAlike 27 = .ok (.iload_n 1, 1) := by decide +kernel
theorem dX4_areAlike_28 : decode cX4_areAlike 28 = .ok (.iaload, 1) := by decide +kernel
theorem dX4_areAlike_29 : decode cX4_areAlike 29 = .ok (.iaload, 1) := by decide +kernel
theorem dX4_areAlike_30 : decode cX4_areAlike 30 = .ok (.aload_n 0, 1) := by decide +kernel
theorem dX4_areAlike_31 : decode cX4_areAlike 31 = .ok (.getfield 21, 3) := by decide +kernel
theorem dX4_areAlike_34 : decode cX4_areAlike 34 = .ok (.aload_n 0, 1) := by decide +kernel
theorem dX4_areAlike_35 : decode cX4_areAlike 35 = .ok (.getfield 9, 3) := by decide +kernel
theorem dX4_areAlike_38 : decode cX4_areAlike 38 = .ok (.iload_n 2, 1) := by decide +kernel
theorem dX4_areAlike_39 : decode cX4_areAlike 39 = .ok (.iaload, 1) := by decide +kernel
theorem dX4_areAlike_40 : decode cX4_areAlike 40 = .ok (.iaload, 1) := by decide +kernel
theorem dX4_areAlike_41 : decode cX4_areAlike 41 = .ok (.if_icmp .eq 5, 3) := by decide +kernel
theorem dX4_areAlike_44 : decode cX4_areAlike 44 = .ok (.iconst 0, 1) := by decide +kernel
theorem dX4_areAlike_45 : decode cX4_areAlike 45 = .ok (.ireturn, 1) := by decide +kernel
theorem dX4_areAlike_46 : decode cX4_areAlike 46 = .ok (.iconst 1, 1) := by decide +kernel
theorem dX4_areAlike_47 : decode cX4_areAlike 47 = .ok (.istore 4, 2) := by decide +kernel
theorem dX4_areAlike_49 : decode cX4_areAlike 49 = .ok (.iload 4, 2) := by decide +kernel
theorem dX4_areAlike_51 : decode cX4_areAlike 51 = .ok (.iload_n 3, 1) := by decide +kernel
theorem dX4_areAlike_52 : decode cX4_areAlike 52 = .ok (.if_icmp .ge 89, 3) := by decide +kernel
theorem dX4_areAlike_55 : decode cX4_areAlike 55 = .ok (.aload_n 0, 1) := by decide +kernel
theorem dX4_areAlike_56 : decode cX4_areAlike 56 = .ok (.getfield 21, 3) := by decide +kernel
theorem dX4_areAlike_59 : decode cX4_areAlike 59 = .ok (.aload_n 0, 1) := by decide +kernel
theorem dX4_areAlike_60 : decode cX4_areAlike 60 = .ok (.getfield 9, 3) := by decide +kernel
theorem dX4_areAlike_63 : decode cX4_areAlike 63 = .ok (.iload_n 1, 1) := by decide +kernel
theorem dX4_areAlike_64 : decode cX4_areAlike 64 = .ok (.iload 4, 2) := by decide +kernel
theorem dX4_areAlike_66 : decode cX4_areAlike 66 = .ok (.iadd, 1) := by decide +kernel
theorem dX4_areAlike_67 : decode cX4_areAlike 67 = .ok (.iaload, 1) := by decide +kernel
theorem dX4_areAlike_68 : decode cX4_areAlike 68 = .ok (.iaload, 1) := by decide +kernel
theorem dX4_areAlike_69 : decode cX4_areAlike 69 = .ok (.aload_n 0, 1) := by decide +kernel
theorem dX4_areAlike_70 : decode cX4_areAlike 70 = .ok (.getfield 21, 3) := by decide +kernel
theorem dX4_areAlike_73 : decode cX4_areAlike 73 = .ok (.aload_n 0, 1) := by decide +kernel
theorem dX4_areAlike_74 : decode cX4_areAlike 74 = .ok (.getfield 9, 3) := by decide +kernel
theorem dX4_areAlike_77 : decode cX4_areAlike 77 = .ok (.iload_n 2, 1) := by decide +kernel
theorem dX4_areAlike_78 : decode cX4_areAlike 78 = .ok (.iload 4, 2) := by decide +kernel
theorem dX4_areAlike_80 : decode cX4_areAlike 80 = .ok (.iadd, 1) := by decide +kernel
theorem dX4_areAlike_81 : decode cX4_areAlike 81 = .ok (.iaload, 1) := by decide +kernel
theorem dX4_areAlike_82 : decode cX4_areAlike 82 = .ok (.iaload, 1) := by decide +kernel
theorem dX4_areAlike_83 : decode cX4_areAlike 83 = .ok (.if_icmp .ne 7, 3) := by decide +kernel
theorem dX4_areAlike_86 : decode cX4_areAlike 86 = .ok (.iconst 1, 1) := by decide +kernel
theorem dX4_areAlike_87 : decode cX4_areAlike 87 = .ok (.goto 4, 3) := by decide +kernel
theorem dX4_areAlike_90 : decode cX4_areAlike 90 = .ok (.iconst 0, 1) := by decide +kernel
theorem dX4_areAlike_91 : decode cX4_areAlike 91 = .ok (.istore 5, 2) := by decide +kernel
theorem dX4_areAlike_93 : decode cX4_areAlike 93 = .ok (.aload_n 0, 1) := by decide +kernel
theorem dX4_areAlike_94 : decode cX4_areAlike 94 = .ok (.iload_n 1, 1) := by decide +kernel
theorem dX4_areAlike_95 : decode cX4_areAlike 95 = .ok (.iload 4, 2) := by decide +kernel
theorem dX4_areAlike_97 : decode cX4_areAlike 97 = .ok (.iadd, 1) := by decide +kernel
theorem dX4_areAlike_98 : decode cX4_areAlike 98 = .ok (.invokevirtual 54, 3) := by decide +kernel
theorem dX4_areAlike_101 : decode cX4_areAlike 101 = .ok (.iload_n 1, 1) := by decide +kernel
theorem dX4_areAlike_102 : decode cX4_areAlike 102 = .ok (.isub, 1) := by decide +kernel
theorem dX4_areAlike_103 : decode cX4_areAlike 103 = .ok (.aload_n 0, 1) := by decide +kernel
theorem dX4_areAlike_104 : decode cX4_areAlike 104 = .ok (.iload_n 2, 1) := by decide +kernel
theorem dX4_areAlike_105 : decode cX4_areAlike 105 = .ok (.iload 4, 2) := by decide +kernel
theorem dX4_areAlike_107 : decode cX4_areAlike 107 = .ok (.iadd, 1) := by decide +kernel
theorem dX4_areAlike_108 : decode cX4_areAlike 108 = .ok (.invokevirtual 54, 3) := by decide +kernel
theorem dX4_areAlike_111 : decode cX4_areAlike 111 = .ok (.iload_n 2, 1) := by decide +kernel
theorem dX4_areAlike_112 : decode cX4_areAlike 112 = .ok (.isub, 1) := by decide +kernel
theorem dX4_areAlike_113 : decode cX4_areAlike 113 = .ok (.if_icmp .ne 7, 3) := by decide +kernel
theorem dX4_areAlike_116 : decode cX4_areAlike 116 = .ok (.iconst 1, 1) := by decide +kernel
theorem dX4_areAlike_117 : decode cX4_areAlike 117 = .ok (.goto 4, 3) := by decide +kernel
theorem dX4_areAlike_120 : decode cX4_areAlike 120 = .ok (.iconst 0, 1) := by decide +kernel
theorem dX4_areAlike_121 : decode cX4_areAlike 121 = .ok (.istore 6, 2) := by decide +kernel
theorem dX4_areAlike_123 : decode cX4_areAlike 123 = .ok (.iload 5, 2) := by decide +kernel
theorem dX4_areAlike_125 : decode cX4_areAlike 125 = .ok (.ifCond .eq 8, 3) := by decide +kernel
theorem dX4_areAlike_128 : decode cX4_areAlike 128 = .ok (.iload 6, 2) := by decide +kernel
theorem dX4_areAlike_130 : decode cX4_areAlike 130 = .ok (.ifCond .ne 5, 3) := by decide +kernel
theorem dX4_areAlike_133 : decode cX4_areAlike 133 = .ok (.iconst 0, 1) := by decide +kernel
theorem dX4_areAlike_134 : decode cX4_areAlike 134 = .ok (.ireturn, 1) := by decide +kernel
theorem dX4_areAlike_135 : decode cX4_areAlike 135 = .ok (.iinc 4 1, 3) := by decide +kernel
theorem dX4_areAlike_138 : decode cX4_areAlike 138 = .ok (.goto (-89), 3) := by decide +kernel
theorem dX4_areAlike_141 : decode cX4_areAlike 141 = .ok (.iconst 1, 1) := by decide +kernel
theorem dX4_areAlike_142 : decode cX4_areAlike 142 = .ok (.ireturn, 1) := by decide +kernel
end
section
set_option maxRecDepth 20000 in
theorem ggX5_init_X4_init : GoodIn wsX5_init wsX4_init := goodIn_r _ [25, 26, 2, 3, 27, 28, 29, 30, 31, 32, 33, 34, 35, 6, 36, 37, 38, 39, 40, 41, 100, 101, 102, 103, 104, 105] (by decide +kernel) (by decide +kernel)
set_option maxRecDepth 20000 in
theorem gX5_init_X4_init : GoodIn wsX5_init (wsX4_init) := ggX5_init_X4_init
set_option maxRecDepth 20000 in
theorem ggX5_init_X1_init : GoodIn wsX5_init wsX1_init := goodIn_r _ [44, 45, 2, 3, 46, 47, 27, 48, 49, 50, 5, 6, 51, 24, 25, 26, 28, 29, 30, 31, 32, 33, 34, 35, 36, 37, 38, 39, 40, 41, 113, 114, 115, 116, 117, 100, 101, 102, 103, 104, 105] (by decide +kernel) (by decide +kernel)
set_option maxRecDepth 20000 in
theorem gX5_init_X1_init : GoodIn wsX5_init (wsX1_init) := ggX5_init_X1_init
set_option maxRecDepth 20000 in
theorem ggX5_init_X2_init : GoodIn wsX5_init wsX2_init := goodIn_r _ [53, 54, 2, 3, 55, 5, 6, 56, 27, 57, 58, 24, 25, 26, 28, 29, 30, 31, 32, 33, 34, 35, 36, 37, 38, 39, 40, 41, 100, 101, 102, 103, 104, 105, 118, 119, 120] (by decide +kernel) (by decide +kernel)
set_option maxRecDepth 20000 in
theorem gX5_init_X2_init_n25 : GoodIn wsX5_init (wsX2_init) := ggX5_init_X2_init
set_option maxRecDepth 20000 in
theorem ggX5_init_X0_init : GoodIn wsX5_init wsX0_init := goodIn_r _ [60, 61, 2, 3, 62, 27, 63, 64, 65, 66, 121, 122, 123, 124] (by decide +kernel) (by decide +kernel)
set_option maxRecDepth 20000 in
theorem gX5_init_X0_init_n32 : GoodIn wsX5_init (wsX0_init) := ggX5_init_X0_init
set_option maxRecDepth 20000 in
theorem ggX5_init_X4_plant : GoodIn wsX5_init wsX4_plant := goodIn_r _ [70, 30, 31, 71, 72, 73, 6, 74, 32, 75, 76, 77, 78, 28, 37, 79, 80, 81, 82, 83, 84, 85, 86, 29, 100, 101, 102, 103, 104, 105] (by decide +kernel) (by decide +kernel)
set_option maxRecDepth 20000 in
theorem gX5_init_X4_plant : GoodIn wsX5_init (wsV RX5 37 RX4 yX4_plant wsX4_plant) := goodIn_app (goodIn_of _ (by decide +kernel)) ggX5_init_X4_plant
set_option maxRecDepth 20000 in
theorem ggX5_init_X1_record : GoodIn wsX5_init wsX1_record := goodIn_r _ [90, 91, 47, 48, 49, 50, 92, 93, 94, 6, 95, 28, 79, 80, 81, 82, 29, 30, 31, 37, 96, 97, 98, 10, 99, 113, 114, 115, 116, 117, 100, 101, 102, 103, 104, 105] (by decide +kernel) (by decide +kernel)
set_option maxRecDepth 20000 in
theorem gX5_init_X1_record : GoodIn wsX5_init (wsV RX5 45 RX1 yX1_record wsX1_record) := goodIn_app (goodIn_of _ (by decide +kernel)) ggX5_init_X1_record
theorem dX5_init_0 : decode cX5_init 0 = .ok (.aload_n 0, 1) := by decide +kernel
theorem dX5_init_1 : decode cX5_init 1 = .ok (.invokespecial 1, 3) := by decide +kernel
theorem dX5_init_4 : decode cX5_init 4 = .ok (.aload_n 0, 1) := by decide +kernel
theorem dX5_init_5 : decode cX5_init 5 = .ok (.new 7, 3) := by decide +kernel
theorem dX5_init_8 : decode cX5_init 8 = .ok (.dup, 1) := by decide +kernel
theorem dX5_init_9 : decode cX5_init 9 = .ok (.invokespecial 9, 3) := by decide +kernel
theorem dX5_init_12 : decode cX5_init 12 = .ok (.putfield 10, 3) := by decide +kernel
theorem dX5_init_15 : decode cX5_init 15 = .ok (.aload_n 0, 1) := by decide +kernel
theorem dX5_init_16 : decode cX5_init 16 = .ok (.new 16, 3) := by decide +kernel
theorem dX5_init_19 : decode cX5_init 19 = .ok (.dup, 1) := by decide +kernel
theorem dX5_init_20 : decode cX5_init 20 = .ok (.invokespecial 18, 3) := by decide +kernel
theorem dX5_init_23 : decode cX5_init 23 = .ok (.putfield 19, 3) := by decide +kernel
theorem dX5_init_26 : decode cX5_init 26 = .ok (.aload_n 0, 1) := by decide +kernel
theorem dX5_init_27 : decode cX5_init 27 = .ok (.new 23, 3) := by decide +kernel
theorem dX5_init_30 : decode cX5_init 30 = .ok (.dup, 1) := by decide +kernel
theorem dX5_init_31 : decode cX5_init 31 = .ok (.invokespecial 25, 3) := by decide +kernel
theorem dX5_init_34 : decode cX5_init 34 = .ok (.putfield 26, 3) := by decide +kernel
theorem dX5_init_37 : decode cX5_init 37 = .ok (.aload_n 0, 1) := by decide +kernel
theorem dX5_init_38 : decode cX5_init 38 = .ok (.new 30, 3) := by decide +kernel
theorem dX5_init_41 : decode cX5_init 41 = .ok (.dup, 1) := by decide +kernel
theorem dX5_init_42 : decode cX5_init 42 = .ok (.invokespecial 32, 3) := by decide +kernel
theorem dX5_init_45 : decode cX5_init 45 = .ok (.putfield 33, 3) := by decide +kernel
theorem dX5_init_48 : decode cX5_init 48 = .ok (.aload_n 0, 1) := by decide +kernel
theorem dX5_init_49 : decode cX5_init 49 = .ok (.getfield 10, 3) := by decide +kernel
theorem dX5_init_52 : decode cX5_init 52 = .ok (.iconst 0, 1) := by decide +kernel
theorem dX5_init_53 : decode cX5_init 53 = .ok (.iconst 0, 1) := by decide +kernel
theorem dX5_init_54 : decode cX5_init 54 = .ok (.invokevirtual 37, 3) := by decide +kernel
theorem dX5_init_57 : decode cX5_init 57 = .ok (.aload_n 0, 1) := by decide +kernel
theorem dX5_init_58 : decode cX5_init 58 = .ok (.iconst 1, 1) := by decide +kernel
theorem dX5_init_59 : decode cX5_init 59 = .ok (.putfield 41, 3) := by decide +kernel
theorem dX5_init_62 : decode cX5_init 62 = .ok (.aload_n 0, 1) := by decide +kernel
theorem dX5_init_63 : decode cX5_init 63 = .ok (.aload_n 0, 1) := by decide +kernel
theorem dX5_init_64 : decode cX5_init 64 = .ok (.getfield 19, 3) := by decide +kernel
theorem dX5_init_67 : decode cX5_init 67 = .ok (.aload_n 0, 1) := by decide +kernel
theorem dX5_init_68 : decode cX5_init 68 = .ok (.getfield 10, 3) := by decide +kernel
theorem dX5_init_71 : decode cX5_init 71 = .ok (.iconst (-1), 1) := by decide +kernel
theorem dX5_init_72 : decode cX5_init 72 = .ok (.iconst (-1), 1) := by decide +kernel
theorem dX5_init_73 : decode cX5_init 73 = .ok (.invokevirtual 45, 3) := by decide +kernel
theorem dX5_init_76 : decode cX5_init 76 = .ok (.putfield 49, 3) := by decide +kernel
theorem dX5_init_79 : decode cX5_init 79 = .ok (.aload_n 0, 1) := by decide +kernel
theorem dX5_init_80 : decode cX5_init 80 = .ok (.iconst (-1), 1) := by decide +kernel
theorem dX5_init_81 : decode cX5_init 81 = .ok (.putfield 52, 3) := by decide +kernel
theorem dX5_init_84 : decode cX5_init 84 = .ok (.return_, 1) := by decide +kernel
set_option maxRecDepth 20000 in
theorem ggX5_insert_X5_requireNode : GoodIn wsX5_insert wsX5_requireNode := goodIn_ca (goodIn_r _ [9, 10, 11, 3, 12, 13, 14, 15, 16, 17, 69, 70, 71, 72, 73, 74, 75, 76, 77, 78, 79, 80, 81] (by decide +kernel) (by decide +kernel)) (goodIn_sub (fun _ h => List.mem_cons_of_mem _ (List.mem_append_left _ (List.mem_append_left _ (List.mem_append_right _ h)))) (by decide +kernel))
set_option maxRecDepth 20000 in
theorem gX5_insert_X5_requireNode : GoodIn wsX5_insert (wsV RX5 55 RX5 yX5_requireNode wsX5_requireNode) := goodIn_app (goodIn_of _ (by decide +kernel)) ggX5_insert_X5_requireNode
set_option maxRecDepth 20000 in
theorem ggX5_insert_X4_childCount : GoodIn wsX5_insert wsX4_childCount := goodIn_r _ [21, 22, 23, 24, 25, 76, 77, 78, 79, 80, 81] (by decide +kernel) (by decide +kernel)
set_option maxRecDepth 20000 in
theorem gX5_insert_X4_childCount : GoodIn wsX5_insert (wsV RX5 59 RX4 yX4_childCount wsX4_childCount) := goodIn_app (goodIn_of _ (by decide +kernel)) ggX5_insert_X4_childCount
set_option maxRecDepth 20000 in
theorem ggX5_insert_X5_requirePlace : GoodIn wsX5_insert wsX5_requirePlace := goodIn_ca (goodIn_r _ [28, 29, 30] (by decide +kernel) (by decide +kernel)) (goodIn_sub (fun _ h => List.mem_cons_of_mem _ (List.mem_append_left _ (List.mem_append_right _ h))) (by decide +kernel))
set_option maxRecDepth 20000 in
theorem gX5_insert_X5_requirePlace : GoodIn wsX5_insert (va_wsS RX5 63 yX5_requirePlace wsX5_requirePlace) := goodIn_app (goodIn_of _ (by decide +kernel)) ggX5_insert_X5_requirePlace
set_option maxRecDepth 20000 in
theorem ggX5_insert_X5_requireLabel : GoodIn wsX5_insert wsX5_requireLabel := goodIn_ca (goodIn_r _ [33, 34, 35] (by decide +kernel) (by decide +kernel)) (goodIn_sub (fun _ h => List.mem_cons_of_mem _ (List.mem_append_right _ h)) (by decide +kernel))
set_option maxRecDepth 20000 in
theorem gX5_insert_X5_requireLabel : GoodIn wsX5_insert (va_wsS RX5 66 yX5_requireLabel wsX5_requireLabel) := goodIn_app (goodIn_of _ (by decide +kernel)) ggX5_insert_X5_requireLabel
set_option maxRecDepth 20000 in
theorem ggX5_insert_X4_attach : GoodIn wsX5_insert wsX4_attach := goodIn_r _ [39, 24, 17, 40, 41, 42, 15, 43, 22, 23, 25, 44, 45, 46, 47, 48, 49, 50, 51, 52, 53, 54, 55, 56, 57, 58, 59, 60, 61, 62, 63, 64, 65, 66, 67, 68, 76, 77, 78, 79, 80, 81] (by decide +kernel) (by decide +kernel)
set_option maxRecDepth 20000 in
theorem gX5_insert_X4_attach : GoodIn wsX5_insert (wsV RX5 76 RX4 yX4_attach wsX4_attach) := goodIn_app (goodIn_of _ (by decide +kernel)) ggX5_insert_X4_attach
theorem dX5_insert_0 : decode cX5_insert 0 = .ok (.aload_n 0, 1) := by decide +kernel
theorem dX5_insert_1 : decode cX5_insert 1 = .ok (.iload_n 1, 1) := by decide +kernel
theorem dX5_insert_2 : decode cX5_insert 2 = .ok (.invokevirtual 55, 3) := by decide +kernel
theorem dX5_insert_5 : decode cX5_insert 5 = .ok (.iload_n 2, 1) := by decide +kernel
theorem dX5_insert_6 : decode cX5_insert 6 = .ok (.aload_n 0, 1) := by decide +kernel
theorem dX5_insert_7 : decode cX5_insert 7 = .ok (.getfield 10, 3) := by decide +kernel
theorem dX5_insert_10 : decode cX5_insert 10 = .ok (.iload_n 1, 1) := by decide +kernel
theorem dX5_insert_11 : decode cX5_insert 11 = .ok (.invokevirtual 59, 3) := by decide +kernel
theorem dX5_insert_14 : decode cX5_insert 14 = .ok (.invokestatic 63, 3) := by decide +kernel
theorem dX5_insert_17 : decode cX5_insert 17 = .ok (.iload_n 3, 1) := by decide +kernel
theorem dX5_insert_18 : decode cX5_insert 18 = .ok (.invokestatic 66, 3) := by decide +kernel
theorem dX5_insert_21 : decode cX5_insert 21 = .ok (.aload_n 0, 1) := by decide +kernel
theorem dX5_insert_22 : decode cX5_insert 22 = .ok (.getfield 41, 3) := by decide +kernel
theorem dX5_insert_25 : decode cX5_insert 25 = .ok (.bipush 24, 2) := by decide +kernel
theorem dX5_insert_27 : decode cX5_insert 27 = .ok (.if_icmp .lt 13, 3) := by decide +kernel
theorem dX5_insert_30 : decode cX5_insert 30 = .ok (.new 69, 3) := by decide +kernel
theorem dX5_insert_33 : decode cX5_insert 33 = .ok (.dup, 1) := by decide +kernel
theorem dX5_insert_34 : decode cX5_insert 34 = .ok (.ldc 71, 2) := by decide +kernel
theorem dX5_insert_36 : decode cX5_insert 36 = .ok (.invokespecial 73, 3) := by decide +kernel
theorem dX5_insert_39 : decode cX5_insert 39 = .ok (.athrow, 1) := by decide +kernel
theorem dX5_insert_40 : decode cX5_insert 40 = .ok (.aload_n 0, 1) := by decide +kernel
theorem dX5_insert_41 : decode cX5_insert 41 = .ok (.getfield 41, 3) := by decide +kernel
theorem dX5_insert_44 : decode cX5_insert 44 = .ok (.istore 4, 2) := by decide +kernel
theorem dX5_insert_46 : decode cX5_insert 46 = .ok (.aload_n 0, 1) := by decide +kernel
theorem dX5_insert_47 : decode cX5_insert 47 = .ok (.dup, 1) := by decide +kernel
theorem dX5_insert_48 : decode cX5_insert 48 = .ok (.getfield 41, 3) := by decide +kernel
theorem dX5_insert_51 : decode cX5_insert 51 = .ok (.iconst 1, 1) := by decide +kernel
theorem dX5_insert_52 : decode cX5_insert 52 = .ok (.iadd, 1) := by decide +kernel
theorem dX5_insert_53 : decode cX5_insert 53 = .ok (.putfield 41, 3) := by decide +kernel
theorem dX5_insert_56 : decode cX5_insert 56 = .ok (.aload_n 0, 1) := by decide +kernel
theorem dX5_insert_57 : decode cX5_insert 57 = .ok (.getfield 10, 3) := by decide +kernel
theorem dX5_insert_60 : decode cX5_insert 60 = .ok (.iload 4, 2) := by decide +kernel
theorem dX5_insert_62 : decode cX5_insert 62 = .ok (.iload_n 3, 1) := by decide +kernel
theorem dX5_insert_63 : decode cX5_insert 63 = .ok (.iload_n 1, 1) := by decide +kernel
theorem dX5_insert_64 : decode cX5_insert 64 = .ok (.iload_n 2, 1) := by decide +kernel
theorem dX5_insert_65 : decode cX5_insert 65 = .ok (.invokevirtual 76, 3) := by decide +kernel
theorem dX5_insert_68 : decode cX5_insert 68 = .ok (.iload 4, 2) := by decide +kernel
theorem dX5_insert_70 : decode cX5_insert 70 = .ok (.ireturn, 1) := by decide +kernel
set_option maxRecDepth 20000 in
theorem ggX5_delete_X5_requireNode : GoodIn wsX5_delete wsX5_requireNode := goodIn_ca (goodIn_r _ [8, 9, 10, 3, 11, 12, 13, 14, 15, 16, 46, 47, 48, 49, 50, 51, 52, 53, 54, 55, 56, 57, 58] (by decide +kernel) (by decide +kernel)) (goodIn_sub (fun _ h => List.mem_cons_of_mem _ (List.mem_append_right _ h)) (by decide +kernel))
set_option maxRecDepth 20000 in
theorem gX5_delete_X5_requireNode : GoodIn wsX5_delete (wsV RX5 55 RX5 yX5_requireNode wsX5_requireNode) := goodIn_app (goodIn_of _ (by decide +kernel)) ggX5_delete_X5_requireNode
set_option maxRecDepth 20000 in
theorem ggX5_delete_X4_prune : GoodIn wsX5_delete wsX4_prune := goodIn_r _ [20, 21, 22, 16, 23, 24, 25, 14, 26, 27, 28, 29, 30, 31, 32, 33, 34, 35, 36, 37, 38, 39, 40, 41, 42, 43, 44, 45, 53, 54, 55, 56, 57, 58] (by decide +kernel) (by decide +kernel)
set_option maxRecDepth 20000 in
theorem gX5_delete_X4_prune : GoodIn wsX5_delete (wsV RX5 85 RX4 yX4_prune wsX4_prune) := goodIn_app (goodIn_of _ (by decide +kernel)) ggX5_delete_X4_prune
theorem dX5_delete_0 : decode cX5_delete 0 = .ok (.aload_n 0, 1) := by decide +kernel
theorem dX5_delete_1 : decode cX5_delete 1 = .ok (.iload_n 1, 1) := by decide +kernel
theorem dX5_delete_2 : decode cX5_delete 2 = .ok (.invokevirtual 55, 3) := by decide +kernel
theorem dX5_delete_5 : decode cX5_delete 5 = .ok (.iload_n 1, 1) := by decide +kernel
theorem dX5_delete_6 : decode cX5_delete 6 = .ok (.ifCond .ne 13, 3) := by decide +kernel
theorem dX5_delete_9 : decode cX5_delete 9 = .ok (.new 80, 3) := by decide +kernel
theorem dX5_delete_12 : decode cX5_delete 12 = .ok (.dup, 1) := by decide +kernel
theorem dX5_delete_13 : decode cX5_delete 13 = .ok (.ldc 82, 2) := by decide +kernel
theorem dX5_delete_15 : decode cX5_delete 15 = .ok (.invokespecial 84, 3) := by decide +kernel
theorem dX5_delete_18 : decode cX5_delete 18 = .ok (.athrow, 1) := by decide +kernel
theorem dX5_delete_19 : decode cX5_delete 19 = .ok (.aload_n 0, 1) := by decide +kernel
theorem dX5_delete_20 : decode cX5_delete 20 = .ok (.getfield 10, 3) := by decide +kernel
theorem dX5_delete_23 : decode cX5_delete 23 = .ok (.iload_n 1, 1) := by decide +kernel
theorem dX5_delete_24 : decode cX5_delete 24 = .ok (.invokevirtual 85, 3) := by decide +kernel
theorem dX5_delete_27 : decode cX5_delete 27 = .ok (.ireturn, 1) := by decide +kernel
set_option maxRecDepth 20000 in
theorem ggX5_move_X5_requireNode : GoodIn wsX5_move wsX5_requireNode := goodIn_ca (goodIn_r _ [9, 10, 11, 3, 12, 13, 14, 15, 16, 17, 68, 69, 70, 71, 72, 73, 74, 75, 76, 77, 78, 79, 80] (by decide +kernel) (by decide +kernel)) (goodIn_sub (fun _ h => List.mem_cons_of_mem _ (List.mem_append_left _ (List.mem_append_right _ h))) (by decide +kernel))
set_option maxRecDepth 20000 in
theorem gX5_move_X5_requireNode : GoodIn wsX5_move (wsV RX5 55 RX5 yX5_requireNode wsX5_requireNode) := goodIn_app (goodIn_of _ (by decide +kernel)) ggX5_move_X5_requireNode
set_option maxRecDepth 20000 in
theorem ggX5_move_X4_isWithin : GoodIn wsX5_move wsX4_isWithin := goodIn_r _ [21, 22, 23, 24, 25, 15, 26, 27, 28, 29, 30, 31, 32, 33, 75, 76, 77, 78, 79, 80] (by decide +kernel) (by decide +kernel)
set_option maxRecDepth 20000 in
theorem gX5_move_X4_isWithin : GoodIn wsX5_move (wsV RX5 88 RX4 yX4_isWithin wsX4_isWithin) := goodIn_app (goodIn_of _ (by decide +kernel)) ggX5_move_X4_isWithin
set_option maxRecDepth 20000 in
theorem ggX5_move_X4_childCount : GoodIn wsX5_move wsX4_childCount := goodIn_r _ [37, 22, 27, 32, 33, 75, 76, 77, 78, 79, 80] (by decide +kernel) (by decide +kernel)
set_option maxRecDepth 20000 in
theorem gX5_move_X4_childCount : GoodIn wsX5_move (wsV RX5 59 RX4 yX4_childCount wsX4_childCount) := goodIn_app (goodIn_of _ (by decide +kernel)) ggX5_move_X4_childCount
set_option maxRecDepth 20000 in
theorem ggX5_move_X5_requirePlace : GoodIn wsX5_move wsX5_requirePlace := goodIn_ca (goodIn_r _ [40, 41, 42] (by decide +kernel) (by decide +kernel)) (goodIn_sub (fun _ h => List.mem_cons_of_mem _ (List.mem_append_right _ h)) (by decide +kernel))
set_option maxRecDepth 20000 in
theorem gX5_move_X5_requirePlace : GoodIn wsX5_move (va_wsS RX5 63 yX5_requirePlace wsX5_requirePlace) := goodIn_app (goodIn_of _ (by decide +kernel)) ggX5_move_X5_requirePlace
set_option maxRecDepth 20000 in
theorem ggX5_move_X4_transplant : GoodIn wsX5_move wsX4_transplant := goodIn_r _ [46, 32, 47, 48, 49, 15, 50, 22, 33, 51, 52, 53, 54, 55, 27, 23, 24, 25, 26, 28, 29, 30, 31, 56, 57, 58, 59, 60, 61, 62, 63, 64, 65, 66, 67, 75, 76, 77, 78, 79, 80] (by decide +kernel) (by decide +kernel)
set_option maxRecDepth 20000 in
theorem gX5_move_X4_transplant : GoodIn wsX5_move (wsV RX5 98 RX4 yX4_transplant wsX4_transplant) := goodIn_app (goodIn_of _ (by decide +kernel)) ggX5_move_X4_transplant
theorem dX5_move_0 : decode cX5_move 0 = .ok (.aload_n 0, 1) := by decide +kernel
theorem dX5_move_1 : decode cX5_move 1 = .ok (.iload_n 1, 1) := by decide +kernel
theorem dX5_move_2 : decode cX5_move 2 = .ok (.invokevirtual 55, 3) := by decide +kernel
theorem dX5_move_5 : decode cX5_move 5 = .ok (.aload_n 0, 1) := by decide +kernel
theorem dX5_move_6 : decode cX5_move 6 = .ok (.iload_n 2, 1) := by decide +kernel
theorem dX5_move_7 : decode cX5_move 7 = .ok (.invokevirtual 55, 3) := by decide +kernel
theorem dX5_move_10 : decode cX5_move 10 = .ok (.aload_n 0, 1) := by decide +kernel
theorem dX5_move_11 : decode cX5_move 11 = .ok (.getfield 10, 3) := by decide +kernel
theorem dX5_move_14 : decode cX5_move 14 = .ok (.iload_n 2, 1) := by decide +kernel
theorem dX5_move_15 : decode cX5_move 15 = .ok (.iload_n 1, 1) := by decide +kernel
theorem dX5_move_16 : decode cX5_move 16 = .ok (.invokevirtual 88, 3) := by decide +kernel
theorem dX5_move_19 : decode cX5_move 19 = .ok (.ifCond .eq 13, 3) := by decide +kernel
theorem dX5_move_22 : decode cX5_move 22 = .ok (.new 80, 3) := by decide +kernel
theorem dX5_move_25 : decode cX5_move 25 = .ok (.dup, 1) := by decide +kernel
theorem dX5_move_26 : decode cX5_move 26 = .ok (.ldc 92, 2) := by decide +kernel
theorem dX5_move_28 : decode cX5_move 28 = .ok (.invokespecial 84, 3) := by decide +kernel
theorem dX5_move_31 : decode cX5_move 31 = .ok (.athrow, 1) := by decide +kernel
theorem dX5_move_32 : decode cX5_move 32 = .ok (.iload_n 3, 1) := by decide +kernel
theorem dX5_move_33 : decode cX5_move 33 = .ok (.aload_n 0, 1) := by decide +kernel
theorem dX5_move_34 : decode cX5_move 34 = .ok (.getfield 10, 3) := by decide +kernel
theorem dX5_move_37 : decode cX5_move 37 = .ok (.iload_n 2, 1) := by decide +kernel
theorem dX5_move_38 : decode cX5_move 38 = .ok (.invokevirtual 59, 3) := by decide +kernel
theorem dX5_move_41 : decode cX5_move 41 = .ok (.aload_n 0, 1) := by decide +kernel
theorem dX5_move_42 : decode cX5_move 42 = .ok (.getfield 10, 3) := by decide +kernel
theorem dX5_move_45 : decode cX5_move 45 = .ok (.getfield 94, 3) := by decide +kernel
theorem dX5_move_48 : decode cX5_move 48 = .ok (.iload_n 1, 1) := by decide +kernel
theorem dX5_move_49 : decode cX5_move 49 = .ok (.iaload, 1) := by decide +kernel
theorem dX5_move_50 : decode cX5_move 50 = .ok (.iload_n 2, 1) := by decide +kernel
theorem dX5_move_51 : decode cX5_move 51 = .ok (.if_icmp .ne 7, 3) := by decide +kernel
theorem dX5_move_54 : decode cX5_move 54 = .ok (.iconst 1, 1) := by decide +kernel
theorem dX5_move_55 : decode cX5_move 55 = .ok (.goto 4, 3) := by decide +kernel
theorem dX5_move_58 : decode cX5_move 58 = .ok (.iconst 0, 1) := by decide +kernel
theorem dX5_move_59 : decode cX5_move 59 = .ok (.isub, 1) := by decide +kernel
theorem dX5_move_60 : decode cX5_move 60 = .ok (.invokestatic 63, 3) := by decide +kernel
theorem dX5_move_63 : decode cX5_move 63 = .ok (.aload_n 0, 1) := by decide +kernel
theorem dX5_move_64 : decode cX5_move 64 = .ok (.getfield 10, 3) := by decide +kernel
theorem dX5_move_67 : decode cX5_move 67 = .ok (.iload_n 1, 1) := by decide +kernel
theorem dX5_move_68 : decode cX5_move 68 = .ok (.iload_n 2, 1) := by decide +kernel
theorem dX5_move_69 : decode cX5_move 69 = .ok (.iload_n 3, 1) := by decide +kernel
theorem dX5_move_70 : decode cX5_move 70 = .ok (.invokevirtual 98, 3) := by decide +kernel
theorem dX5_move_73 : decode cX5_move 73 = .ok (.return_, 1) := by decide +kernel
set_option maxRecDepth 20000 in
theorem ggX5_relabel_X5_requireNode : GoodIn wsX5_relabel wsX5_requireNode := goodIn_ca (goodIn_r _ [7, 8, 9, 1, 10, 11, 12, 13, 14, 15, 21, 22, 23, 24, 25, 26, 27, 28, 29, 30, 31, 32, 33] (by decide +kernel) (by decide +kernel)) (goodIn_sub (fun _ h => List.mem_cons_of_mem _ (List.mem_append_left _ (List.mem_append_right _ h))) (by decide +kernel))
set_option maxRecDepth 20000 in
theorem gX5_relabel_X5_requireNode : GoodIn wsX5_relabel (wsV RX5 55 RX5 yX5_requireNode wsX5_requireNode) := goodIn_app (goodIn_of _ (by decide +kernel)) ggX5_relabel_X5_requireNode
set_option maxRecDepth 20000 in
theorem ggX5_relabel_X5_requireLabel : GoodIn wsX5_relabel wsX5_requireLabel := goodIn_ca (goodIn_r _ [18, 19, 20] (by decide +kernel) (by decide +kernel)) (goodIn_sub (fun _ h => List.mem_cons_of_mem _ (List.mem_append_right _ h)) (by decide +kernel))
set_option maxRecDepth 20000 in
theorem gX5_relabel_X5_requireLabel : GoodIn wsX5_relabel (va_wsS RX5 66 yX5_requireLabel wsX5_requireLabel) := goodIn_app (goodIn_of _ (by decide +kernel)) ggX5_relabel_X5_requireLabel
theorem dX5_relabel_0 : decode cX5_relabel 0 = .ok (.aload_n 0, 1) := by decide +kernel
theorem dX5_relabel_1 : decode cX5_relabel 1 = .ok (.iload_n 1, 1) := by decide +kernel
theorem dX5_relabel_2 : decode cX5_relabel 2 = .ok (.invokevirtual 55, 3) := by decide +kernel
theorem dX5_relabel_5 : decode cX5_relabel 5 = .ok (.iload_n 2, 1) := by decide +kernel
theorem dX5_relabel_6 : decode cX5_relabel 6 = .ok (.invokestatic 66, 3) := by decide +kernel
theorem dX5_relabel_9 : decode cX5_relabel 9 = .ok (.aload_n 0, 1) := by decide +kernel
theorem dX5_relabel_10 : decode cX5_relabel 10 = .ok (.getfield 10, 3) := by decide +kernel
theorem dX5_relabel_13 : decode cX5_relabel 13 = .ok (.getfield 102, 3) := by decide +kernel
theorem dX5_relabel_16 : decode cX5_relabel 16 = .ok (.iload_n 1, 1) := by decide +kernel
theorem dX5_relabel_17 : decode cX5_relabel 17 = .ok (.iload_n 2, 1) := by decide +kernel
theorem dX5_relabel_18 : decode cX5_relabel 18 = .ok (.iastore, 1) := by decide +kernel
theorem dX5_relabel_19 : decode cX5_relabel 19 = .ok (.return_, 1) := by decide +kernel
set_option maxRecDepth 20000 in
theorem ggX5_commit_X1_record : GoodIn wsX5_commit wsX1_record := goodIn_r _ [12, 13, 14, 15, 16, 17, 18, 19, 20, 21, 22, 23, 24, 25, 26, 27, 28, 29, 30, 31, 32, 33, 34, 11, 35, 43, 44, 45, 46, 47, 48, 49, 50, 51, 52, 53] (by decide +kernel) (by decide +kernel)
set_option maxRecDepth 20000 in
theorem gX5_commit_X1_record : GoodIn wsX5_commit (wsV RX5 45 RX1 yX1_record wsX1_record) := goodIn_app (goodIn_of _ (by decide +kernel)) ggX5_commit_X1_record
theorem dX5_commit_0 : decode cX5_commit 0 = .ok (.aload_n 0, 1) := by decide +kernel
theorem dX5_commit_1 : decode cX5_commit 1 = .ok (.getfield 19, 3) := by decide +kernel
theorem dX5_commit_4 : decode cX5_commit 4 = .ok (.getfield 105, 3) := by decide +kernel
theorem dX5_commit_7 : decode cX5_commit 7 = .ok (.bipush 12, 2) := by decide +kernel
theorem dX5_commit_9 : decode cX5_commit 9 = .ok (.if_icmp .lt 13, 3) := by decide +kernel
theorem dX5_commit_12 : decode cX5_commit 12 = .ok (.new 69, 3) := by decide +kernel
theorem dX5_commit_15 : decode cX5_commit 15 = .ok (.dup, 1) := by decide +kernel
theorem dX5_commit_16 : decode cX5_commit 16 = .ok (.ldc 108, 2) := by decide +kernel
theorem dX5_commit_18 : decode cX5_commit 18 = .ok (.invokespecial 73, 3) := by decide +kernel
theorem dX5_commit_21 : decode cX5_commit 21 = .ok (.athrow, 1) := by decide +kernel
theorem dX5_commit_22 : decode cX5_commit 22 = .ok (.aload_n 0, 1) := by decide +kernel
theorem dX5_commit_23 : decode cX5_commit 23 = .ok (.aload_n 0, 1) := by decide +kernel
theorem dX5_commit_24 : decode cX5_commit 24 = .ok (.getfield 19, 3) := by decide +kernel
theorem dX5_commit_27 : decode cX5_commit 27 = .ok (.aload_n 0, 1) := by decide +kernel
theorem dX5_commit_28 : decode cX5_commit 28 = .ok (.getfield 10, 3) := by decide +kernel
theorem dX5_commit_31 : decode cX5_commit 31 = .ok (.aload_n 0, 1) := by decide +kernel
theorem dX5_commit_32 : decode cX5_commit 32 = .ok (.getfield 49, 3) := by decide +kernel
theorem dX5_commit_35 : decode cX5_commit 35 = .ok (.aload_n 0, 1) := by decide +kernel
theorem dX5_commit_36 : decode cX5_commit 36 = .ok (.getfield 52, 3) := by decide +kernel
theorem dX5_commit_39 : decode cX5_commit 39 = .ok (.invokevirtual 45, 3) := by decide +kernel
theorem dX5_commit_42 : decode cX5_commit 42 = .ok (.putfield 49, 3) := by decide +kernel
theorem dX5_commit_45 : decode cX5_commit 45 = .ok (.aload_n 0, 1) := by decide +kernel
theorem dX5_commit_46 : decode cX5_commit 46 = .ok (.iconst (-1), 1) := by decide +kernel
theorem dX5_commit_47 : decode cX5_commit 47 = .ok (.putfield 52, 3) := by decide +kernel
theorem dX5_commit_50 : decode cX5_commit 50 = .ok (.aload_n 0, 1) := by decide +kernel
theorem dX5_commit_51 : decode cX5_commit 51 = .ok (.getfield 49, 3) := by decide +kernel
theorem dX5_commit_54 : decode cX5_commit 54 = .ok (.ireturn, 1) := by decide +kernel
set_option maxRecDepth 20000 in
theorem ggX5_checkout_X5_requireCommit : GoodIn wsX5_checkout wsX5_requireCommit := goodIn_ca (goodIn_r _ [10, 11, 12, 2, 13, 28, 29, 30, 31, 32, 33, 34, 35, 36, 37, 38, 39] (by decide +kernel) (by decide +kernel)) (goodIn_sub (fun _ h => List.mem_cons_of_mem _ (List.mem_append_right _ h)) (by decide +kernel))
set_option maxRecDepth 20000 in
theorem gX5_checkout_X5_requireCommit : GoodIn wsX5_checkout (wsV RX5 110 RX5 yX5_requireCommit wsX5_requireCommit) := goodIn_app (goodIn_of _ (by decide +kernel)) ggX5_checkout_X5_requireCommit
set_option maxRecDepth 20000 in
theorem ggX5_checkout_X4_copyFrom : GoodIn wsX5_checkout wsX4_copyFrom := goodIn_r _ [18, 19, 20, 21, 22, 23, 24, 25, 26, 27, 40, 41, 42, 43, 44, 45] (by decide +kernel) (by decide +kernel)
set_option maxRecDepth 20000 in
theorem gX5_checkout_X4_copyFrom : GoodIn wsX5_checkout (wsV RX5 117 RX4 yX4_copyFrom wsX4_copyFrom) := goodIn_app (goodIn_of _ (by decide +kernel)) ggX5_checkout_X4_copyFrom
theorem dX5_checkout_0 : decode cX5_checkout 0 = .ok (.aload_n 0, 1) := by decide +kernel
theorem dX5_checkout_1 : decode cX5_checkout 1 = .ok (.iload_n 1, 1) := by decide +kernel
theorem dX5_checkout_2 : decode cX5_checkout 2 = .ok (.invokevirtual 110, 3) := by decide +kernel
theorem dX5_checkout_5 : decode cX5_checkout 5 = .ok (.aload_n 0, 1) := by decide +kernel
theorem dX5_checkout_6 : decode cX5_checkout 6 = .ok (.getfield 10, 3) := by decide +kernel
theorem dX5_checkout_9 : decode cX5_checkout 9 = .ok (.aload_n 0, 1) := by decide +kernel
theorem dX5_checkout_10 : decode cX5_checkout 10 = .ok (.getfield 19, 3) := by decide +kernel
theorem dX5_checkout_13 : decode cX5_checkout 13 = .ok (.getfield 113, 3) := by decide +kernel
theorem dX5_checkout_16 : decode cX5_checkout 16 = .ok (.iload_n 1, 1) := by decide +kernel
theorem dX5_checkout_17 : decode cX5_checkout 17 = .ok (.aaload, 1) := by decide +kernel
theorem dX5_checkout_18 : decode cX5_checkout 18 = .ok (.invokevirtual 117, 3) := by decide +kernel
theorem dX5_checkout_21 : decode cX5_checkout 21 = .ok (.aload_n 0, 1) := by decide +kernel
theorem dX5_checkout_22 : decode cX5_checkout 22 = .ok (.iload_n 1, 1) := by decide +kernel
theorem dX5_checkout_23 : decode cX5_checkout 23 = .ok (.putfield 49, 3) := by decide +kernel
theorem dX5_checkout_26 : decode cX5_checkout 26 = .ok (.aload_n 0, 1) := by decide +kernel
theorem dX5_checkout_27 : decode cX5_checkout 27 = .ok (.iconst (-1), 1) := by decide +kernel
theorem dX5_checkout_28 : decode cX5_checkout 28 = .ok (.putfield 52, 3) := by decide +kernel
theorem dX5_checkout_31 : decode cX5_checkout 31 = .ok (.return_, 1) := by decide +kernel
set_option maxRecDepth 20000 in
theorem ggX5_base_X5_requireCommit : GoodIn wsX5_base wsX5_requireCommit := goodIn_ca (goodIn_r _ [6, 7, 8, 1, 9, 23, 24, 25, 26, 27, 28, 29, 30, 31, 32, 33, 34] (by decide +kernel) (by decide +kernel)) (goodIn_sub (fun _ h => List.mem_cons_of_mem _ (List.mem_append_right _ h)) (by decide +kernel))
set_option maxRecDepth 20000 in
theorem gX5_base_X5_requireCommit : GoodIn wsX5_base (wsV RX5 110 RX5 yX5_requireCommit wsX5_requireCommit) := goodIn_app (goodIn_of _ (by decide +kernel)) ggX5_base_X5_requireCommit
set_option maxRecDepth 20000 in
theorem ggX5_base_X1_baseOf : GoodIn wsX5_base wsX1_baseOf := goodIn_r _ [14, 15, 16, 17, 5, 18, 19, 20, 21, 13, 22, 30, 31, 32, 33, 34] (by decide +kernel) (by decide +kernel)
set_option maxRecDepth 20000 in
theorem gX5_base_X1_baseOf : GoodIn wsX5_base (wsV RX5 121 RX1 yX1_baseOf wsX1_baseOf) := goodIn_app (goodIn_of _ (by decide +kernel)) ggX5_base_X1_baseOf
theorem dX5_base_0 : decode cX5_base 0 = .ok (.aload_n 0, 1) := by decide +kernel
theorem dX5_base_1 : decode cX5_base 1 = .ok (.iload_n 1, 1) := by decide +kernel
theorem dX5_base_2 : decode cX5_base 2 = .ok (.invokevirtual 110, 3) := by decide +kernel
theorem dX5_base_5 : decode cX5_base 5 = .ok (.aload_n 0, 1) := by decide +kernel
theorem dX5_base_6 : decode cX5_base 6 = .ok (.iload_n 2, 1) := by decide +kernel
theorem dX5_base_7 : decode cX5_base 7 = .ok (.invokevirtual 110, 3) := by decide +kernel
theorem dX5_base_10 : decode cX5_base 10 = .ok (.aload_n 0, 1) := by decide +kernel
theorem dX5_base_11 : decode cX5_base 11 = .ok (.getfield 19, 3) := by decide +kernel
theorem dX5_base_14 : decode cX5_base 14 = .ok (.iload_n 1, 1) := by decide +kernel
theorem dX5_base_15 : decode cX5_base 15 = .ok (.iload_n 2, 1) := by decide +kernel
theorem dX5_base_16 : decode cX5_base 16 = .ok (.invokevirtual 121, 3) := by decide +kernel
theorem dX5_base_19 : decode cX5_base 19 = .ok (.ireturn, 1) := by decide +kernel
set_option maxRecDepth 20000 in
theorem ggX5_merge_X5_requireCommit : GoodIn wsX5_merge wsX5_requireCommit := goodIn_ca (goodIn_r _ [14, 15, 16, 3, 17, 127, 128, 129, 130, 131, 132, 133, 134, 135, 136, 137, 138] (by decide +kernel) (by decide +kernel)) (goodIn_sub (fun _ h => List.mem_cons_of_mem _ (List.mem_append_right _ h)) (by decide +kernel))
set_option maxRecDepth 20000 in
theorem gX5_merge_X5_requireCommit : GoodIn wsX5_merge (wsV RX5 110 RX5 yX5_requireCommit wsX5_requireCommit) := goodIn_app (goodIn_of _ (by decide +kernel)) ggX5_merge_X5_requireCommit
set_option maxRecDepth 20000 in
theorem ggX5_merge_X4_isSameAs : GoodIn wsX5_merge wsX4_isSameAs := goodIn_r _ [22, 23, 24, 25, 26, 27, 21, 28, 29, 30, 142, 143, 144, 145, 146, 147] (by decide +kernel) (by decide +kernel)
set_option maxRecDepth 20000 in
theorem gX5_merge_X4_isSameAs : GoodIn wsX5_merge (wsV RX5 125 RX4 yX4_isSameAs wsX4_isSameAs) := goodIn_app (goodIn_of _ (by decide +kernel)) ggX5_merge_X4_isSameAs
set_option maxRecDepth 20000 in
theorem ggX5_merge_X1_baseOf : GoodIn wsX5_merge wsX1_baseOf := goodIn_r _ [35, 36, 37, 38, 13, 39, 40, 41, 42, 34, 43, 134, 135, 136, 137, 138] (by decide +kernel) (by decide +kernel)
set_option maxRecDepth 20000 in
theorem gX5_merge_X1_baseOf : GoodIn wsX5_merge (wsV RX5 121 RX1 yX1_baseOf wsX1_baseOf) := goodIn_app (goodIn_of _ (by decide +kernel)) ggX5_merge_X1_baseOf
set_option maxRecDepth 20000 in
theorem ggX5_merge_X2_run : GoodIn wsX5_merge wsX2_run := goodIn_r _ [48, 49, 50, 51, 52, 53, 21, 54, 30, 29, 23, 55, 56, 57, 58, 59, 60, 61, 62, 63, 64, 65, 47, 66, 67, 68, 69, 26, 27, 28, 70, 71, 72, 73, 74, 75, 76, 77, 78, 79, 80, 81, 82, 83, 84, 85, 86, 87, 88, 89, 90, 91, 92, 93, 94, 95, 96, 97, 98, 99, 100, 101, 102, 103, 24, 104, 105, 106, 107, 108, 109, 110, 111, 112, 113, 114, 115, 116, 117, 118, 119, 120, 121, 122, 139, 140, 141, 142, 143, 144, 145, 146, 147] (by decide +kernel) (by decide +kernel)
set_option maxRecDepth 20000 in
theorem gX5_merge_X2_run : GoodIn wsX5_merge (wsV RX5 134 RX2 yX2_run wsX2_run) := goodIn_app (goodIn_of _ (by decide +kernel)) ggX5_merge_X2_run
set_option maxRecDepth 20000 in
theorem ggX5_merge_X4_copyFrom : GoodIn wsX5_merge wsX4_copyFrom := goodIn_r _ [126, 24, 104, 105, 106, 107, 112, 30, 29, 23, 142, 143, 144, 145, 146, 147] (by decide +kernel) (by decide +kernel)
set_option maxRecDepth 20000 in
theorem gX5_merge_X4_copyFrom : GoodIn wsX5_merge (wsV RX5 117 RX4 yX4_copyFrom wsX4_copyFrom) := goodIn_app (goodIn_of _ (by decide +kernel)) ggX5_merge_X4_copyFrom
theorem dX5_merge_0 : decode cX5_merge 0 = .ok (.aload_n 0, 1) := by decide +kernel
theorem dX5_merge_1 : decode cX5_merge 1 = .ok (.iload_n 1, 1) := by decide +kernel
theorem dX5_merge_2 : decode cX5_merge 2 = .ok (.invokevirtual 110, 3) := by decide +kernel
theorem dX5_merge_5 : decode cX5_merge 5 = .ok (.aload_n 0, 1) := by decide +kernel
theorem dX5_merge_6 : decode cX5_merge 6 = .ok (.getfield 19, 3) := by decide +kernel
theorem dX5_merge_9 : decode cX5_merge 9 = .ok (.getfield 113, 3) := by decide +kernel
theorem dX5_merge_12 : decode cX5_merge 12 = .ok (.aload_n 0, 1) := by decide +kernel
theorem dX5_merge_13 : decode cX5_merge 13 = .ok (.getfield 49, 3) := by decide +kernel
theorem dX5_merge_16 : decode cX5_merge 16 = .ok (.aaload, 1) := by decide +kernel
theorem dX5_merge_17 : decode cX5_merge 17 = .ok (.astore_n 2, 1) := by decide +kernel
theorem dX5_merge_18 : decode cX5_merge 18 = .ok (.aload_n 0, 1) := by decide +kernel
theorem dX5_merge_19 : decode cX5_merge 19 = .ok (.getfield 52, 3) := by decide +kernel
theorem dX5_merge_22 : decode cX5_merge 22 = .ok (.iconst (-1), 1) := by decide +kernel
theorem dX5_merge_23 : decode cX5_merge 23 = .ok (.if_icmp .ne 14, 3) := by decide +kernel
theorem dX5_merge_26 : decode cX5_merge 26 = .ok (.aload_n 0, 1) := by decide +kernel
theorem dX5_merge_27 : decode cX5_merge 27 = .ok (.getfield 10, 3) := by decide +kernel
theorem dX5_merge_30 : decode cX5_merge 30 = .ok (.aload_n 2, 1) := by decide +kernel
theorem dX5_merge_31 : decode cX5_merge 31 = .ok (.invokevirtual 125, 3) := by decide +kernel
theorem dX5_merge_34 : decode cX5_merge 34 = .ok (.ifCond .ne 13, 3) := by decide +kernel
theorem dX5_merge_37 : decode cX5_merge 37 = .ok (.new 129, 3) := by decide +kernel
theorem dX5_merge_40 : decode cX5_merge 40 = .ok (.dup, 1) := by decide +kernel
theorem dX5_merge_41 : decode cX5_merge 41 = .ok (.ldc 131, 2) := by decide +kernel
theorem dX5_merge_43 : decode cX5_merge 43 = .ok (.invokespecial 133, 3) := by decide +kernel
theorem dX5_merge_46 : decode cX5_merge 46 = .ok (.athrow, 1) := by decide +kernel
theorem dX5_merge_47 : decode cX5_merge 47 = .ok (.aload_n 0, 1) := by decide +kernel
theorem dX5_merge_48 : decode cX5_merge 48 = .ok (.getfield 26, 3) := by decide +kernel
theorem dX5_merge_51 : decode cX5_merge 51 = .ok (.aload_n 2, 1) := by decide +kernel
theorem dX5_merge_52 : decode cX5_merge 52 = .ok (.aload_n 0, 1) := by decide +kernel
theorem dX5_merge_53 : decode cX5_merge 53 = .ok (.getfield 19, 3) := by decide +kernel
theorem dX5_merge_56 : decode cX5_merge 56 = .ok (.getfield 113, 3) := by decide +kernel
theorem dX5_merge_59 : decode cX5_merge 59 = .ok (.iload_n 1, 1) := by decide +kernel
theorem dX5_merge_60 : decode cX5_merge 60 = .ok (.aaload, 1) := by decide +kernel
theorem dX5_merge_61 : decode cX5_merge 61 = .ok (.aload_n 0, 1) := by decide +kernel
theorem dX5_merge_62 : decode cX5_merge 62 = .ok (.getfield 19, 3) := by decide +kernel
theorem dX5_merge_65 : decode cX5_merge 65 = .ok (.getfield 113, 3) := by decide +kernel
theorem dX5_merge_68 : decode cX5_merge 68 = .ok (.aload_n 0, 1) := by decide +kernel
theorem dX5_merge_69 : decode cX5_merge 69 = .ok (.getfield 19, 3) := by decide +kernel
theorem dX5_merge_72 : decode cX5_merge 72 = .ok (.aload_n 0, 1) := by decide +kernel
theorem dX5_merge_73 : decode cX5_merge 73 = .ok (.getfield 49, 3) := by decide +kernel
theorem dX5_merge_76 : decode cX5_merge 76 = .ok (.iload_n 1, 1) := by decide +kernel
theorem dX5_merge_77 : decode cX5_merge 77 = .ok (.invokevirtual 121, 3) := by decide +kernel
theorem dX5_merge_80 : decode cX5_merge 80 = .ok (.aaload, 1) := by decide +kernel
theorem dX5_merge_81 : decode cX5_merge 81 = .ok (.invokevirtual 134, 3) := by decide +kernel
theorem dX5_merge_84 : decode cX5_merge 84 = .ok (.istore_n 3, 1) := by decide +kernel
theorem dX5_merge_85 : decode cX5_merge 85 = .ok (.iload_n 3, 1) := by decide +kernel
theorem dX5_merge_86 : decode cX5_merge 86 = .ok (.ifCond .ne 22, 3) := by decide +kernel
theorem dX5_merge_89 : decode cX5_merge 89 = .ok (.aload_n 0, 1) := by decide +kernel
theorem dX5_merge_90 : decode cX5_merge 90 = .ok (.getfield 10, 3) := by decide +kernel
theorem dX5_merge_93 : decode cX5_merge 93 = .ok (.aload_n 0, 1) := by decide +kernel
theorem dX5_merge_94 : decode cX5_merge 94 = .ok (.getfield 26, 3) := by decide +kernel
theorem dX5_merge_97 : decode cX5_merge 97 = .ok (.getfield 138, 3) := by decide +kernel
theorem dX5_merge_100 : decode cX5_merge 100 = .ok (.invokevirtual 117, 3) := by decide +kernel
theorem dX5_merge_103 : decode cX5_merge 103 = .ok (.aload_n 0, 1) := by decide +kernel
theorem dX5_merge_104 : decode cX5_merge 104 = .ok (.iload_n 1, 1) := by decide +kernel
theorem dX5_merge_105 : decode cX5_merge 105 = .ok (.putfield 52, 3) := by decide +kernel
theorem dX5_merge_108 : decode cX5_merge 108 = .ok (.iload_n 3, 1) := by decide +kernel
theorem dX5_merge_109 : decode cX5_merge 109 = .ok (.ireturn, 1) := by decide +kernel
theorem dX5_conflict_0 : decode cX5_conflict 0 = .ok (.iload_n 1, 1) := by decide +kernel
theorem dX5_conflict_1 : decode cX5_conflict 1 = .ok (.ifCond .lt 14, 3) := by decide +kernel
theorem dX5_conflict_4 : decode cX5_conflict 4 = .ok (.iload_n 1, 1) := by decide +kernel
theorem dX5_conflict_5 : decode cX5_conflict 5 = .ok (.aload_n 0, 1) := by decide +kernel
theorem dX5_conflict_6 : decode cX5_conflict 6 = .ok (.getfield 26, 3) := by decide +kernel
theorem dX5_conflict_9 : decode cX5_conflict 9 = .ok (.getfield 141, 3) := by decide +kernel
theorem dX5_conflict_12 : decode cX5_conflict 12 = .ok (.if_icmp .lt 13, 3) := by decide +kernel
theorem dX5_conflict_15 : decode cX5_conflict 15 = .ok (.new 144, 3) := by decide +kernel
theorem dX5_conflict_18 : decode cX5_conflict 18 = .ok (.dup, 1) := by decide +kernel
theorem dX5_conflict_19 : decode cX5_conflict 19 = .ok (.ldc 146, 2) := by decide +kernel
theorem dX5_conflict_21 : decode cX5_conflict 21 = .ok (.invokespecial 148, 3) := by decide +kernel
theorem dX5_conflict_24 : decode cX5_conflict 24 = .ok (.athrow, 1) := by decide +kernel
theorem dX5_conflict_25 : decode cX5_conflict 25 = .ok (.aload_n 0, 1) := by decide +kernel
theorem dX5_conflict_26 : decode cX5_conflict 26 = .ok (.getfield 26, 3) := by decide +kernel
theorem dX5_conflict_29 : decode cX5_conflict 29 = .ok (.getfield 149, 3) := by decide +kernel
theorem dX5_conflict_32 : decode cX5_conflict 32 = .ok (.iload_n 1, 1) := by decide +kernel
theorem dX5_conflict_33 : decode cX5_conflict 33 = .ok (.iaload, 1) := by decide +kernel
theorem dX5_conflict_34 : decode cX5_conflict 34 = .ok (.ireturn, 1) := by decide +kernel
set_option maxRecDepth 20000 in
theorem ggX5_about_X5_requireNode : GoodIn wsX5_about wsX5_requireNode := goodIn_ca (goodIn_r _ [11, 12, 13, 3, 14, 15, 16, 17, 18, 19, 28, 29, 30, 31, 32, 33, 34, 35, 36, 37, 38, 39, 40] (by decide +kernel) (by decide +kernel)) (goodIn_sub (fun _ h => List.mem_cons_of_mem _ (List.mem_append_right _ h)) (by decide +kernel))
set_option maxRecDepth 20000 in
theorem gX5_about_X5_requireNode : GoodIn wsX5_about (wsV RX5 55 RX5 yX5_requireNode wsX5_requireNode) := goodIn_app (goodIn_of _ (by decide +kernel)) ggX5_about_X5_requireNode
set_option maxRecDepth 20000 in
theorem ggX5_about_X4_childCount : GoodIn wsX5_about wsX4_childCount := goodIn_r _ [23, 24, 25, 26, 27, 35, 36, 37, 38, 39, 40] (by decide +kernel) (by decide +kernel)
set_option maxRecDepth 20000 in
theorem gX5_about_X4_childCount : GoodIn wsX5_about (wsV RX5 59 RX4 yX4_childCount wsX4_childCount) := goodIn_app (goodIn_of _ (by decide +kernel)) ggX5_about_X4_childCount
theorem dX5_about_0 : decode cX5_about 0 = .ok (.aload_n 0, 1) := by decide +kernel
theorem dX5_about_1 : decode cX5_about 1 = .ok (.iload_n 1, 1) := by decide +kernel
theorem dX5_about_2 : decode cX5_about 2 = .ok (.invokevirtual 55, 3) := by decide +kernel
theorem dX5_about_5 : decode cX5_about 5 = .ok (.iload_n 2, 1) := by decide +kernel
theorem dX5_about_6 : decode cX5_about 6 = .ok (.tableswitch 69 0 3 #[30, 40, 50, 59], 30) := by decide +kernel
theorem dX5_about_36 : decode cX5_about 36 = .ok (.aload_n 0, 1) := by decide +kernel
theorem dX5_about_37 : decode cX5_about 37 = .ok (.getfield 10, 3) := by decide +kernel
theorem dX5_about_40 : decode cX5_about 40 = .ok (.getfield 102, 3) := by decide +kernel
theorem dX5_about_43 : decode cX5_about 43 = .ok (.iload_n 1, 1) := by decide +kernel
theorem dX5_about_44 : decode cX5_about 44 = .ok (.iaload, 1) := by decide +kernel
theorem dX5_about_45 : decode cX5_about 45 = .ok (.ireturn, 1) := by decide +kernel
theorem dX5_about_46 : decode cX5_about 46 = .ok (.aload_n 0, 1) := by decide +kernel
theorem dX5_about_47 : decode cX5_about 47 = .ok (.getfield 10, 3) := by decide +kernel
theorem dX5_about_50 : decode cX5_about 50 = .ok (.getfield 94, 3) := by decide +kernel
theorem dX5_about_53 : decode cX5_about 53 = .ok (.iload_n 1, 1) := by decide +kernel
theorem dX5_about_54 : decode cX5_about 54 = .ok (.iaload, 1) := by decide +kernel
theorem dX5_about_55 : decode cX5_about 55 = .ok (.ireturn, 1) := by decide +kernel
theorem dX5_about_56 : decode cX5_about 56 = .ok (.aload_n 0, 1) := by decide +kernel
theorem dX5_about_57 : decode cX5_about 57 = .ok (.getfield 10, 3) := by decide +kernel
theorem dX5_about_60 : decode cX5_about 60 = .ok (.iload_n 1, 1) := by decide +kernel
theorem dX5_about_61 : decode cX5_about 61 = .ok (.invokevirtual 59, 3) := by decide +kernel
theorem dX5_about_64 : decode cX5_about 64 = .ok (.ireturn, 1) := by decide +kernel
theorem dX5_about_65 : decode cX5_about 65 = .ok (.aload_n 0, 1) := by decide +kernel
theorem dX5_about_66 : decode cX5_about 66 = .ok (.getfield 10, 3) := by decide +kernel
theorem dX5_about_69 : decode cX5_about 69 = .ok (.getfield 152, 3) := by decide +kernel
theorem dX5_about_72 : decode cX5_about 72 = .ok (.iload_n 1, 1) := by decide +kernel
theorem dX5_about_73 : decode cX5_about 73 = .ok (.iaload, 1) := by decide +kernel
theorem dX5_about_74 : decode cX5_about 74 = .ok (.ireturn, 1) := by decide +kernel
theorem dX5_about_75 : decode cX5_about 75 = .ok (.new 155, 3) := by decide +kernel
theorem dX5_about_78 : decode cX5_about 78 = .ok (.dup, 1) := by decide +kernel
theorem dX5_about_79 : decode cX5_about 79 = .ok (.ldc 157, 2) := by decide +kernel
theorem dX5_about_81 : decode cX5_about 81 = .ok (.invokespecial 159, 3) := by decide +kernel
theorem dX5_about_84 : decode cX5_about 84 = .ok (.athrow, 1) := by decide +kernel
set_option maxRecDepth 20000 in
theorem ggX5_child_X5_requireNode : GoodIn wsX5_child wsX5_requireNode := goodIn_ca (goodIn_r _ [7, 8, 9, 1, 10, 11, 12, 13, 14, 15, 41, 42, 43, 44, 45, 46, 47, 48, 49, 50, 51, 52, 53] (by decide +kernel) (by decide +kernel)) (goodIn_sub (fun _ h => List.mem_cons_of_mem _ (List.mem_append_left _ (List.mem_append_right _ h))) (by decide +kernel))
set_option maxRecDepth 20000 in
theorem gX5_child_X5_requireNode : GoodIn wsX5_child (wsV RX5 55 RX5 yX5_requireNode wsX5_requireNode) := goodIn_app (goodIn_of _ (by decide +kernel)) ggX5_child_X5_requireNode
set_option maxRecDepth 20000 in
theorem ggX5_child_X4_childCount : GoodIn wsX5_child wsX4_childCount := goodIn_r _ [19, 20, 21, 22, 23, 48, 49, 50, 51, 52, 53] (by decide +kernel) (by decide +kernel)
set_option maxRecDepth 20000 in
theorem gX5_child_X4_childCount : GoodIn wsX5_child (wsV RX5 59 RX4 yX4_childCount wsX4_childCount) := goodIn_app (goodIn_of _ (by decide +kernel)) ggX5_child_X4_childCount
set_option maxRecDepth 20000 in
theorem ggX5_child_X5_requirePlace : GoodIn wsX5_child wsX5_requirePlace := goodIn_ca (goodIn_r _ [26, 27, 28] (by decide +kernel) (by decide +kernel)) (goodIn_sub (fun _ h => List.mem_cons_of_mem _ (List.mem_append_right _ h)) (by decide +kernel))
set_option maxRecDepth 20000 in
theorem gX5_child_X5_requirePlace : GoodIn wsX5_child (va_wsS RX5 63 yX5_requirePlace wsX5_requirePlace) := goodIn_app (goodIn_of _ (by decide +kernel)) ggX5_child_X5_requirePlace
set_option maxRecDepth 20000 in
theorem ggX5_child_X4_slotFor : GoodIn wsX5_child wsX4_slotFor := goodIn_r _ [32, 20, 21, 22, 23, 33, 34, 35, 13, 36, 37, 38, 39, 40, 48, 49, 50, 51, 52, 53] (by decide +kernel) (by decide +kernel)
set_option maxRecDepth 20000 in
theorem gX5_child_X4_slotFor : GoodIn wsX5_child (wsV RX5 163 RX4 yX4_slotFor wsX4_slotFor) := goodIn_app (goodIn_of _ (by decide +kernel)) ggX5_child_X4_slotFor
theorem dX5_child_0 : decode cX5_child 0 = .ok (.aload_n 0, 1) := by decide +kernel
theorem dX5_child_1 : decode cX5_child 1 = .ok (.iload_n 1, 1) := by decide +kernel
theorem dX5_child_2 : decode cX5_child 2 = .ok (.invokevirtual 55, 3) := by decide +kernel
theorem dX5_child_5 : decode cX5_child 5 = .ok (.iload_n 2, 1) := by decide +kernel
theorem dX5_child_6 : decode cX5_child 6 = .ok (.aload_n 0, 1) := by decide +kernel
theorem dX5_child_7 : decode cX5_child 7 = .ok (.getfield 10, 3) := by decide +kernel
theorem dX5_child_10 : decode cX5_child 10 = .ok (.iload_n 1, 1) := by decide +kernel
theorem dX5_child_11 : decode cX5_child 11 = .ok (.invokevirtual 59, 3) := by decide +kernel
theorem dX5_child_14 : decode cX5_child 14 = .ok (.iconst 1, 1) := by decide +kernel
theorem dX5_child_15 : decode cX5_child 15 = .ok (.isub, 1) := by decide +kernel
theorem dX5_child_16 : decode cX5_child 16 = .ok (.invokestatic 63, 3) := by decide +kernel
theorem dX5_child_19 : decode cX5_child 19 = .ok (.aload_n 0, 1) := by decide +kernel
theorem dX5_child_20 : decode cX5_child 20 = .ok (.getfield 10, 3) := by decide +kernel
theorem dX5_child_23 : decode cX5_child 23 = .ok (.getfield 160, 3) := by decide +kernel
theorem dX5_child_26 : decode cX5_child 26 = .ok (.aload_n 0, 1) := by decide +kernel
theorem dX5_child_27 : decode cX5_child 27 = .ok (.getfield 10, 3) := by decide +kernel
theorem dX5_child_30 : decode cX5_child 30 = .ok (.iload_n 1, 1) := by decide +kernel
theorem dX5_child_31 : decode cX5_child 31 = .ok (.iload_n 2, 1) := by decide +kernel
theorem dX5_child_32 : decode cX5_child 32 = .ok (.invokevirtual 163, 3) := by decide +kernel
theorem dX5_child_35 : decode cX5_child 35 = .ok (.iaload, 1) := by decide +kernel
theorem dX5_child_36 : decode cX5_child 36 = .ok (.ireturn, 1) := by decide +kernel
theorem dX5_nodes_0 : decode cX5_nodes 0 = .ok (.iload_n 1, 1) := by decide +kernel
theorem dX5_nodes_1 : decode cX5_nodes 1 = .ok (.ifCond .eq 10, 3) := by decide +kernel
theorem dX5_nodes_4 : decode cX5_nodes 4 = .ok (.aload_n 0, 1) := by decide +kernel
theorem dX5_nodes_5 : decode cX5_nodes 5 = .ok (.getfield 41, 3) := by decide +kernel
theorem dX5_nodes_8 : decode cX5_nodes 8 = .ok (.goto 10, 3) := by decide +kernel
theorem dX5_nodes_11 : decode cX5_nodes 11 = .ok (.aload_n 0, 1) := by decide +kernel
theorem dX5_nodes_12 : decode cX5_nodes 12 = .ok (.getfield 10, 3) := by decide +kernel
theorem dX5_nodes_15 : decode cX5_nodes 15 = .ok (.getfield 166, 3) := by decide +kernel
theorem dX5_nodes_18 : decode cX5_nodes 18 = .ok (.ireturn, 1) := by decide +kernel
set_option maxRecDepth 20000 in
theorem ggX5_count_X3_follow : GoodIn wsX5_count wsX3_follow := goodIn_r _ [5, 6, 7, 4, 8, 9, 10, 11, 12, 13, 14, 15, 16, 17, 18, 19, 20, 21, 22, 23, 24, 25, 26, 27, 42, 43, 44, 45, 46, 47] (by decide +kernel) (by decide +kernel)
set_option maxRecDepth 20000 in
theorem gX5_count_X3_follow : GoodIn wsX5_count (va_wsS RX5 167 yX3_follow wsX3_follow) := goodIn_app (goodIn_of _ (by decide +kernel)) ggX5_count_X3_follow
set_option maxRecDepth 20000 in
theorem ggX5_count_J6_bitCount_0f7a4 : GoodIn wsX5_count wsJ6_bitCount_0f7a4 := goodIn_r _ [31, 32, 33, 34] (by decide +kernel) (by decide +kernel)
set_option maxRecDepth 20000 in
theorem gX5_count_J6_bitCount_0f7a4 : GoodIn wsX5_count (va_wsS RX5 173 yJ6_bitCount_0f7a4 wsJ6_bitCount_0f7a4) := goodIn_app (goodIn_of _ (by decide +kernel)) ggX5_count_J6_bitCount_0f7a4
theorem dX5_count_0 : decode cX5_count 0 = .ok (.iload_n 1, 1) := by decide +kernel
theorem dX5_count_1 : decode cX5_count 1 = .ok (.aload_n 0, 1) := by decide +kernel
theorem dX5_count_2 : decode cX5_count 2 = .ok (.getfield 10, 3) := by decide +kernel
theorem dX5_count_5 : decode cX5_count 5 = .ok (.invokestatic 167, 3) := by decide +kernel
theorem dX5_count_8 : decode cX5_count 8 = .ok (.invokestatic 173, 3) := by decide +kernel
theorem dX5_count_11 : decode cX5_count 11 = .ok (.ireturn, 1) := by decide +kernel
set_option maxRecDepth 20000 in
theorem ggX5_find_X3_follow : GoodIn wsX5_find wsX3_follow := goodIn_r _ [7, 8, 9, 6, 10, 11, 12, 13, 14, 15, 16, 17, 18, 19, 20, 21, 22, 23, 24, 25, 26, 27, 28, 29, 51, 52, 53, 54, 55, 56] (by decide +kernel) (by decide +kernel)
set_option maxRecDepth 20000 in
theorem gX5_find_X3_follow : GoodIn wsX5_find (va_wsS RX5 167 yX3_follow wsX3_follow) := goodIn_app (goodIn_of _ (by decide +kernel)) ggX5_find_X3_follow
set_option maxRecDepth 20000 in
theorem ggX5_find_J6_bitCount_0f7a4 : GoodIn wsX5_find wsJ6_bitCount_0f7a4 := goodIn_r _ [33, 34, 35, 36] (by decide +kernel) (by decide +kernel)
set_option maxRecDepth 20000 in
theorem gX5_find_J6_bitCount_0f7a4 : GoodIn wsX5_find (va_wsS RX5 173 yJ6_bitCount_0f7a4 wsJ6_bitCount_0f7a4) := goodIn_app (goodIn_of _ (by decide +kernel)) ggX5_find_J6_bitCount_0f7a4
set_option maxRecDepth 20000 in
theorem ggX5_find_X4_pick : GoodIn wsX5_find wsX4_pick := goodIn_r _ [41, 42, 43, 17, 18, 19, 51, 52, 53, 54, 55, 56] (by decide +kernel) (by decide +kernel)
set_option maxRecDepth 20000 in
theorem gX5_find_X4_pick : GoodIn wsX5_find (wsV RX5 180 RX4 yX4_pick wsX4_pick) := goodIn_app (goodIn_of _ (by decide +kernel)) ggX5_find_X4_pick
theorem dX5_find_0 : decode cX5_find 0 = .ok (.iload_n 1, 1) := by decide +kernel
theorem dX5_find_1 : decode cX5_find 1 = .ok (.aload_n 0, 1) := by decide +kernel
theorem dX5_find_2 : decode cX5_find 2 = .ok (.getfield 10, 3) := by decide +kernel
theorem dX5_find_5 : decode cX5_find 5 = .ok (.invokestatic 167, 3) := by decide +kernel
theorem dX5_find_8 : decode cX5_find 8 = .ok (.istore_n 3, 1) := by decide +kernel
theorem dX5_find_9 : decode cX5_find 9 = .ok (.iload_n 2, 1) := by decide +kernel
theorem dX5_find_10 : decode cX5_find 10 = .ok (.ifCond .lt 11, 3) := by decide +kernel
theorem dX5_find_13 : decode cX5_find 13 = .ok (.iload_n 2, 1) := by decide +kernel
theorem dX5_find_14 : decode cX5_find 14 = .ok (.iload_n 3, 1) := by decide +kernel
theorem dX5_find_15 : decode cX5_find 15 = .ok (.invokestatic 173, 3) := by decide +kernel
theorem dX5_find_18 : decode cX5_find 18 = .ok (.if_icmp .lt 13, 3) := by decide +kernel
theorem dX5_find_21 : decode cX5_find 21 = .ok (.new 144, 3) := by decide +kernel
theorem dX5_find_24 : decode cX5_find 24 = .ok (.dup, 1) := by decide +kernel
theorem dX5_find_25 : decode cX5_find 25 = .ok (.ldc 178, 2) := by decide +kernel
theorem dX5_find_27 : decode cX5_find 27 = .ok (.invokespecial 148, 3) := by decide +kernel
theorem dX5_find_30 : decode cX5_find 30 = .ok (.athrow, 1) := by decide +kernel
theorem dX5_find_31 : decode cX5_find 31 = .ok (.aload_n 0, 1) := by decide +kernel
theorem dX5_find_32 : decode cX5_find 32 = .ok (.getfield 10, 3) := by decide +kernel
theorem dX5_find_35 : decode cX5_find 35 = .ok (.iload_n 3, 1) := by decide +kernel
theorem dX5_find_36 : decode cX5_find 36 = .ok (.iload_n 2, 1) := by decide +kernel
theorem dX5_find_37 : decode cX5_find 37 = .ok (.invokevirtual 180, 3) := by decide +kernel
theorem dX5_find_40 : decode cX5_find 40 = .ok (.ireturn, 1) := by decide +kernel
set_option maxRecDepth 20000 in
theorem ggX5_alike_X5_requireNode : GoodIn wsX5_alike wsX5_requireNode := goodIn_ca (goodIn_r _ [6, 7, 8, 1, 9, 10, 11, 12, 13, 14, 35, 36, 37, 38, 39, 40, 41, 42, 43, 44, 45, 46, 47] (by decide +kernel) (by decide +kernel)) (goodIn_sub (fun _ h => List.mem_cons_of_mem _ (List.mem_append_right _ h)) (by decide +kernel))
set_option maxRecDepth 20000 in
theorem gX5_alike_X5_requireNode : GoodIn wsX5_alike (wsV RX5 55 RX5 yX5_requireNode wsX5_requireNode) := goodIn_app (goodIn_of _ (by decide +kernel)) ggX5_alike_X5_requireNode
set_option maxRecDepth 20000 in
theorem ggX5_alike_X4_firstAlike : GoodIn wsX5_alike wsX4_firstAlike := goodIn_r _ [18, 19, 20, 21, 22, 23, 12, 24, 14, 25, 26, 27, 28, 29, 30, 31, 32, 33, 34, 42, 43, 44, 45, 46, 47] (by decide +kernel) (by decide +kernel)
set_option maxRecDepth 20000 in
theorem gX5_alike_X4_firstAlike : GoodIn wsX5_alike (wsV RX5 183 RX4 yX4_firstAlike wsX4_firstAlike) := goodIn_app (goodIn_of _ (by decide +kernel)) ggX5_alike_X4_firstAlike
theorem dX5_alike_0 : decode cX5_alike 0 = .ok (.aload_n 0, 1) := by decide +kernel
theorem dX5_alike_1 : decode cX5_alike 1 = .ok (.iload_n 1, 1) := by decide +kernel
theorem dX5_alike_2 : decode cX5_alike 2 = .ok (.invokevirtual 55, 3) := by decide +kernel
theorem dX5_alike_5 : decode cX5_alike 5 = .ok (.aload_n 0, 1) := by decide +kernel
theorem dX5_alike_6 : decode cX5_alike 6 = .ok (.getfield 10, 3) := by decide +kernel
theorem dX5_alike_9 : decode cX5_alike 9 = .ok (.iload_n 1, 1) := by decide +kernel
theorem dX5_alike_10 : decode cX5_alike 10 = .ok (.invokevirtual 183, 3) := by decide +kernel
theorem dX5_alike_13 : decode cX5_alike 13 = .ok (.ireturn, 1) := by decide +kernel
set_option maxRecDepth 20000 in
theorem ggX5_distance_X5_requireCommit : GoodIn wsX5_distance wsX5_requireCommit := goodIn_ca (goodIn_r _ [8, 9, 10, 2, 11, 60, 61, 62, 63, 64, 65, 66, 67, 68, 69, 70, 71] (by decide +kernel) (by decide +kernel)) (goodIn_sub (fun _ h => List.mem_cons_of_mem _ (List.mem_append_right _ h)) (by decide +kernel))
set_option maxRecDepth 20000 in
theorem gX5_distance_X5_requireCommit : GoodIn wsX5_distance (wsV RX5 110 RX5 yX5_requireCommit wsX5_requireCommit) := goodIn_app (goodIn_of _ (by decide +kernel)) ggX5_distance_X5_requireCommit
set_option maxRecDepth 20000 in
theorem ggX5_distance_X0_between : GoodIn wsX5_distance wsX0_between := goodIn_r _ [16, 17, 18, 19, 20, 21, 22, 15, 23, 24, 25, 26, 27, 28, 29, 30, 31, 32, 33, 34, 35, 36, 37, 38, 39, 40, 41, 42, 43, 44, 45, 46, 47, 48, 49, 50, 51, 52, 53, 54, 55, 56, 57, 58, 59, 72, 73, 74, 75, 76, 77, 78, 79, 80, 81] (by decide +kernel) (by decide +kernel)
set_option maxRecDepth 20000 in
theorem gX5_distance_X0_between : GoodIn wsX5_distance (wsV RX5 186 RX0 yX0_between wsX0_between) := goodIn_app (goodIn_of _ (by decide +kernel)) ggX5_distance_X0_between
theorem dX5_distance_0 : decode cX5_distance 0 = .ok (.aload_n 0, 1) := by decide +kernel
theorem dX5_distance_1 : decode cX5_distance 1 = .ok (.iload_n 1, 1) := by decide +kernel
theorem dX5_distance_2 : decode cX5_distance 2 = .ok (.invokevirtual 110, 3) := by decide +kernel
theorem dX5_distance_5 : decode cX5_distance 5 = .ok (.aload_n 0, 1) := by decide +kernel
theorem dX5_distance_6 : decode cX5_distance 6 = .ok (.iload_n 2, 1) := by decide +kernel
theorem dX5_distance_7 : decode cX5_distance 7 = .ok (.invokevirtual 110, 3) := by decide +kernel
theorem dX5_distance_10 : decode cX5_distance 10 = .ok (.aload_n 0, 1) := by decide +kernel
theorem dX5_distance_11 : decode cX5_distance 11 = .ok (.getfield 33, 3) := by decide +kernel
theorem dX5_distance_14 : decode cX5_distance 14 = .ok (.aload_n 0, 1) := by decide +kernel
theorem dX5_distance_15 : decode cX5_distance 15 = .ok (.getfield 19, 3) := by decide +kernel
theorem dX5_distance_18 : decode cX5_distance 18 = .ok (.getfield 113, 3) := by decide +kernel
theorem dX5_distance_21 : decode cX5_distance 21 = .ok (.iload_n 1, 1) := by decide +kernel
theorem dX5_distance_22 : decode cX5_distance 22 = .ok (.aaload, 1) := by decide +kernel
theorem dX5_distance_23 : decode cX5_distance 23 = .ok (.aload_n 0, 1) := by decide +kernel
theorem dX5_distance_24 : decode cX5_distance 24 = .ok (.getfield 19, 3) := by decide +kernel
theorem dX5_distance_27 : decode cX5_distance 27 = .ok (.getfield 113, 3) := by decide +kernel
theorem dX5_distance_30 : decode cX5_distance 30 = .ok (.iload_n 2, 1) := by decide +kernel
theorem dX5_distance_31 : decode cX5_distance 31 = .ok (.aaload, 1) := by decide +kernel
theorem dX5_distance_32 : decode cX5_distance 32 = .ok (.invokevirtual 186, 3) := by decide +kernel
theorem dX5_distance_35 : decode cX5_distance 35 = .ok (.ireturn, 1) := by decide +kernel
theorem dX5_state_0 : decode cX5_state 0 = .ok (.iload_n 1, 1) := by decide +kernel
theorem dX5_state_1 : decode cX5_state 1 = .ok (.tableswitch 45 0 2 #[27, 35, 40], 27) := by decide +kernel
theorem dX5_state_28 : decode cX5_state 28 = .ok (.aload_n 0, 1) := by decide +kernel
theorem dX5_state_29 : decode cX5_state 29 = .ok (.getfield 19, 3) := by decide +kernel
theorem dX5_state_32 : decode cX5_state 32 = .ok (.getfield 105, 3) := by decide +kernel
theorem dX5_state_35 : decode cX5_state 35 = .ok (.ireturn, 1) := by decide +kernel
theorem dX5_state_36 : decode cX5_state 36 = .ok (.aload_n 0, 1) := by decide +kernel
theorem dX5_state_37 : decode cX5_state 37 = .ok (.getfield 49, 3) := by decide +kernel
theorem dX5_state_40 : decode cX5_state 40 = .ok (.ireturn, 1) := by decide +kernel
theorem dX5_state_41 : decode cX5_state 41 = .ok (.aload_n 0, 1) := by decide +kernel
theorem dX5_state_42 : decode cX5_state 42 = .ok (.getfield 52, 3) := by decide +kernel
theorem dX5_state_45 : decode cX5_state 45 = .ok (.ireturn, 1) := by decide +kernel
theorem dX5_state_46 : decode cX5_state 46 = .ok (.new 80, 3) := by decide +kernel
theorem dX5_state_49 : decode cX5_state 49 = .ok (.dup, 1) := by decide +kernel
theorem dX5_state_50 : decode cX5_state 50 = .ok (.ldc 190, 2) := by decide +kernel
theorem dX5_state_52 : decode cX5_state 52 = .ok (.invokespecial 84, 3) := by decide +kernel
theorem dX5_state_55 : decode cX5_state 55 = .ok (.athrow, 1) := by decide +kernel
set_option maxRecDepth 20000 in
theorem ggX5_above_X5_requireCommit : GoodIn wsX5_above wsX5_requireCommit := goodIn_ca (goodIn_r _ [8, 9, 10, 1, 11, 17, 18, 19, 20, 21, 22, 23, 24, 25, 26, 27, 28] (by decide +kernel) (by decide +kernel)) (goodIn_sub (fun _ h => List.mem_cons_of_mem _ (List.mem_append_left _ (List.mem_append_right _ h))) (by decide +kernel))
set_option maxRecDepth 20000 in
theorem gX5_above_X5_requireCommit : GoodIn wsX5_above (wsV RX5 110 RX5 yX5_requireCommit wsX5_requireCommit) := goodIn_app (goodIn_of _ (by decide +kernel)) ggX5_above_X5_requireCommit
set_option maxRecDepth 20000 in
theorem ggX5_above_X5_requirePlace : GoodIn wsX5_above wsX5_requirePlace := goodIn_ca (goodIn_r _ [14, 15, 16] (by decide +kernel) (by decide +kernel)) (goodIn_sub (fun _ h => List.mem_cons_of_mem _ (List.mem_append_right _ h)) (by decide +kernel))
set_option maxRecDepth 20000 in
theorem gX5_above_X5_requirePlace : GoodIn wsX5_above (va_wsS RX5 63 yX5_requirePlace wsX5_requirePlace) := goodIn_app (goodIn_of _ (by decide +kernel)) ggX5_above_X5_requirePlace
theorem dX5_above_0 : decode cX5_above 0 = .ok (.aload_n 0, 1) := by decide +kernel
theorem dX5_above_1 : decode cX5_above 1 = .ok (.iload_n 1, 1) := by decide +kernel
theorem dX5_above_2 : decode cX5_above 2 = .ok (.invokevirtual 110, 3) := by decide +kernel
theorem dX5_above_5 : decode cX5_above 5 = .ok (.iload_n 2, 1) := by decide +kernel
theorem dX5_above_6 : decode cX5_above 6 = .ok (.iconst 1, 1) := by decide +kernel
theorem dX5_above_7 : decode cX5_above 7 = .ok (.invokestatic 63, 3) := by decide +kernel
theorem dX5_above_10 : decode cX5_above 10 = .ok (.iload_n 2, 1) := by decide +kernel
theorem dX5_above_11 : decode cX5_above 11 = .ok (.ifCond .ne 15, 3) := by decide +kernel
theorem dX5_above_14 : decode cX5_above 14 = .ok (.aload_n 0, 1) := by decide +kernel
theorem dX5_above_15 : decode cX5_above 15 = .ok (.getfield 19, 3) := by decide +kernel
theorem dX5_above_18 : decode cX5_above 18 = .ok (.getfield 192, 3) := by decide +kernel
theorem dX5_above_21 : decode cX5_above 21 = .ok (.iload_n 1, 1) := by decide +kernel
theorem dX5_above_22 : decode cX5_above 22 = .ok (.iaload, 1) := by decide +kernel
theorem dX5_above_23 : decode cX5_above 23 = .ok (.goto 12, 3) := by decide +kernel
theorem dX5_above_26 : decode cX5_above 26 = .ok (.aload_n 0, 1) := by decide +kernel
theorem dX5_above_27 : decode cX5_above 27 = .ok (.getfield 19, 3) := by decide +kernel
theorem dX5_above_30 : decode cX5_above 30 = .ok (.getfield 195, 3) := by decide +kernel
theorem dX5_above_33 : decode cX5_above 33 = .ok (.iload_n 1, 1) := by decide +kernel
theorem dX5_above_34 : decode cX5_above 34 = .ok (.iaload, 1) := by decide +kernel
theorem dX5_above_35 : decode cX5_above 35 = .ok (.ireturn, 1) := by decide +kernel
set_option maxRecDepth 20000 in
theorem ggX5_requireNode_X4_holds : GoodIn wsX5_requireNode wsX4_holds := goodIn_r _ [8, 9, 17, 18, 19, 20, 21, 22] (by decide +kernel) (by decide +kernel)
set_option maxRecDepth 20000 in
theorem gX5_requireNode_X4_holds : GoodIn wsX5_requireNode (wsV RX5 198 RX4 yX4_holds wsX4_holds) := goodIn_app (goodIn_of _ (by decide +kernel)) ggX5_requireNode_X4_holds
theorem dX5_requireNode_0 : decode cX5_requireNode 0 = .ok (.aload_n 0, 1) := by decide +kernel
theorem dX5_requireNode_1 : decode cX5_requireNode 1 = .ok (.getfield 10, 3) := by decide +kernel
theorem dX5_requireNode_4 : decode cX5_requireNode 4 = .ok (.iload_n 1, 1) := by decide +kernel
theorem dX5_requireNode_5 : decode cX5_requireNode 5 = .ok (.invokevirtual 198, 3) := by decide +kernel
theorem dX5_requireNode_8 : decode cX5_requireNode 8 = .ok (.ifCond .ne 13, 3) := by decide +kernel
theorem dX5_requireNode_11 : decode cX5_requireNode 11 = .ok (.new 144, 3) := by decide +kernel
theorem dX5_requireNode_14 : decode cX5_requireNode 14 = .ok (.dup, 1) := by decide +kernel
theorem dX5_requireNode_15 : decode cX5_requireNode 15 = .ok (.ldc 202, 2) := by decide +kernel
theorem dX5_requireNode_17 : decode cX5_requireNode 17 = .ok (.invokespecial 148, 3) := by decide +kernel
theorem dX5_requireNode_20 : decode cX5_requireNode 20 = .ok (.athrow, 1) := by decide +kernel
theorem dX5_requireNode_21 : decode cX5_requireNode 21 = .ok (.return_, 1) := by decide +kernel
theorem dX5_requireCommit_0 : decode cX5_requireCommit 0 = .ok (.iload_n 1, 1) := by decide +kernel
theorem dX5_requireCommit_1 : decode cX5_requireCommit 1 = .ok (.ifCond .lt 14, 3) := by decide +kernel
theorem dX5_requireCommit_4 : decode cX5_requireCommit 4 = .ok (.iload_n 1, 1) := by decide +kernel
theorem dX5_requireCommit_5 : decode cX5_requireCommit 5 = .ok (.aload_n 0, 1) := by decide +kernel
theorem dX5_requireCommit_6 : decode cX5_requireCommit 6 = .ok (.getfield 19, 3) := by decide +kernel
theorem dX5_requireCommit_9 : decode cX5_requireCommit 9 = .ok (.getfield 105, 3) := by decide +kernel
theorem dX5_requireCommit_12 : decode cX5_requireCommit 12 = .ok (.if_icmp .lt 13, 3) := by decide +kernel
theorem dX5_requireCommit_15 : decode cX5_requireCommit 15 = .ok (.new 144, 3) := by decide +kernel
theorem dX5_requireCommit_18 : decode cX5_requireCommit 18 = .ok (.dup, 1) := by decide +kernel
theorem dX5_requireCommit_19 : decode cX5_requireCommit 19 = .ok (.ldc 204, 2) := by decide +kernel
theorem dX5_requireCommit_21 : decode cX5_requireCommit 21 = .ok (.invokespecial 148, 3) := by decide +kernel
theorem dX5_requireCommit_24 : decode cX5_requireCommit 24 = .ok (.athrow, 1) := by decide +kernel
theorem dX5_requireCommit_25 : decode cX5_requireCommit 25 = .ok (.return_, 1) := by decide +kernel
theorem dX5_requirePlace_0 : decode cX5_requirePlace 0 = .ok (.iload_n 0, 1) := by decide +kernel
theorem dX5_requirePlace_1 : decode cX5_requirePlace 1 = .ok (.ifCond .lt 8, 3) := by decide +kernel
theorem dX5_requirePlace_4 : decode cX5_requirePlace 4 = .ok (.iload_n 0, 1) := by decide +kernel
theorem dX5_requirePlace_5 : decode cX5_requirePlace 5 = .ok (.iload_n 1, 1) := by decide +kernel
theorem dX5_requirePlace_6 : decode cX5_requirePlace 6 = .ok (.if_icmp .le 13, 3) := by decide +kernel
theorem dX5_requirePlace_9 : decode cX5_requirePlace 9 = .ok (.new 155, 3) := by decide +kernel
theorem dX5_requirePlace_12 : decode cX5_requirePlace 12 = .ok (.dup, 1) := by decide +kernel
theorem dX5_requirePlace_13 : decode cX5_requirePlace 13 = .ok (.ldc 206, 2) := by decide +kernel
theorem dX5_requirePlace_15 : decode cX5_requirePlace 15 = .ok (.invokespecial 159, 3) := by decide +kernel
theorem dX5_requirePlace_18 : decode cX5_requirePlace 18 = .ok (.athrow, 1) := by decide +kernel
theorem dX5_requirePlace_19 : decode cX5_requirePlace 19 = .ok (.return_, 1) := by decide +kernel
theorem dX5_requireLabel_0 : decode cX5_requireLabel 0 = .ok (.iload_n 0, 1) := by decide +kernel
theorem dX5_requireLabel_1 : decode cX5_requireLabel 1 = .ok (.ifCond .lt 9, 3) := by decide +kernel
theorem dX5_requireLabel_4 : decode cX5_requireLabel 4 = .ok (.iload_n 0, 1) := by decide +kernel
theorem dX5_requireLabel_5 : decode cX5_requireLabel 5 = .ok (.bipush 6, 2) := by decide +kernel
theorem dX5_requireLabel_7 : decode cX5_requireLabel 7 = .ok (.if_icmp .lt 13, 3) := by decide +kernel
theorem dX5_requireLabel_10 : decode cX5_requireLabel 10 = .ok (.new 80, 3) := by decide +kernel
theorem dX5_requireLabel_13 : decode cX5_requireLabel 13 = .ok (.dup, 1) := by decide +kernel
theorem dX5_requireLabel_14 : decode cX5_requireLabel 14 = .ok (.ldc 208, 2) := by decide +kernel
theorem dX5_requireLabel_16 : decode cX5_requireLabel 16 = .ok (.invokespecial 84, 3) := by decide +kernel
theorem dX5_requireLabel_19 : decode cX5_requireLabel 19 = .ok (.athrow, 1) := by decide +kernel
theorem dX5_requireLabel_20 : decode cX5_requireLabel 20 = .ok (.return_, 1) := by decide +kernel
theorem dX5_isIn_0 : decode cX5_isIn 0 = .ok (.iload_n 0, 1) := by decide +kernel
theorem dX5_isIn_1 : decode cX5_isIn 1 = .ok (.iload_n 1, 1) := by decide +kernel
theorem dX5_isIn_2 : decode cX5_isIn 2 = .ok (.ishr, 1) := by decide +kernel
theorem dX5_isIn_3 : decode cX5_isIn 3 = .ok (.iconst 1, 1) := by decide +kernel
theorem dX5_isIn_4 : decode cX5_isIn 4 = .ok (.iand, 1) := by decide +kernel
theorem dX5_isIn_5 : decode cX5_isIn 5 = .ok (.ifCond .eq 7, 3) := by decide +kernel
theorem dX5_isIn_8 : decode cX5_isIn 8 = .ok (.iconst 1, 1) := by decide +kernel
theorem dX5_isIn_9 : decode cX5_isIn 9 = .ok (.goto 4, 3) := by decide +kernel
theorem dX5_isIn_12 : decode cX5_isIn 12 = .ok (.iconst 0, 1) := by decide +kernel
theorem dX5_isIn_13 : decode cX5_isIn 13 = .ok (.ireturn, 1) := by decide +kernel
end
section
set_option maxRecDepth 20000 in
theorem ggX6_init_X6_copy : GoodIn wsX6_init wsX6_copy := goodIn_r _ [32, 5, 7, 8, 9, 33, 34, 35, 36, 37, 38, 39, 40, 41, 42, 43, 44, 45, 46, 47, 48, 49, 50, 51, 52, 53, 54, 55, 56, 57, 58, 59] (by decide +kernel) (by decide +kernel)
set_option maxRecDepth 20000 in
theorem gX6_init_X6_copy : GoodIn wsX6_init (wsV RX6 78 RX6 yX6_copy wsX6_copy) := goodIn_app (goodIn_of _ (by decide +kernel)) ggX6_init_X6_copy
theorem dX6_init_0 : decode cX6_init 0 = .ok (.aload_n 0, 1) := by decide +kernel
theorem dX6_init_1 : decode cX6_init 1 = .ok (.invokespecial 1, 3) := by decide +kernel
theorem dX6_init_4 : decode cX6_init 4 = .ok (.aload_n 0, 1) := by decide +kernel
theorem dX6_init_5 : decode cX6_init 5 = .ok (.sipush 336, 3) := by decide +kernel
theorem dX6_init_8 : decode cX6_init 8 = .ok (.newarray .boolean, 2) := by decide +kernel
theorem dX6_init_10 : decode cX6_init 10 = .ok (.putfield 7, 3) := by decide +kernel
theorem dX6_init_13 : decode cX6_init 13 = .ok (.aload_n 0, 1) := by decide +kernel
theorem dX6_init_14 : decode cX6_init 14 = .ok (.sipush 336, 3) := by decide +kernel
theorem dX6_init_17 : decode cX6_init 17 = .ok (.newarray .int, 2) := by decide +kernel
theorem dX6_init_19 : decode cX6_init 19 = .ok (.putfield 13, 3) := by decide +kernel
theorem dX6_init_22 : decode cX6_init 22 = .ok (.aload_n 0, 1) := by decide +kernel
theorem dX6_init_23 : decode cX6_init 23 = .ok (.sipush 336, 3) := by decide +kernel
theorem dX6_init_26 : decode cX6_init 26 = .ok (.newarray .int, 2) := by decide +kernel
theorem dX6_init_28 : decode cX6_init 28 = .ok (.putfield 17, 3) := by decide +kernel
theorem dX6_init_31 : decode cX6_init 31 = .ok (.aload_n 0, 1) := by decide +kernel
theorem dX6_init_32 : decode cX6_init 32 = .ok (.sipush 336, 3) := by decide +kernel
theorem dX6_init_35 : decode cX6_init 35 = .ok (.newarray .int, 2) := by decide +kernel
theorem dX6_init_37 : decode cX6_init 37 = .ok (.putfield 20, 3) := by decide +kernel
theorem dX6_init_40 : decode cX6_init 40 = .ok (.aload_n 0, 1) := by decide +kernel
theorem dX6_init_41 : decode cX6_init 41 = .ok (.iconst 1, 1) := by decide +kernel
theorem dX6_init_42 : decode cX6_init 42 = .ok (.putfield 23, 3) := by decide +kernel
theorem dX6_init_45 : decode cX6_init 45 = .ok (.aload_n 0, 1) := by decide +kernel
theorem dX6_init_46 : decode cX6_init 46 = .ok (.iconst 1, 1) := by decide +kernel
theorem dX6_init_47 : decode cX6_init 47 = .ok (.putfield 27, 3) := by decide +kernel
theorem dX6_init_50 : decode cX6_init 50 = .ok (.aload_n 0, 1) := by decide +kernel
theorem dX6_init_51 : decode cX6_init 51 = .ok (.bipush 12, 2) := by decide +kernel
theorem dX6_init_53 : decode cX6_init 53 = .ok (.newarray .int, 2) := by decide +kernel
theorem dX6_init_55 : decode cX6_init 55 = .ok (.putfield 30, 3) := by decide +kernel
theorem dX6_init_58 : decode cX6_init 58 = .ok (.aload_n 0, 1) := by decide +kernel
theorem dX6_init_59 : decode cX6_init 59 = .ok (.bipush 12, 2) := by decide +kernel
theorem dX6_init_61 : decode cX6_init 61 = .ok (.newarray .int, 2) := by decide +kernel
theorem dX6_init_63 : decode cX6_init 63 = .ok (.putfield 33, 3) := by decide +kernel
theorem dX6_init_66 : decode cX6_init 66 = .ok (.aload_n 0, 1) := by decide +kernel
theorem dX6_init_67 : decode cX6_init 67 = .ok (.bipush 12, 2) := by decide +kernel
theorem dX6_init_69 : decode cX6_init 69 = .ok (.newarray .int, 2) := by decide +kernel
theorem dX6_init_71 : decode cX6_init 71 = .ok (.putfield 36, 3) := by decide +kernel
theorem dX6_init_74 : decode cX6_init 74 = .ok (.aload_n 0, 1) := by decide +kernel
theorem dX6_init_75 : decode cX6_init 75 = .ok (.iconst (-1), 1) := by decide +kernel
theorem dX6_init_76 : decode cX6_init 76 = .ok (.putfield 39, 3) := by decide +kernel
theorem dX6_init_79 : decode cX6_init 79 = .ok (.aload_n 0, 1) := by decide +kernel
theorem dX6_init_80 : decode cX6_init 80 = .ok (.bipush 24, 2) := by decide +kernel
theorem dX6_init_82 : decode cX6_init 82 = .ok (.newarray .int, 2) := by decide +kernel
theorem dX6_init_84 : decode cX6_init 84 = .ok (.putfield 42, 3) := by decide +kernel
theorem dX6_init_87 : decode cX6_init 87 = .ok (.aload_n 0, 1) := by decide +kernel
theorem dX6_init_88 : decode cX6_init 88 = .ok (.bipush 24, 2) := by decide +kernel
theorem dX6_init_90 : decode cX6_init 90 = .ok (.newarray .boolean, 2) := by decide +kernel
theorem dX6_init_92 : decode cX6_init 92 = .ok (.putfield 45, 3) := by decide +kernel
theorem dX6_init_95 : decode cX6_init 95 = .ok (.aload_n 0, 1) := by decide +kernel
theorem dX6_init_96 : decode cX6_init 96 = .ok (.bipush 24, 2) := by decide +kernel
theorem dX6_init_98 : decode cX6_init 98 = .ok (.newarray .int, 2) := by decide +kernel
theorem dX6_init_100 : decode cX6_init 100 = .ok (.putfield 48, 3) := by decide +kernel
theorem dX6_init_103 : decode cX6_init 103 = .ok (.aload_n 0, 1) := by decide +kernel
theorem dX6_init_104 : decode cX6_init 104 = .ok (.bipush 24, 2) := by decide +kernel
theorem dX6_init_106 : decode cX6_init 106 = .ok (.newarray .int, 2) := by decide +kernel
theorem dX6_init_108 : decode cX6_init 108 = .ok (.putfield 51, 3) := by decide +kernel
theorem dX6_init_111 : decode cX6_init 111 = .ok (.aload_n 0, 1) := by decide +kernel
theorem dX6_init_112 : decode cX6_init 112 = .ok (.bipush 24, 2) := by decide +kernel
theorem dX6_init_114 : decode cX6_init 114 = .ok (.newarray .int, 2) := by decide +kernel
theorem dX6_init_116 : decode cX6_init 116 = .ok (.putfield 54, 3) := by decide +kernel
theorem dX6_init_119 : decode cX6_init 119 = .ok (.aload_n 0, 1) := by decide +kernel
theorem dX6_init_120 : decode cX6_init 120 = .ok (.bipush 24, 2) := by decide +kernel
theorem dX6_init_122 : decode cX6_init 122 = .ok (.newarray .int, 2) := by decide +kernel
theorem dX6_init_124 : decode cX6_init 124 = .ok (.putfield 57, 3) := by decide +kernel
theorem dX6_init_127 : decode cX6_init 127 = .ok (.aload_n 0, 1) := by decide +kernel
theorem dX6_init_128 : decode cX6_init 128 = .ok (.bipush 24, 2) := by decide +kernel
theorem dX6_init_130 : decode cX6_init 130 = .ok (.newarray .int, 2) := by decide +kernel
theorem dX6_init_132 : decode cX6_init 132 = .ok (.putfield 60, 3) := by decide +kernel
theorem dX6_init_135 : decode cX6_init 135 = .ok (.aload_n 0, 1) := by decide +kernel
theorem dX6_init_136 : decode cX6_init 136 = .ok (.bipush 24, 2) := by decide +kernel
theorem dX6_init_138 : decode cX6_init 138 = .ok (.newarray .int, 2) := by decide +kernel
theorem dX6_init_140 : decode cX6_init 140 = .ok (.putfield 63, 3) := by decide +kernel
theorem dX6_init_143 : decode cX6_init 143 = .ok (.aload_n 0, 1) := by decide +kernel
theorem dX6_init_144 : decode cX6_init 144 = .ok (.bipush 48, 2) := by decide +kernel
theorem dX6_init_146 : decode cX6_init 146 = .ok (.newarray .int, 2) := by decide +kernel
theorem dX6_init_148 : decode cX6_init 148 = .ok (.putfield 66, 3) := by decide +kernel
theorem dX6_init_151 : decode cX6_init 151 = .ok (.aload_n 0, 1) := by decide +kernel
theorem dX6_init_152 : decode cX6_init 152 = .ok (.bipush 48, 2) := by decide +kernel
theorem dX6_init_154 : decode cX6_init 154 = .ok (.newarray .int, 2) := by decide +kernel
theorem dX6_init_156 : decode cX6_init 156 = .ok (.putfield 69, 3) := by decide +kernel
theorem dX6_init_159 : decode cX6_init 159 = .ok (.aload_n 0, 1) := by decide +kernel
theorem dX6_init_160 : decode cX6_init 160 = .ok (.sipush 576, 3) := by decide +kernel
theorem dX6_init_163 : decode cX6_init 163 = .ok (.newarray .int, 2) := by decide +kernel
theorem dX6_init_165 : decode cX6_init 165 = .ok (.putfield 72, 3) := by decide +kernel
theorem dX6_init_168 : decode cX6_init 168 = .ok (.aload_n 0, 1) := by decide +kernel
theorem dX6_init_169 : decode cX6_init 169 = .ok (.sipush 625, 3) := by decide +kernel
theorem dX6_init_172 : decode cX6_init 172 = .ok (.newarray .int, 2) := by decide +kernel
theorem dX6_init_174 : decode cX6_init 174 = .ok (.putfield 75, 3) := by decide +kernel
theorem dX6_init_177 : decode cX6_init 177 = .ok (.aload_n 0, 1) := by decide +kernel
theorem dX6_init_178 : decode cX6_init 178 = .ok (.getfield 7, 3) := by decide +kernel
theorem dX6_init_181 : decode cX6_init 181 = .ok (.sipush 288, 3) := by decide +kernel
theorem dX6_init_184 : decode cX6_init 184 = .ok (.iconst 1, 1) := by decide +kernel
theorem dX6_init_185 : decode cX6_init 185 = .ok (.bastore, 1) := by decide +kernel
theorem dX6_init_186 : decode cX6_init 186 = .ok (.aload_n 0, 1) := by decide +kernel
theorem dX6_init_187 : decode cX6_init 187 = .ok (.getfield 17, 3) := by decide +kernel
theorem dX6_init_190 : decode cX6_init 190 = .ok (.sipush 288, 3) := by decide +kernel
theorem dX6_init_193 : decode cX6_init 193 = .ok (.iconst (-1), 1) := by decide +kernel
theorem dX6_init_194 : decode cX6_init 194 = .ok (.iastore, 1) := by decide +kernel
theorem dX6_init_195 : decode cX6_init 195 = .ok (.aload_n 0, 1) := by decide +kernel
theorem dX6_init_196 : decode cX6_init 196 = .ok (.bipush 12, 2) := by decide +kernel
theorem dX6_init_198 : decode cX6_init 198 = .ok (.iconst 0, 1) := by decide +kernel
theorem dX6_init_199 : decode cX6_init 199 = .ok (.invokevirtual 78, 3) := by decide +kernel
theorem dX6_init_202 : decode cX6_init 202 = .ok (.aload_n 0, 1) := by decide +kernel
theorem dX6_init_203 : decode cX6_init 203 = .ok (.getfield 30, 3) := by decide +kernel
theorem dX6_init_206 : decode cX6_init 206 = .ok (.iconst 0, 1) := by decide +kernel
theorem dX6_init_207 : decode cX6_init 207 = .ok (.iconst (-1), 1) := by decide +kernel
theorem dX6_init_208 : decode cX6_init 208 = .ok (.iastore, 1) := by decide +kernel
theorem dX6_init_209 : decode cX6_init 209 = .ok (.aload_n 0, 1) := by decide +kernel
theorem dX6_init_210 : decode cX6_init 210 = .ok (.getfield 33, 3) := by decide +kernel
theorem dX6_init_213 : decode cX6_init 213 = .ok (.iconst 0, 1) := by decide +kernel
theorem dX6_init_214 : decode cX6_init 214 = .ok (.iconst (-1), 1) := by decide +kernel
theorem dX6_init_215 : decode cX6_init 215 = .ok (.iastore, 1) := by decide +kernel
theorem dX6_init_216 : decode cX6_init 216 = .ok (.aload_n 0, 1) := by decide +kernel
theorem dX6_init_217 : decode cX6_init 217 = .ok (.getfield 36, 3) := by decide +kernel
theorem dX6_init_220 : decode cX6_init 220 = .ok (.iconst 0, 1) := by decide +kernel
theorem dX6_init_221 : decode cX6_init 221 = .ok (.iconst 1, 1) := by decide +kernel
theorem dX6_init_222 : decode cX6_init 222 = .ok (.iastore, 1) := by decide +kernel
theorem dX6_init_223 : decode cX6_init 223 = .ok (.return_, 1) := by decide +kernel
theorem dX6_thrown_0 : decode cX6_thrown 0 = .ok (.aload_n 0, 1) := by decide +kernel
theorem dX6_thrown_1 : decode cX6_thrown 1 = .ok (.getfield 82, 3) := by decide +kernel
theorem dX6_thrown_4 : decode cX6_thrown 4 = .ok (.ireturn, 1) := by decide +kernel
theorem dX6_fail_0 : decode cX6_fail 0 = .ok (.aload_n 0, 1) := by decide +kernel
theorem dX6_fail_1 : decode cX6_fail 1 = .ok (.iload_n 1, 1) := by decide +kernel
theorem dX6_fail_2 : decode cX6_fail 2 = .ok (.putfield 82, 3) := by decide +kernel
theorem dX6_fail_5 : decode cX6_fail 5 = .ok (.iconst 0, 1) := by decide +kernel
theorem dX6_fail_6 : decode cX6_fail 6 = .ok (.ireturn, 1) := by decide +kernel
theorem dX6_copy_0 : decode cX6_copy 0 = .ok (.iconst 0, 1) := by decide +kernel
theorem dX6_copy_1 : decode cX6_copy 1 = .ok (.istore_n 3, 1) := by decide +kernel
theorem dX6_copy_2 : decode cX6_copy 2 = .ok (.iload_n 3, 1) := by decide +kernel
theorem dX6_copy_3 : decode cX6_copy 3 = .ok (.bipush 24, 2) := by decide +kernel
theorem dX6_copy_5 : decode cX6_copy 5 = .ok (.if_icmp .ge 97, 3) := by decide +kernel
theorem dX6_copy_8 : decode cX6_copy 8 = .ok (.aload_n 0, 1) := by decide +kernel
theorem dX6_copy_9 : decode cX6_copy 9 = .ok (.getfield 7, 3) := by decide +kernel
theorem dX6_copy_12 : decode cX6_copy 12 = .ok (.bipush 24, 2) := by decide +kernel
theorem dX6_copy_14 : decode cX6_copy 14 = .ok (.iload_n 2, 1) := by decide +kernel
theorem dX6_copy_15 : decode cX6_copy 15 = .ok (.imul, 1) := by decide +kernel
theorem dX6_copy_16 : decode cX6_copy 16 = .ok (.iload_n 3, 1) := by decide +kernel
theorem dX6_copy_17 : decode cX6_copy 17 = .ok (.iadd, 1) := by decide +kernel
theorem dX6_copy_18 : decode cX6_copy 18 = .ok (.aload_n 0, 1) := by decide +kernel
theorem dX6_copy_19 : decode cX6_copy 19 = .ok (.getfield 7, 3) := by decide +kernel
theorem dX6_copy_22 : decode cX6_copy 22 = .ok (.bipush 24, 2) := by decide +kernel
theorem dX6_copy_24 : decode cX6_copy 24 = .ok (.iload_n 1, 1) := by decide +kernel
theorem dX6_copy_25 : decode cX6_copy 25 = .ok (.imul, 1) := by decide +kernel
theorem dX6_copy_26 : decode cX6_copy 26 = .ok (.iload_n 3, 1) := by decide +kernel
theorem dX6_copy_27 : decode cX6_copy 27 = .ok (.iadd, 1) := by decide +kernel
theorem dX6_copy_28 : decode cX6_copy 28 = .ok (.baload, 1) := by decide +kernel
theorem dX6_copy_29 : decode cX6_copy 29 = .ok (.bastore, 1) := by decide +kernel
theorem dX6_copy_30 : decode cX6_copy 30 = .ok (.aload_n 0, 1) := by decide +kernel
theorem dX6_copy_31 : decode cX6_copy 31 = .ok (.getfield 13, 3) := by decide +kernel
theorem dX6_copy_34 : decode cX6_copy 34 = .ok (.bipush 24, 2) := by decide +kernel
theorem dX6_copy_36 : decode cX6_copy 36 = .ok (.iload_n 2, 1) := by decide +kernel
theorem dX6_copy_37 : decode cX6_copy 37 = .ok (.imul, 1) := by decide +kernel
theorem dX6_copy_38 : decode cX6_copy 38 = .ok (.iload_n 3, 1) := by decide +kernel
theorem dX6_copy_39 : decode cX6_copy 39 = .ok (.iadd, 1) := by decide +kernel
theorem dX6_copy_40 : decode cX6_copy 40 = .ok (.aload_n 0, 1) := by decide +kernel
theorem dX6_copy_41 : decode cX6_copy 41 = .ok (.getfield 13, 3) := by decide +kernel
theorem dX6_copy_44 : decode cX6_copy 44 = .ok (.bipush 24, 2) := by decide +kernel
theorem dX6_copy_46 : decode cX6_copy 46 = .ok (.iload_n 1, 1) := by decide +kernel
theorem dX6_copy_47 : decode cX6_copy 47 = .ok (.imul, 1) := by decide +kernel
theorem dX6_copy_48 : decode cX6_copy 48 = .ok (.iload_n 3, 1) := by decide +kernel
theorem dX6_copy_49 : decode cX6_copy 49 = .ok (.iadd, 1) := by decide +kernel
theorem dX6_copy_50 : decode cX6_copy 50 = .ok (.iaload, 1) := by decide +kernel
theorem dX6_copy_51 : decode cX6_copy 51 = .ok (.iastore, 1) := by decide +kernel
theorem dX6_copy_52 : decode cX6_copy 52 = .ok (.aload_n 0, 1) := by decide +kernel
theorem dX6_copy_53 : decode cX6_copy 53 = .ok (.getfield 17, 3) := by decide +kernel
theorem dX6_copy_56 : decode cX6_copy 56 = .ok (.bipush 24, 2) := by decide +kernel
theorem dX6_copy_58 : decode cX6_copy 58 = .ok (.iload_n 2, 1) := by decide +kernel
theorem dX6_copy_59 : decode cX6_copy 59 = .ok (.imul, 1) := by decide +kernel
theorem dX6_copy_60 : decode cX6_copy 60 = .ok (.iload_n 3, 1) := by decide +kernel
theorem dX6_copy_61 : decode cX6_copy 61 = .ok (.iadd, 1) := by decide +kernel
theorem dX6_copy_62 : decode cX6_copy 62 = .ok (.aload_n 0, 1) := by decide +kernel
theorem dX6_copy_63 : decode cX6_copy 63 = .ok (.getfield 17, 3) := by decide +kernel
theorem dX6_copy_66 : decode cX6_copy 66 = .ok (.bipush 24, 2) := by decide +kernel
theorem dX6_copy_68 : decode cX6_copy 68 = .ok (.iload_n 1, 1) := by decide +kernel
theorem dX6_copy_69 : decode cX6_copy 69 = .ok (.imul, 1) := by decide +kernel
theorem dX6_copy_70 : decode cX6_copy 70 = .ok (.iload_n 3, 1) := by decide +kernel
theorem dX6_copy_71 : decode cX6_copy 71 = .ok (.iadd, 1) := by decide +kernel
theorem dX6_copy_72 : decode cX6_copy 72 = .ok (.iaload, 1) := by decide +kernel
theorem dX6_copy_73 : decode cX6_copy 73 = .ok (.iastore, 1) := by decide +kernel
theorem dX6_copy_74 : decode cX6_copy 74 = .ok (.aload_n 0, 1) := by decide +kernel
theorem dX6_copy_75 : decode cX6_copy 75 = .ok (.getfield 20, 3) := by decide +kernel
theorem dX6_copy_78 : decode cX6_copy 78 = .ok (.bipush 24, 2) := by decide +kernel
theorem dX6_copy_80 : decode cX6_copy 80 = .ok (.iload_n 2, 1) := by decide +kernel
theorem dX6_copy_81 : decode cX6_copy 81 = .ok (.imul, 1) := by decide +kernel
theorem dX6_copy_82 : decode cX6_copy 82 = .ok (.iload_n 3, 1) := by decide +kernel
theorem dX6_copy_83 : decode cX6_copy 83 = .ok (.iadd, 1) := by decide +kernel
theorem dX6_copy_84 : decode cX6_copy 84 = .ok (.aload_n 0, 1) := by decide +kernel
theorem dX6_copy_85 : decode cX6_copy 85 = .ok (.getfield 20, 3) := by decide +kernel
theorem dX6_copy_88 : decode cX6_copy 88 = .ok (.bipush 24, 2) := by decide +kernel
theorem dX6_copy_90 : decode cX6_copy 90 = .ok (.iload_n 1, 1) := by decide +kernel
theorem dX6_copy_91 : decode cX6_copy 91 = .ok (.imul, 1) := by decide +kernel
theorem dX6_copy_92 : decode cX6_copy 92 = .ok (.iload_n 3, 1) := by decide +kernel
theorem dX6_copy_93 : decode cX6_copy 93 = .ok (.iadd, 1) := by decide +kernel
theorem dX6_copy_94 : decode cX6_copy 94 = .ok (.iaload, 1) := by decide +kernel
theorem dX6_copy_95 : decode cX6_copy 95 = .ok (.iastore, 1) := by decide +kernel
theorem dX6_copy_96 : decode cX6_copy 96 = .ok (.iinc 3 1, 3) := by decide +kernel
theorem dX6_copy_99 : decode cX6_copy 99 = .ok (.goto (-97), 3) := by decide +kernel
theorem dX6_copy_102 : decode cX6_copy 102 = .ok (.return_, 1) := by decide +kernel
theorem dX6_has_0 : decode cX6_has 0 = .ok (.iload_n 2, 1) := by decide +kernel
theorem dX6_has_1 : decode cX6_has 1 = .ok (.ifCond .lt 27, 3) := by decide +kernel
theorem dX6_has_4 : decode cX6_has 4 = .ok (.iload_n 2, 1) := by decide +kernel
theorem dX6_has_5 : decode cX6_has 5 = .ok (.bipush 24, 2) := by decide +kernel
theorem dX6_has_7 : decode cX6_has 7 = .ok (.if_icmp .ge 21, 3) := by decide +kernel
theorem dX6_has_10 : decode cX6_has 10 = .ok (.aload_n 0, 1) := by decide +kernel
theorem dX6_has_11 : decode cX6_has 11 = .ok (.getfield 7, 3) := by decide +kernel
theorem dX6_has_14 : decode cX6_has 14 = .ok (.bipush 24, 2) := by decide +kernel
theorem dX6_has_16 : decode cX6_has 16 = .ok (.iload_n 1, 1) := by decide +kernel
theorem dX6_has_17 : decode cX6_has 17 = .ok (.imul, 1) := by decide +kernel
theorem dX6_has_18 : decode cX6_has 18 = .ok (.iload_n 2, 1) := by decide +kernel
theorem dX6_has_19 : decode cX6_has 19 = .ok (.iadd, 1) := by decide +kernel
theorem dX6_has_20 : decode cX6_has 20 = .ok (.baload, 1) := by decide +kernel
theorem dX6_has_21 : decode cX6_has 21 = .ok (.ifCond .eq 7, 3) := by decide +kernel
theorem dX6_has_24 : decode cX6_has 24 = .ok (.iconst 1, 1) := by decide +kernel
theorem dX6_has_25 : decode cX6_has 25 = .ok (.goto 4, 3) := by decide +kernel
theorem dX6_has_28 : decode cX6_has 28 = .ok (.iconst 0, 1) := by decide +kernel
theorem dX6_has_29 : decode cX6_has 29 = .ok (.ireturn, 1) := by decide +kernel
theorem dX6_isChild_0 : decode cX6_isChild 0 = .ok (.aload_n 0, 1) := by decide +kernel
theorem dX6_isChild_1 : decode cX6_isChild 1 = .ok (.getfield 7, 3) := by decide +kernel
theorem dX6_isChild_4 : decode cX6_isChild 4 = .ok (.bipush 24, 2) := by decide +kernel
theorem dX6_isChild_6 : decode cX6_isChild 6 = .ok (.iload_n 1, 1) := by decide +kernel
theorem dX6_isChild_7 : decode cX6_isChild 7 = .ok (.imul, 1) := by decide +kernel
theorem dX6_isChild_8 : decode cX6_isChild 8 = .ok (.iload_n 2, 1) := by decide +kernel
theorem dX6_isChild_9 : decode cX6_isChild 9 = .ok (.iadd, 1) := by decide +kernel
theorem dX6_isChild_10 : decode cX6_isChild 10 = .ok (.baload, 1) := by decide +kernel
theorem dX6_isChild_11 : decode cX6_isChild 11 = .ok (.ifCond .eq 22, 3) := by decide +kernel
theorem dX6_isChild_14 : decode cX6_isChild 14 = .ok (.aload_n 0, 1) := by decide +kernel
theorem dX6_isChild_15 : decode cX6_isChild 15 = .ok (.getfield 17, 3) := by decide +kernel
theorem dX6_isChild_18 : decode cX6_isChild 18 = .ok (.bipush 24, 2) := by decide +kernel
theorem dX6_isChild_20 : decode cX6_isChild 20 = .ok (.iload_n 1, 1) := by decide +kernel
theorem dX6_isChild_21 : decode cX6_isChild 21 = .ok (.imul, 1) := by decide +kernel
theorem dX6_isChild_22 : decode cX6_isChild 22 = .ok (.iload_n 2, 1) := by decide +kernel
theorem dX6_isChild_23 : decode cX6_isChild 23 = .ok (.iadd, 1) := by decide +kernel
theorem dX6_isChild_24 : decode cX6_isChild 24 = .ok (.iaload, 1) := by decide +kernel
theorem dX6_isChild_25 : decode cX6_isChild 25 = .ok (.iload_n 3, 1) := by decide +kernel
theorem dX6_isChild_26 : decode cX6_isChild 26 = .ok (.if_icmp .ne 7, 3) := by decide +kernel
theorem dX6_isChild_29 : decode cX6_isChild 29 = .ok (.iconst 1, 1) := by decide +kernel
theorem dX6_isChild_30 : decode cX6_isChild 30 = .ok (.goto 4, 3) := by decide +kernel
theorem dX6_isChild_33 : decode cX6_isChild 33 = .ok (.iconst 0, 1) := by decide +kernel
theorem dX6_isChild_34 : decode cX6_isChild 34 = .ok (.ireturn, 1) := by decide +kernel
set_option maxRecDepth 20000 in
theorem ggX6_children_X6_isChild : GoodIn wsX6_children wsX6_isChild := goodIn_r _ [5, 6, 7, 8, 9, 10, 11, 12, 13, 14, 15, 16, 17, 18, 19, 20, 21, 22, 23, 24, 25, 26, 27, 28, 29, 30, 31, 32, 33, 34] (by decide +kernel) (by decide +kernel)
set_option maxRecDepth 20000 in
theorem gX6_children_X6_isChild : GoodIn wsX6_children (wsV RX6 85 RX6 yX6_isChild wsX6_isChild) := goodIn_app (goodIn_of _ (by decide +kernel)) ggX6_children_X6_isChild
theorem dX6_children_0 : decode cX6_children 0 = .ok (.iconst 0, 1) := by decide +kernel
theorem dX6_children_1 : decode cX6_children 1 = .ok (.istore_n 3, 1) := by decide +kernel
theorem dX6_children_2 : decode cX6_children 2 = .ok (.iconst 0, 1) := by decide +kernel
theorem dX6_children_3 : decode cX6_children 3 = .ok (.istore 4, 2) := by decide +kernel
theorem dX6_children_5 : decode cX6_children 5 = .ok (.iload 4, 2) := by decide +kernel
theorem dX6_children_7 : decode cX6_children 7 = .ok (.bipush 24, 2) := by decide +kernel
theorem dX6_children_9 : decode cX6_children 9 = .ok (.if_icmp .ge 28, 3) := by decide +kernel
theorem dX6_children_12 : decode cX6_children 12 = .ok (.aload_n 0, 1) := by decide +kernel
theorem dX6_children_13 : decode cX6_children 13 = .ok (.iload_n 1, 1) := by decide +kernel
theorem dX6_children_14 : decode cX6_children 14 = .ok (.iload 4, 2) := by decide +kernel
theorem dX6_children_16 : decode cX6_children 16 = .ok (.iload_n 2, 1) := by decide +kernel
theorem dX6_children_17 : decode cX6_children 17 = .ok (.invokevirtual 85, 3) := by decide +kernel
theorem dX6_children_20 : decode cX6_children 20 = .ok (.ifCond .eq 9, 3) := by decide +kernel
theorem dX6_children_23 : decode cX6_children 23 = .ok (.iload_n 3, 1) := by decide +kernel
theorem dX6_children_24 : decode cX6_children 24 = .ok (.iconst 1, 1) := by decide +kernel
theorem dX6_children_25 : decode cX6_children 25 = .ok (.iadd, 1) := by decide +kernel
theorem dX6_children_26 : decode cX6_children 26 = .ok (.goto 4, 3) := by decide +kernel
theorem dX6_children_29 : decode cX6_children 29 = .ok (.iload_n 3, 1) := by decide +kernel
theorem dX6_children_30 : decode cX6_children 30 = .ok (.istore_n 3, 1) := by decide +kernel
theorem dX6_children_31 : decode cX6_children 31 = .ok (.iinc 4 1, 3) := by decide +kernel
theorem dX6_children_34 : decode cX6_children 34 = .ok (.goto (-29), 3) := by decide +kernel
theorem dX6_children_37 : decode cX6_children 37 = .ok (.iload_n 3, 1) := by decide +kernel
theorem dX6_children_38 : decode cX6_children 38 = .ok (.ireturn, 1) := by decide +kernel
set_option maxRecDepth 20000 in
theorem ggX6_childAt_X6_isChild : GoodIn wsX6_childAt wsX6_isChild := goodIn_r _ [6, 7, 8, 9, 10, 11, 12, 13, 14, 15, 16, 17, 18, 19, 20, 21, 22, 23, 24, 25, 26, 27, 28, 29, 30, 31, 32, 33, 34, 35] (by decide +kernel) (by decide +kernel)
set_option maxRecDepth 20000 in
theorem gX6_childAt_X6_isChild : GoodIn wsX6_childAt (wsV RX6 85 RX6 yX6_isChild wsX6_isChild) := goodIn_app (goodIn_of _ (by decide +kernel)) ggX6_childAt_X6_isChild
theorem dX6_childAt_0 : decode cX6_childAt 0 = .ok (.iconst (-1), 1) := by decide +kernel
theorem dX6_childAt_1 : decode cX6_childAt 1 = .ok (.istore 4, 2) := by decide +kernel
theorem dX6_childAt_3 : decode cX6_childAt 3 = .ok (.iconst 0, 1) := by decide +kernel
theorem dX6_childAt_4 : decode cX6_childAt 4 = .ok (.istore 5, 2) := by decide +kernel
theorem dX6_childAt_6 : decode cX6_childAt 6 = .ok (.iload 5, 2) := by decide +kernel
theorem dX6_childAt_8 : decode cX6_childAt 8 = .ok (.bipush 24, 2) := by decide +kernel
theorem dX6_childAt_10 : decode cX6_childAt 10 = .ok (.if_icmp .ge 45, 3) := by decide +kernel
theorem dX6_childAt_13 : decode cX6_childAt 13 = .ok (.aload_n 0, 1) := by decide +kernel
theorem dX6_childAt_14 : decode cX6_childAt 14 = .ok (.iload_n 1, 1) := by decide +kernel
theorem dX6_childAt_15 : decode cX6_childAt 15 = .ok (.iload 5, 2) := by decide +kernel
theorem dX6_childAt_17 : decode cX6_childAt 17 = .ok (.iload_n 2, 1) := by decide +kernel
theorem dX6_childAt_18 : decode cX6_childAt 18 = .ok (.invokevirtual 85, 3) := by decide +kernel
theorem dX6_childAt_21 : decode cX6_childAt 21 = .ok (.ifCond .eq 24, 3) := by decide +kernel
theorem dX6_childAt_24 : decode cX6_childAt 24 = .ok (.aload_n 0, 1) := by decide +kernel
theorem dX6_childAt_25 : decode cX6_childAt 25 = .ok (.getfield 20, 3) := by decide +kernel
theorem dX6_childAt_28 : decode cX6_childAt 28 = .ok (.bipush 24, 2) := by decide +kernel
theorem dX6_childAt_30 : decode cX6_childAt 30 = .ok (.iload_n 1, 1) := by decide +kernel
theorem dX6_childAt_31 : decode cX6_childAt 31 = .ok (.imul, 1) := by decide +kernel
theorem dX6_childAt_32 : decode cX6_childAt 32 = .ok (.iload 5, 2) := by decide +kernel
theorem dX6_childAt_34 : decode cX6_childAt 34 = .ok (.iadd, 1) := by decide +kernel
theorem dX6_childAt_35 : decode cX6_childAt 35 = .ok (.iaload, 1) := by decide +kernel
theorem dX6_childAt_36 : decode cX6_childAt 36 = .ok (.iload_n 3, 1) := by decide +kernel
theorem dX6_childAt_37 : decode cX6_childAt 37 = .ok (.if_icmp .ne 8, 3) := by decide +kernel
theorem dX6_childAt_40 : decode cX6_childAt 40 = .ok (.iload 5, 2) := by decide +kernel
theorem dX6_childAt_42 : decode cX6_childAt 42 = .ok (.goto 5, 3) := by decide +kernel
theorem dX6_childAt_45 : decode cX6_childAt 45 = .ok (.iload 4, 2) := by decide +kernel
theorem dX6_childAt_47 : decode cX6_childAt 47 = .ok (.istore 4, 2) := by decide +kernel
theorem dX6_childAt_49 : decode cX6_childAt 49 = .ok (.iinc 5 1, 3) := by decide +kernel
theorem dX6_childAt_52 : decode cX6_childAt 52 = .ok (.goto (-46), 3) := by decide +kernel
theorem dX6_childAt_55 : decode cX6_childAt 55 = .ok (.iload 4, 2) := by decide +kernel
theorem dX6_childAt_57 : decode cX6_childAt 57 = .ok (.ireturn, 1) := by decide +kernel
theorem dX6_isAt_0 : decode cX6_isAt 0 = .ok (.iload_n 2, 1) := by decide +kernel
theorem dX6_isAt_1 : decode cX6_isAt 1 = .ok (.istore 4, 2) := by decide +kernel
theorem dX6_isAt_3 : decode cX6_isAt 3 = .ok (.iload 4, 2) := by decide +kernel
theorem dX6_isAt_5 : decode cX6_isAt 5 = .ok (.ifCond .lt 26, 3) := by decide +kernel
theorem dX6_isAt_8 : decode cX6_isAt 8 = .ok (.iload 4, 2) := by decide +kernel
theorem dX6_isAt_10 : decode cX6_isAt 10 = .ok (.iload_n 3, 1) := by decide +kernel
theorem dX6_isAt_11 : decode cX6_isAt 11 = .ok (.if_icmp .eq 20, 3) := by decide +kernel
theorem dX6_isAt_14 : decode cX6_isAt 14 = .ok (.aload_n 0, 1) := by decide +kernel
theorem dX6_isAt_15 : decode cX6_isAt 15 = .ok (.getfield 17, 3) := by decide +kernel
theorem dX6_isAt_18 : decode cX6_isAt 18 = .ok (.bipush 24, 2) := by decide +kernel
theorem dX6_isAt_20 : decode cX6_isAt 20 = .ok (.iload_n 1, 1) := by decide +kernel
theorem dX6_isAt_21 : decode cX6_isAt 21 = .ok (.imul, 1) := by decide +kernel
theorem dX6_isAt_22 : decode cX6_isAt 22 = .ok (.iload 4, 2) := by decide +kernel
theorem dX6_isAt_24 : decode cX6_isAt 24 = .ok (.iadd, 1) := by decide +kernel
theorem dX6_isAt_25 : decode cX6_isAt 25 = .ok (.iaload, 1) := by decide +kernel
theorem dX6_isAt_26 : decode cX6_isAt 26 = .ok (.istore 4, 2) := by decide +kernel
theorem dX6_isAt_28 : decode cX6_isAt 28 = .ok (.goto (-25), 3) := by decide +kernel
theorem dX6_isAt_31 : decode cX6_isAt 31 = .ok (.iload 4, 2) := by decide +kernel
theorem dX6_isAt_33 : decode cX6_isAt 33 = .ok (.iload_n 3, 1) := by decide +kernel
theorem dX6_isAt_34 : decode cX6_isAt 34 = .ok (.if_icmp .ne 7, 3) := by decide +kernel
theorem dX6_isAt_37 : decode cX6_isAt 37 = .ok (.iconst 1, 1) := by decide +kernel
theorem dX6_isAt_38 : decode cX6_isAt 38 = .ok (.goto 4, 3) := by decide +kernel
theorem dX6_isAt_41 : decode cX6_isAt 41 = .ok (.iconst 0, 1) := by decide +kernel
theorem dX6_isAt_42 : decode cX6_isAt 42 = .ok (.ireturn, 1) := by decide +kernel
set_option maxRecDepth 20000 in
theorem ggX6_shift_X6_isChild : GoodIn wsX6_shift wsX6_isChild := goodIn_r _ [6, 7, 8, 9, 10, 11, 12, 13, 14, 15, 16, 17, 18, 19, 20, 21, 22, 23, 24, 25, 26, 27, 28, 29, 30, 31, 32, 33, 34, 35] (by decide +kernel) (by decide +kernel)
set_option maxRecDepth 20000 in
theorem gX6_shift_X6_isChild : GoodIn wsX6_shift (wsV RX6 85 RX6 yX6_isChild wsX6_isChild) := goodIn_app (goodIn_of _ (by decide +kernel)) ggX6_shift_X6_isChild
theorem dX6_shift_0 : decode cX6_shift 0 = .ok (.iconst 0, 1) := by decide +kernel
theorem dX6_shift_1 : decode cX6_shift 1 = .ok (.istore 5, 2) := by decide +kernel
theorem dX6_shift_3 : decode cX6_shift 3 = .ok (.iload 5, 2) := by decide +kernel
theorem dX6_shift_5 : decode cX6_shift 5 = .ok (.bipush 24, 2) := by decide +kernel
theorem dX6_shift_7 : decode cX6_shift 7 = .ok (.if_icmp .ge 63, 3) := by decide +kernel
theorem dX6_shift_10 : decode cX6_shift 10 = .ok (.aload_n 0, 1) := by decide +kernel
theorem dX6_shift_11 : decode cX6_shift 11 = .ok (.iload_n 1, 1) := by decide +kernel
theorem dX6_shift_12 : decode cX6_shift 12 = .ok (.iload 5, 2) := by decide +kernel
theorem dX6_shift_14 : decode cX6_shift 14 = .ok (.iload_n 2, 1) := by decide +kernel
theorem dX6_shift_15 : decode cX6_shift 15 = .ok (.invokevirtual 85, 3) := by decide +kernel
theorem dX6_shift_18 : decode cX6_shift 18 = .ok (.ifCond .eq 46, 3) := by decide +kernel
theorem dX6_shift_21 : decode cX6_shift 21 = .ok (.aload_n 0, 1) := by decide +kernel
theorem dX6_shift_22 : decode cX6_shift 22 = .ok (.getfield 20, 3) := by decide +kernel
theorem dX6_shift_25 : decode cX6_shift 25 = .ok (.bipush 24, 2) := by decide +kernel
theorem dX6_shift_27 : decode cX6_shift 27 = .ok (.iload_n 1, 1) := by decide +kernel
theorem dX6_shift_28 : decode cX6_shift 28 = .ok (.imul, 1) := by decide +kernel
theorem dX6_shift_29 : decode cX6_shift 29 = .ok (.iload 5, 2) := by decide +kernel
theorem dX6_shift_31 : decode cX6_shift 31 = .ok (.iadd, 1) := by decide +kernel
theorem dX6_shift_32 : decode cX6_shift 32 = .ok (.iaload, 1) := by decide +kernel
theorem dX6_shift_33 : decode cX6_shift 33 = .ok (.iload_n 3, 1) := by decide +kernel
theorem dX6_shift_34 : decode cX6_shift 34 = .ok (.if_icmp .lt 30, 3) := by decide +kernel
theorem dX6_shift_37 : decode cX6_shift 37 = .ok (.aload_n 0, 1) := by decide +kernel
theorem dX6_shift_38 : decode cX6_shift 38 = .ok (.getfield 20, 3) := by decide +kernel
theorem dX6_shift_41 : decode cX6_shift 41 = .ok (.bipush 24, 2) := by decide +kernel
theorem dX6_shift_43 : decode cX6_shift 43 = .ok (.iload_n 1, 1) := by decide +kernel
theorem dX6_shift_44 : decode cX6_shift 44 = .ok (.imul, 1) := by decide +kernel
theorem dX6_shift_45 : decode cX6_shift 45 = .ok (.iload 5, 2) := by decide +kernel
theorem dX6_shift_47 : decode cX6_shift 47 = .ok (.iadd, 1) := by decide +kernel
theorem dX6_shift_48 : decode cX6_shift 48 = .ok (.aload_n 0, 1) := by decide +kernel
theorem dX6_shift_49 : decode cX6_shift 49 = .ok (.getfield 20, 3) := by decide +kernel
theorem dX6_shift_52 : decode cX6_shift 52 = .ok (.bipush 24, 2) := by decide +kernel
theorem dX6_shift_54 : decode cX6_shift 54 = .ok (.iload_n 1, 1) := by decide +kernel
theorem dX6_shift_55 : decode cX6_shift 55 = .ok (.imul, 1) := by decide +kernel
theorem dX6_shift_56 : decode cX6_shift 56 = .ok (.iload 5, 2) := by decide +kernel
theorem dX6_shift_58 : decode cX6_shift 58 = .ok (.iadd, 1) := by decide +kernel
theorem dX6_shift_59 : decode cX6_shift 59 = .ok (.iaload, 1) := by decide +kernel
theorem dX6_shift_60 : decode cX6_shift 60 = .ok (.iload 4, 2) := by decide +kernel
theorem dX6_shift_62 : decode cX6_shift 62 = .ok (.iadd, 1) := by decide +kernel
theorem dX6_shift_63 : decode cX6_shift 63 = .ok (.iastore, 1) := by decide +kernel
theorem dX6_shift_64 : decode cX6_shift 64 = .ok (.iinc 5 1, 3) := by decide +kernel
theorem dX6_shift_67 : decode cX6_shift 67 = .ok (.goto (-64), 3) := by decide +kernel
theorem dX6_shift_70 : decode cX6_shift 70 = .ok (.return_, 1) := by decide +kernel
set_option maxRecDepth 20000 in
theorem ggX6_hang_X6_shift : GoodIn wsX6_hang wsX6_shift := goodIn_r _ [8, 3, 9, 10, 11, 7, 12, 1, 2, 13, 14, 15, 16, 17, 18, 19, 20, 21, 22, 23, 24, 25, 26, 27, 28, 29, 30, 31, 32, 33, 34, 35, 36, 37, 38, 39] (by decide +kernel) (by decide +kernel)
set_option maxRecDepth 20000 in
theorem gX6_hang_X6_shift : GoodIn wsX6_hang (wsV RX6 89 RX6 yX6_shift wsX6_shift) := goodIn_app (goodIn_of _ (by decide +kernel)) ggX6_hang_X6_shift
theorem dX6_hang_0 : decode cX6_hang 0 = .ok (.aload_n 0, 1) := by decide +kernel
theorem dX6_hang_1 : decode cX6_hang 1 = .ok (.iload_n 1, 1) := by decide +kernel
theorem dX6_hang_2 : decode cX6_hang 2 = .ok (.iload_n 3, 1) := by decide +kernel
theorem dX6_hang_3 : decode cX6_hang 3 = .ok (.iload 4, 2) := by decide +kernel
theorem dX6_hang_5 : decode cX6_hang 5 = .ok (.iconst 1, 1) := by decide +kernel
theorem dX6_hang_6 : decode cX6_hang 6 = .ok (.invokevirtual 89, 3) := by decide +kernel
theorem dX6_hang_9 : decode cX6_hang 9 = .ok (.aload_n 0, 1) := by decide +kernel
theorem dX6_hang_10 : decode cX6_hang 10 = .ok (.getfield 7, 3) := by decide +kernel
theorem dX6_hang_13 : decode cX6_hang 13 = .ok (.bipush 24, 2) := by decide +kernel
theorem dX6_hang_15 : decode cX6_hang 15 = .ok (.iload_n 1, 1) := by decide +kernel
theorem dX6_hang_16 : decode cX6_hang 16 = .ok (.imul, 1) := by decide +kernel
theorem dX6_hang_17 : decode cX6_hang 17 = .ok (.iload_n 2, 1) := by decide +kernel
theorem dX6_hang_18 : decode cX6_hang 18 = .ok (.iadd, 1) := by decide +kernel
theorem dX6_hang_19 : decode cX6_hang 19 = .ok (.iconst 1, 1) := by decide +kernel
theorem dX6_hang_20 : decode cX6_hang 20 = .ok (.bastore, 1) := by decide +kernel
theorem dX6_hang_21 : decode cX6_hang 21 = .ok (.aload_n 0, 1) := by decide +kernel
theorem dX6_hang_22 : decode cX6_hang 22 = .ok (.getfield 17, 3) := by decide +kernel
theorem dX6_hang_25 : decode cX6_hang 25 = .ok (.bipush 24, 2) := by decide +kernel
theorem dX6_hang_27 : decode cX6_hang 27 = .ok (.iload_n 1, 1) := by decide +kernel
theorem dX6_hang_28 : decode cX6_hang 28 = .ok (.imul, 1) := by decide +kernel
theorem dX6_hang_29 : decode cX6_hang 29 = .ok (.iload_n 2, 1) := by decide +kernel
theorem dX6_hang_30 : decode cX6_hang 30 = .ok (.iadd, 1) := by decide +kernel
theorem dX6_hang_31 : decode cX6_hang 31 = .ok (.iload_n 3, 1) := by decide +kernel
theorem dX6_hang_32 : decode cX6_hang 32 = .ok (.iastore, 1) := by decide +kernel
theorem dX6_hang_33 : decode cX6_hang 33 = .ok (.aload_n 0, 1) := by decide +kernel
theorem dX6_hang_34 : decode cX6_hang 34 = .ok (.getfield 20, 3) := by decide +kernel
theorem dX6_hang_37 : decode cX6_hang 37 = .ok (.bipush 24, 2) := by decide +kernel
theorem dX6_hang_39 : decode cX6_hang 39 = .ok (.iload_n 1, 1) := by decide +kernel
theorem dX6_hang_40 : decode cX6_hang 40 = .ok (.imul, 1) := by decide +kernel
theorem dX6_hang_41 : decode cX6_hang 41 = .ok (.iload_n 2, 1) := by decide +kernel
theorem dX6_hang_42 : decode cX6_hang 42 = .ok (.iadd, 1) := by decide +kernel
theorem dX6_hang_43 : decode cX6_hang 43 = .ok (.iload 4, 2) := by decide +kernel
theorem dX6_hang_45 : decode cX6_hang 45 = .ok (.iastore, 1) := by decide +kernel
theorem dX6_hang_46 : decode cX6_hang 46 = .ok (.return_, 1) := by decide +kernel
set_option maxRecDepth 20000 in
theorem ggX6_unhang_X6_shift : GoodIn wsX6_unhang wsX6_shift := goodIn_r _ [8, 3, 9, 10, 11, 7, 12, 1, 2, 13, 14, 15, 16, 17, 18, 19, 20, 21, 22, 23, 24, 25, 26, 27, 28, 29, 30, 31, 32, 33, 34, 35, 36, 37, 38, 39] (by decide +kernel) (by decide +kernel)
set_option maxRecDepth 20000 in
theorem gX6_unhang_X6_shift : GoodIn wsX6_unhang (wsV RX6 89 RX6 yX6_shift wsX6_shift) := goodIn_app (goodIn_of _ (by decide +kernel)) ggX6_unhang_X6_shift
theorem dX6_unhang_0 : decode cX6_unhang 0 = .ok (.aload_n 0, 1) := by decide +kernel
theorem dX6_unhang_1 : decode cX6_unhang 1 = .ok (.getfield 7, 3) := by decide +kernel
theorem dX6_unhang_4 : decode cX6_unhang 4 = .ok (.bipush 24, 2) := by decide +kernel
theorem dX6_unhang_6 : decode cX6_unhang 6 = .ok (.iload_n 1, 1) := by decide +kernel
theorem dX6_unhang_7 : decode cX6_unhang 7 = .ok (.imul, 1) := by decide +kernel
theorem dX6_unhang_8 : decode cX6_unhang 8 = .ok (.iload_n 2, 1) := by decide +kernel
theorem dX6_unhang_9 : decode cX6_unhang 9 = .ok (.iadd, 1) := by decide +kernel
theorem dX6_unhang_10 : decode cX6_unhang 10 = .ok (.iconst 0, 1) := by decide +kernel
theorem dX6_unhang_11 : decode cX6_unhang 11 = .ok (.bastore, 1) := by decide +kernel
theorem dX6_unhang_12 : decode cX6_unhang 12 = .ok (.aload_n 0, 1) := by decide +kernel
theorem dX6_unhang_13 : decode cX6_unhang 13 = .ok (.iload_n 1, 1) := by decide +kernel
theorem dX6_unhang_14 : decode cX6_unhang 14 = .ok (.aload_n 0, 1) := by decide +kernel
theorem dX6_unhang_15 : decode cX6_unhang 15 = .ok (.getfield 17, 3) := by decide +kernel
theorem dX6_unhang_18 : decode cX6_unhang 18 = .ok (.bipush 24, 2) := by decide +kernel
theorem dX6_unhang_20 : decode cX6_unhang 20 = .ok (.iload_n 1, 1) := by decide +kernel
theorem dX6_unhang_21 : decode cX6_unhang 21 = .ok (.imul, 1) := by decide +kernel
theorem dX6_unhang_22 : decode cX6_unhang 22 = .ok (.iload_n 2, 1) := by decide +kernel
theorem dX6_unhang_23 : decode cX6_unhang 23 = .ok (.iadd, 1) := by decide +kernel
theorem dX6_unhang_24 : decode cX6_unhang 24 = .ok (.iaload, 1) := by decide +kernel
theorem dX6_unhang_25 : decode cX6_unhang 25 = .ok (.aload_n 0, 1) := by decide +kernel
theorem dX6_unhang_26 : decode cX6_unhang 26 = .ok (.getfield 20, 3) := by decide +kernel
theorem dX6_unhang_29 : decode cX6_unhang 29 = .ok (.bipush 24, 2) := by decide +kernel
theorem dX6_unhang_31 : decode cX6_unhang 31 = .ok (.iload_n 1, 1) := by decide +kernel
theorem dX6_unhang_32 : decode cX6_unhang 32 = .ok (.imul, 1) := by decide +kernel
theorem dX6_unhang_33 : decode cX6_unhang 33 = .ok (.iload_n 2, 1) := by decide +kernel
theorem dX6_unhang_34 : decode cX6_unhang 34 = .ok (.iadd, 1) := by decide +kernel
theorem dX6_unhang_35 : decode cX6_unhang 35 = .ok (.iaload, 1) := by decide +kernel
theorem dX6_unhang_36 : decode cX6_unhang 36 = .ok (.iconst (-1), 1) := by decide +kernel
theorem dX6_unhang_37 : decode cX6_unhang 37 = .ok (.invokevirtual 89, 3) := by decide +kernel
theorem dX6_unhang_40 : decode cX6_unhang 40 = .ok (.return_, 1) := by decide +kernel
set_option maxRecDepth 20000 in
theorem ggX6_walk_X6_children : GoodIn wsX6_walk wsX6_children := goodIn_r _ [9, 10, 11, 12, 8, 13, 14, 15, 21, 22, 23, 24, 25, 26, 27, 28, 29, 30, 31, 32, 33, 34, 35, 36, 37, 38, 39, 40, 41, 42, 43, 44, 45, 46, 47] (by decide +kernel) (by decide +kernel)
set_option maxRecDepth 20000 in
theorem gX6_walk_X6_children : GoodIn wsX6_walk (wsV RX6 99 RX6 yX6_children wsX6_children) := goodIn_app (goodIn_of _ (by decide +kernel)) ggX6_walk_X6_children
set_option maxRecDepth 20000 in
theorem ggX6_walk_X6_childAt : GoodIn wsX6_walk wsX6_childAt := goodIn_r _ [19, 20, 10, 11, 12, 8, 13, 14, 15, 21, 22, 23, 24, 25, 26, 27, 28, 29, 30, 31, 32, 33, 34, 35, 36, 37, 38, 39, 40, 41, 42, 43, 44, 45, 46, 47] (by decide +kernel) (by decide +kernel)
set_option maxRecDepth 20000 in
theorem gX6_walk_X6_childAt : GoodIn wsX6_walk (wsV RX6 103 RX6 yX6_childAt wsX6_childAt) := goodIn_app (goodIn_of _ (by decide +kernel)) ggX6_walk_X6_childAt
theorem dX6_walk_0 : decode cX6_walk 0 = .ok (.aload_n 0, 1) := by decide +kernel
theorem dX6_walk_1 : decode cX6_walk 1 = .ok (.iconst 0, 1) := by decide +kernel
theorem dX6_walk_2 : decode cX6_walk 2 = .ok (.putfield 93, 3) := by decide +kernel
theorem dX6_walk_5 : decode cX6_walk 5 = .ok (.aload_n 0, 1) := by decide +kernel
theorem dX6_walk_6 : decode cX6_walk 6 = .ok (.getfield 60, 3) := by decide +kernel
theorem dX6_walk_9 : decode cX6_walk 9 = .ok (.iconst 0, 1) := by decide +kernel
theorem dX6_walk_10 : decode cX6_walk 10 = .ok (.iconst 0, 1) := by decide +kernel
theorem dX6_walk_11 : decode cX6_walk 11 = .ok (.iastore, 1) := by decide +kernel
theorem dX6_walk_12 : decode cX6_walk 12 = .ok (.aload_n 0, 1) := by decide +kernel
theorem dX6_walk_13 : decode cX6_walk 13 = .ok (.iconst 1, 1) := by decide +kernel
theorem dX6_walk_14 : decode cX6_walk 14 = .ok (.putfield 96, 3) := by decide +kernel
theorem dX6_walk_17 : decode cX6_walk 17 = .ok (.aload_n 0, 1) := by decide +kernel
theorem dX6_walk_18 : decode cX6_walk 18 = .ok (.getfield 96, 3) := by decide +kernel
theorem dX6_walk_21 : decode cX6_walk 21 = .ok (.ifCond .le 91, 3) := by decide +kernel
theorem dX6_walk_24 : decode cX6_walk 24 = .ok (.aload_n 0, 1) := by decide +kernel
theorem dX6_walk_25 : decode cX6_walk 25 = .ok (.dup, 1) := by decide +kernel
theorem dX6_walk_26 : decode cX6_walk 26 = .ok (.getfield 96, 3) := by decide +kernel
theorem dX6_walk_29 : decode cX6_walk 29 = .ok (.iconst 1, 1) := by decide +kernel
theorem dX6_walk_30 : decode cX6_walk 30 = .ok (.isub, 1) := by decide +kernel
theorem dX6_walk_31 : decode cX6_walk 31 = .ok (.putfield 96, 3) := by decide +kernel
theorem dX6_walk_34 : decode cX6_walk 34 = .ok (.aload_n 0, 1) := by decide +kernel
theorem dX6_walk_35 : decode cX6_walk 35 = .ok (.getfield 60, 3) := by decide +kernel
theorem dX6_walk_38 : decode cX6_walk 38 = .ok (.aload_n 0, 1) := by decide +kernel
theorem dX6_walk_39 : decode cX6_walk 39 = .ok (.getfield 96, 3) := by decide +kernel
theorem dX6_walk_42 : decode cX6_walk 42 = .ok (.iaload, 1) := by decide +kernel
theorem dX6_walk_43 : decode cX6_walk 43 = .ok (.istore_n 2, 1) := by decide +kernel
theorem dX6_walk_44 : decode cX6_walk 44 = .ok (.aload_n 0, 1) := by decide +kernel
theorem dX6_walk_45 : decode cX6_walk 45 = .ok (.getfield 57, 3) := by decide +kernel
theorem dX6_walk_48 : decode cX6_walk 48 = .ok (.aload_n 0, 1) := by decide +kernel
theorem dX6_walk_49 : decode cX6_walk 49 = .ok (.getfield 93, 3) := by decide +kernel
theorem dX6_walk_52 : decode cX6_walk 52 = .ok (.iload_n 2, 1) := by decide +kernel
theorem dX6_walk_53 : decode cX6_walk 53 = .ok (.iastore, 1) := by decide +kernel
theorem dX6_walk_54 : decode cX6_walk 54 = .ok (.aload_n 0, 1) := by decide +kernel
theorem dX6_walk_55 : decode cX6_walk 55 = .ok (.dup, 1) := by decide +kernel
theorem dX6_walk_56 : decode cX6_walk 56 = .ok (.getfield 93, 3) := by decide +kernel
theorem dX6_walk_59 : decode cX6_walk 59 = .ok (.iconst 1, 1) := by decide +kernel
theorem dX6_walk_60 : decode cX6_walk 60 = .ok (.iadd, 1) := by decide +kernel
theorem dX6_walk_61 : decode cX6_walk 61 = .ok (.putfield 93, 3) := by decide +kernel
theorem dX6_walk_64 : decode cX6_walk 64 = .ok (.aload_n 0, 1) := by decide +kernel
theorem dX6_walk_65 : decode cX6_walk 65 = .ok (.iload_n 1, 1) := by decide +kernel
theorem dX6_walk_66 : decode cX6_walk 66 = .ok (.iload_n 2, 1) := by decide +kernel
theorem dX6_walk_67 : decode cX6_walk 67 = .ok (.invokevirtual 99, 3) := by decide +kernel
theorem dX6_walk_70 : decode cX6_walk 70 = .ok (.iconst 1, 1) := by decide +kernel
theorem dX6_walk_71 : decode cX6_walk 71 = .ok (.isub, 1) := by decide +kernel
theorem dX6_walk_72 : decode cX6_walk 72 = .ok (.istore_n 3, 1) := by decide +kernel
theorem dX6_walk_73 : decode cX6_walk 73 = .ok (.iload_n 3, 1) := by decide +kernel
theorem dX6_walk_74 : decode cX6_walk 74 = .ok (.ifCond .lt 35, 3) := by decide +kernel
theorem dX6_walk_77 : decode cX6_walk 77 = .ok (.aload_n 0, 1) := by decide +kernel
theorem dX6_walk_78 : decode cX6_walk 78 = .ok (.getfield 60, 3) := by decide +kernel
theorem dX6_walk_81 : decode cX6_walk 81 = .ok (.aload_n 0, 1) := by decide +kernel
theorem dX6_walk_82 : decode cX6_walk 82 = .ok (.getfield 96, 3) := by decide +kernel
theorem dX6_walk_85 : decode cX6_walk 85 = .ok (.aload_n 0, 1) := by decide +kernel
theorem dX6_walk_86 : decode cX6_walk 86 = .ok (.iload_n 1, 1) := by decide +kernel
theorem dX6_walk_87 : decode cX6_walk 87 = .ok (.iload_n 2, 1) := by decide +kernel
theorem dX6_walk_88 : decode cX6_walk 88 = .ok (.iload_n 3, 1) := by decide +kernel
theorem dX6_walk_89 : decode cX6_walk 89 = .ok (.invokevirtual 103, 3) := by decide +kernel
theorem dX6_walk_92 : decode cX6_walk 92 = .ok (.iastore, 1) := by decide +kernel
theorem dX6_walk_93 : decode cX6_walk 93 = .ok (.aload_n 0, 1) := by decide +kernel
theorem dX6_walk_94 : decode cX6_walk 94 = .ok (.dup, 1) := by decide +kernel
theorem dX6_walk_95 : decode cX6_walk 95 = .ok (.getfield 96, 3) := by decide +kernel
theorem dX6_walk_98 : decode cX6_walk 98 = .ok (.iconst 1, 1) := by decide +kernel
theorem dX6_walk_99 : decode cX6_walk 99 = .ok (.iadd, 1) := by decide +kernel
theorem dX6_walk_100 : decode cX6_walk 100 = .ok (.putfield 96, 3) := by decide +kernel
theorem dX6_walk_103 : decode cX6_walk 103 = .ok (.iinc 3 (-1), 3) := by decide +kernel
theorem dX6_walk_106 : decode cX6_walk 106 = .ok (.goto (-33), 3) := by decide +kernel
theorem dX6_walk_109 : decode cX6_walk 109 = .ok (.goto (-92), 3) := by decide +kernel
theorem dX6_walk_112 : decode cX6_walk 112 = .ok (.return_, 1) := by decide +kernel
set_option maxRecDepth 20000 in
theorem ggX6_insert_X6_has : GoodIn wsX6_insert wsX6_has := goodIn_r _ [8, 9, 28, 29, 30, 31, 32, 33, 34, 35, 36, 37, 38, 39, 40, 41, 42, 43, 44, 45, 46, 47, 48, 49, 50, 51, 52, 53, 54] (by decide +kernel) (by decide +kernel)
set_option maxRecDepth 20000 in
theorem gX6_insert_X6_has : GoodIn wsX6_insert (wsV RX6 107 RX6 yX6_has wsX6_has) := goodIn_app (goodIn_of _ (by decide +kernel)) ggX6_insert_X6_has
set_option maxRecDepth 20000 in
theorem ggX6_insert_X6_children : GoodIn wsX6_insert wsX6_children := goodIn_r _ [13, 14, 15, 16, 7, 17, 9, 18, 28, 29, 30, 31, 32, 33, 34, 35, 36, 37, 38, 39, 40, 41, 42, 43, 44, 45, 46, 47, 48, 49, 50, 51, 52, 53, 54] (by decide +kernel) (by decide +kernel)
set_option maxRecDepth 20000 in
theorem gX6_insert_X6_children : GoodIn wsX6_insert (wsV RX6 99 RX6 yX6_children wsX6_children) := goodIn_app (goodIn_of _ (by decide +kernel)) ggX6_insert_X6_children
set_option maxRecDepth 20000 in
theorem ggX6_insert_X6_hang : GoodIn wsX6_insert wsX6_hang := goodIn_r _ [22, 9, 18, 23, 24, 25, 26, 7, 27, 14, 15, 16, 17, 28, 29, 30, 31, 32, 33, 34, 35, 36, 37, 38, 39, 40, 41, 42, 43, 44, 45, 46, 47, 48, 49, 50, 51, 52, 53, 54] (by decide +kernel) (by decide +kernel)
set_option maxRecDepth 20000 in
theorem gX6_insert_X6_hang : GoodIn wsX6_insert (wsV RX6 111 RX6 yX6_hang wsX6_hang) := goodIn_app (goodIn_of _ (by decide +kernel)) ggX6_insert_X6_hang
theorem dX6_insert_0 : decode cX6_insert 0 = .ok (.aload_n 0, 1) := by decide +kernel
theorem dX6_insert_1 : decode cX6_insert 1 = .ok (.aload_n 0, 1) := by decide +kernel
theorem dX6_insert_2 : decode cX6_insert 2 = .ok (.bipush 12, 2) := by decide +kernel
theorem dX6_insert_4 : decode cX6_insert 4 = .ok (.iload_n 1, 1) := by decide +kernel
theorem dX6_insert_5 : decode cX6_insert 5 = .ok (.invokevirtual 107, 3) := by decide +kernel
theorem dX6_insert_8 : decode cX6_insert 8 = .ok (.ifCond .ne 7, 3) := by decide +kernel
theorem dX6_insert_11 : decode cX6_insert 11 = .ok (.iconst 1, 1) := by decide +kernel
theorem dX6_insert_12 : decode cX6_insert 12 = .ok (.goto 49, 3) := by decide +kernel
theorem dX6_insert_15 : decode cX6_insert 15 = .ok (.iload_n 2, 1) := by decide +kernel
theorem dX6_insert_16 : decode cX6_insert 16 = .ok (.ifCond .lt 14, 3) := by decide +kernel
theorem dX6_insert_19 : decode cX6_insert 19 = .ok (.iload_n 2, 1) := by decide +kernel
theorem dX6_insert_20 : decode cX6_insert 20 = .ok (.aload_n 0, 1) := by decide +kernel
theorem dX6_insert_21 : decode cX6_insert 21 = .ok (.bipush 12, 2) := by decide +kernel
theorem dX6_insert_23 : decode cX6_insert 23 = .ok (.iload_n 1, 1) := by decide +kernel
theorem dX6_insert_24 : decode cX6_insert 24 = .ok (.invokevirtual 99, 3) := by decide +kernel
theorem dX6_insert_27 : decode cX6_insert 27 = .ok (.if_icmp .le 7, 3) := by decide +kernel
theorem dX6_insert_30 : decode cX6_insert 30 = .ok (.iconst 2, 1) := by decide +kernel
theorem dX6_insert_31 : decode cX6_insert 31 = .ok (.goto 30, 3) := by decide +kernel
theorem dX6_insert_34 : decode cX6_insert 34 = .ok (.iload_n 3, 1) := by decide +kernel
theorem dX6_insert_35 : decode cX6_insert 35 = .ok (.ifCond .lt 8, 3) := by decide +kernel
theorem dX6_insert_38 : decode cX6_insert 38 = .ok (.iload_n 3, 1) := by decide +kernel
theorem dX6_insert_39 : decode cX6_insert 39 = .ok (.iconst 5, 1) := by decide +kernel
theorem dX6_insert_40 : decode cX6_insert 40 = .ok (.if_icmp .le 7, 3) := by decide +kernel
theorem dX6_insert_43 : decode cX6_insert 43 = .ok (.iconst 3, 1) := by decide +kernel
theorem dX6_insert_44 : decode cX6_insert 44 = .ok (.goto 17, 3) := by decide +kernel
theorem dX6_insert_47 : decode cX6_insert 47 = .ok (.aload_n 0, 1) := by decide +kernel
theorem dX6_insert_48 : decode cX6_insert 48 = .ok (.getfield 23, 3) := by decide +kernel
theorem dX6_insert_51 : decode cX6_insert 51 = .ok (.bipush 24, 2) := by decide +kernel
theorem dX6_insert_53 : decode cX6_insert 53 = .ok (.if_icmp .ne 7, 3) := by decide +kernel
theorem dX6_insert_56 : decode cX6_insert 56 = .ok (.iconst 4, 1) := by decide +kernel
theorem dX6_insert_57 : decode cX6_insert 57 = .ok (.goto 4, 3) := by decide +kernel
theorem dX6_insert_60 : decode cX6_insert 60 = .ok (.iconst 0, 1) := by decide +kernel
theorem dX6_insert_61 : decode cX6_insert 61 = .ok (.putfield 82, 3) := by decide +kernel
theorem dX6_insert_64 : decode cX6_insert 64 = .ok (.aload_n 0, 1) := by decide +kernel
theorem dX6_insert_65 : decode cX6_insert 65 = .ok (.getfield 82, 3) := by decide +kernel
theorem dX6_insert_68 : decode cX6_insert 68 = .ok (.ifCond .le 5, 3) := by decide +kernel
theorem dX6_insert_71 : decode cX6_insert 71 = .ok (.iconst 0, 1) := by decide +kernel
theorem dX6_insert_72 : decode cX6_insert 72 = .ok (.ireturn, 1) := by decide +kernel
theorem dX6_insert_73 : decode cX6_insert 73 = .ok (.aload_n 0, 1) := by decide +kernel
theorem dX6_insert_74 : decode cX6_insert 74 = .ok (.bipush 12, 2) := by decide +kernel
theorem dX6_insert_76 : decode cX6_insert 76 = .ok (.aload_n 0, 1) := by decide +kernel
theorem dX6_insert_77 : decode cX6_insert 77 = .ok (.getfield 23, 3) := by decide +kernel
theorem dX6_insert_80 : decode cX6_insert 80 = .ok (.iload_n 1, 1) := by decide +kernel
theorem dX6_insert_81 : decode cX6_insert 81 = .ok (.iload_n 2, 1) := by decide +kernel
theorem dX6_insert_82 : decode cX6_insert 82 = .ok (.invokevirtual 111, 3) := by decide +kernel
theorem dX6_insert_85 : decode cX6_insert 85 = .ok (.aload_n 0, 1) := by decide +kernel
theorem dX6_insert_86 : decode cX6_insert 86 = .ok (.getfield 13, 3) := by decide +kernel
theorem dX6_insert_89 : decode cX6_insert 89 = .ok (.sipush 288, 3) := by decide +kernel
theorem dX6_insert_92 : decode cX6_insert 92 = .ok (.aload_n 0, 1) := by decide +kernel
theorem dX6_insert_93 : decode cX6_insert 93 = .ok (.getfield 23, 3) := by decide +kernel
theorem dX6_insert_96 : decode cX6_insert 96 = .ok (.iadd, 1) := by decide +kernel
theorem dX6_insert_97 : decode cX6_insert 97 = .ok (.iload_n 3, 1) := by decide +kernel
theorem dX6_insert_98 : decode cX6_insert 98 = .ok (.iastore, 1) := by decide +kernel
theorem dX6_insert_99 : decode cX6_insert 99 = .ok (.aload_n 0, 1) := by decide +kernel
theorem dX6_insert_100 : decode cX6_insert 100 = .ok (.dup, 1) := by decide +kernel
theorem dX6_insert_101 : decode cX6_insert 101 = .ok (.getfield 23, 3) := by decide +kernel
theorem dX6_insert_104 : decode cX6_insert 104 = .ok (.iconst 1, 1) := by decide +kernel
theorem dX6_insert_105 : decode cX6_insert 105 = .ok (.iadd, 1) := by decide +kernel
theorem dX6_insert_106 : decode cX6_insert 106 = .ok (.putfield 23, 3) := by decide +kernel
theorem dX6_insert_109 : decode cX6_insert 109 = .ok (.aload_n 0, 1) := by decide +kernel
theorem dX6_insert_110 : decode cX6_insert 110 = .ok (.getfield 23, 3) := by decide +kernel
theorem dX6_insert_113 : decode cX6_insert 113 = .ok (.iconst 1, 1) := by decide +kernel
theorem dX6_insert_114 : decode cX6_insert 114 = .ok (.isub, 1) := by decide +kernel
theorem dX6_insert_115 : decode cX6_insert 115 = .ok (.ireturn, 1) := by decide +kernel
set_option maxRecDepth 20000 in
theorem ggX6_delete_X6_has : GoodIn wsX6_delete wsX6_has := goodIn_r _ [9, 4, 42, 43, 44, 45, 46, 47, 48, 49, 50, 51, 52, 53, 54, 55, 56, 57, 58, 59, 60, 61, 62, 63, 64, 65, 66, 67, 68] (by decide +kernel) (by decide +kernel)
set_option maxRecDepth 20000 in
theorem gX6_delete_X6_has : GoodIn wsX6_delete (wsV RX6 107 RX6 yX6_has wsX6_has) := goodIn_app (goodIn_of _ (by decide +kernel)) ggX6_delete_X6_has
set_option maxRecDepth 20000 in
theorem ggX6_delete_X6_walk : GoodIn wsX6_delete wsX6_walk := goodIn_r _ [13, 2, 14, 15, 3, 16, 17, 18, 8, 19, 20, 21, 22, 23, 4, 24, 25, 26, 27, 28, 29, 42, 43, 44, 45, 46, 47, 48, 49, 50, 51, 52, 53, 54, 55, 56, 57, 58, 59, 60, 61, 62, 63, 64, 65, 66, 67, 68] (by decide +kernel) (by decide +kernel)
set_option maxRecDepth 20000 in
theorem gX6_delete_X6_walk : GoodIn wsX6_delete (wsV RX6 114 RX6 yX6_walk wsX6_walk) := goodIn_app (goodIn_of _ (by decide +kernel)) ggX6_delete_X6_walk
set_option maxRecDepth 20000 in
theorem ggX6_delete_X6_unhang : GoodIn wsX6_delete wsX6_unhang := goodIn_r _ [33, 4, 24, 29, 34, 35, 36, 8, 37, 20, 21, 22, 23, 42, 43, 44, 45, 46, 47, 48, 49, 50, 51, 52, 53, 54, 55, 56, 57, 58, 59, 60, 61, 62, 63, 64, 65, 66, 67, 68] (by decide +kernel) (by decide +kernel)
set_option maxRecDepth 20000 in
theorem gX6_delete_X6_unhang : GoodIn wsX6_delete (wsV RX6 118 RX6 yX6_unhang wsX6_unhang) := goodIn_app (goodIn_of _ (by decide +kernel)) ggX6_delete_X6_unhang
set_option maxRecDepth 20000 in
theorem ggX6_delete_X6_isAt : GoodIn wsX6_delete wsX6_isAt := goodIn_r _ [41, 24, 42, 43, 44, 45, 46, 47, 48, 49, 50, 51, 52, 53, 54, 55, 56, 57, 58, 59, 60, 61, 62, 63, 64, 65, 66, 67, 68] (by decide +kernel) (by decide +kernel)
set_option maxRecDepth 20000 in
theorem gX6_delete_X6_isAt : GoodIn wsX6_delete (wsV RX6 121 RX6 yX6_isAt wsX6_isAt) := goodIn_app (goodIn_of _ (by decide +kernel)) ggX6_delete_X6_isAt
theorem dX6_delete_0 : decode cX6_delete 0 = .ok (.aload_n 0, 1) := by decide +kernel
theorem dX6_delete_1 : decode cX6_delete 1 = .ok (.aload_n 0, 1) := by decide +kernel
theorem dX6_delete_2 : decode cX6_delete 2 = .ok (.bipush 12, 2) := by decide +kernel
theorem dX6_delete_4 : decode cX6_delete 4 = .ok (.iload_n 1, 1) := by decide +kernel
theorem dX6_delete_5 : decode cX6_delete 5 = .ok (.invokevirtual 107, 3) := by decide +kernel
theorem dX6_delete_8 : decode cX6_delete 8 = .ok (.ifCond .ne 7, 3) := by decide +kernel
theorem dX6_delete_11 : decode cX6_delete 11 = .ok (.iconst 1, 1) := by decide +kernel
theorem dX6_delete_12 : decode cX6_delete 12 = .ok (.goto 12, 3) := by decide +kernel
theorem dX6_delete_15 : decode cX6_delete 15 = .ok (.iload_n 1, 1) := by decide +kernel
theorem dX6_delete_16 : decode cX6_delete 16 = .ok (.ifCond .ne 7, 3) := by decide +kernel
theorem dX6_delete_19 : decode cX6_delete 19 = .ok (.iconst 2, 1) := by decide +kernel
theorem dX6_delete_20 : decode cX6_delete 20 = .ok (.goto 4, 3) := by decide +kernel
theorem dX6_delete_23 : decode cX6_delete 23 = .ok (.iconst 0, 1) := by decide +kernel
theorem dX6_delete_24 : decode cX6_delete 24 = .ok (.putfield 82, 3) := by decide +kernel
theorem dX6_delete_27 : decode cX6_delete 27 = .ok (.aload_n 0, 1) := by decide +kernel
theorem dX6_delete_28 : decode cX6_delete 28 = .ok (.getfield 82, 3) := by decide +kernel
theorem dX6_delete_31 : decode cX6_delete 31 = .ok (.ifCond .le 5, 3) := by decide +kernel
theorem dX6_delete_34 : decode cX6_delete 34 = .ok (.iconst 0, 1) := by decide +kernel
theorem dX6_delete_35 : decode cX6_delete 35 = .ok (.ireturn, 1) := by decide +kernel
theorem dX6_delete_36 : decode cX6_delete 36 = .ok (.aload_n 0, 1) := by decide +kernel
theorem dX6_delete_37 : decode cX6_delete 37 = .ok (.bipush 12, 2) := by decide +kernel
theorem dX6_delete_39 : decode cX6_delete 39 = .ok (.invokevirtual 114, 3) := by decide +kernel
theorem dX6_delete_42 : decode cX6_delete 42 = .ok (.iconst 0, 1) := by decide +kernel
theorem dX6_delete_43 : decode cX6_delete 43 = .ok (.istore_n 2, 1) := by decide +kernel
theorem dX6_delete_44 : decode cX6_delete 44 = .ok (.aload_n 0, 1) := by decide +kernel
theorem dX6_delete_45 : decode cX6_delete 45 = .ok (.bipush 12, 2) := by decide +kernel
theorem dX6_delete_47 : decode cX6_delete 47 = .ok (.iload_n 1, 1) := by decide +kernel
theorem dX6_delete_48 : decode cX6_delete 48 = .ok (.invokevirtual 118, 3) := by decide +kernel
theorem dX6_delete_51 : decode cX6_delete 51 = .ok (.aload_n 0, 1) := by decide +kernel
theorem dX6_delete_52 : decode cX6_delete 52 = .ok (.getfield 93, 3) := by decide +kernel
theorem dX6_delete_55 : decode cX6_delete 55 = .ok (.iconst 1, 1) := by decide +kernel
theorem dX6_delete_56 : decode cX6_delete 56 = .ok (.isub, 1) := by decide +kernel
theorem dX6_delete_57 : decode cX6_delete 57 = .ok (.istore_n 3, 1) := by decide +kernel
theorem dX6_delete_58 : decode cX6_delete 58 = .ok (.iload_n 3, 1) := by decide +kernel
theorem dX6_delete_59 : decode cX6_delete 59 = .ok (.ifCond .lt 32, 3) := by decide +kernel
theorem dX6_delete_62 : decode cX6_delete 62 = .ok (.aload_n 0, 1) := by decide +kernel
theorem dX6_delete_63 : decode cX6_delete 63 = .ok (.getfield 57, 3) := by decide +kernel
theorem dX6_delete_66 : decode cX6_delete 66 = .ok (.iload_n 3, 1) := by decide +kernel
theorem dX6_delete_67 : decode cX6_delete 67 = .ok (.iaload, 1) := by decide +kernel
theorem dX6_delete_68 : decode cX6_delete 68 = .ok (.istore 4, 2) := by decide +kernel
theorem dX6_delete_70 : decode cX6_delete 70 = .ok (.aload_n 0, 1) := by decide +kernel
theorem dX6_delete_71 : decode cX6_delete 71 = .ok (.bipush 12, 2) := by decide +kernel
theorem dX6_delete_73 : decode cX6_delete 73 = .ok (.iload 4, 2) := by decide +kernel
theorem dX6_delete_75 : decode cX6_delete 75 = .ok (.iload_n 1, 1) := by decide +kernel
theorem dX6_delete_76 : decode cX6_delete 76 = .ok (.invokevirtual 121, 3) := by decide +kernel
theorem dX6_delete_79 : decode cX6_delete 79 = .ok (.ifCond .eq 6, 3) := by decide +kernel
theorem dX6_delete_82 : decode cX6_delete 82 = .ok (.iinc 2 1, 3) := by decide +kernel
theorem dX6_delete_85 : decode cX6_delete 85 = .ok (.iinc 3 (-1), 3) := by decide +kernel
theorem dX6_delete_88 : decode cX6_delete 88 = .ok (.goto (-30), 3) := by decide +kernel
theorem dX6_delete_91 : decode cX6_delete 91 = .ok (.iconst 0, 1) := by decide +kernel
theorem dX6_delete_92 : decode cX6_delete 92 = .ok (.istore_n 3, 1) := by decide +kernel
theorem dX6_delete_93 : decode cX6_delete 93 = .ok (.iload_n 3, 1) := by decide +kernel
theorem dX6_delete_94 : decode cX6_delete 94 = .ok (.aload_n 0, 1) := by decide +kernel
theorem dX6_delete_95 : decode cX6_delete 95 = .ok (.getfield 93, 3) := by decide +kernel
theorem dX6_delete_98 : decode cX6_delete 98 = .ok (.if_icmp .ge 59, 3) := by decide +kernel
theorem dX6_delete_101 : decode cX6_delete 101 = .ok (.aload_n 0, 1) := by decide +kernel
theorem dX6_delete_102 : decode cX6_delete 102 = .ok (.getfield 57, 3) := by decide +kernel
theorem dX6_delete_105 : decode cX6_delete 105 = .ok (.iload_n 3, 1) := by decide +kernel
theorem dX6_delete_106 : decode cX6_delete 106 = .ok (.iaload, 1) := by decide +kernel
theorem dX6_delete_107 : decode cX6_delete 107 = .ok (.istore 4, 2) := by decide +kernel
theorem dX6_delete_109 : decode cX6_delete 109 = .ok (.aload_n 0, 1) := by decide +kernel
theorem dX6_delete_110 : decode cX6_delete 110 = .ok (.getfield 7, 3) := by decide +kernel
theorem dX6_delete_113 : decode cX6_delete 113 = .ok (.sipush 288, 3) := by decide +kernel
theorem dX6_delete_116 : decode cX6_delete 116 = .ok (.iload 4, 2) := by decide +kernel
theorem dX6_delete_118 : decode cX6_delete 118 = .ok (.iadd, 1) := by decide +kernel
theorem dX6_delete_119 : decode cX6_delete 119 = .ok (.aload_n 0, 1) := by decide +kernel
theorem dX6_delete_120 : decode cX6_delete 120 = .ok (.getfield 7, 3) := by decide +kernel
theorem dX6_delete_123 : decode cX6_delete 123 = .ok (.sipush 288, 3) := by decide +kernel
theorem dX6_delete_126 : decode cX6_delete 126 = .ok (.iload 4, 2) := by decide +kernel
theorem dX6_delete_128 : decode cX6_delete 128 = .ok (.iadd, 1) := by decide +kernel
theorem dX6_delete_129 : decode cX6_delete 129 = .ok (.baload, 1) := by decide +kernel
theorem dX6_delete_130 : decode cX6_delete 130 = .ok (.ifCond .eq 19, 3) := by decide +kernel
theorem dX6_delete_133 : decode cX6_delete 133 = .ok (.aload_n 0, 1) := by decide +kernel
theorem dX6_delete_134 : decode cX6_delete 134 = .ok (.bipush 12, 2) := by decide +kernel
theorem dX6_delete_136 : decode cX6_delete 136 = .ok (.iload 4, 2) := by decide +kernel
theorem dX6_delete_138 : decode cX6_delete 138 = .ok (.iload_n 1, 1) := by decide +kernel
theorem dX6_delete_139 : decode cX6_delete 139 = .ok (.invokevirtual 121, 3) := by decide +kernel
theorem dX6_delete_142 : decode cX6_delete 142 = .ok (.ifCond .ne 7, 3) := by decide +kernel
theorem dX6_delete_145 : decode cX6_delete 145 = .ok (.iconst 1, 1) := by decide +kernel
theorem dX6_delete_146 : decode cX6_delete 146 = .ok (.goto 4, 3) := by decide +kernel
theorem dX6_delete_149 : decode cX6_delete 149 = .ok (.iconst 0, 1) := by decide +kernel
theorem dX6_delete_150 : decode cX6_delete 150 = .ok (.bastore, 1) := by decide +kernel
theorem dX6_delete_151 : decode cX6_delete 151 = .ok (.iinc 3 1, 3) := by decide +kernel
theorem dX6_delete_154 : decode cX6_delete 154 = .ok (.goto (-61), 3) := by decide +kernel
theorem dX6_delete_157 : decode cX6_delete 157 = .ok (.iload_n 2, 1) := by decide +kernel
theorem dX6_delete_158 : decode cX6_delete 158 = .ok (.ireturn, 1) := by decide +kernel
set_option maxRecDepth 20000 in
theorem ggX6_move_X6_has : GoodIn wsX6_move wsX6_has := goodIn_r _ [7, 8, 34, 35, 36, 37, 38, 39, 40, 41, 42, 43, 44, 45, 46, 47, 48, 49, 50, 51, 52, 53, 54, 55, 56, 57, 58, 59, 60] (by decide +kernel) (by decide +kernel)
set_option maxRecDepth 20000 in
theorem gX6_move_X6_has : GoodIn wsX6_move (wsV RX6 107 RX6 yX6_has wsX6_has) := goodIn_app (goodIn_of _ (by decide +kernel)) ggX6_move_X6_has
set_option maxRecDepth 20000 in
theorem ggX6_move_X6_isAt : GoodIn wsX6_move wsX6_isAt := goodIn_r _ [12, 2, 34, 35, 36, 37, 38, 39, 40, 41, 42, 43, 44, 45, 46, 47, 48, 49, 50, 51, 52, 53, 54, 55, 56, 57, 58, 59, 60] (by decide +kernel) (by decide +kernel)
set_option maxRecDepth 20000 in
theorem gX6_move_X6_isAt : GoodIn wsX6_move (wsV RX6 121 RX6 yX6_isAt wsX6_isAt) := goodIn_app (goodIn_of _ (by decide +kernel)) ggX6_move_X6_isAt
set_option maxRecDepth 20000 in
theorem ggX6_move_X6_children : GoodIn wsX6_move wsX6_children := goodIn_r _ [16, 17, 18, 19, 6, 20, 8, 2, 34, 35, 36, 37, 38, 39, 40, 41, 42, 43, 44, 45, 46, 47, 48, 49, 50, 51, 52, 53, 54, 55, 56, 57, 58, 59, 60] (by decide +kernel) (by decide +kernel)
set_option maxRecDepth 20000 in
theorem gX6_move_X6_children : GoodIn wsX6_move (wsV RX6 99 RX6 yX6_children wsX6_children) := goodIn_app (goodIn_of _ (by decide +kernel)) ggX6_move_X6_children
set_option maxRecDepth 20000 in
theorem ggX6_move_X6_unhang : GoodIn wsX6_move wsX6_unhang := goodIn_r _ [24, 8, 2, 25, 26, 27, 28, 6, 29, 17, 18, 19, 20, 34, 35, 36, 37, 38, 39, 40, 41, 42, 43, 44, 45, 46, 47, 48, 49, 50, 51, 52, 53, 54, 55, 56, 57, 58, 59, 60] (by decide +kernel) (by decide +kernel)
set_option maxRecDepth 20000 in
theorem gX6_move_X6_unhang : GoodIn wsX6_move (wsV RX6 118 RX6 yX6_unhang wsX6_unhang) := goodIn_app (goodIn_of _ (by decide +kernel)) ggX6_move_X6_unhang
set_option maxRecDepth 20000 in
theorem ggX6_move_X6_hang : GoodIn wsX6_move wsX6_hang := goodIn_r _ [33, 8, 2, 25, 26, 27, 28, 6, 29, 17, 18, 19, 20, 34, 35, 36, 37, 38, 39, 40, 41, 42, 43, 44, 45, 46, 47, 48, 49, 50, 51, 52, 53, 54, 55, 56, 57, 58, 59, 60] (by decide +kernel) (by decide +kernel)
set_option maxRecDepth 20000 in
theorem gX6_move_X6_hang : GoodIn wsX6_move (wsV RX6 111 RX6 yX6_hang wsX6_hang) := goodIn_app (goodIn_of _ (by decide +kernel)) ggX6_move_X6_hang
theorem dX6_move_0 : decode cX6_move 0 = .ok (.aload_n 0, 1) := by decide +kernel
theorem dX6_move_1 : decode cX6_move 1 = .ok (.aload_n 0, 1) := by decide +kernel
theorem dX6_move_2 : decode cX6_move 2 = .ok (.bipush 12, 2) := by decide +kernel
theorem dX6_move_4 : decode cX6_move 4 = .ok (.iload_n 1, 1) := by decide +kernel
theorem dX6_move_5 : decode cX6_move 5 = .ok (.invokevirtual 107, 3) := by decide +kernel
theorem dX6_move_8 : decode cX6_move 8 = .ok (.ifCond .eq 13, 3) := by decide +kernel
theorem dX6_move_11 : decode cX6_move 11 = .ok (.aload_n 0, 1) := by decide +kernel
theorem dX6_move_12 : decode cX6_move 12 = .ok (.bipush 12, 2) := by decide +kernel
theorem dX6_move_14 : decode cX6_move 14 = .ok (.iload_n 2, 1) := by decide +kernel
theorem dX6_move_15 : decode cX6_move 15 = .ok (.invokevirtual 107, 3) := by decide +kernel
theorem dX6_move_18 : decode cX6_move 18 = .ok (.ifCond .ne 7, 3) := by decide +kernel
theorem dX6_move_21 : decode cX6_move 21 = .ok (.iconst 1, 1) := by decide +kernel
theorem dX6_move_22 : decode cX6_move 22 = .ok (.goto 23, 3) := by decide +kernel
theorem dX6_move_25 : decode cX6_move 25 = .ok (.iload_n 1, 1) := by decide +kernel
theorem dX6_move_26 : decode cX6_move 26 = .ok (.ifCond .eq 14, 3) := by decide +kernel
theorem dX6_move_29 : decode cX6_move 29 = .ok (.aload_n 0, 1) := by decide +kernel
theorem dX6_move_30 : decode cX6_move 30 = .ok (.bipush 12, 2) := by decide +kernel
theorem dX6_move_32 : decode cX6_move 32 = .ok (.iload_n 2, 1) := by decide +kernel
theorem dX6_move_33 : decode cX6_move 33 = .ok (.iload_n 1, 1) := by decide +kernel
theorem dX6_move_34 : decode cX6_move 34 = .ok (.invokevirtual 121, 3) := by decide +kernel
theorem dX6_move_37 : decode cX6_move 37 = .ok (.ifCond .eq 7, 3) := by decide +kernel
theorem dX6_move_40 : decode cX6_move 40 = .ok (.iconst 2, 1) := by decide +kernel
theorem dX6_move_41 : decode cX6_move 41 = .ok (.goto 4, 3) := by decide +kernel
theorem dX6_move_44 : decode cX6_move 44 = .ok (.iconst 0, 1) := by decide +kernel
theorem dX6_move_45 : decode cX6_move 45 = .ok (.putfield 82, 3) := by decide +kernel
theorem dX6_move_48 : decode cX6_move 48 = .ok (.aload_n 0, 1) := by decide +kernel
theorem dX6_move_49 : decode cX6_move 49 = .ok (.getfield 82, 3) := by decide +kernel
theorem dX6_move_52 : decode cX6_move 52 = .ok (.ifCond .le 4, 3) := by decide +kernel
theorem dX6_move_55 : decode cX6_move 55 = .ok (.return_, 1) := by decide +kernel
theorem dX6_move_56 : decode cX6_move 56 = .ok (.aload_n 0, 1) := by decide +kernel
theorem dX6_move_57 : decode cX6_move 57 = .ok (.bipush 12, 2) := by decide +kernel
theorem dX6_move_59 : decode cX6_move 59 = .ok (.iload_n 2, 1) := by decide +kernel
theorem dX6_move_60 : decode cX6_move 60 = .ok (.invokevirtual 99, 3) := by decide +kernel
theorem dX6_move_63 : decode cX6_move 63 = .ok (.aload_n 0, 1) := by decide +kernel
theorem dX6_move_64 : decode cX6_move 64 = .ok (.getfield 17, 3) := by decide +kernel
theorem dX6_move_67 : decode cX6_move 67 = .ok (.sipush 288, 3) := by decide +kernel
theorem dX6_move_70 : decode cX6_move 70 = .ok (.iload_n 1, 1) := by decide +kernel
theorem dX6_move_71 : decode cX6_move 71 = .ok (.iadd, 1) := by decide +kernel
theorem dX6_move_72 : decode cX6_move 72 = .ok (.iaload, 1) := by decide +kernel
theorem dX6_move_73 : decode cX6_move 73 = .ok (.iload_n 2, 1) := by decide +kernel
theorem dX6_move_74 : decode cX6_move 74 = .ok (.if_icmp .ne 7, 3) := by decide +kernel
theorem dX6_move_77 : decode cX6_move 77 = .ok (.iconst 1, 1) := by decide +kernel
theorem dX6_move_78 : decode cX6_move 78 = .ok (.goto 4, 3) := by decide +kernel
theorem dX6_move_81 : decode cX6_move 81 = .ok (.iconst 0, 1) := by decide +kernel
theorem dX6_move_82 : decode cX6_move 82 = .ok (.isub, 1) := by decide +kernel
theorem dX6_move_83 : decode cX6_move 83 = .ok (.istore 4, 2) := by decide +kernel
theorem dX6_move_85 : decode cX6_move 85 = .ok (.iload_n 3, 1) := by decide +kernel
theorem dX6_move_86 : decode cX6_move 86 = .ok (.ifCond .lt 9, 3) := by decide +kernel
theorem dX6_move_89 : decode cX6_move 89 = .ok (.iload_n 3, 1) := by decide +kernel
theorem dX6_move_90 : decode cX6_move 90 = .ok (.iload 4, 2) := by decide +kernel
theorem dX6_move_92 : decode cX6_move 92 = .ok (.if_icmp .le 9, 3) := by decide +kernel
theorem dX6_move_95 : decode cX6_move 95 = .ok (.aload_n 0, 1) := by decide +kernel
theorem dX6_move_96 : decode cX6_move 96 = .ok (.iconst 3, 1) := by decide +kernel
theorem dX6_move_97 : decode cX6_move 97 = .ok (.putfield 82, 3) := by decide +kernel
theorem dX6_move_100 : decode cX6_move 100 = .ok (.return_, 1) := by decide +kernel
theorem dX6_move_101 : decode cX6_move 101 = .ok (.aload_n 0, 1) := by decide +kernel
theorem dX6_move_102 : decode cX6_move 102 = .ok (.bipush 12, 2) := by decide +kernel
theorem dX6_move_104 : decode cX6_move 104 = .ok (.iload_n 1, 1) := by decide +kernel
theorem dX6_move_105 : decode cX6_move 105 = .ok (.invokevirtual 118, 3) := by decide +kernel
theorem dX6_move_108 : decode cX6_move 108 = .ok (.aload_n 0, 1) := by decide +kernel
theorem dX6_move_109 : decode cX6_move 109 = .ok (.bipush 12, 2) := by decide +kernel
theorem dX6_move_111 : decode cX6_move 111 = .ok (.iload_n 1, 1) := by decide +kernel
theorem dX6_move_112 : decode cX6_move 112 = .ok (.iload_n 2, 1) := by decide +kernel
theorem dX6_move_113 : decode cX6_move 113 = .ok (.iload_n 3, 1) := by decide +kernel
theorem dX6_move_114 : decode cX6_move 114 = .ok (.invokevirtual 111, 3) := by decide +kernel
theorem dX6_move_117 : decode cX6_move 117 = .ok (.return_, 1) := by decide +kernel
set_option maxRecDepth 20000 in
theorem ggX6_relabel_X6_has : GoodIn wsX6_relabel wsX6_has := goodIn_r _ [7, 8, 9, 10, 11, 12, 13, 14, 15, 16, 17, 18, 19, 20, 21, 22, 23, 24, 25, 26, 27, 28, 29, 30, 31, 32, 33, 34, 35] (by decide +kernel) (by decide +kernel)
set_option maxRecDepth 20000 in
theorem gX6_relabel_X6_has : GoodIn wsX6_relabel (wsV RX6 107 RX6 yX6_has wsX6_has) := goodIn_app (goodIn_of _ (by decide +kernel)) ggX6_relabel_X6_has
theorem dX6_relabel_0 : decode cX6_relabel 0 = .ok (.aload_n 0, 1) := by decide +kernel
theorem dX6_relabel_1 : decode cX6_relabel 1 = .ok (.aload_n 0, 1) := by decide +kernel
theorem dX6_relabel_2 : decode cX6_relabel 2 = .ok (.bipush 12, 2) := by decide +kernel
theorem dX6_relabel_4 : decode cX6_relabel 4 = .ok (.iload_n 1, 1) := by decide +kernel
theorem dX6_relabel_5 : decode cX6_relabel 5 = .ok (.invokevirtual 107, 3) := by decide +kernel
theorem dX6_relabel_8 : decode cX6_relabel 8 = .ok (.ifCond .ne 7, 3) := by decide +kernel
theorem dX6_relabel_11 : decode cX6_relabel 11 = .ok (.iconst 1, 1) := by decide +kernel
theorem dX6_relabel_12 : decode cX6_relabel 12 = .ok (.goto 17, 3) := by decide +kernel
theorem dX6_relabel_15 : decode cX6_relabel 15 = .ok (.iload_n 2, 1) := by decide +kernel
theorem dX6_relabel_16 : decode cX6_relabel 16 = .ok (.ifCond .lt 8, 3) := by decide +kernel
theorem dX6_relabel_19 : decode cX6_relabel 19 = .ok (.iload_n 2, 1) := by decide +kernel
theorem dX6_relabel_20 : decode cX6_relabel 20 = .ok (.iconst 5, 1) := by decide +kernel
theorem dX6_relabel_21 : decode cX6_relabel 21 = .ok (.if_icmp .le 7, 3) := by decide +kernel
theorem dX6_relabel_24 : decode cX6_relabel 24 = .ok (.iconst 2, 1) := by decide +kernel
theorem dX6_relabel_25 : decode cX6_relabel 25 = .ok (.goto 4, 3) := by decide +kernel
theorem dX6_relabel_28 : decode cX6_relabel 28 = .ok (.iconst 0, 1) := by decide +kernel
theorem dX6_relabel_29 : decode cX6_relabel 29 = .ok (.putfield 82, 3) := by decide +kernel
theorem dX6_relabel_32 : decode cX6_relabel 32 = .ok (.aload_n 0, 1) := by decide +kernel
theorem dX6_relabel_33 : decode cX6_relabel 33 = .ok (.getfield 82, 3) := by decide +kernel
theorem dX6_relabel_36 : decode cX6_relabel 36 = .ok (.ifCond .ne 14, 3) := by decide +kernel
theorem dX6_relabel_39 : decode cX6_relabel 39 = .ok (.aload_n 0, 1) := by decide +kernel
theorem dX6_relabel_40 : decode cX6_relabel 40 = .ok (.getfield 13, 3) := by decide +kernel
theorem dX6_relabel_43 : decode cX6_relabel 43 = .ok (.sipush 288, 3) := by decide +kernel
theorem dX6_relabel_46 : decode cX6_relabel 46 = .ok (.iload_n 1, 1) := by decide +kernel
theorem dX6_relabel_47 : decode cX6_relabel 47 = .ok (.iadd, 1) := by decide +kernel
theorem dX6_relabel_48 : decode cX6_relabel 48 = .ok (.iload_n 2, 1) := by decide +kernel
theorem dX6_relabel_49 : decode cX6_relabel 49 = .ok (.iastore, 1) := by decide +kernel
theorem dX6_relabel_50 : decode cX6_relabel 50 = .ok (.return_, 1) := by decide +kernel
set_option maxRecDepth 20000 in
theorem ggX6_commit_X6_copy : GoodIn wsX6_commit wsX6_copy := goodIn_r _ [12, 13, 14, 15, 16, 17, 18, 19, 20, 21, 22, 23, 24, 25, 26, 27, 28, 29, 30, 31, 32, 33, 34, 35, 36, 37, 38, 39, 40, 41, 42, 43] (by decide +kernel) (by decide +kernel)
set_option maxRecDepth 20000 in
theorem gX6_commit_X6_copy : GoodIn wsX6_commit (wsV RX6 78 RX6 yX6_copy wsX6_copy) := goodIn_app (goodIn_of _ (by decide +kernel)) ggX6_commit_X6_copy
theorem dX6_commit_0 : decode cX6_commit 0 = .ok (.aload_n 0, 1) := by decide +kernel
theorem dX6_commit_1 : decode cX6_commit 1 = .ok (.aload_n 0, 1) := by decide +kernel
theorem dX6_commit_2 : decode cX6_commit 2 = .ok (.getfield 27, 3) := by decide +kernel
theorem dX6_commit_5 : decode cX6_commit 5 = .ok (.bipush 12, 2) := by decide +kernel
theorem dX6_commit_7 : decode cX6_commit 7 = .ok (.if_icmp .ne 7, 3) := by decide +kernel
theorem dX6_commit_10 : decode cX6_commit 10 = .ok (.iconst 1, 1) := by decide +kernel
theorem dX6_commit_11 : decode cX6_commit 11 = .ok (.goto 4, 3) := by decide +kernel
theorem dX6_commit_14 : decode cX6_commit 14 = .ok (.iconst 0, 1) := by decide +kernel
theorem dX6_commit_15 : decode cX6_commit 15 = .ok (.putfield 82, 3) := by decide +kernel
theorem dX6_commit_18 : decode cX6_commit 18 = .ok (.aload_n 0, 1) := by decide +kernel
theorem dX6_commit_19 : decode cX6_commit 19 = .ok (.getfield 82, 3) := by decide +kernel
theorem dX6_commit_22 : decode cX6_commit 22 = .ok (.ifCond .le 5, 3) := by decide +kernel
theorem dX6_commit_25 : decode cX6_commit 25 = .ok (.iconst 0, 1) := by decide +kernel
theorem dX6_commit_26 : decode cX6_commit 26 = .ok (.ireturn, 1) := by decide +kernel
theorem dX6_commit_27 : decode cX6_commit 27 = .ok (.aload_n 0, 1) := by decide +kernel
theorem dX6_commit_28 : decode cX6_commit 28 = .ok (.bipush 12, 2) := by decide +kernel
theorem dX6_commit_30 : decode cX6_commit 30 = .ok (.aload_n 0, 1) := by decide +kernel
theorem dX6_commit_31 : decode cX6_commit 31 = .ok (.getfield 27, 3) := by decide +kernel
theorem dX6_commit_34 : decode cX6_commit 34 = .ok (.invokevirtual 78, 3) := by decide +kernel
theorem dX6_commit_37 : decode cX6_commit 37 = .ok (.aload_n 0, 1) := by decide +kernel
theorem dX6_commit_38 : decode cX6_commit 38 = .ok (.getfield 30, 3) := by decide +kernel
theorem dX6_commit_41 : decode cX6_commit 41 = .ok (.aload_n 0, 1) := by decide +kernel
theorem dX6_commit_42 : decode cX6_commit 42 = .ok (.getfield 27, 3) := by decide +kernel
theorem dX6_commit_45 : decode cX6_commit 45 = .ok (.aload_n 0, 1) := by decide +kernel
theorem dX6_commit_46 : decode cX6_commit 46 = .ok (.getfield 124, 3) := by decide +kernel
theorem dX6_commit_49 : decode cX6_commit 49 = .ok (.iastore, 1) := by decide +kernel
theorem dX6_commit_50 : decode cX6_commit 50 = .ok (.aload_n 0, 1) := by decide +kernel
theorem dX6_commit_51 : decode cX6_commit 51 = .ok (.getfield 33, 3) := by decide +kernel
theorem dX6_commit_54 : decode cX6_commit 54 = .ok (.aload_n 0, 1) := by decide +kernel
theorem dX6_commit_55 : decode cX6_commit 55 = .ok (.getfield 27, 3) := by decide +kernel
theorem dX6_commit_58 : decode cX6_commit 58 = .ok (.aload_n 0, 1) := by decide +kernel
theorem dX6_commit_59 : decode cX6_commit 59 = .ok (.getfield 39, 3) := by decide +kernel
theorem dX6_commit_62 : decode cX6_commit 62 = .ok (.iastore, 1) := by decide +kernel
theorem dX6_commit_63 : decode cX6_commit 63 = .ok (.aload_n 0, 1) := by decide +kernel
theorem dX6_commit_64 : decode cX6_commit 64 = .ok (.getfield 36, 3) := by decide +kernel
theorem dX6_commit_67 : decode cX6_commit 67 = .ok (.aload_n 0, 1) := by decide +kernel
theorem dX6_commit_68 : decode cX6_commit 68 = .ok (.getfield 27, 3) := by decide +kernel
theorem dX6_commit_71 : decode cX6_commit 71 = .ok (.iconst 1, 1) := by decide +kernel
theorem dX6_commit_72 : decode cX6_commit 72 = .ok (.aload_n 0, 1) := by decide +kernel
theorem dX6_commit_73 : decode cX6_commit 73 = .ok (.getfield 27, 3) := by decide +kernel
theorem dX6_commit_76 : decode cX6_commit 76 = .ok (.ishl, 1) := by decide +kernel
theorem dX6_commit_77 : decode cX6_commit 77 = .ok (.aload_n 0, 1) := by decide +kernel
theorem dX6_commit_78 : decode cX6_commit 78 = .ok (.getfield 36, 3) := by decide +kernel
theorem dX6_commit_81 : decode cX6_commit 81 = .ok (.aload_n 0, 1) := by decide +kernel
theorem dX6_commit_82 : decode cX6_commit 82 = .ok (.getfield 124, 3) := by decide +kernel
theorem dX6_commit_85 : decode cX6_commit 85 = .ok (.iaload, 1) := by decide +kernel
theorem dX6_commit_86 : decode cX6_commit 86 = .ok (.ior, 1) := by decide +kernel
theorem dX6_commit_87 : decode cX6_commit 87 = .ok (.aload_n 0, 1) := by decide +kernel
theorem dX6_commit_88 : decode cX6_commit 88 = .ok (.getfield 39, 3) := by decide +kernel
theorem dX6_commit_91 : decode cX6_commit 91 = .ok (.ifCond .ge 7, 3) := by decide +kernel
theorem dX6_commit_94 : decode cX6_commit 94 = .ok (.iconst 0, 1) := by decide +kernel
theorem dX6_commit_95 : decode cX6_commit 95 = .ok (.goto 12, 3) := by decide +kernel
theorem dX6_commit_98 : decode cX6_commit 98 = .ok (.aload_n 0, 1) := by decide +kernel
theorem dX6_commit_99 : decode cX6_commit 99 = .ok (.getfield 36, 3) := by decide +kernel
theorem dX6_commit_102 : decode cX6_commit 102 = .ok (.aload_n 0, 1) := by decide +kernel
theorem dX6_commit_103 : decode cX6_commit 103 = .ok (.getfield 39, 3) := by decide +kernel
theorem dX6_commit_106 : decode cX6_commit 106 = .ok (.iaload, 1) := by decide +kernel
theorem dX6_commit_107 : decode cX6_commit 107 = .ok (.ior, 1) := by decide +kernel
theorem dX6_commit_108 : decode cX6_commit 108 = .ok (.iastore, 1) := by decide +kernel
theorem dX6_commit_109 : decode cX6_commit 109 = .ok (.aload_n 0, 1) := by decide +kernel
theorem dX6_commit_110 : decode cX6_commit 110 = .ok (.aload_n 0, 1) := by decide +kernel
theorem dX6_commit_111 : decode cX6_commit 111 = .ok (.getfield 27, 3) := by decide +kernel
theorem dX6_commit_114 : decode cX6_commit 114 = .ok (.putfield 124, 3) := by decide +kernel
theorem dX6_commit_117 : decode cX6_commit 117 = .ok (.aload_n 0, 1) := by decide +kernel
theorem dX6_commit_118 : decode cX6_commit 118 = .ok (.iconst (-1), 1) := by decide +kernel
theorem dX6_commit_119 : decode cX6_commit 119 = .ok (.putfield 39, 3) := by decide +kernel
theorem dX6_commit_122 : decode cX6_commit 122 = .ok (.aload_n 0, 1) := by decide +kernel
theorem dX6_commit_123 : decode cX6_commit 123 = .ok (.dup, 1) := by decide +kernel
theorem dX6_commit_124 : decode cX6_commit 124 = .ok (.getfield 27, 3) := by decide +kernel
theorem dX6_commit_127 : decode cX6_commit 127 = .ok (.iconst 1, 1) := by decide +kernel
theorem dX6_commit_128 : decode cX6_commit 128 = .ok (.iadd, 1) := by decide +kernel
theorem dX6_commit_129 : decode cX6_commit 129 = .ok (.putfield 27, 3) := by decide +kernel
theorem dX6_commit_132 : decode cX6_commit 132 = .ok (.aload_n 0, 1) := by decide +kernel
theorem dX6_commit_133 : decode cX6_commit 133 = .ok (.getfield 124, 3) := by decide +kernel
theorem dX6_commit_136 : decode cX6_commit 136 = .ok (.ireturn, 1) := by decide +kernel
theorem dX6_isCommit_0 : decode cX6_isCommit 0 = .ok (.iload_n 1, 1) := by decide +kernel
theorem dX6_isCommit_1 : decode cX6_isCommit 1 = .ok (.ifCond .lt 15, 3) := by decide +kernel
theorem dX6_isCommit_4 : decode cX6_isCommit 4 = .ok (.iload_n 1, 1) := by decide +kernel
theorem dX6_isCommit_5 : decode cX6_isCommit 5 = .ok (.aload_n 0, 1) := by decide +kernel
theorem dX6_isCommit_6 : decode cX6_isCommit 6 = .ok (.getfield 27, 3) := by decide +kernel
theorem dX6_isCommit_9 : decode cX6_isCommit 9 = .ok (.if_icmp .ge 7, 3) := by decide +kernel
theorem dX6_isCommit_12 : decode cX6_isCommit 12 = .ok (.iconst 1, 1) := by decide +kernel
theorem dX6_isCommit_13 : decode cX6_isCommit 13 = .ok (.goto 4, 3) := by decide +kernel
theorem dX6_isCommit_16 : decode cX6_isCommit 16 = .ok (.iconst 0, 1) := by decide +kernel
theorem dX6_isCommit_17 : decode cX6_isCommit 17 = .ok (.ireturn, 1) := by decide +kernel
set_option maxRecDepth 20000 in
theorem ggX6_checkout_X6_isCommit : GoodIn wsX6_checkout wsX6_isCommit := goodIn_r _ [8, 9, 18, 19, 20, 21, 22, 23, 24, 25, 26, 27, 28, 29, 30, 31, 32, 33, 34, 35, 36, 37, 38, 39, 40, 41, 42, 43, 44] (by decide +kernel) (by decide +kernel)
set_option maxRecDepth 20000 in
theorem gX6_checkout_X6_isCommit : GoodIn wsX6_checkout (wsV RX6 127 RX6 yX6_isCommit wsX6_isCommit) := goodIn_app (goodIn_of _ (by decide +kernel)) ggX6_checkout_X6_isCommit
set_option maxRecDepth 20000 in
theorem ggX6_checkout_X6_copy : GoodIn wsX6_checkout wsX6_copy := goodIn_r _ [13, 14, 15, 16, 17, 18, 19, 20, 21, 22, 23, 24, 25, 26, 27, 28, 29, 30, 31, 32, 33, 34, 35, 36, 37, 38, 39, 40, 41, 42, 43, 44] (by decide +kernel) (by decide +kernel)
set_option maxRecDepth 20000 in
theorem gX6_checkout_X6_copy : GoodIn wsX6_checkout (wsV RX6 78 RX6 yX6_copy wsX6_copy) := goodIn_app (goodIn_of _ (by decide +kernel)) ggX6_checkout_X6_copy
theorem dX6_checkout_0 : decode cX6_checkout 0 = .ok (.aload_n 0, 1) := by decide +kernel
theorem dX6_checkout_1 : decode cX6_checkout 1 = .ok (.aload_n 0, 1) := by decide +kernel
theorem dX6_checkout_2 : decode cX6_checkout 2 = .ok (.iload_n 1, 1) := by decide +kernel
theorem dX6_checkout_3 : decode cX6_checkout 3 = .ok (.invokevirtual 127, 3) := by decide +kernel
theorem dX6_checkout_6 : decode cX6_checkout 6 = .ok (.ifCond .eq 7, 3) := by decide +kernel
theorem dX6_checkout_9 : decode cX6_checkout 9 = .ok (.iconst 0, 1) := by decide +kernel
theorem dX6_checkout_10 : decode cX6_checkout 10 = .ok (.goto 4, 3) := by decide +kernel
theorem dX6_checkout_13 : decode cX6_checkout 13 = .ok (.iconst 1, 1) := by decide +kernel
theorem dX6_checkout_14 : decode cX6_checkout 14 = .ok (.putfield 82, 3) := by decide +kernel
theorem dX6_checkout_17 : decode cX6_checkout 17 = .ok (.aload_n 0, 1) := by decide +kernel
theorem dX6_checkout_18 : decode cX6_checkout 18 = .ok (.getfield 82, 3) := by decide +kernel
theorem dX6_checkout_21 : decode cX6_checkout 21 = .ok (.ifCond .ne 20, 3) := by decide +kernel
theorem dX6_checkout_24 : decode cX6_checkout 24 = .ok (.aload_n 0, 1) := by decide +kernel
theorem dX6_checkout_25 : decode cX6_checkout 25 = .ok (.iload_n 1, 1) := by decide +kernel
theorem dX6_checkout_26 : decode cX6_checkout 26 = .ok (.bipush 12, 2) := by decide +kernel
theorem dX6_checkout_28 : decode cX6_checkout 28 = .ok (.invokevirtual 78, 3) := by decide +kernel
theorem dX6_checkout_31 : decode cX6_checkout 31 = .ok (.aload_n 0, 1) := by decide +kernel
theorem dX6_checkout_32 : decode cX6_checkout 32 = .ok (.iload_n 1, 1) := by decide +kernel
theorem dX6_checkout_33 : decode cX6_checkout 33 = .ok (.putfield 124, 3) := by decide +kernel
theorem dX6_checkout_36 : decode cX6_checkout 36 = .ok (.aload_n 0, 1) := by decide +kernel
theorem dX6_checkout_37 : decode cX6_checkout 37 = .ok (.iconst (-1), 1) := by decide +kernel
theorem dX6_checkout_38 : decode cX6_checkout 38 = .ok (.putfield 39, 3) := by decide +kernel
theorem dX6_checkout_41 : decode cX6_checkout 41 = .ok (.return_, 1) := by decide +kernel
theorem dX6_baseOf_0 : decode cX6_baseOf 0 = .ok (.aload_n 0, 1) := by decide +kernel
theorem dX6_baseOf_1 : decode cX6_baseOf 1 = .ok (.getfield 36, 3) := by decide +kernel
theorem dX6_baseOf_4 : decode cX6_baseOf 4 = .ok (.iload_n 1, 1) := by decide +kernel
theorem dX6_baseOf_5 : decode cX6_baseOf 5 = .ok (.iaload, 1) := by decide +kernel
theorem dX6_baseOf_6 : decode cX6_baseOf 6 = .ok (.aload_n 0, 1) := by decide +kernel
theorem dX6_baseOf_7 : decode cX6_baseOf 7 = .ok (.getfield 36, 3) := by decide +kernel
theorem dX6_baseOf_10 : decode cX6_baseOf 10 = .ok (.iload_n 2, 1) := by decide +kernel
theorem dX6_baseOf_11 : decode cX6_baseOf 11 = .ok (.iaload, 1) := by decide +kernel
theorem dX6_baseOf_12 : decode cX6_baseOf 12 = .ok (.iand, 1) := by decide +kernel
theorem dX6_baseOf_13 : decode cX6_baseOf 13 = .ok (.istore_n 3, 1) := by decide +kernel
theorem dX6_baseOf_14 : decode cX6_baseOf 14 = .ok (.iconst 0, 1) := by decide +kernel
theorem dX6_baseOf_15 : decode cX6_baseOf 15 = .ok (.istore 4, 2) := by decide +kernel
theorem dX6_baseOf_17 : decode cX6_baseOf 17 = .ok (.iload 4, 2) := by decide +kernel
theorem dX6_baseOf_19 : decode cX6_baseOf 19 = .ok (.aload_n 0, 1) := by decide +kernel
end
section
theorem dX6_baseOf_20 : decode cX6_baseOf 20 = .ok (.getfield 27, 3) := by decide +kernel
theorem dX6_baseOf_23 : decode cX6_baseOf 23 = .ok (.if_icmp .ge 95, 3) := by decide +kernel
theorem dX6_baseOf_26 : decode cX6_baseOf 26 = .ok (.iload_n 3, 1) := by decide +kernel
theorem dX6_baseOf_27 : decode cX6_baseOf 27 = .ok (.iload 4, 2) := by decide +kernel
theorem dX6_baseOf_29 : decode cX6_baseOf 29 = .ok (.ishr, 1) := by decide +kernel
theorem dX6_baseOf_30 : decode cX6_baseOf 30 = .ok (.iconst 1, 1) := by decide +kernel
theorem dX6_baseOf_31 : decode cX6_baseOf 31 = .ok (.iand, 1) := by decide +kernel
theorem dX6_baseOf_32 : decode cX6_baseOf 32 = .ok (.iconst 1, 1) := by decide +kernel
theorem dX6_baseOf_33 : decode cX6_baseOf 33 = .ok (.if_icmp .ne 7, 3) := by decide +kernel
theorem dX6_baseOf_36 : decode cX6_baseOf 36 = .ok (.iconst 1, 1) := by decide +kernel
theorem dX6_baseOf_37 : decode cX6_baseOf 37 = .ok (.goto 4, 3) := by decide +kernel
theorem dX6_baseOf_40 : decode cX6_baseOf 40 = .ok (.iconst 0, 1) := by decide +kernel
theorem dX6_baseOf_41 : decode cX6_baseOf 41 = .ok (.istore 5, 2) := by decide +kernel
theorem dX6_baseOf_43 : decode cX6_baseOf 43 = .ok (.iconst 0, 1) := by decide +kernel
theorem dX6_baseOf_44 : decode cX6_baseOf 44 = .ok (.istore 6, 2) := by decide +kernel
theorem dX6_baseOf_46 : decode cX6_baseOf 46 = .ok (.iload 6, 2) := by decide +kernel
theorem dX6_baseOf_48 : decode cX6_baseOf 48 = .ok (.aload_n 0, 1) := by decide +kernel
theorem dX6_baseOf_49 : decode cX6_baseOf 49 = .ok (.getfield 27, 3) := by decide +kernel
theorem dX6_baseOf_52 : decode cX6_baseOf 52 = .ok (.if_icmp .ge 52, 3) := by decide +kernel
theorem dX6_baseOf_55 : decode cX6_baseOf 55 = .ok (.iload 5, 2) := by decide +kernel
theorem dX6_baseOf_57 : decode cX6_baseOf 57 = .ok (.ifCond .eq 38, 3) := by decide +kernel
theorem dX6_baseOf_60 : decode cX6_baseOf 60 = .ok (.iload 6, 2) := by decide +kernel
theorem dX6_baseOf_62 : decode cX6_baseOf 62 = .ok (.iload 4, 2) := by decide +kernel
theorem dX6_baseOf_64 : decode cX6_baseOf 64 = .ok (.if_icmp .eq 27, 3) := by decide +kernel
theorem dX6_baseOf_67 : decode cX6_baseOf 67 = .ok (.iload_n 3, 1) := by decide +kernel
theorem dX6_baseOf_68 : decode cX6_baseOf 68 = .ok (.iload 6, 2) := by decide +kernel
theorem dX6_baseOf_70 : decode cX6_baseOf 70 = .ok (.ishr, 1) := by decide +kernel
theorem dX6_baseOf_71 : decode cX6_baseOf 71 = .ok (.iconst 1, 1) := by decide +kernel
theorem dX6_baseOf_72 : decode cX6_baseOf 72 = .ok (.iand, 1) := by decide +kernel
theorem dX6_baseOf_73 : decode cX6_baseOf 73 = .ok (.ifCond .eq 18, 3) := by decide +kernel
theorem dX6_baseOf_76 : decode cX6_baseOf 76 = .ok (.aload_n 0, 1) := by decide +kernel
theorem dX6_baseOf_77 : decode cX6_baseOf 77 = .ok (.getfield 36, 3) := by decide +kernel
theorem dX6_baseOf_80 : decode cX6_baseOf 80 = .ok (.iload 6, 2) := by decide +kernel
theorem dX6_baseOf_82 : decode cX6_baseOf 82 = .ok (.iaload, 1) := by decide +kernel
theorem dX6_baseOf_83 : decode cX6_baseOf 83 = .ok (.iload 4, 2) := by decide +kernel
theorem dX6_baseOf_85 : decode cX6_baseOf 85 = .ok (.ishr, 1) := by decide +kernel
theorem dX6_baseOf_86 : decode cX6_baseOf 86 = .ok (.iconst 1, 1) := by decide +kernel
theorem dX6_baseOf_87 : decode cX6_baseOf 87 = .ok (.iand, 1) := by decide +kernel
theorem dX6_baseOf_88 : decode cX6_baseOf 88 = .ok (.ifCond .ne 7, 3) := by decide +kernel
theorem dX6_baseOf_91 : decode cX6_baseOf 91 = .ok (.iconst 1, 1) := by decide +kernel
theorem dX6_baseOf_92 : decode cX6_baseOf 92 = .ok (.goto 4, 3) := by decide +kernel
theorem dX6_baseOf_95 : decode cX6_baseOf 95 = .ok (.iconst 0, 1) := by decide +kernel
theorem dX6_baseOf_96 : decode cX6_baseOf 96 = .ok (.istore 5, 2) := by decide +kernel
theorem dX6_baseOf_98 : decode cX6_baseOf 98 = .ok (.iinc 6 1, 3) := by decide +kernel
theorem dX6_baseOf_101 : decode cX6_baseOf 101 = .ok (.goto (-55), 3) := by decide +kernel
theorem dX6_baseOf_104 : decode cX6_baseOf 104 = .ok (.iload 5, 2) := by decide +kernel
theorem dX6_baseOf_106 : decode cX6_baseOf 106 = .ok (.ifCond .eq 6, 3) := by decide +kernel
theorem dX6_baseOf_109 : decode cX6_baseOf 109 = .ok (.iload 4, 2) := by decide +kernel
theorem dX6_baseOf_111 : decode cX6_baseOf 111 = .ok (.ireturn, 1) := by decide +kernel
theorem dX6_baseOf_112 : decode cX6_baseOf 112 = .ok (.iinc 4 1, 3) := by decide +kernel
theorem dX6_baseOf_115 : decode cX6_baseOf 115 = .ok (.goto (-98), 3) := by decide +kernel
theorem dX6_baseOf_118 : decode cX6_baseOf 118 = .ok (.iconst (-1), 1) := by decide +kernel
theorem dX6_baseOf_119 : decode cX6_baseOf 119 = .ok (.ireturn, 1) := by decide +kernel
set_option maxRecDepth 20000 in
theorem ggX6_base_X6_isCommit : GoodIn wsX6_base wsX6_isCommit := goodIn_r _ [6, 7, 13, 14, 15, 16, 17, 18, 19, 20, 21, 22, 23, 24, 25, 26, 27, 28, 29, 30, 31, 32, 33, 34, 35, 36, 37, 38, 39] (by decide +kernel) (by decide +kernel)
set_option maxRecDepth 20000 in
theorem gX6_base_X6_isCommit : GoodIn wsX6_base (wsV RX6 127 RX6 yX6_isCommit wsX6_isCommit) := goodIn_app (goodIn_of _ (by decide +kernel)) ggX6_base_X6_isCommit
set_option maxRecDepth 20000 in
theorem ggX6_base_X6_baseOf : GoodIn wsX6_base wsX6_baseOf := goodIn_r _ [11, 12, 7, 13, 14, 15, 16, 17, 18, 19, 20, 21, 22, 23, 24, 25, 26, 27, 28, 29, 30, 31, 32, 33, 34, 35, 36, 37, 38, 39] (by decide +kernel) (by decide +kernel)
set_option maxRecDepth 20000 in
theorem gX6_base_X6_baseOf : GoodIn wsX6_base (wsV RX6 131 RX6 yX6_baseOf wsX6_baseOf) := goodIn_app (goodIn_of _ (by decide +kernel)) ggX6_base_X6_baseOf
theorem dX6_base_0 : decode cX6_base 0 = .ok (.aload_n 0, 1) := by decide +kernel
theorem dX6_base_1 : decode cX6_base 1 = .ok (.aload_n 0, 1) := by decide +kernel
theorem dX6_base_2 : decode cX6_base 2 = .ok (.iload_n 1, 1) := by decide +kernel
theorem dX6_base_3 : decode cX6_base 3 = .ok (.invokevirtual 127, 3) := by decide +kernel
theorem dX6_base_6 : decode cX6_base 6 = .ok (.ifCond .eq 15, 3) := by decide +kernel
theorem dX6_base_9 : decode cX6_base 9 = .ok (.aload_n 0, 1) := by decide +kernel
theorem dX6_base_10 : decode cX6_base 10 = .ok (.iload_n 2, 1) := by decide +kernel
theorem dX6_base_11 : decode cX6_base 11 = .ok (.invokevirtual 127, 3) := by decide +kernel
theorem dX6_base_14 : decode cX6_base 14 = .ok (.ifCond .eq 7, 3) := by decide +kernel
theorem dX6_base_17 : decode cX6_base 17 = .ok (.iconst 0, 1) := by decide +kernel
theorem dX6_base_18 : decode cX6_base 18 = .ok (.goto 4, 3) := by decide +kernel
theorem dX6_base_21 : decode cX6_base 21 = .ok (.iconst 1, 1) := by decide +kernel
theorem dX6_base_22 : decode cX6_base 22 = .ok (.putfield 82, 3) := by decide +kernel
theorem dX6_base_25 : decode cX6_base 25 = .ok (.aload_n 0, 1) := by decide +kernel
theorem dX6_base_26 : decode cX6_base 26 = .ok (.getfield 82, 3) := by decide +kernel
theorem dX6_base_29 : decode cX6_base 29 = .ok (.ifCond .ne 12, 3) := by decide +kernel
theorem dX6_base_32 : decode cX6_base 32 = .ok (.aload_n 0, 1) := by decide +kernel
theorem dX6_base_33 : decode cX6_base 33 = .ok (.iload_n 1, 1) := by decide +kernel
theorem dX6_base_34 : decode cX6_base 34 = .ok (.iload_n 2, 1) := by decide +kernel
theorem dX6_base_35 : decode cX6_base 35 = .ok (.invokevirtual 131, 3) := by decide +kernel
theorem dX6_base_38 : decode cX6_base 38 = .ok (.goto 4, 3) := by decide +kernel
theorem dX6_base_41 : decode cX6_base 41 = .ok (.iconst 0, 1) := by decide +kernel
theorem dX6_base_42 : decode cX6_base 42 = .ok (.ireturn, 1) := by decide +kernel
theorem dX6_isHeads_0 : decode cX6_isHeads 0 = .ok (.iconst 1, 1) := by decide +kernel
theorem dX6_isHeads_1 : decode cX6_isHeads 1 = .ok (.istore_n 1, 1) := by decide +kernel
theorem dX6_isHeads_2 : decode cX6_isHeads 2 = .ok (.iconst 0, 1) := by decide +kernel
theorem dX6_isHeads_3 : decode cX6_isHeads 3 = .ok (.istore_n 2, 1) := by decide +kernel
theorem dX6_isHeads_4 : decode cX6_isHeads 4 = .ok (.iload_n 2, 1) := by decide +kernel
theorem dX6_isHeads_5 : decode cX6_isHeads 5 = .ok (.bipush 24, 2) := by decide +kernel
theorem dX6_isHeads_7 : decode cX6_isHeads 7 = .ok (.if_icmp .ge 109, 3) := by decide +kernel
theorem dX6_isHeads_10 : decode cX6_isHeads 10 = .ok (.sipush 288, 3) := by decide +kernel
theorem dX6_isHeads_13 : decode cX6_isHeads 13 = .ok (.iload_n 2, 1) := by decide +kernel
theorem dX6_isHeads_14 : decode cX6_isHeads 14 = .ok (.iadd, 1) := by decide +kernel
theorem dX6_isHeads_15 : decode cX6_isHeads 15 = .ok (.istore_n 3, 1) := by decide +kernel
theorem dX6_isHeads_16 : decode cX6_isHeads 16 = .ok (.bipush 24, 2) := by decide +kernel
theorem dX6_isHeads_18 : decode cX6_isHeads 18 = .ok (.aload_n 0, 1) := by decide +kernel
theorem dX6_isHeads_19 : decode cX6_isHeads 19 = .ok (.getfield 124, 3) := by decide +kernel
theorem dX6_isHeads_22 : decode cX6_isHeads 22 = .ok (.imul, 1) := by decide +kernel
theorem dX6_isHeads_23 : decode cX6_isHeads 23 = .ok (.iload_n 2, 1) := by decide +kernel
theorem dX6_isHeads_24 : decode cX6_isHeads 24 = .ok (.iadd, 1) := by decide +kernel
theorem dX6_isHeads_25 : decode cX6_isHeads 25 = .ok (.istore 4, 2) := by decide +kernel
theorem dX6_isHeads_27 : decode cX6_isHeads 27 = .ok (.iload_n 1, 1) := by decide +kernel
theorem dX6_isHeads_28 : decode cX6_isHeads 28 = .ok (.ifCond .eq 80, 3) := by decide +kernel
theorem dX6_isHeads_31 : decode cX6_isHeads 31 = .ok (.aload_n 0, 1) := by decide +kernel
theorem dX6_isHeads_32 : decode cX6_isHeads 32 = .ok (.getfield 7, 3) := by decide +kernel
theorem dX6_isHeads_35 : decode cX6_isHeads 35 = .ok (.iload_n 3, 1) := by decide +kernel
theorem dX6_isHeads_36 : decode cX6_isHeads 36 = .ok (.baload, 1) := by decide +kernel
theorem dX6_isHeads_37 : decode cX6_isHeads 37 = .ok (.aload_n 0, 1) := by decide +kernel
theorem dX6_isHeads_38 : decode cX6_isHeads 38 = .ok (.getfield 7, 3) := by decide +kernel
theorem dX6_isHeads_41 : decode cX6_isHeads 41 = .ok (.iload 4, 2) := by decide +kernel
theorem dX6_isHeads_43 : decode cX6_isHeads 43 = .ok (.baload, 1) := by decide +kernel
theorem dX6_isHeads_44 : decode cX6_isHeads 44 = .ok (.if_icmp .ne 64, 3) := by decide +kernel
theorem dX6_isHeads_47 : decode cX6_isHeads 47 = .ok (.aload_n 0, 1) := by decide +kernel
theorem dX6_isHeads_48 : decode cX6_isHeads 48 = .ok (.getfield 7, 3) := by decide +kernel
theorem dX6_isHeads_51 : decode cX6_isHeads 51 = .ok (.iload_n 3, 1) := by decide +kernel
theorem dX6_isHeads_52 : decode cX6_isHeads 52 = .ok (.baload, 1) := by decide +kernel
theorem dX6_isHeads_53 : decode cX6_isHeads 53 = .ok (.ifCond .eq 51, 3) := by decide +kernel
theorem dX6_isHeads_56 : decode cX6_isHeads 56 = .ok (.aload_n 0, 1) := by decide +kernel
theorem dX6_isHeads_57 : decode cX6_isHeads 57 = .ok (.getfield 13, 3) := by decide +kernel
theorem dX6_isHeads_60 : decode cX6_isHeads 60 = .ok (.iload_n 3, 1) := by decide +kernel
theorem dX6_isHeads_61 : decode cX6_isHeads 61 = .ok (.iaload, 1) := by decide +kernel
theorem dX6_isHeads_62 : decode cX6_isHeads 62 = .ok (.aload_n 0, 1) := by decide +kernel
theorem dX6_isHeads_63 : decode cX6_isHeads 63 = .ok (.getfield 13, 3) := by decide +kernel
theorem dX6_isHeads_66 : decode cX6_isHeads 66 = .ok (.iload 4, 2) := by decide +kernel
theorem dX6_isHeads_68 : decode cX6_isHeads 68 = .ok (.iaload, 1) := by decide +kernel
theorem dX6_isHeads_69 : decode cX6_isHeads 69 = .ok (.if_icmp .ne 39, 3) := by decide +kernel
theorem dX6_isHeads_72 : decode cX6_isHeads 72 = .ok (.aload_n 0, 1) := by decide +kernel
theorem dX6_isHeads_73 : decode cX6_isHeads 73 = .ok (.getfield 17, 3) := by decide +kernel
theorem dX6_isHeads_76 : decode cX6_isHeads 76 = .ok (.iload_n 3, 1) := by decide +kernel
theorem dX6_isHeads_77 : decode cX6_isHeads 77 = .ok (.iaload, 1) := by decide +kernel
theorem dX6_isHeads_78 : decode cX6_isHeads 78 = .ok (.aload_n 0, 1) := by decide +kernel
theorem dX6_isHeads_79 : decode cX6_isHeads 79 = .ok (.getfield 17, 3) := by decide +kernel
theorem dX6_isHeads_82 : decode cX6_isHeads 82 = .ok (.iload 4, 2) := by decide +kernel
theorem dX6_isHeads_84 : decode cX6_isHeads 84 = .ok (.iaload, 1) := by decide +kernel
theorem dX6_isHeads_85 : decode cX6_isHeads 85 = .ok (.if_icmp .ne 23, 3) := by decide +kernel
theorem dX6_isHeads_88 : decode cX6_isHeads 88 = .ok (.aload_n 0, 1) := by decide +kernel
theorem dX6_isHeads_89 : decode cX6_isHeads 89 = .ok (.getfield 20, 3) := by decide +kernel
theorem dX6_isHeads_92 : decode cX6_isHeads 92 = .ok (.iload_n 3, 1) := by decide +kernel
theorem dX6_isHeads_93 : decode cX6_isHeads 93 = .ok (.iaload, 1) := by decide +kernel
theorem dX6_isHeads_94 : decode cX6_isHeads 94 = .ok (.aload_n 0, 1) := by decide +kernel
theorem dX6_isHeads_95 : decode cX6_isHeads 95 = .ok (.getfield 20, 3) := by decide +kernel
theorem dX6_isHeads_98 : decode cX6_isHeads 98 = .ok (.iload 4, 2) := by decide +kernel
theorem dX6_isHeads_100 : decode cX6_isHeads 100 = .ok (.iaload, 1) := by decide +kernel
theorem dX6_isHeads_101 : decode cX6_isHeads 101 = .ok (.if_icmp .ne 7, 3) := by decide +kernel
theorem dX6_isHeads_104 : decode cX6_isHeads 104 = .ok (.iconst 1, 1) := by decide +kernel
theorem dX6_isHeads_105 : decode cX6_isHeads 105 = .ok (.goto 4, 3) := by decide +kernel
theorem dX6_isHeads_108 : decode cX6_isHeads 108 = .ok (.iconst 0, 1) := by decide +kernel
theorem dX6_isHeads_109 : decode cX6_isHeads 109 = .ok (.istore_n 1, 1) := by decide +kernel
theorem dX6_isHeads_110 : decode cX6_isHeads 110 = .ok (.iinc 2 1, 3) := by decide +kernel
theorem dX6_isHeads_113 : decode cX6_isHeads 113 = .ok (.goto (-109), 3) := by decide +kernel
theorem dX6_isHeads_116 : decode cX6_isHeads 116 = .ok (.iload_n 1, 1) := by decide +kernel
theorem dX6_isHeads_117 : decode cX6_isHeads 117 = .ok (.ireturn, 1) := by decide +kernel
theorem dX6_stay_0 : decode cX6_stay 0 = .ok (.aload_n 0, 1) := by decide +kernel
theorem dX6_stay_1 : decode cX6_stay 1 = .ok (.getfield 7, 3) := by decide +kernel
theorem dX6_stay_4 : decode cX6_stay 4 = .ok (.iload_n 1, 1) := by decide +kernel
theorem dX6_stay_5 : decode cX6_stay 5 = .ok (.baload, 1) := by decide +kernel
theorem dX6_stay_6 : decode cX6_stay 6 = .ok (.ifCond .eq 14, 3) := by decide +kernel
theorem dX6_stay_9 : decode cX6_stay 9 = .ok (.aload_n 0, 1) := by decide +kernel
theorem dX6_stay_10 : decode cX6_stay 10 = .ok (.getfield 7, 3) := by decide +kernel
theorem dX6_stay_13 : decode cX6_stay 13 = .ok (.iload_n 2, 1) := by decide +kernel
theorem dX6_stay_14 : decode cX6_stay 14 = .ok (.baload, 1) := by decide +kernel
theorem dX6_stay_15 : decode cX6_stay 15 = .ok (.ifCond .eq 5, 3) := by decide +kernel
theorem dX6_stay_18 : decode cX6_stay 18 = .ok (.iconst 1, 1) := by decide +kernel
theorem dX6_stay_19 : decode cX6_stay 19 = .ok (.ireturn, 1) := by decide +kernel
theorem dX6_stay_20 : decode cX6_stay 20 = .ok (.aload_n 0, 1) := by decide +kernel
theorem dX6_stay_21 : decode cX6_stay 21 = .ok (.getfield 7, 3) := by decide +kernel
theorem dX6_stay_24 : decode cX6_stay 24 = .ok (.iload_n 1, 1) := by decide +kernel
theorem dX6_stay_25 : decode cX6_stay 25 = .ok (.baload, 1) := by decide +kernel
theorem dX6_stay_26 : decode cX6_stay 26 = .ok (.ifCond .eq 7, 3) := by decide +kernel
theorem dX6_stay_29 : decode cX6_stay 29 = .ok (.iload_n 1, 1) := by decide +kernel
theorem dX6_stay_30 : decode cX6_stay 30 = .ok (.goto 4, 3) := by decide +kernel
theorem dX6_stay_33 : decode cX6_stay 33 = .ok (.iload_n 2, 1) := by decide +kernel
theorem dX6_stay_34 : decode cX6_stay 34 = .ok (.istore 4, 2) := by decide +kernel
theorem dX6_stay_36 : decode cX6_stay 36 = .ok (.aload_n 0, 1) := by decide +kernel
theorem dX6_stay_37 : decode cX6_stay 37 = .ok (.getfield 7, 3) := by decide +kernel
theorem dX6_stay_40 : decode cX6_stay 40 = .ok (.iload 4, 2) := by decide +kernel
theorem dX6_stay_42 : decode cX6_stay 42 = .ok (.baload, 1) := by decide +kernel
theorem dX6_stay_43 : decode cX6_stay 43 = .ok (.ifCond .ne 5, 3) := by decide +kernel
theorem dX6_stay_46 : decode cX6_stay 46 = .ok (.iconst 0, 1) := by decide +kernel
theorem dX6_stay_47 : decode cX6_stay 47 = .ok (.ireturn, 1) := by decide +kernel
theorem dX6_stay_48 : decode cX6_stay 48 = .ok (.aload_n 0, 1) := by decide +kernel
theorem dX6_stay_49 : decode cX6_stay 49 = .ok (.getfield 7, 3) := by decide +kernel
theorem dX6_stay_52 : decode cX6_stay 52 = .ok (.iload_n 3, 1) := by decide +kernel
theorem dX6_stay_53 : decode cX6_stay 53 = .ok (.baload, 1) := by decide +kernel
theorem dX6_stay_54 : decode cX6_stay 54 = .ok (.ifCond .ne 5, 3) := by decide +kernel
theorem dX6_stay_57 : decode cX6_stay 57 = .ok (.iconst 1, 1) := by decide +kernel
theorem dX6_stay_58 : decode cX6_stay 58 = .ok (.ireturn, 1) := by decide +kernel
theorem dX6_stay_59 : decode cX6_stay 59 = .ok (.aload_n 0, 1) := by decide +kernel
theorem dX6_stay_60 : decode cX6_stay 60 = .ok (.getfield 13, 3) := by decide +kernel
theorem dX6_stay_63 : decode cX6_stay 63 = .ok (.iload_n 3, 1) := by decide +kernel
theorem dX6_stay_64 : decode cX6_stay 64 = .ok (.iaload, 1) := by decide +kernel
theorem dX6_stay_65 : decode cX6_stay 65 = .ok (.aload_n 0, 1) := by decide +kernel
theorem dX6_stay_66 : decode cX6_stay 66 = .ok (.getfield 13, 3) := by decide +kernel
theorem dX6_stay_69 : decode cX6_stay 69 = .ok (.iload 4, 2) := by decide +kernel
theorem dX6_stay_71 : decode cX6_stay 71 = .ok (.iaload, 1) := by decide +kernel
theorem dX6_stay_72 : decode cX6_stay 72 = .ok (.if_icmp .ne 23, 3) := by decide +kernel
theorem dX6_stay_75 : decode cX6_stay 75 = .ok (.aload_n 0, 1) := by decide +kernel
theorem dX6_stay_76 : decode cX6_stay 76 = .ok (.getfield 17, 3) := by decide +kernel
theorem dX6_stay_79 : decode cX6_stay 79 = .ok (.iload_n 3, 1) := by decide +kernel
theorem dX6_stay_80 : decode cX6_stay 80 = .ok (.iaload, 1) := by decide +kernel
theorem dX6_stay_81 : decode cX6_stay 81 = .ok (.aload_n 0, 1) := by decide +kernel
theorem dX6_stay_82 : decode cX6_stay 82 = .ok (.getfield 17, 3) := by decide +kernel
theorem dX6_stay_85 : decode cX6_stay 85 = .ok (.iload 4, 2) := by decide +kernel
theorem dX6_stay_87 : decode cX6_stay 87 = .ok (.iaload, 1) := by decide +kernel
theorem dX6_stay_88 : decode cX6_stay 88 = .ok (.if_icmp .ne 7, 3) := by decide +kernel
theorem dX6_stay_91 : decode cX6_stay 91 = .ok (.iconst 0, 1) := by decide +kernel
theorem dX6_stay_92 : decode cX6_stay 92 = .ok (.goto 4, 3) := by decide +kernel
theorem dX6_stay_95 : decode cX6_stay 95 = .ok (.iconst 2, 1) := by decide +kernel
theorem dX6_stay_96 : decode cX6_stay 96 = .ok (.ireturn, 1) := by decide +kernel
theorem dX6_choose_0 : decode cX6_choose 0 = .ok (.iload_n 0, 1) := by decide +kernel
theorem dX6_choose_1 : decode cX6_choose 1 = .ok (.iload_n 1, 1) := by decide +kernel
theorem dX6_choose_2 : decode cX6_choose 2 = .ok (.if_icmp .ne 7, 3) := by decide +kernel
theorem dX6_choose_5 : decode cX6_choose 5 = .ok (.iload_n 0, 1) := by decide +kernel
theorem dX6_choose_6 : decode cX6_choose 6 = .ok (.goto 31, 3) := by decide +kernel
theorem dX6_choose_9 : decode cX6_choose 9 = .ok (.iload_n 2, 1) := by decide +kernel
theorem dX6_choose_10 : decode cX6_choose 10 = .ok (.ifCond .eq 12, 3) := by decide +kernel
theorem dX6_choose_13 : decode cX6_choose 13 = .ok (.iload_n 3, 1) := by decide +kernel
theorem dX6_choose_14 : decode cX6_choose 14 = .ok (.iload_n 0, 1) := by decide +kernel
theorem dX6_choose_15 : decode cX6_choose 15 = .ok (.if_icmp .ne 7, 3) := by decide +kernel
theorem dX6_choose_18 : decode cX6_choose 18 = .ok (.iload_n 1, 1) := by decide +kernel
theorem dX6_choose_19 : decode cX6_choose 19 = .ok (.goto 18, 3) := by decide +kernel
theorem dX6_choose_22 : decode cX6_choose 22 = .ok (.iload_n 2, 1) := by decide +kernel
theorem dX6_choose_23 : decode cX6_choose 23 = .ok (.ifCond .eq 12, 3) := by decide +kernel
theorem dX6_choose_26 : decode cX6_choose 26 = .ok (.iload_n 3, 1) := by decide +kernel
theorem dX6_choose_27 : decode cX6_choose 27 = .ok (.iload_n 1, 1) := by decide +kernel
theorem dX6_choose_28 : decode cX6_choose 28 = .ok (.if_icmp .ne 7, 3) := by decide +kernel
theorem dX6_choose_31 : decode cX6_choose 31 = .ok (.iload_n 0, 1) := by decide +kernel
theorem dX6_choose_32 : decode cX6_choose 32 = .ok (.goto 5, 3) := by decide +kernel
theorem dX6_choose_35 : decode cX6_choose 35 = .ok (.bipush (-9), 2) := by decide +kernel
theorem dX6_choose_37 : decode cX6_choose 37 = .ok (.ireturn, 1) := by decide +kernel
set_option maxRecDepth 20000 in
theorem ggX6_meet_X6_stay : GoodIn wsX6_meet wsX6_stay := goodIn_r _ [13, 4, 6, 8, 17, 18, 19, 20, 21, 22, 23, 24, 25, 26, 27, 28, 29, 30, 31, 32, 33, 34, 35, 36, 37, 38, 39, 40, 41, 42, 43] (by decide +kernel) (by decide +kernel)
set_option maxRecDepth 20000 in
theorem gX6_meet_X6_stay : GoodIn wsX6_meet (wsV RX6 134 RX6 yX6_stay wsX6_stay) := goodIn_app (goodIn_of _ (by decide +kernel)) ggX6_meet_X6_stay
set_option maxRecDepth 20000 in
theorem ggX6_meet_X6_choose : GoodIn wsX6_meet wsX6_choose := goodIn_r _ [16] (by decide +kernel) (by decide +kernel)
set_option maxRecDepth 20000 in
theorem gX6_meet_X6_choose : GoodIn wsX6_meet (va_wsS RX6 137 yX6_choose wsX6_choose) := goodIn_app (goodIn_of _ (by decide +kernel)) ggX6_meet_X6_choose
theorem dX6_meet_0 : decode cX6_meet 0 = .ok (.bipush 24, 2) := by decide +kernel
theorem dX6_meet_2 : decode cX6_meet 2 = .ok (.aload_n 0, 1) := by decide +kernel
theorem dX6_meet_3 : decode cX6_meet 3 = .ok (.getfield 124, 3) := by decide +kernel
theorem dX6_meet_6 : decode cX6_meet 6 = .ok (.imul, 1) := by decide +kernel
theorem dX6_meet_7 : decode cX6_meet 7 = .ok (.iload_n 1, 1) := by decide +kernel
theorem dX6_meet_8 : decode cX6_meet 8 = .ok (.iadd, 1) := by decide +kernel
theorem dX6_meet_9 : decode cX6_meet 9 = .ok (.istore 4, 2) := by decide +kernel
theorem dX6_meet_11 : decode cX6_meet 11 = .ok (.bipush 24, 2) := by decide +kernel
theorem dX6_meet_13 : decode cX6_meet 13 = .ok (.iload_n 2, 1) := by decide +kernel
theorem dX6_meet_14 : decode cX6_meet 14 = .ok (.imul, 1) := by decide +kernel
theorem dX6_meet_15 : decode cX6_meet 15 = .ok (.iload_n 1, 1) := by decide +kernel
theorem dX6_meet_16 : decode cX6_meet 16 = .ok (.iadd, 1) := by decide +kernel
theorem dX6_meet_17 : decode cX6_meet 17 = .ok (.istore 5, 2) := by decide +kernel
theorem dX6_meet_19 : decode cX6_meet 19 = .ok (.bipush 24, 2) := by decide +kernel
theorem dX6_meet_21 : decode cX6_meet 21 = .ok (.iload_n 3, 1) := by decide +kernel
theorem dX6_meet_22 : decode cX6_meet 22 = .ok (.imul, 1) := by decide +kernel
theorem dX6_meet_23 : decode cX6_meet 23 = .ok (.iload_n 1, 1) := by decide +kernel
theorem dX6_meet_24 : decode cX6_meet 24 = .ok (.iadd, 1) := by decide +kernel
theorem dX6_meet_25 : decode cX6_meet 25 = .ok (.istore 6, 2) := by decide +kernel
theorem dX6_meet_27 : decode cX6_meet 27 = .ok (.aload_n 0, 1) := by decide +kernel
theorem dX6_meet_28 : decode cX6_meet 28 = .ok (.iload 4, 2) := by decide +kernel
theorem dX6_meet_30 : decode cX6_meet 30 = .ok (.iload 5, 2) := by decide +kernel
theorem dX6_meet_32 : decode cX6_meet 32 = .ok (.iload 6, 2) := by decide +kernel
theorem dX6_meet_34 : decode cX6_meet 34 = .ok (.invokevirtual 134, 3) := by decide +kernel
theorem dX6_meet_37 : decode cX6_meet 37 = .ok (.istore 7, 2) := by decide +kernel
theorem dX6_meet_39 : decode cX6_meet 39 = .ok (.aload_n 0, 1) := by decide +kernel
theorem dX6_meet_40 : decode cX6_meet 40 = .ok (.getfield 45, 3) := by decide +kernel
theorem dX6_meet_43 : decode cX6_meet 43 = .ok (.iload_n 1, 1) := by decide +kernel
theorem dX6_meet_44 : decode cX6_meet 44 = .ok (.iload 7, 2) := by decide +kernel
theorem dX6_meet_46 : decode cX6_meet 46 = .ok (.ifCond .le 7, 3) := by decide +kernel
theorem dX6_meet_49 : decode cX6_meet 49 = .ok (.iconst 1, 1) := by decide +kernel
theorem dX6_meet_50 : decode cX6_meet 50 = .ok (.goto 4, 3) := by decide +kernel
theorem dX6_meet_53 : decode cX6_meet 53 = .ok (.iconst 0, 1) := by decide +kernel
theorem dX6_meet_54 : decode cX6_meet 54 = .ok (.bastore, 1) := by decide +kernel
theorem dX6_meet_55 : decode cX6_meet 55 = .ok (.aload_n 0, 1) := by decide +kernel
theorem dX6_meet_56 : decode cX6_meet 56 = .ok (.getfield 48, 3) := by decide +kernel
theorem dX6_meet_59 : decode cX6_meet 59 = .ok (.iload_n 1, 1) := by decide +kernel
theorem dX6_meet_60 : decode cX6_meet 60 = .ok (.iload 7, 2) := by decide +kernel
theorem dX6_meet_62 : decode cX6_meet 62 = .ok (.iconst 2, 1) := by decide +kernel
theorem dX6_meet_63 : decode cX6_meet 63 = .ok (.if_icmp .ne 7, 3) := by decide +kernel
theorem dX6_meet_66 : decode cX6_meet 66 = .ok (.iconst 1, 1) := by decide +kernel
theorem dX6_meet_67 : decode cX6_meet 67 = .ok (.goto 4, 3) := by decide +kernel
theorem dX6_meet_70 : decode cX6_meet 70 = .ok (.iconst 0, 1) := by decide +kernel
theorem dX6_meet_71 : decode cX6_meet 71 = .ok (.iastore, 1) := by decide +kernel
theorem dX6_meet_72 : decode cX6_meet 72 = .ok (.iload 7, 2) := by decide +kernel
theorem dX6_meet_74 : decode cX6_meet 74 = .ok (.ifCond .ne 4, 3) := by decide +kernel
theorem dX6_meet_77 : decode cX6_meet 77 = .ok (.return_, 1) := by decide +kernel
theorem dX6_meet_78 : decode cX6_meet 78 = .ok (.aload_n 0, 1) := by decide +kernel
theorem dX6_meet_79 : decode cX6_meet 79 = .ok (.getfield 7, 3) := by decide +kernel
theorem dX6_meet_82 : decode cX6_meet 82 = .ok (.iload 4, 2) := by decide +kernel
theorem dX6_meet_84 : decode cX6_meet 84 = .ok (.baload, 1) := by decide +kernel
theorem dX6_meet_85 : decode cX6_meet 85 = .ok (.ifCond .eq 8, 3) := by decide +kernel
theorem dX6_meet_88 : decode cX6_meet 88 = .ok (.iload 4, 2) := by decide +kernel
theorem dX6_meet_90 : decode cX6_meet 90 = .ok (.goto 5, 3) := by decide +kernel
theorem dX6_meet_93 : decode cX6_meet 93 = .ok (.iload 5, 2) := by decide +kernel
theorem dX6_meet_95 : decode cX6_meet 95 = .ok (.istore 8, 2) := by decide +kernel
theorem dX6_meet_97 : decode cX6_meet 97 = .ok (.aload_n 0, 1) := by decide +kernel
theorem dX6_meet_98 : decode cX6_meet 98 = .ok (.getfield 7, 3) := by decide +kernel
theorem dX6_meet_101 : decode cX6_meet 101 = .ok (.iload 4, 2) := by decide +kernel
theorem dX6_meet_103 : decode cX6_meet 103 = .ok (.baload, 1) := by decide +kernel
theorem dX6_meet_104 : decode cX6_meet 104 = .ok (.ifCond .eq 17, 3) := by decide +kernel
theorem dX6_meet_107 : decode cX6_meet 107 = .ok (.aload_n 0, 1) := by decide +kernel
theorem dX6_meet_108 : decode cX6_meet 108 = .ok (.getfield 7, 3) := by decide +kernel
theorem dX6_meet_111 : decode cX6_meet 111 = .ok (.iload 5, 2) := by decide +kernel
theorem dX6_meet_113 : decode cX6_meet 113 = .ok (.baload, 1) := by decide +kernel
theorem dX6_meet_114 : decode cX6_meet 114 = .ok (.ifCond .eq 7, 3) := by decide +kernel
theorem dX6_meet_117 : decode cX6_meet 117 = .ok (.iconst 1, 1) := by decide +kernel
theorem dX6_meet_118 : decode cX6_meet 118 = .ok (.goto 4, 3) := by decide +kernel
theorem dX6_meet_121 : decode cX6_meet 121 = .ok (.iconst 0, 1) := by decide +kernel
theorem dX6_meet_122 : decode cX6_meet 122 = .ok (.istore 9, 2) := by decide +kernel
theorem dX6_meet_124 : decode cX6_meet 124 = .ok (.aload_n 0, 1) := by decide +kernel
theorem dX6_meet_125 : decode cX6_meet 125 = .ok (.getfield 51, 3) := by decide +kernel
theorem dX6_meet_128 : decode cX6_meet 128 = .ok (.iload_n 1, 1) := by decide +kernel
theorem dX6_meet_129 : decode cX6_meet 129 = .ok (.iload 9, 2) := by decide +kernel
theorem dX6_meet_131 : decode cX6_meet 131 = .ok (.ifCond .eq 37, 3) := by decide +kernel
theorem dX6_meet_134 : decode cX6_meet 134 = .ok (.aload_n 0, 1) := by decide +kernel
theorem dX6_meet_135 : decode cX6_meet 135 = .ok (.getfield 13, 3) := by decide +kernel
theorem dX6_meet_138 : decode cX6_meet 138 = .ok (.iload 4, 2) := by decide +kernel
theorem dX6_meet_140 : decode cX6_meet 140 = .ok (.iaload, 1) := by decide +kernel
theorem dX6_meet_141 : decode cX6_meet 141 = .ok (.aload_n 0, 1) := by decide +kernel
theorem dX6_meet_142 : decode cX6_meet 142 = .ok (.getfield 13, 3) := by decide +kernel
theorem dX6_meet_145 : decode cX6_meet 145 = .ok (.iload 5, 2) := by decide +kernel
theorem dX6_meet_147 : decode cX6_meet 147 = .ok (.iaload, 1) := by decide +kernel
theorem dX6_meet_148 : decode cX6_meet 148 = .ok (.aload_n 0, 1) := by decide +kernel
theorem dX6_meet_149 : decode cX6_meet 149 = .ok (.getfield 7, 3) := by decide +kernel
theorem dX6_meet_152 : decode cX6_meet 152 = .ok (.iload 6, 2) := by decide +kernel
theorem dX6_meet_154 : decode cX6_meet 154 = .ok (.baload, 1) := by decide +kernel
theorem dX6_meet_155 : decode cX6_meet 155 = .ok (.aload_n 0, 1) := by decide +kernel
theorem dX6_meet_156 : decode cX6_meet 156 = .ok (.getfield 13, 3) := by decide +kernel
theorem dX6_meet_159 : decode cX6_meet 159 = .ok (.iload 6, 2) := by decide +kernel
theorem dX6_meet_161 : decode cX6_meet 161 = .ok (.iaload, 1) := by decide +kernel
theorem dX6_meet_162 : decode cX6_meet 162 = .ok (.invokestatic 137, 3) := by decide +kernel
theorem dX6_meet_165 : decode cX6_meet 165 = .ok (.goto 10, 3) := by decide +kernel
theorem dX6_meet_168 : decode cX6_meet 168 = .ok (.aload_n 0, 1) := by decide +kernel
theorem dX6_meet_169 : decode cX6_meet 169 = .ok (.getfield 13, 3) := by decide +kernel
theorem dX6_meet_172 : decode cX6_meet 172 = .ok (.iload 8, 2) := by decide +kernel
theorem dX6_meet_174 : decode cX6_meet 174 = .ok (.iaload, 1) := by decide +kernel
theorem dX6_meet_175 : decode cX6_meet 175 = .ok (.iastore, 1) := by decide +kernel
theorem dX6_meet_176 : decode cX6_meet 176 = .ok (.aload_n 0, 1) := by decide +kernel
theorem dX6_meet_177 : decode cX6_meet 177 = .ok (.getfield 54, 3) := by decide +kernel
theorem dX6_meet_180 : decode cX6_meet 180 = .ok (.iload_n 1, 1) := by decide +kernel
theorem dX6_meet_181 : decode cX6_meet 181 = .ok (.iload 9, 2) := by decide +kernel
theorem dX6_meet_183 : decode cX6_meet 183 = .ok (.ifCond .eq 37, 3) := by decide +kernel
theorem dX6_meet_186 : decode cX6_meet 186 = .ok (.aload_n 0, 1) := by decide +kernel
theorem dX6_meet_187 : decode cX6_meet 187 = .ok (.getfield 17, 3) := by decide +kernel
theorem dX6_meet_190 : decode cX6_meet 190 = .ok (.iload 4, 2) := by decide +kernel
theorem dX6_meet_192 : decode cX6_meet 192 = .ok (.iaload, 1) := by decide +kernel
theorem dX6_meet_193 : decode cX6_meet 193 = .ok (.aload_n 0, 1) := by decide +kernel
theorem dX6_meet_194 : decode cX6_meet 194 = .ok (.getfield 17, 3) := by decide +kernel
theorem dX6_meet_197 : decode cX6_meet 197 = .ok (.iload 5, 2) := by decide +kernel
theorem dX6_meet_199 : decode cX6_meet 199 = .ok (.iaload, 1) := by decide +kernel
theorem dX6_meet_200 : decode cX6_meet 200 = .ok (.aload_n 0, 1) := by decide +kernel
theorem dX6_meet_201 : decode cX6_meet 201 = .ok (.getfield 7, 3) := by decide +kernel
theorem dX6_meet_204 : decode cX6_meet 204 = .ok (.iload 6, 2) := by decide +kernel
theorem dX6_meet_206 : decode cX6_meet 206 = .ok (.baload, 1) := by decide +kernel
theorem dX6_meet_207 : decode cX6_meet 207 = .ok (.aload_n 0, 1) := by decide +kernel
theorem dX6_meet_208 : decode cX6_meet 208 = .ok (.getfield 17, 3) := by decide +kernel
theorem dX6_meet_211 : decode cX6_meet 211 = .ok (.iload 6, 2) := by decide +kernel
theorem dX6_meet_213 : decode cX6_meet 213 = .ok (.iaload, 1) := by decide +kernel
theorem dX6_meet_214 : decode cX6_meet 214 = .ok (.invokestatic 137, 3) := by decide +kernel
theorem dX6_meet_217 : decode cX6_meet 217 = .ok (.goto 10, 3) := by decide +kernel
theorem dX6_meet_220 : decode cX6_meet 220 = .ok (.aload_n 0, 1) := by decide +kernel
theorem dX6_meet_221 : decode cX6_meet 221 = .ok (.getfield 17, 3) := by decide +kernel
theorem dX6_meet_224 : decode cX6_meet 224 = .ok (.iload 8, 2) := by decide +kernel
theorem dX6_meet_226 : decode cX6_meet 226 = .ok (.iaload, 1) := by decide +kernel
theorem dX6_meet_227 : decode cX6_meet 227 = .ok (.iastore, 1) := by decide +kernel
theorem dX6_meet_228 : decode cX6_meet 228 = .ok (.aload_n 0, 1) := by decide +kernel
theorem dX6_meet_229 : decode cX6_meet 229 = .ok (.getfield 48, 3) := by decide +kernel
theorem dX6_meet_232 : decode cX6_meet 232 = .ok (.iload_n 1, 1) := by decide +kernel
theorem dX6_meet_233 : decode cX6_meet 233 = .ok (.iaload, 1) := by decide +kernel
theorem dX6_meet_234 : decode cX6_meet 234 = .ok (.ifCond .ne 40, 3) := by decide +kernel
theorem dX6_meet_237 : decode cX6_meet 237 = .ok (.aload_n 0, 1) := by decide +kernel
theorem dX6_meet_238 : decode cX6_meet 238 = .ok (.getfield 48, 3) := by decide +kernel
theorem dX6_meet_241 : decode cX6_meet 241 = .ok (.iload_n 1, 1) := by decide +kernel
theorem dX6_meet_242 : decode cX6_meet 242 = .ok (.aload_n 0, 1) := by decide +kernel
theorem dX6_meet_243 : decode cX6_meet 243 = .ok (.getfield 51, 3) := by decide +kernel
theorem dX6_meet_246 : decode cX6_meet 246 = .ok (.iload_n 1, 1) := by decide +kernel
theorem dX6_meet_247 : decode cX6_meet 247 = .ok (.iaload, 1) := by decide +kernel
theorem dX6_meet_248 : decode cX6_meet 248 = .ok (.bipush (-9), 2) := by decide +kernel
theorem dX6_meet_250 : decode cX6_meet 250 = .ok (.if_icmp .ne 7, 3) := by decide +kernel
theorem dX6_meet_253 : decode cX6_meet 253 = .ok (.iconst 2, 1) := by decide +kernel
theorem dX6_meet_254 : decode cX6_meet 254 = .ok (.goto 19, 3) := by decide +kernel
theorem dX6_meet_257 : decode cX6_meet 257 = .ok (.aload_n 0, 1) := by decide +kernel
theorem dX6_meet_258 : decode cX6_meet 258 = .ok (.getfield 54, 3) := by decide +kernel
theorem dX6_meet_261 : decode cX6_meet 261 = .ok (.iload_n 1, 1) := by decide +kernel
theorem dX6_meet_262 : decode cX6_meet 262 = .ok (.iaload, 1) := by decide +kernel
theorem dX6_meet_263 : decode cX6_meet 263 = .ok (.bipush (-9), 2) := by decide +kernel
theorem dX6_meet_265 : decode cX6_meet 265 = .ok (.if_icmp .ne 7, 3) := by decide +kernel
theorem dX6_meet_268 : decode cX6_meet 268 = .ok (.iconst 3, 1) := by decide +kernel
theorem dX6_meet_269 : decode cX6_meet 269 = .ok (.goto 4, 3) := by decide +kernel
theorem dX6_meet_272 : decode cX6_meet 272 = .ok (.iconst 0, 1) := by decide +kernel
theorem dX6_meet_273 : decode cX6_meet 273 = .ok (.iastore, 1) := by decide +kernel
theorem dX6_meet_274 : decode cX6_meet 274 = .ok (.return_, 1) := by decide +kernel
theorem dX6_countKinds_0 : decode cX6_countKinds 0 = .ok (.iconst 0, 1) := by decide +kernel
theorem dX6_countKinds_1 : decode cX6_countKinds 1 = .ok (.istore_n 1, 1) := by decide +kernel
theorem dX6_countKinds_2 : decode cX6_countKinds 2 = .ok (.iconst 0, 1) := by decide +kernel
theorem dX6_countKinds_3 : decode cX6_countKinds 3 = .ok (.istore_n 2, 1) := by decide +kernel
theorem dX6_countKinds_4 : decode cX6_countKinds 4 = .ok (.iload_n 2, 1) := by decide +kernel
theorem dX6_countKinds_5 : decode cX6_countKinds 5 = .ok (.bipush 24, 2) := by decide +kernel
theorem dX6_countKinds_7 : decode cX6_countKinds 7 = .ok (.if_icmp .ge 26, 3) := by decide +kernel
theorem dX6_countKinds_10 : decode cX6_countKinds 10 = .ok (.aload_n 0, 1) := by decide +kernel
theorem dX6_countKinds_11 : decode cX6_countKinds 11 = .ok (.getfield 48, 3) := by decide +kernel
theorem dX6_countKinds_14 : decode cX6_countKinds 14 = .ok (.iload_n 2, 1) := by decide +kernel
theorem dX6_countKinds_15 : decode cX6_countKinds 15 = .ok (.iaload, 1) := by decide +kernel
theorem dX6_countKinds_16 : decode cX6_countKinds 16 = .ok (.ifCond .le 9, 3) := by decide +kernel
theorem dX6_countKinds_19 : decode cX6_countKinds 19 = .ok (.iload_n 1, 1) := by decide +kernel
theorem dX6_countKinds_20 : decode cX6_countKinds 20 = .ok (.iconst 1, 1) := by decide +kernel
theorem dX6_countKinds_21 : decode cX6_countKinds 21 = .ok (.iadd, 1) := by decide +kernel
theorem dX6_countKinds_22 : decode cX6_countKinds 22 = .ok (.goto 4, 3) := by decide +kernel
theorem dX6_countKinds_25 : decode cX6_countKinds 25 = .ok (.iload_n 1, 1) := by decide +kernel
theorem dX6_countKinds_26 : decode cX6_countKinds 26 = .ok (.istore_n 1, 1) := by decide +kernel
theorem dX6_countKinds_27 : decode cX6_countKinds 27 = .ok (.iinc 2 1, 3) := by decide +kernel
theorem dX6_countKinds_30 : decode cX6_countKinds 30 = .ok (.goto (-26), 3) := by decide +kernel
theorem dX6_countKinds_33 : decode cX6_countKinds 33 = .ok (.iload_n 1, 1) := by decide +kernel
theorem dX6_countKinds_34 : decode cX6_countKinds 34 = .ok (.ireturn, 1) := by decide +kernel
theorem dX6_comes_0 : decode cX6_comes 0 = .ok (.iload_n 1, 1) := by decide +kernel
theorem dX6_comes_1 : decode cX6_comes 1 = .ok (.istore_n 2, 1) := by decide +kernel
theorem dX6_comes_2 : decode cX6_comes 2 = .ok (.iconst 0, 1) := by decide +kernel
theorem dX6_comes_3 : decode cX6_comes 3 = .ok (.istore_n 3, 1) := by decide +kernel
theorem dX6_comes_4 : decode cX6_comes 4 = .ok (.iload_n 3, 1) := by decide +kernel
theorem dX6_comes_5 : decode cX6_comes 5 = .ok (.bipush 24, 2) := by decide +kernel
theorem dX6_comes_7 : decode cX6_comes 7 = .ok (.if_icmp .ge 20, 3) := by decide +kernel
theorem dX6_comes_10 : decode cX6_comes 10 = .ok (.iload_n 2, 1) := by decide +kernel
theorem dX6_comes_11 : decode cX6_comes 11 = .ok (.ifCond .le 16, 3) := by decide +kernel
theorem dX6_comes_14 : decode cX6_comes 14 = .ok (.aload_n 0, 1) := by decide +kernel
theorem dX6_comes_15 : decode cX6_comes 15 = .ok (.getfield 54, 3) := by decide +kernel
theorem dX6_comes_18 : decode cX6_comes 18 = .ok (.iload_n 2, 1) := by decide +kernel
theorem dX6_comes_19 : decode cX6_comes 19 = .ok (.iaload, 1) := by decide +kernel
theorem dX6_comes_20 : decode cX6_comes 20 = .ok (.istore_n 2, 1) := by decide +kernel
theorem dX6_comes_21 : decode cX6_comes 21 = .ok (.iinc 3 1, 3) := by decide +kernel
theorem dX6_comes_24 : decode cX6_comes 24 = .ok (.goto (-20), 3) := by decide +kernel
theorem dX6_comes_27 : decode cX6_comes 27 = .ok (.iload_n 2, 1) := by decide +kernel
theorem dX6_comes_28 : decode cX6_comes 28 = .ok (.ifCond .ne 7, 3) := by decide +kernel
theorem dX6_comes_31 : decode cX6_comes 31 = .ok (.iconst 1, 1) := by decide +kernel
theorem dX6_comes_32 : decode cX6_comes 32 = .ok (.goto 4, 3) := by decide +kernel
theorem dX6_comes_35 : decode cX6_comes 35 = .ok (.iconst 0, 1) := by decide +kernel
theorem dX6_comes_36 : decode cX6_comes 36 = .ok (.ireturn, 1) := by decide +kernel
theorem dX6_findOrphans_0 : decode cX6_findOrphans 0 = .ok (.iconst 1, 1) := by decide +kernel
theorem dX6_findOrphans_1 : decode cX6_findOrphans 1 = .ok (.istore_n 1, 1) := by decide +kernel
theorem dX6_findOrphans_2 : decode cX6_findOrphans 2 = .ok (.iload_n 1, 1) := by decide +kernel
theorem dX6_findOrphans_3 : decode cX6_findOrphans 3 = .ok (.bipush 24, 2) := by decide +kernel
theorem dX6_findOrphans_5 : decode cX6_findOrphans 5 = .ok (.if_icmp .ge 48, 3) := by decide +kernel
theorem dX6_findOrphans_8 : decode cX6_findOrphans 8 = .ok (.aload_n 0, 1) := by decide +kernel
theorem dX6_findOrphans_9 : decode cX6_findOrphans 9 = .ok (.getfield 48, 3) := by decide +kernel
theorem dX6_findOrphans_12 : decode cX6_findOrphans 12 = .ok (.iload_n 1, 1) := by decide +kernel
theorem dX6_findOrphans_13 : decode cX6_findOrphans 13 = .ok (.aload_n 0, 1) := by decide +kernel
theorem dX6_findOrphans_14 : decode cX6_findOrphans 14 = .ok (.getfield 45, 3) := by decide +kernel
theorem dX6_findOrphans_17 : decode cX6_findOrphans 17 = .ok (.iload_n 1, 1) := by decide +kernel
theorem dX6_findOrphans_18 : decode cX6_findOrphans 18 = .ok (.baload, 1) := by decide +kernel
theorem dX6_findOrphans_19 : decode cX6_findOrphans 19 = .ok (.ifCond .eq 21, 3) := by decide +kernel
theorem dX6_findOrphans_22 : decode cX6_findOrphans 22 = .ok (.aload_n 0, 1) := by decide +kernel
theorem dX6_findOrphans_23 : decode cX6_findOrphans 23 = .ok (.getfield 45, 3) := by decide +kernel
theorem dX6_findOrphans_26 : decode cX6_findOrphans 26 = .ok (.aload_n 0, 1) := by decide +kernel
theorem dX6_findOrphans_27 : decode cX6_findOrphans 27 = .ok (.getfield 54, 3) := by decide +kernel
theorem dX6_findOrphans_30 : decode cX6_findOrphans 30 = .ok (.iload_n 1, 1) := by decide +kernel
theorem dX6_findOrphans_31 : decode cX6_findOrphans 31 = .ok (.iaload, 1) := by decide +kernel
theorem dX6_findOrphans_32 : decode cX6_findOrphans 32 = .ok (.baload, 1) := by decide +kernel
theorem dX6_findOrphans_33 : decode cX6_findOrphans 33 = .ok (.ifCond .ne 7, 3) := by decide +kernel
theorem dX6_findOrphans_36 : decode cX6_findOrphans 36 = .ok (.iconst 4, 1) := by decide +kernel
theorem dX6_findOrphans_37 : decode cX6_findOrphans 37 = .ok (.goto 9, 3) := by decide +kernel
theorem dX6_findOrphans_40 : decode cX6_findOrphans 40 = .ok (.aload_n 0, 1) := by decide +kernel
theorem dX6_findOrphans_41 : decode cX6_findOrphans 41 = .ok (.getfield 48, 3) := by decide +kernel
theorem dX6_findOrphans_44 : decode cX6_findOrphans 44 = .ok (.iload_n 1, 1) := by decide +kernel
theorem dX6_findOrphans_45 : decode cX6_findOrphans 45 = .ok (.iaload, 1) := by decide +kernel
theorem dX6_findOrphans_46 : decode cX6_findOrphans 46 = .ok (.iastore, 1) := by decide +kernel
theorem dX6_findOrphans_47 : decode cX6_findOrphans 47 = .ok (.iinc 1 1, 3) := by decide +kernel
theorem dX6_findOrphans_50 : decode cX6_findOrphans 50 = .ok (.goto (-48), 3) := by decide +kernel
theorem dX6_findOrphans_53 : decode cX6_findOrphans 53 = .ok (.return_, 1) := by decide +kernel
set_option maxRecDepth 20000 in
theorem ggX6_findRings_X6_comes : GoodIn wsX6_findRings wsX6_comes := goodIn_r _ [7, 8, 9, 10, 11, 12, 13, 14, 15, 16, 17, 18, 19, 20, 21, 22, 23, 24, 25, 26, 27, 28, 29, 30, 31, 32, 33, 34, 35] (by decide +kernel) (by decide +kernel)
set_option maxRecDepth 20000 in
theorem gX6_findRings_X6_comes : GoodIn wsX6_findRings (wsV RX6 141 RX6 yX6_comes wsX6_comes) := goodIn_app (goodIn_of _ (by decide +kernel)) ggX6_findRings_X6_comes
theorem dX6_findRings_0 : decode cX6_findRings 0 = .ok (.iconst 1, 1) := by decide +kernel
theorem dX6_findRings_1 : decode cX6_findRings 1 = .ok (.istore_n 1, 1) := by decide +kernel
theorem dX6_findRings_2 : decode cX6_findRings 2 = .ok (.iload_n 1, 1) := by decide +kernel
theorem dX6_findRings_3 : decode cX6_findRings 3 = .ok (.bipush 24, 2) := by decide +kernel
theorem dX6_findRings_5 : decode cX6_findRings 5 = .ok (.if_icmp .ge 42, 3) := by decide +kernel
theorem dX6_findRings_8 : decode cX6_findRings 8 = .ok (.aload_n 0, 1) := by decide +kernel
theorem dX6_findRings_9 : decode cX6_findRings 9 = .ok (.getfield 48, 3) := by decide +kernel
theorem dX6_findRings_12 : decode cX6_findRings 12 = .ok (.iload_n 1, 1) := by decide +kernel
theorem dX6_findRings_13 : decode cX6_findRings 13 = .ok (.aload_n 0, 1) := by decide +kernel
theorem dX6_findRings_14 : decode cX6_findRings 14 = .ok (.getfield 45, 3) := by decide +kernel
theorem dX6_findRings_17 : decode cX6_findRings 17 = .ok (.iload_n 1, 1) := by decide +kernel
theorem dX6_findRings_18 : decode cX6_findRings 18 = .ok (.baload, 1) := by decide +kernel
theorem dX6_findRings_19 : decode cX6_findRings 19 = .ok (.ifCond .eq 15, 3) := by decide +kernel
theorem dX6_findRings_22 : decode cX6_findRings 22 = .ok (.aload_n 0, 1) := by decide +kernel
theorem dX6_findRings_23 : decode cX6_findRings 23 = .ok (.iload_n 1, 1) := by decide +kernel
theorem dX6_findRings_24 : decode cX6_findRings 24 = .ok (.invokevirtual 141, 3) := by decide +kernel
theorem dX6_findRings_27 : decode cX6_findRings 27 = .ok (.ifCond .ne 7, 3) := by decide +kernel
theorem dX6_findRings_30 : decode cX6_findRings 30 = .ok (.iconst 5, 1) := by decide +kernel
theorem dX6_findRings_31 : decode cX6_findRings 31 = .ok (.goto 9, 3) := by decide +kernel
theorem dX6_findRings_34 : decode cX6_findRings 34 = .ok (.aload_n 0, 1) := by decide +kernel
theorem dX6_findRings_35 : decode cX6_findRings 35 = .ok (.getfield 48, 3) := by decide +kernel
theorem dX6_findRings_38 : decode cX6_findRings 38 = .ok (.iload_n 1, 1) := by decide +kernel
theorem dX6_findRings_39 : decode cX6_findRings 39 = .ok (.iaload, 1) := by decide +kernel
theorem dX6_findRings_40 : decode cX6_findRings 40 = .ok (.iastore, 1) := by decide +kernel
theorem dX6_findRings_41 : decode cX6_findRings 41 = .ok (.iinc 1 1, 3) := by decide +kernel
theorem dX6_findRings_44 : decode cX6_findRings 44 = .ok (.goto (-42), 3) := by decide +kernel
theorem dX6_findRings_47 : decode cX6_findRings 47 = .ok (.return_, 1) := by decide +kernel
set_option maxRecDepth 20000 in
theorem ggX6_putChildren_X6_children : GoodIn wsX6_putChildren wsX6_children := goodIn_r _ [10, 11, 12, 13, 9, 14, 4, 15, 28, 29, 30, 31, 32, 33, 34, 35, 36, 37, 38, 39, 40, 41, 42, 43, 44, 45, 46, 47, 48, 49, 50, 51, 52, 53, 54] (by decide +kernel) (by decide +kernel)
set_option maxRecDepth 20000 in
theorem gX6_putChildren_X6_children : GoodIn wsX6_putChildren (wsV RX6 99 RX6 yX6_children wsX6_children) := goodIn_app (goodIn_of _ (by decide +kernel)) ggX6_putChildren_X6_children
set_option maxRecDepth 20000 in
theorem ggX6_putChildren_X6_childAt : GoodIn wsX6_putChildren wsX6_childAt := goodIn_r _ [19, 5, 11, 12, 13, 9, 14, 4, 15, 28, 29, 30, 31, 32, 33, 34, 35, 36, 37, 38, 39, 40, 41, 42, 43, 44, 45, 46, 47, 48, 49, 50, 51, 52, 53, 54] (by decide +kernel) (by decide +kernel)
set_option maxRecDepth 20000 in
theorem gX6_putChildren_X6_childAt : GoodIn wsX6_putChildren (wsV RX6 103 RX6 yX6_childAt wsX6_childAt) := goodIn_app (goodIn_of _ (by decide +kernel)) ggX6_putChildren_X6_childAt
set_option maxRecDepth 20000 in
theorem ggX6_putChildren_X6_hang : GoodIn wsX6_putChildren wsX6_hang := goodIn_r _ [23, 4, 15, 5, 24, 25, 26, 9, 27, 11, 12, 13, 14, 28, 29, 30, 31, 32, 33, 34, 35, 36, 37, 38, 39, 40, 41, 42, 43, 44, 45, 46, 47, 48, 49, 50, 51, 52, 53, 54] (by decide +kernel) (by decide +kernel)
set_option maxRecDepth 20000 in
theorem gX6_putChildren_X6_hang : GoodIn wsX6_putChildren (wsV RX6 111 RX6 yX6_hang wsX6_hang) := goodIn_app (goodIn_of _ (by decide +kernel)) ggX6_putChildren_X6_hang
theorem dX6_putChildren_0 : decode cX6_putChildren 0 = .ok (.aload_n 0, 1) := by decide +kernel
theorem dX6_putChildren_1 : decode cX6_putChildren 1 = .ok (.aload_n 0, 1) := by decide +kernel
theorem dX6_putChildren_2 : decode cX6_putChildren 2 = .ok (.getfield 124, 3) := by decide +kernel
theorem dX6_putChildren_5 : decode cX6_putChildren 5 = .ok (.iload_n 1, 1) := by decide +kernel
theorem dX6_putChildren_6 : decode cX6_putChildren 6 = .ok (.invokevirtual 99, 3) := by decide +kernel
theorem dX6_putChildren_9 : decode cX6_putChildren 9 = .ok (.istore_n 3, 1) := by decide +kernel
theorem dX6_putChildren_10 : decode cX6_putChildren 10 = .ok (.iconst 0, 1) := by decide +kernel
theorem dX6_putChildren_11 : decode cX6_putChildren 11 = .ok (.istore 4, 2) := by decide +kernel
theorem dX6_putChildren_13 : decode cX6_putChildren 13 = .ok (.iconst 0, 1) := by decide +kernel
theorem dX6_putChildren_14 : decode cX6_putChildren 14 = .ok (.istore 5, 2) := by decide +kernel
theorem dX6_putChildren_16 : decode cX6_putChildren 16 = .ok (.iload 5, 2) := by decide +kernel
theorem dX6_putChildren_18 : decode cX6_putChildren 18 = .ok (.iload_n 3, 1) := by decide +kernel
theorem dX6_putChildren_19 : decode cX6_putChildren 19 = .ok (.if_icmp .ge 57, 3) := by decide +kernel
theorem dX6_putChildren_22 : decode cX6_putChildren 22 = .ok (.aload_n 0, 1) := by decide +kernel
theorem dX6_putChildren_23 : decode cX6_putChildren 23 = .ok (.aload_n 0, 1) := by decide +kernel
theorem dX6_putChildren_24 : decode cX6_putChildren 24 = .ok (.getfield 124, 3) := by decide +kernel
theorem dX6_putChildren_27 : decode cX6_putChildren 27 = .ok (.iload_n 1, 1) := by decide +kernel
theorem dX6_putChildren_28 : decode cX6_putChildren 28 = .ok (.iload 5, 2) := by decide +kernel
theorem dX6_putChildren_30 : decode cX6_putChildren 30 = .ok (.invokevirtual 103, 3) := by decide +kernel
theorem dX6_putChildren_33 : decode cX6_putChildren 33 = .ok (.istore 6, 2) := by decide +kernel
theorem dX6_putChildren_35 : decode cX6_putChildren 35 = .ok (.aload_n 0, 1) := by decide +kernel
theorem dX6_putChildren_36 : decode cX6_putChildren 36 = .ok (.getfield 45, 3) := by decide +kernel
theorem dX6_putChildren_39 : decode cX6_putChildren 39 = .ok (.iload 6, 2) := by decide +kernel
theorem dX6_putChildren_41 : decode cX6_putChildren 41 = .ok (.baload, 1) := by decide +kernel
theorem dX6_putChildren_42 : decode cX6_putChildren 42 = .ok (.ifCond .eq 28, 3) := by decide +kernel
theorem dX6_putChildren_45 : decode cX6_putChildren 45 = .ok (.aload_n 0, 1) := by decide +kernel
theorem dX6_putChildren_46 : decode cX6_putChildren 46 = .ok (.getfield 54, 3) := by decide +kernel
theorem dX6_putChildren_49 : decode cX6_putChildren 49 = .ok (.iload 6, 2) := by decide +kernel
theorem dX6_putChildren_51 : decode cX6_putChildren 51 = .ok (.iaload, 1) := by decide +kernel
theorem dX6_putChildren_52 : decode cX6_putChildren 52 = .ok (.iload_n 1, 1) := by decide +kernel
theorem dX6_putChildren_53 : decode cX6_putChildren 53 = .ok (.if_icmp .ne 17, 3) := by decide +kernel
theorem dX6_putChildren_56 : decode cX6_putChildren 56 = .ok (.aload_n 0, 1) := by decide +kernel
theorem dX6_putChildren_57 : decode cX6_putChildren 57 = .ok (.bipush 13, 2) := by decide +kernel
theorem dX6_putChildren_59 : decode cX6_putChildren 59 = .ok (.iload 6, 2) := by decide +kernel
theorem dX6_putChildren_61 : decode cX6_putChildren 61 = .ok (.iload_n 1, 1) := by decide +kernel
theorem dX6_putChildren_62 : decode cX6_putChildren 62 = .ok (.iload 4, 2) := by decide +kernel
theorem dX6_putChildren_64 : decode cX6_putChildren 64 = .ok (.invokevirtual 111, 3) := by decide +kernel
theorem dX6_putChildren_67 : decode cX6_putChildren 67 = .ok (.iinc 4 1, 3) := by decide +kernel
theorem dX6_putChildren_70 : decode cX6_putChildren 70 = .ok (.iinc 5 1, 3) := by decide +kernel
theorem dX6_putChildren_73 : decode cX6_putChildren 73 = .ok (.goto (-57), 3) := by decide +kernel
theorem dX6_putChildren_76 : decode cX6_putChildren 76 = .ok (.iconst (-1), 1) := by decide +kernel
theorem dX6_putChildren_77 : decode cX6_putChildren 77 = .ok (.istore 5, 2) := by decide +kernel
theorem dX6_putChildren_79 : decode cX6_putChildren 79 = .ok (.aload_n 0, 1) := by decide +kernel
theorem dX6_putChildren_80 : decode cX6_putChildren 80 = .ok (.iload_n 2, 1) := by decide +kernel
theorem dX6_putChildren_81 : decode cX6_putChildren 81 = .ok (.iload_n 1, 1) := by decide +kernel
theorem dX6_putChildren_82 : decode cX6_putChildren 82 = .ok (.invokevirtual 99, 3) := by decide +kernel
theorem dX6_putChildren_85 : decode cX6_putChildren 85 = .ok (.istore_n 3, 1) := by decide +kernel
theorem dX6_putChildren_86 : decode cX6_putChildren 86 = .ok (.iconst 0, 1) := by decide +kernel
theorem dX6_putChildren_87 : decode cX6_putChildren 87 = .ok (.istore 6, 2) := by decide +kernel
theorem dX6_putChildren_89 : decode cX6_putChildren 89 = .ok (.iload 6, 2) := by decide +kernel
theorem dX6_putChildren_91 : decode cX6_putChildren 91 = .ok (.iload_n 3, 1) := by decide +kernel
theorem dX6_putChildren_92 : decode cX6_putChildren 92 = .ok (.if_icmp .ge 89, 3) := by decide +kernel
theorem dX6_putChildren_95 : decode cX6_putChildren 95 = .ok (.aload_n 0, 1) := by decide +kernel
theorem dX6_putChildren_96 : decode cX6_putChildren 96 = .ok (.iload_n 2, 1) := by decide +kernel
theorem dX6_putChildren_97 : decode cX6_putChildren 97 = .ok (.iload_n 1, 1) := by decide +kernel
theorem dX6_putChildren_98 : decode cX6_putChildren 98 = .ok (.iload 6, 2) := by decide +kernel
theorem dX6_putChildren_100 : decode cX6_putChildren 100 = .ok (.invokevirtual 103, 3) := by decide +kernel
theorem dX6_putChildren_103 : decode cX6_putChildren 103 = .ok (.istore 7, 2) := by decide +kernel
theorem dX6_putChildren_105 : decode cX6_putChildren 105 = .ok (.aload_n 0, 1) := by decide +kernel
theorem dX6_putChildren_106 : decode cX6_putChildren 106 = .ok (.getfield 45, 3) := by decide +kernel
theorem dX6_putChildren_109 : decode cX6_putChildren 109 = .ok (.iload 7, 2) := by decide +kernel
theorem dX6_putChildren_111 : decode cX6_putChildren 111 = .ok (.baload, 1) := by decide +kernel
theorem dX6_putChildren_112 : decode cX6_putChildren 112 = .ok (.ifCond .eq 63, 3) := by decide +kernel
theorem dX6_putChildren_115 : decode cX6_putChildren 115 = .ok (.aload_n 0, 1) := by decide +kernel
theorem dX6_putChildren_116 : decode cX6_putChildren 116 = .ok (.getfield 54, 3) := by decide +kernel
theorem dX6_putChildren_119 : decode cX6_putChildren 119 = .ok (.iload 7, 2) := by decide +kernel
theorem dX6_putChildren_121 : decode cX6_putChildren 121 = .ok (.iaload, 1) := by decide +kernel
theorem dX6_putChildren_122 : decode cX6_putChildren 122 = .ok (.iload_n 1, 1) := by decide +kernel
theorem dX6_putChildren_123 : decode cX6_putChildren 123 = .ok (.if_icmp .ne 52, 3) := by decide +kernel
theorem dX6_putChildren_126 : decode cX6_putChildren 126 = .ok (.aload_n 0, 1) := by decide +kernel
theorem dX6_putChildren_127 : decode cX6_putChildren 127 = .ok (.getfield 7, 3) := by decide +kernel
theorem dX6_putChildren_130 : decode cX6_putChildren 130 = .ok (.sipush 312, 3) := by decide +kernel
theorem dX6_putChildren_133 : decode cX6_putChildren 133 = .ok (.iload 7, 2) := by decide +kernel
theorem dX6_putChildren_135 : decode cX6_putChildren 135 = .ok (.iadd, 1) := by decide +kernel
theorem dX6_putChildren_136 : decode cX6_putChildren 136 = .ok (.baload, 1) := by decide +kernel
theorem dX6_putChildren_137 : decode cX6_putChildren 137 = .ok (.ifCond .ne 34, 3) := by decide +kernel
theorem dX6_putChildren_140 : decode cX6_putChildren 140 = .ok (.aload_n 0, 1) := by decide +kernel
theorem dX6_putChildren_141 : decode cX6_putChildren 141 = .ok (.bipush 13, 2) := by decide +kernel
theorem dX6_putChildren_143 : decode cX6_putChildren 143 = .ok (.iload 7, 2) := by decide +kernel
theorem dX6_putChildren_145 : decode cX6_putChildren 145 = .ok (.iload_n 1, 1) := by decide +kernel
theorem dX6_putChildren_146 : decode cX6_putChildren 146 = .ok (.iload 5, 2) := by decide +kernel
theorem dX6_putChildren_148 : decode cX6_putChildren 148 = .ok (.ifCond .ge 7, 3) := by decide +kernel
theorem dX6_putChildren_151 : decode cX6_putChildren 151 = .ok (.iconst 0, 1) := by decide +kernel
theorem dX6_putChildren_152 : decode cX6_putChildren 152 = .ok (.goto 16, 3) := by decide +kernel
theorem dX6_putChildren_155 : decode cX6_putChildren 155 = .ok (.aload_n 0, 1) := by decide +kernel
theorem dX6_putChildren_156 : decode cX6_putChildren 156 = .ok (.getfield 20, 3) := by decide +kernel
theorem dX6_putChildren_159 : decode cX6_putChildren 159 = .ok (.sipush 312, 3) := by decide +kernel
theorem dX6_putChildren_162 : decode cX6_putChildren 162 = .ok (.iload 5, 2) := by decide +kernel
theorem dX6_putChildren_164 : decode cX6_putChildren 164 = .ok (.iadd, 1) := by decide +kernel
theorem dX6_putChildren_165 : decode cX6_putChildren 165 = .ok (.iaload, 1) := by decide +kernel
theorem dX6_putChildren_166 : decode cX6_putChildren 166 = .ok (.iconst 1, 1) := by decide +kernel
theorem dX6_putChildren_167 : decode cX6_putChildren 167 = .ok (.iadd, 1) := by decide +kernel
theorem dX6_putChildren_168 : decode cX6_putChildren 168 = .ok (.invokevirtual 111, 3) := by decide +kernel
theorem dX6_putChildren_171 : decode cX6_putChildren 171 = .ok (.iload 7, 2) := by decide +kernel
theorem dX6_putChildren_173 : decode cX6_putChildren 173 = .ok (.istore 5, 2) := by decide +kernel
theorem dX6_putChildren_175 : decode cX6_putChildren 175 = .ok (.iinc 6 1, 3) := by decide +kernel
theorem dX6_putChildren_178 : decode cX6_putChildren 178 = .ok (.goto (-89), 3) := by decide +kernel
theorem dX6_putChildren_181 : decode cX6_putChildren 181 = .ok (.return_, 1) := by decide +kernel
set_option maxRecDepth 20000 in
theorem ggX6_build_X6_putChildren : GoodIn wsX6_build wsX6_putChildren := goodIn_r _ [11, 12, 3, 13, 1, 6, 14, 15, 16, 10, 17, 18, 19, 20, 21, 5, 22, 23, 24, 25, 26, 27, 28, 29, 30, 31, 32, 33, 38, 39, 40, 41, 42, 43, 44, 45, 46, 47, 48, 49, 50, 51, 52, 53, 54, 55, 56, 57, 58, 59, 60, 61, 62, 63, 64] (by decide +kernel) (by decide +kernel)
set_option maxRecDepth 20000 in
theorem gX6_build_X6_putChildren : GoodIn wsX6_build (wsV RX6 144 RX6 yX6_putChildren wsX6_putChildren) := goodIn_app (goodIn_of _ (by decide +kernel)) ggX6_build_X6_putChildren
set_option maxRecDepth 20000 in
theorem ggX6_build_X6_copy : GoodIn wsX6_build wsX6_copy := goodIn_r _ [37, 1, 2, 5, 6, 38, 39, 40, 41, 42, 43, 44, 45, 46, 47, 48, 49, 50, 51, 52, 53, 54, 55, 56, 57, 58, 59, 60, 61, 62, 63, 64] (by decide +kernel) (by decide +kernel)
set_option maxRecDepth 20000 in
theorem gX6_build_X6_copy : GoodIn wsX6_build (wsV RX6 78 RX6 yX6_copy wsX6_copy) := goodIn_app (goodIn_of _ (by decide +kernel)) ggX6_build_X6_copy
theorem dX6_build_0 : decode cX6_build 0 = .ok (.iconst 0, 1) := by decide +kernel
theorem dX6_build_1 : decode cX6_build 1 = .ok (.istore_n 2, 1) := by decide +kernel
theorem dX6_build_2 : decode cX6_build 2 = .ok (.iload_n 2, 1) := by decide +kernel
theorem dX6_build_3 : decode cX6_build 3 = .ok (.bipush 24, 2) := by decide +kernel
theorem dX6_build_5 : decode cX6_build 5 = .ok (.if_icmp .ge 79, 3) := by decide +kernel
theorem dX6_build_8 : decode cX6_build 8 = .ok (.aload_n 0, 1) := by decide +kernel
theorem dX6_build_9 : decode cX6_build 9 = .ok (.getfield 7, 3) := by decide +kernel
theorem dX6_build_12 : decode cX6_build 12 = .ok (.sipush 312, 3) := by decide +kernel
theorem dX6_build_15 : decode cX6_build 15 = .ok (.iload_n 2, 1) := by decide +kernel
theorem dX6_build_16 : decode cX6_build 16 = .ok (.iadd, 1) := by decide +kernel
theorem dX6_build_17 : decode cX6_build 17 = .ok (.iload_n 2, 1) := by decide +kernel
theorem dX6_build_18 : decode cX6_build 18 = .ok (.ifCond .ne 7, 3) := by decide +kernel
theorem dX6_build_21 : decode cX6_build 21 = .ok (.iconst 1, 1) := by decide +kernel
theorem dX6_build_22 : decode cX6_build 22 = .ok (.goto 4, 3) := by decide +kernel
theorem dX6_build_25 : decode cX6_build 25 = .ok (.iconst 0, 1) := by decide +kernel
theorem dX6_build_26 : decode cX6_build 26 = .ok (.bastore, 1) := by decide +kernel
theorem dX6_build_27 : decode cX6_build 27 = .ok (.aload_n 0, 1) := by decide +kernel
theorem dX6_build_28 : decode cX6_build 28 = .ok (.getfield 13, 3) := by decide +kernel
theorem dX6_build_31 : decode cX6_build 31 = .ok (.sipush 312, 3) := by decide +kernel
theorem dX6_build_34 : decode cX6_build 34 = .ok (.iload_n 2, 1) := by decide +kernel
theorem dX6_build_35 : decode cX6_build 35 = .ok (.iadd, 1) := by decide +kernel
theorem dX6_build_36 : decode cX6_build 36 = .ok (.aload_n 0, 1) := by decide +kernel
theorem dX6_build_37 : decode cX6_build 37 = .ok (.getfield 45, 3) := by decide +kernel
theorem dX6_build_40 : decode cX6_build 40 = .ok (.iload_n 2, 1) := by decide +kernel
theorem dX6_build_41 : decode cX6_build 41 = .ok (.baload, 1) := by decide +kernel
theorem dX6_build_42 : decode cX6_build 42 = .ok (.ifCond .eq 12, 3) := by decide +kernel
theorem dX6_build_45 : decode cX6_build 45 = .ok (.aload_n 0, 1) := by decide +kernel
theorem dX6_build_46 : decode cX6_build 46 = .ok (.getfield 51, 3) := by decide +kernel
theorem dX6_build_49 : decode cX6_build 49 = .ok (.iload_n 2, 1) := by decide +kernel
theorem dX6_build_50 : decode cX6_build 50 = .ok (.iaload, 1) := by decide +kernel
theorem dX6_build_51 : decode cX6_build 51 = .ok (.goto 4, 3) := by decide +kernel
theorem dX6_build_54 : decode cX6_build 54 = .ok (.iconst 0, 1) := by decide +kernel
theorem dX6_build_55 : decode cX6_build 55 = .ok (.iastore, 1) := by decide +kernel
theorem dX6_build_56 : decode cX6_build 56 = .ok (.aload_n 0, 1) := by decide +kernel
theorem dX6_build_57 : decode cX6_build 57 = .ok (.getfield 17, 3) := by decide +kernel
theorem dX6_build_60 : decode cX6_build 60 = .ok (.sipush 312, 3) := by decide +kernel
theorem dX6_build_63 : decode cX6_build 63 = .ok (.iload_n 2, 1) := by decide +kernel
theorem dX6_build_64 : decode cX6_build 64 = .ok (.iadd, 1) := by decide +kernel
theorem dX6_build_65 : decode cX6_build 65 = .ok (.iconst (-1), 1) := by decide +kernel
theorem dX6_build_66 : decode cX6_build 66 = .ok (.iastore, 1) := by decide +kernel
theorem dX6_build_67 : decode cX6_build 67 = .ok (.aload_n 0, 1) := by decide +kernel
theorem dX6_build_68 : decode cX6_build 68 = .ok (.getfield 20, 3) := by decide +kernel
theorem dX6_build_71 : decode cX6_build 71 = .ok (.sipush 312, 3) := by decide +kernel
theorem dX6_build_74 : decode cX6_build 74 = .ok (.iload_n 2, 1) := by decide +kernel
theorem dX6_build_75 : decode cX6_build 75 = .ok (.iadd, 1) := by decide +kernel
theorem dX6_build_76 : decode cX6_build 76 = .ok (.iconst 0, 1) := by decide +kernel
theorem dX6_build_77 : decode cX6_build 77 = .ok (.iastore, 1) := by decide +kernel
theorem dX6_build_78 : decode cX6_build 78 = .ok (.iinc 2 1, 3) := by decide +kernel
theorem dX6_build_81 : decode cX6_build 81 = .ok (.goto (-79), 3) := by decide +kernel
theorem dX6_build_84 : decode cX6_build 84 = .ok (.iconst 0, 1) := by decide +kernel
theorem dX6_build_85 : decode cX6_build 85 = .ok (.istore_n 2, 1) := by decide +kernel
theorem dX6_build_86 : decode cX6_build 86 = .ok (.iload_n 2, 1) := by decide +kernel
theorem dX6_build_87 : decode cX6_build 87 = .ok (.bipush 24, 2) := by decide +kernel
theorem dX6_build_89 : decode cX6_build 89 = .ok (.if_icmp .ge 24, 3) := by decide +kernel
theorem dX6_build_92 : decode cX6_build 92 = .ok (.aload_n 0, 1) := by decide +kernel
theorem dX6_build_93 : decode cX6_build 93 = .ok (.getfield 45, 3) := by decide +kernel
theorem dX6_build_96 : decode cX6_build 96 = .ok (.iload_n 2, 1) := by decide +kernel
theorem dX6_build_97 : decode cX6_build 97 = .ok (.baload, 1) := by decide +kernel
theorem dX6_build_98 : decode cX6_build 98 = .ok (.ifCond .eq 9, 3) := by decide +kernel
theorem dX6_build_101 : decode cX6_build 101 = .ok (.aload_n 0, 1) := by decide +kernel
theorem dX6_build_102 : decode cX6_build 102 = .ok (.iload_n 2, 1) := by decide +kernel
theorem dX6_build_103 : decode cX6_build 103 = .ok (.iload_n 1, 1) := by decide +kernel
theorem dX6_build_104 : decode cX6_build 104 = .ok (.invokevirtual 144, 3) := by decide +kernel
theorem dX6_build_107 : decode cX6_build 107 = .ok (.iinc 2 1, 3) := by decide +kernel
theorem dX6_build_110 : decode cX6_build 110 = .ok (.goto (-24), 3) := by decide +kernel
theorem dX6_build_113 : decode cX6_build 113 = .ok (.aload_n 0, 1) := by decide +kernel
theorem dX6_build_114 : decode cX6_build 114 = .ok (.bipush 13, 2) := by decide +kernel
theorem dX6_build_116 : decode cX6_build 116 = .ok (.bipush 12, 2) := by decide +kernel
theorem dX6_build_118 : decode cX6_build 118 = .ok (.invokevirtual 78, 3) := by decide +kernel
theorem dX6_build_121 : decode cX6_build 121 = .ok (.return_, 1) := by decide +kernel
set_option maxRecDepth 20000 in
theorem ggX6_merge_X6_isCommit : GoodIn wsX6_merge wsX6_isCommit := goodIn_r _ [11, 12, 88, 89, 90, 91, 92, 93, 94, 95, 96, 97, 98, 99, 100, 101, 102, 103, 104, 105, 106, 107, 108, 109, 110, 111, 112, 113, 114] (by decide +kernel) (by decide +kernel)
set_option maxRecDepth 20000 in
theorem gX6_merge_X6_isCommit : GoodIn wsX6_merge (wsV RX6 127 RX6 yX6_isCommit wsX6_isCommit) := goodIn_app (goodIn_of _ (by decide +kernel)) ggX6_merge_X6_isCommit
set_option maxRecDepth 20000 in
theorem ggX6_merge_X6_isHeads : GoodIn wsX6_merge wsX6_isHeads := goodIn_r _ [16, 3, 17, 18, 19, 20, 88, 89, 90, 91, 92, 93, 94, 95, 96, 97, 98, 99, 100, 101, 102, 103, 104, 105, 106, 107, 108, 109, 110, 111, 112, 113, 114] (by decide +kernel) (by decide +kernel)
set_option maxRecDepth 20000 in
theorem gX6_merge_X6_isHeads : GoodIn wsX6_merge (wsV RX6 147 RX6 yX6_isHeads wsX6_isHeads) := goodIn_app (goodIn_of _ (by decide +kernel)) ggX6_merge_X6_isHeads
set_option maxRecDepth 20000 in
theorem ggX6_merge_X6_baseOf : GoodIn wsX6_merge wsX6_baseOf := goodIn_r _ [24, 25, 12, 88, 89, 90, 91, 92, 93, 94, 95, 96, 97, 98, 99, 100, 101, 102, 103, 104, 105, 106, 107, 108, 109, 110, 111, 112, 113, 114] (by decide +kernel) (by decide +kernel)
set_option maxRecDepth 20000 in
theorem gX6_merge_X6_baseOf : GoodIn wsX6_merge (wsV RX6 131 RX6 yX6_baseOf wsX6_baseOf) := goodIn_app (goodIn_of _ (by decide +kernel)) ggX6_merge_X6_baseOf
set_option maxRecDepth 20000 in
theorem ggX6_merge_X6_meet : GoodIn wsX6_merge wsX6_meet := goodIn_r _ [29, 3, 30, 5, 17, 31, 18, 32, 19, 33, 34, 35, 10, 36, 37, 38, 39, 88, 89, 90, 91, 92, 93, 94, 95, 96, 97, 98, 99, 100, 101, 102, 103, 104, 105, 106, 107, 108, 109, 110, 111, 112, 113, 114] (by decide +kernel) (by decide +kernel)
set_option maxRecDepth 20000 in
theorem gX6_merge_X6_meet : GoodIn wsX6_merge (wsV RX6 151 RX6 yX6_meet wsX6_meet) := goodIn_app (goodIn_of _ (by decide +kernel)) ggX6_merge_X6_meet
set_option maxRecDepth 20000 in
theorem ggX6_merge_X6_countKinds : GoodIn wsX6_merge wsX6_countKinds := goodIn_r _ [43, 5, 88, 89, 90, 91, 92, 93, 94, 95, 96, 97, 98, 99, 100, 101, 102, 103, 104, 105, 106, 107, 108, 109, 110, 111, 112, 113, 114] (by decide +kernel) (by decide +kernel)
set_option maxRecDepth 20000 in
theorem gX6_merge_X6_countKinds : GoodIn wsX6_merge (wsV RX6 155 RX6 yX6_countKinds wsX6_countKinds) := goodIn_app (goodIn_of _ (by decide +kernel)) ggX6_merge_X6_countKinds
set_option maxRecDepth 20000 in
theorem ggX6_merge_X6_findOrphans : GoodIn wsX6_merge wsX6_findOrphans := goodIn_r _ [47, 5, 30, 32, 88, 89, 90, 91, 92, 93, 94, 95, 96, 97, 98, 99, 100, 101, 102, 103, 104, 105, 106, 107, 108, 109, 110, 111, 112, 113, 114] (by decide +kernel) (by decide +kernel)
set_option maxRecDepth 20000 in
theorem gX6_merge_X6_findOrphans : GoodIn wsX6_merge (wsV RX6 159 RX6 yX6_findOrphans wsX6_findOrphans) := goodIn_app (goodIn_of _ (by decide +kernel)) ggX6_merge_X6_findOrphans
set_option maxRecDepth 20000 in
theorem ggX6_merge_X6_findRings : GoodIn wsX6_merge wsX6_findRings := goodIn_r _ [51, 5, 30, 52, 53, 54, 10, 55, 32, 88, 89, 90, 91, 92, 93, 94, 95, 96, 97, 98, 99, 100, 101, 102, 103, 104, 105, 106, 107, 108, 109, 110, 111, 112, 113, 114] (by decide +kernel) (by decide +kernel)
set_option maxRecDepth 20000 in
theorem gX6_merge_X6_findRings : GoodIn wsX6_merge (wsV RX6 162 RX6 yX6_findRings wsX6_findRings) := goodIn_app (goodIn_of _ (by decide +kernel)) ggX6_merge_X6_findRings
set_option maxRecDepth 20000 in
theorem ggX6_merge_X6_build : GoodIn wsX6_merge wsX6_build := goodIn_r _ [59, 17, 18, 30, 31, 19, 20, 60, 61, 62, 10, 63, 3, 32, 64, 65, 66, 67, 68, 69, 70, 71, 72, 73, 74, 75, 76, 77, 78, 79, 80, 81, 82, 83, 84, 85, 86, 87, 88, 89, 90, 91, 92, 93, 94, 95, 96, 97, 98, 99, 100, 101, 102, 103, 104, 105, 106, 107, 108, 109, 110, 111, 112, 113, 114] (by decide +kernel) (by decide +kernel)
set_option maxRecDepth 20000 in
theorem gX6_merge_X6_build : GoodIn wsX6_merge (wsV RX6 168 RX6 yX6_build wsX6_build) := goodIn_app (goodIn_of _ (by decide +kernel)) ggX6_merge_X6_build
theorem dX6_merge_0 : decode cX6_merge 0 = .ok (.aload_n 0, 1) := by decide +kernel
theorem dX6_merge_1 : decode cX6_merge 1 = .ok (.aload_n 0, 1) := by decide +kernel
theorem dX6_merge_2 : decode cX6_merge 2 = .ok (.iload_n 1, 1) := by decide +kernel
theorem dX6_merge_3 : decode cX6_merge 3 = .ok (.invokevirtual 127, 3) := by decide +kernel
theorem dX6_merge_6 : decode cX6_merge 6 = .ok (.ifCond .ne 7, 3) := by decide +kernel
theorem dX6_merge_9 : decode cX6_merge 9 = .ok (.iconst 1, 1) := by decide +kernel
theorem dX6_merge_10 : decode cX6_merge 10 = .ok (.goto 22, 3) := by decide +kernel
theorem dX6_merge_13 : decode cX6_merge 13 = .ok (.aload_n 0, 1) := by decide +kernel
theorem dX6_merge_14 : decode cX6_merge 14 = .ok (.getfield 39, 3) := by decide +kernel
theorem dX6_merge_17 : decode cX6_merge 17 = .ok (.ifCond .ge 10, 3) := by decide +kernel
theorem dX6_merge_20 : decode cX6_merge 20 = .ok (.aload_n 0, 1) := by decide +kernel
theorem dX6_merge_21 : decode cX6_merge 21 = .ok (.invokevirtual 147, 3) := by decide +kernel
theorem dX6_merge_24 : decode cX6_merge 24 = .ok (.ifCond .ne 7, 3) := by decide +kernel
theorem dX6_merge_27 : decode cX6_merge 27 = .ok (.iconst 2, 1) := by decide +kernel
theorem dX6_merge_28 : decode cX6_merge 28 = .ok (.goto 4, 3) := by decide +kernel
theorem dX6_merge_31 : decode cX6_merge 31 = .ok (.iconst 0, 1) := by decide +kernel
theorem dX6_merge_32 : decode cX6_merge 32 = .ok (.putfield 82, 3) := by decide +kernel
theorem dX6_merge_35 : decode cX6_merge 35 = .ok (.aload_n 0, 1) := by decide +kernel
theorem dX6_merge_36 : decode cX6_merge 36 = .ok (.getfield 82, 3) := by decide +kernel
theorem dX6_merge_39 : decode cX6_merge 39 = .ok (.ifCond .le 5, 3) := by decide +kernel
theorem dX6_merge_42 : decode cX6_merge 42 = .ok (.iconst 0, 1) := by decide +kernel
theorem dX6_merge_43 : decode cX6_merge 43 = .ok (.ireturn, 1) := by decide +kernel
theorem dX6_merge_44 : decode cX6_merge 44 = .ok (.aload_n 0, 1) := by decide +kernel
theorem dX6_merge_45 : decode cX6_merge 45 = .ok (.aload_n 0, 1) := by decide +kernel
theorem dX6_merge_46 : decode cX6_merge 46 = .ok (.getfield 124, 3) := by decide +kernel
theorem dX6_merge_49 : decode cX6_merge 49 = .ok (.iload_n 1, 1) := by decide +kernel
theorem dX6_merge_50 : decode cX6_merge 50 = .ok (.invokevirtual 131, 3) := by decide +kernel
theorem dX6_merge_53 : decode cX6_merge 53 = .ok (.istore_n 2, 1) := by decide +kernel
theorem dX6_merge_54 : decode cX6_merge 54 = .ok (.iconst 0, 1) := by decide +kernel
theorem dX6_merge_55 : decode cX6_merge 55 = .ok (.istore_n 3, 1) := by decide +kernel
theorem dX6_merge_56 : decode cX6_merge 56 = .ok (.iload_n 3, 1) := by decide +kernel
theorem dX6_merge_57 : decode cX6_merge 57 = .ok (.bipush 24, 2) := by decide +kernel
theorem dX6_merge_59 : decode cX6_merge 59 = .ok (.if_icmp .ge 16, 3) := by decide +kernel
theorem dX6_merge_62 : decode cX6_merge 62 = .ok (.aload_n 0, 1) := by decide +kernel
theorem dX6_merge_63 : decode cX6_merge 63 = .ok (.iload_n 3, 1) := by decide +kernel
theorem dX6_merge_64 : decode cX6_merge 64 = .ok (.iload_n 1, 1) := by decide +kernel
theorem dX6_merge_65 : decode cX6_merge 65 = .ok (.iload_n 2, 1) := by decide +kernel
theorem dX6_merge_66 : decode cX6_merge 66 = .ok (.invokevirtual 151, 3) := by decide +kernel
theorem dX6_merge_69 : decode cX6_merge 69 = .ok (.iinc 3 1, 3) := by decide +kernel
theorem dX6_merge_72 : decode cX6_merge 72 = .ok (.goto (-16), 3) := by decide +kernel
theorem dX6_merge_75 : decode cX6_merge 75 = .ok (.aload_n 0, 1) := by decide +kernel
theorem dX6_merge_76 : decode cX6_merge 76 = .ok (.invokevirtual 155, 3) := by decide +kernel
theorem dX6_merge_79 : decode cX6_merge 79 = .ok (.ifCond .ne 7, 3) := by decide +kernel
theorem dX6_merge_82 : decode cX6_merge 82 = .ok (.aload_n 0, 1) := by decide +kernel
theorem dX6_merge_83 : decode cX6_merge 83 = .ok (.invokevirtual 159, 3) := by decide +kernel
theorem dX6_merge_86 : decode cX6_merge 86 = .ok (.aload_n 0, 1) := by decide +kernel
theorem dX6_merge_87 : decode cX6_merge 87 = .ok (.invokevirtual 155, 3) := by decide +kernel
theorem dX6_merge_90 : decode cX6_merge 90 = .ok (.ifCond .ne 7, 3) := by decide +kernel
theorem dX6_merge_93 : decode cX6_merge 93 = .ok (.aload_n 0, 1) := by decide +kernel
theorem dX6_merge_94 : decode cX6_merge 94 = .ok (.invokevirtual 162, 3) := by decide +kernel
theorem dX6_merge_97 : decode cX6_merge 97 = .ok (.aload_n 0, 1) := by decide +kernel
theorem dX6_merge_98 : decode cX6_merge 98 = .ok (.iconst 0, 1) := by decide +kernel
theorem dX6_merge_99 : decode cX6_merge 99 = .ok (.putfield 165, 3) := by decide +kernel
theorem dX6_merge_102 : decode cX6_merge 102 = .ok (.iconst 0, 1) := by decide +kernel
theorem dX6_merge_103 : decode cX6_merge 103 = .ok (.istore_n 3, 1) := by decide +kernel
theorem dX6_merge_104 : decode cX6_merge 104 = .ok (.iload_n 3, 1) := by decide +kernel
theorem dX6_merge_105 : decode cX6_merge 105 = .ok (.bipush 24, 2) := by decide +kernel
theorem dX6_merge_107 : decode cX6_merge 107 = .ok (.if_icmp .ge 48, 3) := by decide +kernel
theorem dX6_merge_110 : decode cX6_merge 110 = .ok (.aload_n 0, 1) := by decide +kernel
theorem dX6_merge_111 : decode cX6_merge 111 = .ok (.getfield 48, 3) := by decide +kernel
theorem dX6_merge_114 : decode cX6_merge 114 = .ok (.iload_n 3, 1) := by decide +kernel
theorem dX6_merge_115 : decode cX6_merge 115 = .ok (.iaload, 1) := by decide +kernel
theorem dX6_merge_116 : decode cX6_merge 116 = .ok (.ifCond .le 33, 3) := by decide +kernel
theorem dX6_merge_119 : decode cX6_merge 119 = .ok (.aload_n 0, 1) := by decide +kernel
theorem dX6_merge_120 : decode cX6_merge 120 = .ok (.getfield 42, 3) := by decide +kernel
theorem dX6_merge_123 : decode cX6_merge 123 = .ok (.aload_n 0, 1) := by decide +kernel
theorem dX6_merge_124 : decode cX6_merge 124 = .ok (.getfield 165, 3) := by decide +kernel
theorem dX6_merge_127 : decode cX6_merge 127 = .ok (.bipush 32, 2) := by decide +kernel
theorem dX6_merge_129 : decode cX6_merge 129 = .ok (.aload_n 0, 1) := by decide +kernel
theorem dX6_merge_130 : decode cX6_merge 130 = .ok (.getfield 48, 3) := by decide +kernel
theorem dX6_merge_133 : decode cX6_merge 133 = .ok (.iload_n 3, 1) := by decide +kernel
theorem dX6_merge_134 : decode cX6_merge 134 = .ok (.iaload, 1) := by decide +kernel
theorem dX6_merge_135 : decode cX6_merge 135 = .ok (.imul, 1) := by decide +kernel
theorem dX6_merge_136 : decode cX6_merge 136 = .ok (.iload_n 3, 1) := by decide +kernel
theorem dX6_merge_137 : decode cX6_merge 137 = .ok (.iadd, 1) := by decide +kernel
theorem dX6_merge_138 : decode cX6_merge 138 = .ok (.iastore, 1) := by decide +kernel
theorem dX6_merge_139 : decode cX6_merge 139 = .ok (.aload_n 0, 1) := by decide +kernel
theorem dX6_merge_140 : decode cX6_merge 140 = .ok (.dup, 1) := by decide +kernel
theorem dX6_merge_141 : decode cX6_merge 141 = .ok (.getfield 165, 3) := by decide +kernel
theorem dX6_merge_144 : decode cX6_merge 144 = .ok (.iconst 1, 1) := by decide +kernel
theorem dX6_merge_145 : decode cX6_merge 145 = .ok (.iadd, 1) := by decide +kernel
theorem dX6_merge_146 : decode cX6_merge 146 = .ok (.putfield 165, 3) := by decide +kernel
theorem dX6_merge_149 : decode cX6_merge 149 = .ok (.iinc 3 1, 3) := by decide +kernel
theorem dX6_merge_152 : decode cX6_merge 152 = .ok (.goto (-48), 3) := by decide +kernel
theorem dX6_merge_155 : decode cX6_merge 155 = .ok (.aload_n 0, 1) := by decide +kernel
theorem dX6_merge_156 : decode cX6_merge 156 = .ok (.getfield 165, 3) := by decide +kernel
theorem dX6_merge_159 : decode cX6_merge 159 = .ok (.ifCond .ne 13, 3) := by decide +kernel
theorem dX6_merge_162 : decode cX6_merge 162 = .ok (.aload_n 0, 1) := by decide +kernel
theorem dX6_merge_163 : decode cX6_merge 163 = .ok (.iload_n 1, 1) := by decide +kernel
theorem dX6_merge_164 : decode cX6_merge 164 = .ok (.invokevirtual 168, 3) := by decide +kernel
theorem dX6_merge_167 : decode cX6_merge 167 = .ok (.aload_n 0, 1) := by decide +kernel
theorem dX6_merge_168 : decode cX6_merge 168 = .ok (.iload_n 1, 1) := by decide +kernel
theorem dX6_merge_169 : decode cX6_merge 169 = .ok (.putfield 39, 3) := by decide +kernel
theorem dX6_merge_172 : decode cX6_merge 172 = .ok (.aload_n 0, 1) := by decide +kernel
theorem dX6_merge_173 : decode cX6_merge 173 = .ok (.getfield 165, 3) := by decide +kernel
theorem dX6_merge_176 : decode cX6_merge 176 = .ok (.ireturn, 1) := by decide +kernel
theorem dX6_conflict_0 : decode cX6_conflict 0 = .ok (.aload_n 0, 1) := by decide +kernel
theorem dX6_conflict_1 : decode cX6_conflict 1 = .ok (.iload_n 1, 1) := by decide +kernel
theorem dX6_conflict_2 : decode cX6_conflict 2 = .ok (.ifCond .lt 11, 3) := by decide +kernel
theorem dX6_conflict_5 : decode cX6_conflict 5 = .ok (.iload_n 1, 1) := by decide +kernel
theorem dX6_conflict_6 : decode cX6_conflict 6 = .ok (.aload_n 0, 1) := by decide +kernel
theorem dX6_conflict_7 : decode cX6_conflict 7 = .ok (.getfield 165, 3) := by decide +kernel
theorem dX6_conflict_10 : decode cX6_conflict 10 = .ok (.if_icmp .lt 7, 3) := by decide +kernel
theorem dX6_conflict_13 : decode cX6_conflict 13 = .ok (.iconst 1, 1) := by decide +kernel
theorem dX6_conflict_14 : decode cX6_conflict 14 = .ok (.goto 4, 3) := by decide +kernel
theorem dX6_conflict_17 : decode cX6_conflict 17 = .ok (.iconst 0, 1) := by decide +kernel
theorem dX6_conflict_18 : decode cX6_conflict 18 = .ok (.putfield 82, 3) := by decide +kernel
theorem dX6_conflict_21 : decode cX6_conflict 21 = .ok (.aload_n 0, 1) := by decide +kernel
theorem dX6_conflict_22 : decode cX6_conflict 22 = .ok (.getfield 82, 3) := by decide +kernel
theorem dX6_conflict_25 : decode cX6_conflict 25 = .ok (.ifCond .ne 12, 3) := by decide +kernel
theorem dX6_conflict_28 : decode cX6_conflict 28 = .ok (.aload_n 0, 1) := by decide +kernel
theorem dX6_conflict_29 : decode cX6_conflict 29 = .ok (.getfield 42, 3) := by decide +kernel
theorem dX6_conflict_32 : decode cX6_conflict 32 = .ok (.iload_n 1, 1) := by decide +kernel
theorem dX6_conflict_33 : decode cX6_conflict 33 = .ok (.iaload, 1) := by decide +kernel
theorem dX6_conflict_34 : decode cX6_conflict 34 = .ok (.goto 4, 3) := by decide +kernel
theorem dX6_conflict_37 : decode cX6_conflict 37 = .ok (.iconst 0, 1) := by decide +kernel
theorem dX6_conflict_38 : decode cX6_conflict 38 = .ok (.ireturn, 1) := by decide +kernel
set_option maxRecDepth 20000 in
theorem ggX6_numberOf_X6_walk : GoodIn wsX6_numberOf wsX6_walk := goodIn_r _ [6, 7, 8, 9, 1, 10, 11, 12, 5, 13, 14, 15, 16, 17, 18, 19, 20, 21, 22, 23, 24, 25, 26, 27, 28, 29, 30, 31, 32, 33, 34, 35, 36, 37, 38, 39, 40, 41, 42, 43, 44, 45, 46, 47, 48, 49, 50, 51] (by decide +kernel) (by decide +kernel)
set_option maxRecDepth 20000 in
theorem gX6_numberOf_X6_walk : GoodIn wsX6_numberOf (wsV RX6 114 RX6 yX6_walk wsX6_walk) := goodIn_app (goodIn_of _ (by decide +kernel)) ggX6_numberOf_X6_walk
theorem dX6_numberOf_0 : decode cX6_numberOf 0 = .ok (.aload_n 0, 1) := by decide +kernel
theorem dX6_numberOf_1 : decode cX6_numberOf 1 = .ok (.bipush 12, 2) := by decide +kernel
theorem dX6_numberOf_3 : decode cX6_numberOf 3 = .ok (.invokevirtual 114, 3) := by decide +kernel
theorem dX6_numberOf_6 : decode cX6_numberOf 6 = .ok (.iconst 0, 1) := by decide +kernel
theorem dX6_numberOf_7 : decode cX6_numberOf 7 = .ok (.istore_n 2, 1) := by decide +kernel
theorem dX6_numberOf_8 : decode cX6_numberOf 8 = .ok (.aload_n 0, 1) := by decide +kernel
theorem dX6_numberOf_9 : decode cX6_numberOf 9 = .ok (.getfield 57, 3) := by decide +kernel
theorem dX6_numberOf_12 : decode cX6_numberOf 12 = .ok (.iload_n 2, 1) := by decide +kernel
theorem dX6_numberOf_13 : decode cX6_numberOf 13 = .ok (.iaload, 1) := by decide +kernel
theorem dX6_numberOf_14 : decode cX6_numberOf 14 = .ok (.iload_n 1, 1) := by decide +kernel
theorem dX6_numberOf_15 : decode cX6_numberOf 15 = .ok (.if_icmp .eq 9, 3) := by decide +kernel
theorem dX6_numberOf_18 : decode cX6_numberOf 18 = .ok (.iinc 2 1, 3) := by decide +kernel
theorem dX6_numberOf_21 : decode cX6_numberOf 21 = .ok (.goto (-13), 3) := by decide +kernel
theorem dX6_numberOf_24 : decode cX6_numberOf 24 = .ok (.iload_n 2, 1) := by decide +kernel
theorem dX6_numberOf_25 : decode cX6_numberOf 25 = .ok (.ireturn, 1) := by decide +kernel
set_option maxRecDepth 20000 in
theorem ggX6_about_X6_has : GoodIn wsX6_about wsX6_has := goodIn_r _ [8, 9, 35, 36, 37, 38, 39, 40, 41, 42, 43, 44, 45, 46, 47, 48, 49, 50, 51, 52, 53, 54, 55, 56, 57, 58, 59, 60, 61] (by decide +kernel) (by decide +kernel)
set_option maxRecDepth 20000 in
theorem gX6_about_X6_has : GoodIn wsX6_about (wsV RX6 107 RX6 yX6_has wsX6_has) := goodIn_app (goodIn_of _ (by decide +kernel)) ggX6_about_X6_has
set_option maxRecDepth 20000 in
theorem ggX6_about_X6_children : GoodIn wsX6_about wsX6_children := goodIn_r _ [13, 14, 15, 16, 7, 17, 9, 3, 35, 36, 37, 38, 39, 40, 41, 42, 43, 44, 45, 46, 47, 48, 49, 50, 51, 52, 53, 54, 55, 56, 57, 58, 59, 60, 61] (by decide +kernel) (by decide +kernel)
set_option maxRecDepth 20000 in
theorem gX6_about_X6_children : GoodIn wsX6_about (wsV RX6 99 RX6 yX6_children wsX6_children) := goodIn_app (goodIn_of _ (by decide +kernel)) ggX6_about_X6_children
set_option maxRecDepth 20000 in
theorem ggX6_about_X6_numberOf : GoodIn wsX6_about wsX6_numberOf := goodIn_r _ [21, 22, 23, 24, 25, 7, 26, 27, 28, 29, 10, 11, 12, 13, 14, 15, 16, 17, 9, 3, 30, 31, 32, 33, 34, 35, 36, 37, 38, 39, 40, 41, 42, 43, 44, 45, 46, 47, 48, 49, 50, 51, 52, 53, 54, 55, 56, 57, 58, 59, 60, 61] (by decide +kernel) (by decide +kernel)
set_option maxRecDepth 20000 in
theorem gX6_about_X6_numberOf : GoodIn wsX6_about (wsV RX6 171 RX6 yX6_numberOf wsX6_numberOf) := goodIn_app (goodIn_of _ (by decide +kernel)) ggX6_about_X6_numberOf
theorem dX6_about_0 : decode cX6_about 0 = .ok (.aload_n 0, 1) := by decide +kernel
theorem dX6_about_1 : decode cX6_about 1 = .ok (.aload_n 0, 1) := by decide +kernel
theorem dX6_about_2 : decode cX6_about 2 = .ok (.bipush 12, 2) := by decide +kernel
theorem dX6_about_4 : decode cX6_about 4 = .ok (.iload_n 1, 1) := by decide +kernel
theorem dX6_about_5 : decode cX6_about 5 = .ok (.invokevirtual 107, 3) := by decide +kernel
theorem dX6_about_8 : decode cX6_about 8 = .ok (.ifCond .ne 7, 3) := by decide +kernel
theorem dX6_about_11 : decode cX6_about 11 = .ok (.iconst 1, 1) := by decide +kernel
theorem dX6_about_12 : decode cX6_about 12 = .ok (.goto 17, 3) := by decide +kernel
theorem dX6_about_15 : decode cX6_about 15 = .ok (.iload_n 2, 1) := by decide +kernel
theorem dX6_about_16 : decode cX6_about 16 = .ok (.ifCond .lt 8, 3) := by decide +kernel
theorem dX6_about_19 : decode cX6_about 19 = .ok (.iload_n 2, 1) := by decide +kernel
theorem dX6_about_20 : decode cX6_about 20 = .ok (.iconst 3, 1) := by decide +kernel
theorem dX6_about_21 : decode cX6_about 21 = .ok (.if_icmp .le 7, 3) := by decide +kernel
theorem dX6_about_24 : decode cX6_about 24 = .ok (.iconst 2, 1) := by decide +kernel
theorem dX6_about_25 : decode cX6_about 25 = .ok (.goto 4, 3) := by decide +kernel
theorem dX6_about_28 : decode cX6_about 28 = .ok (.iconst 0, 1) := by decide +kernel
theorem dX6_about_29 : decode cX6_about 29 = .ok (.putfield 82, 3) := by decide +kernel
theorem dX6_about_32 : decode cX6_about 32 = .ok (.aload_n 0, 1) := by decide +kernel
theorem dX6_about_33 : decode cX6_about 33 = .ok (.getfield 82, 3) := by decide +kernel
theorem dX6_about_36 : decode cX6_about 36 = .ok (.ifCond .le 5, 3) := by decide +kernel
theorem dX6_about_39 : decode cX6_about 39 = .ok (.iconst 0, 1) := by decide +kernel
theorem dX6_about_40 : decode cX6_about 40 = .ok (.ireturn, 1) := by decide +kernel
theorem dX6_about_41 : decode cX6_about 41 = .ok (.iload_n 2, 1) := by decide +kernel
theorem dX6_about_42 : decode cX6_about 42 = .ok (.ifCond .ne 16, 3) := by decide +kernel
theorem dX6_about_45 : decode cX6_about 45 = .ok (.aload_n 0, 1) := by decide +kernel
theorem dX6_about_46 : decode cX6_about 46 = .ok (.getfield 13, 3) := by decide +kernel
theorem dX6_about_49 : decode cX6_about 49 = .ok (.sipush 288, 3) := by decide +kernel
theorem dX6_about_52 : decode cX6_about 52 = .ok (.iload_n 1, 1) := by decide +kernel
theorem dX6_about_53 : decode cX6_about 53 = .ok (.iadd, 1) := by decide +kernel
theorem dX6_about_54 : decode cX6_about 54 = .ok (.iaload, 1) := by decide +kernel
theorem dX6_about_55 : decode cX6_about 55 = .ok (.goto 41, 3) := by decide +kernel
theorem dX6_about_58 : decode cX6_about 58 = .ok (.iload_n 2, 1) := by decide +kernel
theorem dX6_about_59 : decode cX6_about 59 = .ok (.iconst 1, 1) := by decide +kernel
theorem dX6_about_60 : decode cX6_about 60 = .ok (.if_icmp .ne 16, 3) := by decide +kernel
theorem dX6_about_63 : decode cX6_about 63 = .ok (.aload_n 0, 1) := by decide +kernel
theorem dX6_about_64 : decode cX6_about 64 = .ok (.getfield 17, 3) := by decide +kernel
theorem dX6_about_67 : decode cX6_about 67 = .ok (.sipush 288, 3) := by decide +kernel
theorem dX6_about_70 : decode cX6_about 70 = .ok (.iload_n 1, 1) := by decide +kernel
theorem dX6_about_71 : decode cX6_about 71 = .ok (.iadd, 1) := by decide +kernel
theorem dX6_about_72 : decode cX6_about 72 = .ok (.iaload, 1) := by decide +kernel
theorem dX6_about_73 : decode cX6_about 73 = .ok (.goto 23, 3) := by decide +kernel
theorem dX6_about_76 : decode cX6_about 76 = .ok (.iload_n 2, 1) := by decide +kernel
theorem dX6_about_77 : decode cX6_about 77 = .ok (.iconst 2, 1) := by decide +kernel
theorem dX6_about_78 : decode cX6_about 78 = .ok (.if_icmp .ne 13, 3) := by decide +kernel
theorem dX6_about_81 : decode cX6_about 81 = .ok (.aload_n 0, 1) := by decide +kernel
theorem dX6_about_82 : decode cX6_about 82 = .ok (.bipush 12, 2) := by decide +kernel
theorem dX6_about_84 : decode cX6_about 84 = .ok (.iload_n 1, 1) := by decide +kernel
theorem dX6_about_85 : decode cX6_about 85 = .ok (.invokevirtual 99, 3) := by decide +kernel
theorem dX6_about_88 : decode cX6_about 88 = .ok (.goto 8, 3) := by decide +kernel
theorem dX6_about_91 : decode cX6_about 91 = .ok (.aload_n 0, 1) := by decide +kernel
theorem dX6_about_92 : decode cX6_about 92 = .ok (.iload_n 1, 1) := by decide +kernel
theorem dX6_about_93 : decode cX6_about 93 = .ok (.invokevirtual 171, 3) := by decide +kernel
theorem dX6_about_96 : decode cX6_about 96 = .ok (.ireturn, 1) := by decide +kernel
set_option maxRecDepth 20000 in
theorem ggX6_child_X6_has : GoodIn wsX6_child wsX6_has := goodIn_r _ [6, 7, 22, 23, 24, 25, 26, 27, 28, 29, 30, 31, 32, 33, 34, 35, 36, 37, 38, 39, 40, 41, 42, 43, 44, 45, 46, 47, 48] (by decide +kernel) (by decide +kernel)
set_option maxRecDepth 20000 in
theorem gX6_child_X6_has : GoodIn wsX6_child (wsV RX6 107 RX6 yX6_has wsX6_has) := goodIn_app (goodIn_of _ (by decide +kernel)) ggX6_child_X6_has
set_option maxRecDepth 20000 in
theorem ggX6_child_X6_children : GoodIn wsX6_child wsX6_children := goodIn_r _ [11, 12, 13, 14, 5, 15, 7, 16, 22, 23, 24, 25, 26, 27, 28, 29, 30, 31, 32, 33, 34, 35, 36, 37, 38, 39, 40, 41, 42, 43, 44, 45, 46, 47, 48] (by decide +kernel) (by decide +kernel)
set_option maxRecDepth 20000 in
theorem gX6_child_X6_children : GoodIn wsX6_child (wsV RX6 99 RX6 yX6_children wsX6_children) := goodIn_app (goodIn_of _ (by decide +kernel)) ggX6_child_X6_children
set_option maxRecDepth 20000 in
theorem ggX6_child_X6_childAt : GoodIn wsX6_child wsX6_childAt := goodIn_r _ [20, 21, 12, 13, 14, 5, 15, 7, 16, 22, 23, 24, 25, 26, 27, 28, 29, 30, 31, 32, 33, 34, 35, 36, 37, 38, 39, 40, 41, 42, 43, 44, 45, 46, 47, 48] (by decide +kernel) (by decide +kernel)
set_option maxRecDepth 20000 in
theorem gX6_child_X6_childAt : GoodIn wsX6_child (wsV RX6 103 RX6 yX6_childAt wsX6_childAt) := goodIn_app (goodIn_of _ (by decide +kernel)) ggX6_child_X6_childAt
theorem dX6_child_0 : decode cX6_child 0 = .ok (.aload_n 0, 1) := by decide +kernel
theorem dX6_child_1 : decode cX6_child 1 = .ok (.aload_n 0, 1) := by decide +kernel
theorem dX6_child_2 : decode cX6_child 2 = .ok (.bipush 12, 2) := by decide +kernel
theorem dX6_child_4 : decode cX6_child 4 = .ok (.iload_n 1, 1) := by decide +kernel
theorem dX6_child_5 : decode cX6_child 5 = .ok (.invokevirtual 107, 3) := by decide +kernel
theorem dX6_child_8 : decode cX6_child 8 = .ok (.ifCond .ne 7, 3) := by decide +kernel
theorem dX6_child_11 : decode cX6_child 11 = .ok (.iconst 1, 1) := by decide +kernel
theorem dX6_child_12 : decode cX6_child 12 = .ok (.goto 23, 3) := by decide +kernel
theorem dX6_child_15 : decode cX6_child 15 = .ok (.iload_n 2, 1) := by decide +kernel
theorem dX6_child_16 : decode cX6_child 16 = .ok (.ifCond .lt 14, 3) := by decide +kernel
theorem dX6_child_19 : decode cX6_child 19 = .ok (.iload_n 2, 1) := by decide +kernel
theorem dX6_child_20 : decode cX6_child 20 = .ok (.aload_n 0, 1) := by decide +kernel
theorem dX6_child_21 : decode cX6_child 21 = .ok (.bipush 12, 2) := by decide +kernel
theorem dX6_child_23 : decode cX6_child 23 = .ok (.iload_n 1, 1) := by decide +kernel
theorem dX6_child_24 : decode cX6_child 24 = .ok (.invokevirtual 99, 3) := by decide +kernel
theorem dX6_child_27 : decode cX6_child 27 = .ok (.if_icmp .lt 7, 3) := by decide +kernel
theorem dX6_child_30 : decode cX6_child 30 = .ok (.iconst 2, 1) := by decide +kernel
theorem dX6_child_31 : decode cX6_child 31 = .ok (.goto 4, 3) := by decide +kernel
theorem dX6_child_34 : decode cX6_child 34 = .ok (.iconst 0, 1) := by decide +kernel
theorem dX6_child_35 : decode cX6_child 35 = .ok (.putfield 82, 3) := by decide +kernel
end
section
theorem dX6_child_38 : decode cX6_child 38 = .ok (.aload_n 0, 1) := by decide +kernel
theorem dX6_child_39 : decode cX6_child 39 = .ok (.getfield 82, 3) := by decide +kernel
theorem dX6_child_42 : decode cX6_child 42 = .ok (.ifCond .ne 14, 3) := by decide +kernel
theorem dX6_child_45 : decode cX6_child 45 = .ok (.aload_n 0, 1) := by decide +kernel
theorem dX6_child_46 : decode cX6_child 46 = .ok (.bipush 12, 2) := by decide +kernel
theorem dX6_child_48 : decode cX6_child 48 = .ok (.iload_n 1, 1) := by decide +kernel
theorem dX6_child_49 : decode cX6_child 49 = .ok (.iload_n 2, 1) := by decide +kernel
theorem dX6_child_50 : decode cX6_child 50 = .ok (.invokevirtual 103, 3) := by decide +kernel
theorem dX6_child_53 : decode cX6_child 53 = .ok (.goto 4, 3) := by decide +kernel
theorem dX6_child_56 : decode cX6_child 56 = .ok (.iconst 0, 1) := by decide +kernel
theorem dX6_child_57 : decode cX6_child 57 = .ok (.ireturn, 1) := by decide +kernel
set_option maxRecDepth 20000 in
theorem ggX6_nodes_X6_walk : GoodIn wsX6_nodes wsX6_walk := goodIn_r _ [8, 3, 9, 10, 11, 12, 13, 14, 7, 15, 16, 17, 18, 19, 20, 21, 22, 23, 24, 25, 26, 27, 28, 29, 30, 31, 32, 33, 34, 35, 36, 37, 38, 39, 40, 41, 42, 43, 44, 45, 46, 47, 48, 49, 50, 51, 52, 53] (by decide +kernel) (by decide +kernel)
set_option maxRecDepth 20000 in
theorem gX6_nodes_X6_walk : GoodIn wsX6_nodes (wsV RX6 114 RX6 yX6_walk wsX6_walk) := goodIn_app (goodIn_of _ (by decide +kernel)) ggX6_nodes_X6_walk
theorem dX6_nodes_0 : decode cX6_nodes 0 = .ok (.aload_n 0, 1) := by decide +kernel
theorem dX6_nodes_1 : decode cX6_nodes 1 = .ok (.iconst 0, 1) := by decide +kernel
theorem dX6_nodes_2 : decode cX6_nodes 2 = .ok (.putfield 82, 3) := by decide +kernel
theorem dX6_nodes_5 : decode cX6_nodes 5 = .ok (.aload_n 0, 1) := by decide +kernel
theorem dX6_nodes_6 : decode cX6_nodes 6 = .ok (.bipush 12, 2) := by decide +kernel
theorem dX6_nodes_8 : decode cX6_nodes 8 = .ok (.invokevirtual 114, 3) := by decide +kernel
theorem dX6_nodes_11 : decode cX6_nodes 11 = .ok (.iload_n 1, 1) := by decide +kernel
theorem dX6_nodes_12 : decode cX6_nodes 12 = .ok (.ifCond .eq 10, 3) := by decide +kernel
theorem dX6_nodes_15 : decode cX6_nodes 15 = .ok (.aload_n 0, 1) := by decide +kernel
theorem dX6_nodes_16 : decode cX6_nodes 16 = .ok (.getfield 23, 3) := by decide +kernel
theorem dX6_nodes_19 : decode cX6_nodes 19 = .ok (.goto 7, 3) := by decide +kernel
theorem dX6_nodes_22 : decode cX6_nodes 22 = .ok (.aload_n 0, 1) := by decide +kernel
theorem dX6_nodes_23 : decode cX6_nodes 23 = .ok (.getfield 93, 3) := by decide +kernel
theorem dX6_nodes_26 : decode cX6_nodes 26 = .ok (.ireturn, 1) := by decide +kernel
set_option maxRecDepth 20000 in
theorem ggX6_isFound_X6_isAt : GoodIn wsX6_isFound wsX6_isAt := goodIn_r _ [7, 1, 8, 9, 10, 11, 12, 13, 14, 15, 16, 17, 18, 19, 20, 21, 22, 23, 24, 25, 26, 27, 28, 29, 30, 31, 32, 33, 34] (by decide +kernel) (by decide +kernel)
set_option maxRecDepth 20000 in
theorem gX6_isFound_X6_isAt : GoodIn wsX6_isFound (wsV RX6 121 RX6 yX6_isAt wsX6_isAt) := goodIn_app (goodIn_of _ (by decide +kernel)) ggX6_isFound_X6_isAt
theorem dX6_isFound_0 : decode cX6_isFound 0 = .ok (.aload_n 0, 1) := by decide +kernel
theorem dX6_isFound_1 : decode cX6_isFound 1 = .ok (.getfield 17, 3) := by decide +kernel
theorem dX6_isFound_4 : decode cX6_isFound 4 = .ok (.sipush 288, 3) := by decide +kernel
theorem dX6_isFound_7 : decode cX6_isFound 7 = .ok (.iload_n 1, 1) := by decide +kernel
theorem dX6_isFound_8 : decode cX6_isFound 8 = .ok (.iadd, 1) := by decide +kernel
theorem dX6_isFound_9 : decode cX6_isFound 9 = .ok (.iaload, 1) := by decide +kernel
theorem dX6_isFound_10 : decode cX6_isFound 10 = .ok (.istore 4, 2) := by decide +kernel
theorem dX6_isFound_12 : decode cX6_isFound 12 = .ok (.iload 4, 2) := by decide +kernel
theorem dX6_isFound_14 : decode cX6_isFound 14 = .ok (.ifCond .ge 5, 3) := by decide +kernel
theorem dX6_isFound_17 : decode cX6_isFound 17 = .ok (.iconst 0, 1) := by decide +kernel
theorem dX6_isFound_18 : decode cX6_isFound 18 = .ok (.ireturn, 1) := by decide +kernel
theorem dX6_isFound_19 : decode cX6_isFound 19 = .ok (.iload_n 2, 1) := by decide +kernel
theorem dX6_isFound_20 : decode cX6_isFound 20 = .ok (.iconst 1, 1) := by decide +kernel
theorem dX6_isFound_21 : decode cX6_isFound 21 = .ok (.if_icmp .ne 19, 3) := by decide +kernel
theorem dX6_isFound_24 : decode cX6_isFound 24 = .ok (.iload_n 3, 1) := by decide +kernel
theorem dX6_isFound_25 : decode cX6_isFound 25 = .ok (.iload 4, 2) := by decide +kernel
theorem dX6_isFound_27 : decode cX6_isFound 27 = .ok (.ishr, 1) := by decide +kernel
theorem dX6_isFound_28 : decode cX6_isFound 28 = .ok (.iconst 1, 1) := by decide +kernel
theorem dX6_isFound_29 : decode cX6_isFound 29 = .ok (.iand, 1) := by decide +kernel
theorem dX6_isFound_30 : decode cX6_isFound 30 = .ok (.iconst 1, 1) := by decide +kernel
theorem dX6_isFound_31 : decode cX6_isFound 31 = .ok (.if_icmp .ne 7, 3) := by decide +kernel
theorem dX6_isFound_34 : decode cX6_isFound 34 = .ok (.iconst 1, 1) := by decide +kernel
theorem dX6_isFound_35 : decode cX6_isFound 35 = .ok (.goto 4, 3) := by decide +kernel
theorem dX6_isFound_38 : decode cX6_isFound 38 = .ok (.iconst 0, 1) := by decide +kernel
theorem dX6_isFound_39 : decode cX6_isFound 39 = .ok (.ireturn, 1) := by decide +kernel
theorem dX6_isFound_40 : decode cX6_isFound 40 = .ok (.iconst 0, 1) := by decide +kernel
theorem dX6_isFound_41 : decode cX6_isFound 41 = .ok (.istore 5, 2) := by decide +kernel
theorem dX6_isFound_43 : decode cX6_isFound 43 = .ok (.iconst 0, 1) := by decide +kernel
theorem dX6_isFound_44 : decode cX6_isFound 44 = .ok (.istore 6, 2) := by decide +kernel
theorem dX6_isFound_46 : decode cX6_isFound 46 = .ok (.iload 6, 2) := by decide +kernel
theorem dX6_isFound_48 : decode cX6_isFound 48 = .ok (.bipush 24, 2) := by decide +kernel
theorem dX6_isFound_50 : decode cX6_isFound 50 = .ok (.if_icmp .ge 109, 3) := by decide +kernel
theorem dX6_isFound_53 : decode cX6_isFound 53 = .ok (.iload_n 3, 1) := by decide +kernel
theorem dX6_isFound_54 : decode cX6_isFound 54 = .ok (.iload 6, 2) := by decide +kernel
theorem dX6_isFound_56 : decode cX6_isFound 56 = .ok (.ishr, 1) := by decide +kernel
theorem dX6_isFound_57 : decode cX6_isFound 57 = .ok (.iconst 1, 1) := by decide +kernel
theorem dX6_isFound_58 : decode cX6_isFound 58 = .ok (.iand, 1) := by decide +kernel
theorem dX6_isFound_59 : decode cX6_isFound 59 = .ok (.iconst 1, 1) := by decide +kernel
theorem dX6_isFound_60 : decode cX6_isFound 60 = .ok (.if_icmp .ne 7, 3) := by decide +kernel
theorem dX6_isFound_63 : decode cX6_isFound 63 = .ok (.iconst 1, 1) := by decide +kernel
theorem dX6_isFound_64 : decode cX6_isFound 64 = .ok (.goto 4, 3) := by decide +kernel
theorem dX6_isFound_67 : decode cX6_isFound 67 = .ok (.iconst 0, 1) := by decide +kernel
theorem dX6_isFound_68 : decode cX6_isFound 68 = .ok (.istore 7, 2) := by decide +kernel
theorem dX6_isFound_70 : decode cX6_isFound 70 = .ok (.iload 5, 2) := by decide +kernel
theorem dX6_isFound_72 : decode cX6_isFound 72 = .ok (.ifCond .ne 74, 3) := by decide +kernel
theorem dX6_isFound_75 : decode cX6_isFound 75 = .ok (.iload 7, 2) := by decide +kernel
theorem dX6_isFound_77 : decode cX6_isFound 77 = .ok (.ifCond .eq 73, 3) := by decide +kernel
theorem dX6_isFound_80 : decode cX6_isFound 80 = .ok (.iload_n 2, 1) := by decide +kernel
theorem dX6_isFound_81 : decode cX6_isFound 81 = .ok (.iconst 2, 1) := by decide +kernel
theorem dX6_isFound_82 : decode cX6_isFound 82 = .ok (.if_icmp .ne 24, 3) := by decide +kernel
theorem dX6_isFound_85 : decode cX6_isFound 85 = .ok (.iload 6, 2) := by decide +kernel
theorem dX6_isFound_87 : decode cX6_isFound 87 = .ok (.iload_n 1, 1) := by decide +kernel
theorem dX6_isFound_88 : decode cX6_isFound 88 = .ok (.if_icmp .eq 62, 3) := by decide +kernel
theorem dX6_isFound_91 : decode cX6_isFound 91 = .ok (.aload_n 0, 1) := by decide +kernel
theorem dX6_isFound_92 : decode cX6_isFound 92 = .ok (.bipush 12, 2) := by decide +kernel
theorem dX6_isFound_94 : decode cX6_isFound 94 = .ok (.iload_n 1, 1) := by decide +kernel
theorem dX6_isFound_95 : decode cX6_isFound 95 = .ok (.iload 6, 2) := by decide +kernel
theorem dX6_isFound_97 : decode cX6_isFound 97 = .ok (.invokevirtual 121, 3) := by decide +kernel
theorem dX6_isFound_100 : decode cX6_isFound 100 = .ok (.ifCond .eq 50, 3) := by decide +kernel
theorem dX6_isFound_103 : decode cX6_isFound 103 = .ok (.goto 43, 3) := by decide +kernel
theorem dX6_isFound_106 : decode cX6_isFound 106 = .ok (.aload_n 0, 1) := by decide +kernel
theorem dX6_isFound_107 : decode cX6_isFound 107 = .ok (.getfield 17, 3) := by decide +kernel
theorem dX6_isFound_110 : decode cX6_isFound 110 = .ok (.sipush 288, 3) := by decide +kernel
theorem dX6_isFound_113 : decode cX6_isFound 113 = .ok (.iload 6, 2) := by decide +kernel
theorem dX6_isFound_115 : decode cX6_isFound 115 = .ok (.iadd, 1) := by decide +kernel
theorem dX6_isFound_116 : decode cX6_isFound 116 = .ok (.iaload, 1) := by decide +kernel
theorem dX6_isFound_117 : decode cX6_isFound 117 = .ok (.iload 4, 2) := by decide +kernel
theorem dX6_isFound_119 : decode cX6_isFound 119 = .ok (.if_icmp .ne 31, 3) := by decide +kernel
theorem dX6_isFound_122 : decode cX6_isFound 122 = .ok (.aload_n 0, 1) := by decide +kernel
theorem dX6_isFound_123 : decode cX6_isFound 123 = .ok (.getfield 20, 3) := by decide +kernel
theorem dX6_isFound_126 : decode cX6_isFound 126 = .ok (.sipush 288, 3) := by decide +kernel
theorem dX6_isFound_129 : decode cX6_isFound 129 = .ok (.iload 6, 2) := by decide +kernel
theorem dX6_isFound_131 : decode cX6_isFound 131 = .ok (.iadd, 1) := by decide +kernel
theorem dX6_isFound_132 : decode cX6_isFound 132 = .ok (.iaload, 1) := by decide +kernel
theorem dX6_isFound_133 : decode cX6_isFound 133 = .ok (.aload_n 0, 1) := by decide +kernel
theorem dX6_isFound_134 : decode cX6_isFound 134 = .ok (.getfield 20, 3) := by decide +kernel
theorem dX6_isFound_137 : decode cX6_isFound 137 = .ok (.sipush 288, 3) := by decide +kernel
theorem dX6_isFound_140 : decode cX6_isFound 140 = .ok (.iload_n 1, 1) := by decide +kernel
theorem dX6_isFound_141 : decode cX6_isFound 141 = .ok (.iadd, 1) := by decide +kernel
theorem dX6_isFound_142 : decode cX6_isFound 142 = .ok (.iaload, 1) := by decide +kernel
theorem dX6_isFound_143 : decode cX6_isFound 143 = .ok (.if_icmp .ge 7, 3) := by decide +kernel
theorem dX6_isFound_146 : decode cX6_isFound 146 = .ok (.iconst 1, 1) := by decide +kernel
theorem dX6_isFound_147 : decode cX6_isFound 147 = .ok (.goto 4, 3) := by decide +kernel
theorem dX6_isFound_150 : decode cX6_isFound 150 = .ok (.iconst 0, 1) := by decide +kernel
theorem dX6_isFound_151 : decode cX6_isFound 151 = .ok (.istore 5, 2) := by decide +kernel
theorem dX6_isFound_153 : decode cX6_isFound 153 = .ok (.iinc 6 1, 3) := by decide +kernel
theorem dX6_isFound_156 : decode cX6_isFound 156 = .ok (.goto (-110), 3) := by decide +kernel
theorem dX6_isFound_159 : decode cX6_isFound 159 = .ok (.iload 5, 2) := by decide +kernel
theorem dX6_isFound_161 : decode cX6_isFound 161 = .ok (.ireturn, 1) := by decide +kernel
set_option maxRecDepth 20000 in
theorem ggX6_found_X6_isFound : GoodIn wsX6_found wsX6_isFound := goodIn_r _ [7, 8, 9, 10, 11, 12, 6, 13, 14, 15, 16, 17, 18, 19, 20, 21, 22, 23, 24, 25, 26, 27, 28, 29, 30, 31, 32, 33, 34, 35, 36, 37, 38, 39, 40] (by decide +kernel) (by decide +kernel)
set_option maxRecDepth 20000 in
theorem gX6_found_X6_isFound : GoodIn wsX6_found (wsV RX6 175 RX6 yX6_isFound wsX6_isFound) := goodIn_app (goodIn_of _ (by decide +kernel)) ggX6_found_X6_isFound
theorem dX6_found_0 : decode cX6_found 0 = .ok (.iconst 1, 1) := by decide +kernel
theorem dX6_found_1 : decode cX6_found 1 = .ok (.istore_n 2, 1) := by decide +kernel
theorem dX6_found_2 : decode cX6_found 2 = .ok (.iconst 0, 1) := by decide +kernel
theorem dX6_found_3 : decode cX6_found 3 = .ok (.istore_n 3, 1) := by decide +kernel
theorem dX6_found_4 : decode cX6_found 4 = .ok (.iload_n 3, 1) := by decide +kernel
theorem dX6_found_5 : decode cX6_found 5 = .ok (.bipush 6, 2) := by decide +kernel
theorem dX6_found_7 : decode cX6_found 7 = .ok (.if_icmp .ge 136, 3) := by decide +kernel
theorem dX6_found_10 : decode cX6_found 10 = .ok (.iload_n 1, 1) := by decide +kernel
theorem dX6_found_11 : decode cX6_found 11 = .ok (.iconst 5, 1) := by decide +kernel
theorem dX6_found_12 : decode cX6_found 12 = .ok (.iload_n 3, 1) := by decide +kernel
theorem dX6_found_13 : decode cX6_found 13 = .ok (.imul, 1) := by decide +kernel
theorem dX6_found_14 : decode cX6_found 14 = .ok (.ishr, 1) := by decide +kernel
theorem dX6_found_15 : decode cX6_found 15 = .ok (.iconst 3, 1) := by decide +kernel
theorem dX6_found_16 : decode cX6_found 16 = .ok (.iand, 1) := by decide +kernel
theorem dX6_found_17 : decode cX6_found 17 = .ok (.ifCond .eq 126, 3) := by decide +kernel
theorem dX6_found_20 : decode cX6_found 20 = .ok (.iload_n 1, 1) := by decide +kernel
theorem dX6_found_21 : decode cX6_found 21 = .ok (.iconst 5, 1) := by decide +kernel
theorem dX6_found_22 : decode cX6_found 22 = .ok (.iload_n 3, 1) := by decide +kernel
theorem dX6_found_23 : decode cX6_found 23 = .ok (.imul, 1) := by decide +kernel
theorem dX6_found_24 : decode cX6_found 24 = .ok (.ishr, 1) := by decide +kernel
theorem dX6_found_25 : decode cX6_found 25 = .ok (.iconst 3, 1) := by decide +kernel
theorem dX6_found_26 : decode cX6_found 26 = .ok (.iand, 1) := by decide +kernel
theorem dX6_found_27 : decode cX6_found 27 = .ok (.istore 4, 2) := by decide +kernel
theorem dX6_found_29 : decode cX6_found 29 = .ok (.iload_n 1, 1) := by decide +kernel
theorem dX6_found_30 : decode cX6_found 30 = .ok (.iconst 5, 1) := by decide +kernel
theorem dX6_found_31 : decode cX6_found 31 = .ok (.iload_n 3, 1) := by decide +kernel
theorem dX6_found_32 : decode cX6_found 32 = .ok (.imul, 1) := by decide +kernel
theorem dX6_found_33 : decode cX6_found 33 = .ok (.iconst 2, 1) := by decide +kernel
theorem dX6_found_34 : decode cX6_found 34 = .ok (.iadd, 1) := by decide +kernel
theorem dX6_found_35 : decode cX6_found 35 = .ok (.ishr, 1) := by decide +kernel
theorem dX6_found_36 : decode cX6_found 36 = .ok (.bipush 7, 2) := by decide +kernel
theorem dX6_found_38 : decode cX6_found 38 = .ok (.iand, 1) := by decide +kernel
theorem dX6_found_39 : decode cX6_found 39 = .ok (.istore 5, 2) := by decide +kernel
theorem dX6_found_41 : decode cX6_found 41 = .ok (.iconst 0, 1) := by decide +kernel
theorem dX6_found_42 : decode cX6_found 42 = .ok (.istore 6, 2) := by decide +kernel
theorem dX6_found_44 : decode cX6_found 44 = .ok (.iconst 0, 1) := by decide +kernel
theorem dX6_found_45 : decode cX6_found 45 = .ok (.istore 7, 2) := by decide +kernel
theorem dX6_found_47 : decode cX6_found 47 = .ok (.iload 7, 2) := by decide +kernel
theorem dX6_found_49 : decode cX6_found 49 = .ok (.bipush 24, 2) := by decide +kernel
theorem dX6_found_51 : decode cX6_found 51 = .ok (.if_icmp .ge 83, 3) := by decide +kernel
theorem dX6_found_54 : decode cX6_found 54 = .ok (.aload_n 0, 1) := by decide +kernel
theorem dX6_found_55 : decode cX6_found 55 = .ok (.getfield 7, 3) := by decide +kernel
theorem dX6_found_58 : decode cX6_found 58 = .ok (.sipush 288, 3) := by decide +kernel
theorem dX6_found_61 : decode cX6_found 61 = .ok (.iload 7, 2) := by decide +kernel
theorem dX6_found_63 : decode cX6_found 63 = .ok (.iadd, 1) := by decide +kernel
theorem dX6_found_64 : decode cX6_found 64 = .ok (.baload, 1) := by decide +kernel
theorem dX6_found_65 : decode cX6_found 65 = .ok (.ifCond .eq 29, 3) := by decide +kernel
theorem dX6_found_68 : decode cX6_found 68 = .ok (.iload 5, 2) := by decide +kernel
theorem dX6_found_70 : decode cX6_found 70 = .ok (.iconst 5, 1) := by decide +kernel
theorem dX6_found_71 : decode cX6_found 71 = .ok (.if_icmp .gt 19, 3) := by decide +kernel
theorem dX6_found_74 : decode cX6_found 74 = .ok (.aload_n 0, 1) := by decide +kernel
theorem dX6_found_75 : decode cX6_found 75 = .ok (.getfield 13, 3) := by decide +kernel
theorem dX6_found_78 : decode cX6_found 78 = .ok (.sipush 288, 3) := by decide +kernel
theorem dX6_found_81 : decode cX6_found 81 = .ok (.iload 7, 2) := by decide +kernel
theorem dX6_found_83 : decode cX6_found 83 = .ok (.iadd, 1) := by decide +kernel
theorem dX6_found_84 : decode cX6_found 84 = .ok (.iaload, 1) := by decide +kernel
theorem dX6_found_85 : decode cX6_found 85 = .ok (.iload 5, 2) := by decide +kernel
theorem dX6_found_87 : decode cX6_found 87 = .ok (.if_icmp .ne 7, 3) := by decide +kernel
theorem dX6_found_90 : decode cX6_found 90 = .ok (.iconst 1, 1) := by decide +kernel
theorem dX6_found_91 : decode cX6_found 91 = .ok (.goto 4, 3) := by decide +kernel
theorem dX6_found_94 : decode cX6_found 94 = .ok (.iconst 0, 1) := by decide +kernel
theorem dX6_found_95 : decode cX6_found 95 = .ok (.istore 8, 2) := by decide +kernel
theorem dX6_found_97 : decode cX6_found 97 = .ok (.iload 8, 2) := by decide +kernel
theorem dX6_found_99 : decode cX6_found 99 = .ok (.ifCond .eq 25, 3) := by decide +kernel
theorem dX6_found_102 : decode cX6_found 102 = .ok (.aload_n 0, 1) := by decide +kernel
theorem dX6_found_103 : decode cX6_found 103 = .ok (.iload 7, 2) := by decide +kernel
theorem dX6_found_105 : decode cX6_found 105 = .ok (.iload 4, 2) := by decide +kernel
theorem dX6_found_107 : decode cX6_found 107 = .ok (.iload_n 2, 1) := by decide +kernel
theorem dX6_found_108 : decode cX6_found 108 = .ok (.invokevirtual 175, 3) := by decide +kernel
theorem dX6_found_111 : decode cX6_found 111 = .ok (.ifCond .eq 13, 3) := by decide +kernel
theorem dX6_found_114 : decode cX6_found 114 = .ok (.iload 6, 2) := by decide +kernel
theorem dX6_found_116 : decode cX6_found 116 = .ok (.iconst 1, 1) := by decide +kernel
theorem dX6_found_117 : decode cX6_found 117 = .ok (.iload 7, 2) := by decide +kernel
theorem dX6_found_119 : decode cX6_found 119 = .ok (.ishl, 1) := by decide +kernel
theorem dX6_found_120 : decode cX6_found 120 = .ok (.ior, 1) := by decide +kernel
theorem dX6_found_121 : decode cX6_found 121 = .ok (.goto 5, 3) := by decide +kernel
theorem dX6_found_124 : decode cX6_found 124 = .ok (.iload 6, 2) := by decide +kernel
theorem dX6_found_126 : decode cX6_found 126 = .ok (.istore 6, 2) := by decide +kernel
theorem dX6_found_128 : decode cX6_found 128 = .ok (.iinc 7 1, 3) := by decide +kernel
theorem dX6_found_131 : decode cX6_found 131 = .ok (.goto (-84), 3) := by decide +kernel
theorem dX6_found_134 : decode cX6_found 134 = .ok (.iload 6, 2) := by decide +kernel
theorem dX6_found_136 : decode cX6_found 136 = .ok (.istore_n 2, 1) := by decide +kernel
theorem dX6_found_137 : decode cX6_found 137 = .ok (.iinc 3 1, 3) := by decide +kernel
theorem dX6_found_140 : decode cX6_found 140 = .ok (.goto (-136), 3) := by decide +kernel
theorem dX6_found_143 : decode cX6_found 143 = .ok (.iload_n 2, 1) := by decide +kernel
theorem dX6_found_144 : decode cX6_found 144 = .ok (.ireturn, 1) := by decide +kernel
set_option maxRecDepth 20000 in
theorem ggX6_count_X6_found : GoodIn wsX6_count wsX6_found := goodIn_r _ [6, 7, 8, 9, 10, 11, 5, 12, 13, 14, 15, 16, 17, 18, 19, 20, 21, 22, 23, 24, 25, 26, 27, 28, 29, 30, 31, 32, 33, 34, 35, 36, 37, 38, 39, 40, 41, 42, 43, 44, 45] (by decide +kernel) (by decide +kernel)
set_option maxRecDepth 20000 in
theorem gX6_count_X6_found : GoodIn wsX6_count (wsV RX6 178 RX6 yX6_found wsX6_found) := goodIn_app (goodIn_of _ (by decide +kernel)) ggX6_count_X6_found
theorem dX6_count_0 : decode cX6_count 0 = .ok (.aload_n 0, 1) := by decide +kernel
theorem dX6_count_1 : decode cX6_count 1 = .ok (.iconst 0, 1) := by decide +kernel
theorem dX6_count_2 : decode cX6_count 2 = .ok (.putfield 82, 3) := by decide +kernel
theorem dX6_count_5 : decode cX6_count 5 = .ok (.aload_n 0, 1) := by decide +kernel
theorem dX6_count_6 : decode cX6_count 6 = .ok (.iload_n 1, 1) := by decide +kernel
theorem dX6_count_7 : decode cX6_count 7 = .ok (.invokevirtual 178, 3) := by decide +kernel
theorem dX6_count_10 : decode cX6_count 10 = .ok (.istore_n 2, 1) := by decide +kernel
theorem dX6_count_11 : decode cX6_count 11 = .ok (.iconst 0, 1) := by decide +kernel
theorem dX6_count_12 : decode cX6_count 12 = .ok (.istore_n 3, 1) := by decide +kernel
theorem dX6_count_13 : decode cX6_count 13 = .ok (.iconst 0, 1) := by decide +kernel
theorem dX6_count_14 : decode cX6_count 14 = .ok (.istore 4, 2) := by decide +kernel
theorem dX6_count_16 : decode cX6_count 16 = .ok (.iload 4, 2) := by decide +kernel
theorem dX6_count_18 : decode cX6_count 18 = .ok (.bipush 24, 2) := by decide +kernel
theorem dX6_count_20 : decode cX6_count 20 = .ok (.if_icmp .ge 18, 3) := by decide +kernel
theorem dX6_count_23 : decode cX6_count 23 = .ok (.iload_n 3, 1) := by decide +kernel
theorem dX6_count_24 : decode cX6_count 24 = .ok (.iload_n 2, 1) := by decide +kernel
theorem dX6_count_25 : decode cX6_count 25 = .ok (.iload 4, 2) := by decide +kernel
theorem dX6_count_27 : decode cX6_count 27 = .ok (.ishr, 1) := by decide +kernel
theorem dX6_count_28 : decode cX6_count 28 = .ok (.iconst 1, 1) := by decide +kernel
theorem dX6_count_29 : decode cX6_count 29 = .ok (.iand, 1) := by decide +kernel
theorem dX6_count_30 : decode cX6_count 30 = .ok (.iadd, 1) := by decide +kernel
theorem dX6_count_31 : decode cX6_count 31 = .ok (.istore_n 3, 1) := by decide +kernel
theorem dX6_count_32 : decode cX6_count 32 = .ok (.iinc 4 1, 3) := by decide +kernel
theorem dX6_count_35 : decode cX6_count 35 = .ok (.goto (-19), 3) := by decide +kernel
theorem dX6_count_38 : decode cX6_count 38 = .ok (.iload_n 3, 1) := by decide +kernel
theorem dX6_count_39 : decode cX6_count 39 = .ok (.ireturn, 1) := by decide +kernel
set_option maxRecDepth 20000 in
theorem ggX6_find_X6_found : GoodIn wsX6_find wsX6_found := goodIn_r _ [8, 9, 10, 11, 12, 13, 7, 14, 15, 16, 17, 18, 19, 20, 43, 44, 45, 46, 47, 48, 49, 50, 51, 52, 53, 54, 55, 56, 57, 58, 59, 60, 61, 62, 63, 64, 65, 66, 67, 68, 69] (by decide +kernel) (by decide +kernel)
set_option maxRecDepth 20000 in
theorem gX6_find_X6_found : GoodIn wsX6_find (wsV RX6 178 RX6 yX6_found wsX6_found) := goodIn_app (goodIn_of _ (by decide +kernel)) ggX6_find_X6_found
set_option maxRecDepth 20000 in
theorem ggX6_find_X6_walk : GoodIn wsX6_find wsX6_walk := goodIn_r _ [24, 2, 25, 26, 3, 27, 28, 29, 7, 30, 31, 32, 33, 34, 9, 15, 35, 36, 37, 38, 16, 43, 44, 45, 46, 47, 48, 49, 50, 51, 52, 53, 54, 55, 56, 57, 58, 59, 60, 61, 62, 63, 64, 65, 66, 67, 68, 69] (by decide +kernel) (by decide +kernel)
set_option maxRecDepth 20000 in
theorem gX6_find_X6_walk : GoodIn wsX6_find (wsV RX6 114 RX6 yX6_walk wsX6_walk) := goodIn_app (goodIn_of _ (by decide +kernel)) ggX6_find_X6_walk
set_option maxRecDepth 20000 in
theorem ggX6_find_X6_fail : GoodIn wsX6_find wsX6_fail := goodIn_r _ [42, 1, 43, 44, 45, 46, 47, 48, 49, 50, 51, 52, 53, 54, 55, 56, 57, 58, 59, 60, 61, 62, 63, 64, 65, 66, 67, 68, 69] (by decide +kernel) (by decide +kernel)
set_option maxRecDepth 20000 in
theorem gX6_find_X6_fail : GoodIn wsX6_find (wsV RX6 181 RX6 yX6_fail wsX6_fail) := goodIn_app (goodIn_of _ (by decide +kernel)) ggX6_find_X6_fail
theorem dX6_find_0 : decode cX6_find 0 = .ok (.aload_n 0, 1) := by decide +kernel
theorem dX6_find_1 : decode cX6_find 1 = .ok (.iconst 0, 1) := by decide +kernel
theorem dX6_find_2 : decode cX6_find 2 = .ok (.putfield 82, 3) := by decide +kernel
theorem dX6_find_5 : decode cX6_find 5 = .ok (.aload_n 0, 1) := by decide +kernel
theorem dX6_find_6 : decode cX6_find 6 = .ok (.iload_n 1, 1) := by decide +kernel
theorem dX6_find_7 : decode cX6_find 7 = .ok (.invokevirtual 178, 3) := by decide +kernel
theorem dX6_find_10 : decode cX6_find 10 = .ok (.istore_n 3, 1) := by decide +kernel
theorem dX6_find_11 : decode cX6_find 11 = .ok (.aload_n 0, 1) := by decide +kernel
theorem dX6_find_12 : decode cX6_find 12 = .ok (.bipush 12, 2) := by decide +kernel
theorem dX6_find_14 : decode cX6_find 14 = .ok (.invokevirtual 114, 3) := by decide +kernel
theorem dX6_find_17 : decode cX6_find 17 = .ok (.iconst 0, 1) := by decide +kernel
theorem dX6_find_18 : decode cX6_find 18 = .ok (.istore 4, 2) := by decide +kernel
theorem dX6_find_20 : decode cX6_find 20 = .ok (.iconst 0, 1) := by decide +kernel
theorem dX6_find_21 : decode cX6_find 21 = .ok (.istore 5, 2) := by decide +kernel
theorem dX6_find_23 : decode cX6_find 23 = .ok (.iload 5, 2) := by decide +kernel
theorem dX6_find_25 : decode cX6_find 25 = .ok (.aload_n 0, 1) := by decide +kernel
theorem dX6_find_26 : decode cX6_find 26 = .ok (.getfield 93, 3) := by decide +kernel
theorem dX6_find_29 : decode cX6_find 29 = .ok (.if_icmp .ge 41, 3) := by decide +kernel
theorem dX6_find_32 : decode cX6_find 32 = .ok (.iload_n 3, 1) := by decide +kernel
theorem dX6_find_33 : decode cX6_find 33 = .ok (.aload_n 0, 1) := by decide +kernel
theorem dX6_find_34 : decode cX6_find 34 = .ok (.getfield 57, 3) := by decide +kernel
theorem dX6_find_37 : decode cX6_find 37 = .ok (.iload 5, 2) := by decide +kernel
theorem dX6_find_39 : decode cX6_find 39 = .ok (.iaload, 1) := by decide +kernel
theorem dX6_find_40 : decode cX6_find 40 = .ok (.ishr, 1) := by decide +kernel
theorem dX6_find_41 : decode cX6_find 41 = .ok (.iconst 1, 1) := by decide +kernel
theorem dX6_find_42 : decode cX6_find 42 = .ok (.iand, 1) := by decide +kernel
theorem dX6_find_43 : decode cX6_find 43 = .ok (.iconst 1, 1) := by decide +kernel
theorem dX6_find_44 : decode cX6_find 44 = .ok (.if_icmp .ne 20, 3) := by decide +kernel
theorem dX6_find_47 : decode cX6_find 47 = .ok (.iload 4, 2) := by decide +kernel
theorem dX6_find_49 : decode cX6_find 49 = .ok (.iload_n 2, 1) := by decide +kernel
theorem dX6_find_50 : decode cX6_find 50 = .ok (.if_icmp .ne 11, 3) := by decide +kernel
theorem dX6_find_53 : decode cX6_find 53 = .ok (.aload_n 0, 1) := by decide +kernel
theorem dX6_find_54 : decode cX6_find 54 = .ok (.getfield 57, 3) := by decide +kernel
theorem dX6_find_57 : decode cX6_find 57 = .ok (.iload 5, 2) := by decide +kernel
theorem dX6_find_59 : decode cX6_find 59 = .ok (.iaload, 1) := by decide +kernel
theorem dX6_find_60 : decode cX6_find 60 = .ok (.ireturn, 1) := by decide +kernel
theorem dX6_find_61 : decode cX6_find 61 = .ok (.iinc 4 1, 3) := by decide +kernel
theorem dX6_find_64 : decode cX6_find 64 = .ok (.iinc 5 1, 3) := by decide +kernel
theorem dX6_find_67 : decode cX6_find 67 = .ok (.goto (-44), 3) := by decide +kernel
theorem dX6_find_70 : decode cX6_find 70 = .ok (.aload_n 0, 1) := by decide +kernel
theorem dX6_find_71 : decode cX6_find 71 = .ok (.iconst 1, 1) := by decide +kernel
theorem dX6_find_72 : decode cX6_find 72 = .ok (.invokevirtual 181, 3) := by decide +kernel
theorem dX6_find_75 : decode cX6_find 75 = .ok (.ireturn, 1) := by decide +kernel
set_option maxRecDepth 20000 in
theorem ggX6_areAlike_X6_children : GoodIn wsX6_areAlike wsX6_children := goodIn_r _ [7, 8, 9, 10, 6, 11, 12, 13, 19, 20, 21, 22, 23, 24, 25, 26, 27, 28, 29, 30, 31, 32, 33, 34, 35, 36, 37, 38, 39, 40, 41, 42, 43, 44, 45] (by decide +kernel) (by decide +kernel)
set_option maxRecDepth 20000 in
theorem gX6_areAlike_X6_children : GoodIn wsX6_areAlike (wsV RX6 99 RX6 yX6_children wsX6_children) := goodIn_app (goodIn_of _ (by decide +kernel)) ggX6_areAlike_X6_children
set_option maxRecDepth 20000 in
theorem ggX6_areAlike_X6_childAt : GoodIn wsX6_areAlike wsX6_childAt := goodIn_r _ [17, 18, 8, 9, 10, 6, 11, 12, 13, 19, 20, 21, 22, 23, 24, 25, 26, 27, 28, 29, 30, 31, 32, 33, 34, 35, 36, 37, 38, 39, 40, 41, 42, 43, 44, 45] (by decide +kernel) (by decide +kernel)
set_option maxRecDepth 20000 in
theorem gX6_areAlike_X6_childAt : GoodIn wsX6_areAlike (wsV RX6 103 RX6 yX6_childAt wsX6_childAt) := goodIn_app (goodIn_of _ (by decide +kernel)) ggX6_areAlike_X6_childAt
theorem dX6_areAlike_0 : decode cX6_areAlike 0 = .ok (.aload_n 0, 1) := by decide +kernel
theorem dX6_areAlike_1 : decode cX6_areAlike 1 = .ok (.bipush 12, 2) := by decide +kernel
theorem dX6_areAlike_3 : decode cX6_areAlike 3 = .ok (.iload_n 1, 1) := by decide +kernel
theorem dX6_areAlike_4 : decode cX6_areAlike 4 = .ok (.invokevirtual 99, 3) := by decide +kernel
theorem dX6_areAlike_7 : decode cX6_areAlike 7 = .ok (.istore_n 3, 1) := by decide +kernel
theorem dX6_areAlike_8 : decode cX6_areAlike 8 = .ok (.aload_n 0, 1) := by decide +kernel
theorem dX6_areAlike_9 : decode cX6_areAlike 9 = .ok (.getfield 13, 3) := by decide +kernel
theorem dX6_areAlike_12 : decode cX6_areAlike 12 = .ok (.sipush 288, 3) := by decide +kernel
theorem dX6_areAlike_15 : decode cX6_areAlike 15 = .ok (.iload_n 1, 1) := by decide +kernel
theorem dX6_areAlike_16 : decode cX6_areAlike 16 = .ok (.iadd, 1) := by decide +kernel
theorem dX6_areAlike_17 : decode cX6_areAlike 17 = .ok (.iaload, 1) := by decide +kernel
theorem dX6_areAlike_18 : decode cX6_areAlike 18 = .ok (.aload_n 0, 1) := by decide +kernel
theorem dX6_areAlike_19 : decode cX6_areAlike 19 = .ok (.getfield 13, 3) := by decide +kernel
theorem dX6_areAlike_22 : decode cX6_areAlike 22 = .ok (.sipush 288, 3) := by decide +kernel
theorem dX6_areAlike_25 : decode cX6_areAlike 25 = .ok (.iload_n 2, 1) := by decide +kernel
theorem dX6_areAlike_26 : decode cX6_areAlike 26 = .ok (.iadd, 1) := by decide +kernel
theorem dX6_areAlike_27 : decode cX6_areAlike 27 = .ok (.iaload, 1) := by decide +kernel
theorem dX6_areAlike_28 : decode cX6_areAlike 28 = .ok (.if_icmp .ne 18, 3) := by decide +kernel
theorem dX6_areAlike_31 : decode cX6_areAlike 31 = .ok (.iload_n 3, 1) := by decide +kernel
theorem dX6_areAlike_32 : decode cX6_areAlike 32 = .ok (.aload_n 0, 1) := by decide +kernel
theorem dX6_areAlike_33 : decode cX6_areAlike 33 = .ok (.bipush 12, 2) := by decide +kernel
theorem dX6_areAlike_35 : decode cX6_areAlike 35 = .ok (.iload_n 2, 1) := by decide +kernel
theorem dX6_areAlike_36 : decode cX6_areAlike 36 = .ok (.invokevirtual 99, 3) := by decide +kernel
theorem dX6_areAlike_39 : decode cX6_areAlike 39 = .ok (.if_icmp .ne 7, 3) := by decide +kernel
theorem dX6_areAlike_42 : decode cX6_areAlike 42 = .ok (.iconst 1, 1) := by decide +kernel
theorem dX6_areAlike_43 : decode cX6_areAlike 43 = .ok (.goto 4, 3) := by decide +kernel
theorem dX6_areAlike_46 : decode cX6_areAlike 46 = .ok (.iconst 0, 1) := by decide +kernel
theorem dX6_areAlike_47 : decode cX6_areAlike 47 = .ok (.istore 4, 2) := by decide +kernel
theorem dX6_areAlike_49 : decode cX6_areAlike 49 = .ok (.iconst 0, 1) := by decide +kernel
theorem dX6_areAlike_50 : decode cX6_areAlike 50 = .ok (.istore 5, 2) := by decide +kernel
theorem dX6_areAlike_52 : decode cX6_areAlike 52 = .ok (.iload 5, 2) := by decide +kernel
theorem dX6_areAlike_54 : decode cX6_areAlike 54 = .ok (.iload_n 3, 1) := by decide +kernel
theorem dX6_areAlike_55 : decode cX6_areAlike 55 = .ok (.if_icmp .ge 52, 3) := by decide +kernel
theorem dX6_areAlike_58 : decode cX6_areAlike 58 = .ok (.iload 4, 2) := by decide +kernel
theorem dX6_areAlike_60 : decode cX6_areAlike 60 = .ok (.ifCond .eq 47, 3) := by decide +kernel
theorem dX6_areAlike_63 : decode cX6_areAlike 63 = .ok (.aload_n 0, 1) := by decide +kernel
theorem dX6_areAlike_64 : decode cX6_areAlike 64 = .ok (.getfield 63, 3) := by decide +kernel
theorem dX6_areAlike_67 : decode cX6_areAlike 67 = .ok (.aload_n 0, 1) := by decide +kernel
theorem dX6_areAlike_68 : decode cX6_areAlike 68 = .ok (.bipush 12, 2) := by decide +kernel
theorem dX6_areAlike_70 : decode cX6_areAlike 70 = .ok (.iload_n 1, 1) := by decide +kernel
theorem dX6_areAlike_71 : decode cX6_areAlike 71 = .ok (.iload 5, 2) := by decide +kernel
theorem dX6_areAlike_73 : decode cX6_areAlike 73 = .ok (.invokevirtual 103, 3) := by decide +kernel
theorem dX6_areAlike_76 : decode cX6_areAlike 76 = .ok (.iaload, 1) := by decide +kernel
theorem dX6_areAlike_77 : decode cX6_areAlike 77 = .ok (.aload_n 0, 1) := by decide +kernel
theorem dX6_areAlike_78 : decode cX6_areAlike 78 = .ok (.getfield 63, 3) := by decide +kernel
theorem dX6_areAlike_81 : decode cX6_areAlike 81 = .ok (.aload_n 0, 1) := by decide +kernel
theorem dX6_areAlike_82 : decode cX6_areAlike 82 = .ok (.bipush 12, 2) := by decide +kernel
theorem dX6_areAlike_84 : decode cX6_areAlike 84 = .ok (.iload_n 2, 1) := by decide +kernel
theorem dX6_areAlike_85 : decode cX6_areAlike 85 = .ok (.iload 5, 2) := by decide +kernel
theorem dX6_areAlike_87 : decode cX6_areAlike 87 = .ok (.invokevirtual 103, 3) := by decide +kernel
theorem dX6_areAlike_90 : decode cX6_areAlike 90 = .ok (.iaload, 1) := by decide +kernel
theorem dX6_areAlike_91 : decode cX6_areAlike 91 = .ok (.if_icmp .ne 7, 3) := by decide +kernel
theorem dX6_areAlike_94 : decode cX6_areAlike 94 = .ok (.iconst 1, 1) := by decide +kernel
theorem dX6_areAlike_95 : decode cX6_areAlike 95 = .ok (.goto 4, 3) := by decide +kernel
theorem dX6_areAlike_98 : decode cX6_areAlike 98 = .ok (.iconst 0, 1) := by decide +kernel
theorem dX6_areAlike_99 : decode cX6_areAlike 99 = .ok (.istore 4, 2) := by decide +kernel
theorem dX6_areAlike_101 : decode cX6_areAlike 101 = .ok (.iinc 5 1, 3) := by decide +kernel
theorem dX6_areAlike_104 : decode cX6_areAlike 104 = .ok (.goto (-52), 3) := by decide +kernel
theorem dX6_areAlike_107 : decode cX6_areAlike 107 = .ok (.iload 4, 2) := by decide +kernel
theorem dX6_areAlike_109 : decode cX6_areAlike 109 = .ok (.ireturn, 1) := by decide +kernel
set_option maxRecDepth 20000 in
theorem ggX6_alike_X6_has : GoodIn wsX6_alike wsX6_has := goodIn_r _ [9, 10, 36, 37, 38, 39, 40, 41, 42, 43, 44, 45, 46, 47, 48, 49, 50, 51, 52, 53, 54, 55, 56, 57, 58, 59, 60, 61, 62] (by decide +kernel) (by decide +kernel)
set_option maxRecDepth 20000 in
theorem gX6_alike_X6_has : GoodIn wsX6_alike (wsV RX6 107 RX6 yX6_has wsX6_has) := goodIn_app (goodIn_of _ (by decide +kernel)) ggX6_alike_X6_has
set_option maxRecDepth 20000 in
theorem ggX6_alike_X6_walk : GoodIn wsX6_alike wsX6_walk := goodIn_r _ [14, 2, 15, 16, 3, 17, 18, 19, 8, 20, 21, 22, 23, 24, 10, 25, 26, 27, 28, 29, 30, 36, 37, 38, 39, 40, 41, 42, 43, 44, 45, 46, 47, 48, 49, 50, 51, 52, 53, 54, 55, 56, 57, 58, 59, 60, 61, 62] (by decide +kernel) (by decide +kernel)
set_option maxRecDepth 20000 in
theorem gX6_alike_X6_walk : GoodIn wsX6_alike (wsV RX6 114 RX6 yX6_walk wsX6_walk) := goodIn_app (goodIn_of _ (by decide +kernel)) ggX6_alike_X6_walk
set_option maxRecDepth 20000 in
theorem ggX6_alike_X6_areAlike : GoodIn wsX6_alike wsX6_areAlike := goodIn_r _ [34, 35, 4, 17, 18, 19, 8, 20, 21, 22, 23, 24, 10, 25, 26, 27, 28, 29, 30, 36, 37, 38, 39, 40, 41, 42, 43, 44, 45, 46, 47, 48, 49, 50, 51, 52, 53, 54, 55, 56, 57, 58, 59, 60, 61, 62] (by decide +kernel) (by decide +kernel)
set_option maxRecDepth 20000 in
theorem gX6_alike_X6_areAlike : GoodIn wsX6_alike (wsV RX6 184 RX6 yX6_areAlike wsX6_areAlike) := goodIn_app (goodIn_of _ (by decide +kernel)) ggX6_alike_X6_areAlike
theorem dX6_alike_0 : decode cX6_alike 0 = .ok (.aload_n 0, 1) := by decide +kernel
theorem dX6_alike_1 : decode cX6_alike 1 = .ok (.aload_n 0, 1) := by decide +kernel
theorem dX6_alike_2 : decode cX6_alike 2 = .ok (.bipush 12, 2) := by decide +kernel
theorem dX6_alike_4 : decode cX6_alike 4 = .ok (.iload_n 1, 1) := by decide +kernel
theorem dX6_alike_5 : decode cX6_alike 5 = .ok (.invokevirtual 107, 3) := by decide +kernel
theorem dX6_alike_8 : decode cX6_alike 8 = .ok (.ifCond .eq 7, 3) := by decide +kernel
theorem dX6_alike_11 : decode cX6_alike 11 = .ok (.iconst 0, 1) := by decide +kernel
theorem dX6_alike_12 : decode cX6_alike 12 = .ok (.goto 4, 3) := by decide +kernel
theorem dX6_alike_15 : decode cX6_alike 15 = .ok (.iconst 1, 1) := by decide +kernel
theorem dX6_alike_16 : decode cX6_alike 16 = .ok (.putfield 82, 3) := by decide +kernel
theorem dX6_alike_19 : decode cX6_alike 19 = .ok (.aload_n 0, 1) := by decide +kernel
theorem dX6_alike_20 : decode cX6_alike 20 = .ok (.getfield 82, 3) := by decide +kernel
theorem dX6_alike_23 : decode cX6_alike 23 = .ok (.ifCond .le 5, 3) := by decide +kernel
theorem dX6_alike_26 : decode cX6_alike 26 = .ok (.iconst 0, 1) := by decide +kernel
theorem dX6_alike_27 : decode cX6_alike 27 = .ok (.ireturn, 1) := by decide +kernel
theorem dX6_alike_28 : decode cX6_alike 28 = .ok (.aload_n 0, 1) := by decide +kernel
theorem dX6_alike_29 : decode cX6_alike 29 = .ok (.bipush 12, 2) := by decide +kernel
theorem dX6_alike_31 : decode cX6_alike 31 = .ok (.invokevirtual 114, 3) := by decide +kernel
theorem dX6_alike_34 : decode cX6_alike 34 = .ok (.aload_n 0, 1) := by decide +kernel
theorem dX6_alike_35 : decode cX6_alike 35 = .ok (.getfield 93, 3) := by decide +kernel
theorem dX6_alike_38 : decode cX6_alike 38 = .ok (.iconst 1, 1) := by decide +kernel
theorem dX6_alike_39 : decode cX6_alike 39 = .ok (.isub, 1) := by decide +kernel
theorem dX6_alike_40 : decode cX6_alike 40 = .ok (.istore_n 2, 1) := by decide +kernel
theorem dX6_alike_41 : decode cX6_alike 41 = .ok (.iload_n 2, 1) := by decide +kernel
theorem dX6_alike_42 : decode cX6_alike 42 = .ok (.ifCond .lt 90, 3) := by decide +kernel
theorem dX6_alike_45 : decode cX6_alike 45 = .ok (.aload_n 0, 1) := by decide +kernel
theorem dX6_alike_46 : decode cX6_alike 46 = .ok (.getfield 57, 3) := by decide +kernel
theorem dX6_alike_49 : decode cX6_alike 49 = .ok (.iload_n 2, 1) := by decide +kernel
theorem dX6_alike_50 : decode cX6_alike 50 = .ok (.iaload, 1) := by decide +kernel
theorem dX6_alike_51 : decode cX6_alike 51 = .ok (.istore_n 3, 1) := by decide +kernel
theorem dX6_alike_52 : decode cX6_alike 52 = .ok (.aload_n 0, 1) := by decide +kernel
theorem dX6_alike_53 : decode cX6_alike 53 = .ok (.getfield 63, 3) := by decide +kernel
theorem dX6_alike_56 : decode cX6_alike 56 = .ok (.iload_n 3, 1) := by decide +kernel
theorem dX6_alike_57 : decode cX6_alike 57 = .ok (.iload_n 3, 1) := by decide +kernel
theorem dX6_alike_58 : decode cX6_alike 58 = .ok (.iastore, 1) := by decide +kernel
theorem dX6_alike_59 : decode cX6_alike 59 = .ok (.aload_n 0, 1) := by decide +kernel
theorem dX6_alike_60 : decode cX6_alike 60 = .ok (.getfield 93, 3) := by decide +kernel
theorem dX6_alike_63 : decode cX6_alike 63 = .ok (.iconst 1, 1) := by decide +kernel
theorem dX6_alike_64 : decode cX6_alike 64 = .ok (.isub, 1) := by decide +kernel
theorem dX6_alike_65 : decode cX6_alike 65 = .ok (.istore 4, 2) := by decide +kernel
theorem dX6_alike_67 : decode cX6_alike 67 = .ok (.iload 4, 2) := by decide +kernel
theorem dX6_alike_69 : decode cX6_alike 69 = .ok (.iload_n 2, 1) := by decide +kernel
theorem dX6_alike_70 : decode cX6_alike 70 = .ok (.if_icmp .le 56, 3) := by decide +kernel
theorem dX6_alike_73 : decode cX6_alike 73 = .ok (.aload_n 0, 1) := by decide +kernel
theorem dX6_alike_74 : decode cX6_alike 74 = .ok (.getfield 63, 3) := by decide +kernel
theorem dX6_alike_77 : decode cX6_alike 77 = .ok (.iload_n 3, 1) := by decide +kernel
theorem dX6_alike_78 : decode cX6_alike 78 = .ok (.iaload, 1) := by decide +kernel
theorem dX6_alike_79 : decode cX6_alike 79 = .ok (.iload_n 3, 1) := by decide +kernel
theorem dX6_alike_80 : decode cX6_alike 80 = .ok (.if_icmp .ne 46, 3) := by decide +kernel
theorem dX6_alike_83 : decode cX6_alike 83 = .ok (.aload_n 0, 1) := by decide +kernel
theorem dX6_alike_84 : decode cX6_alike 84 = .ok (.getfield 63, 3) := by decide +kernel
theorem dX6_alike_87 : decode cX6_alike 87 = .ok (.iload_n 3, 1) := by decide +kernel
theorem dX6_alike_88 : decode cX6_alike 88 = .ok (.aload_n 0, 1) := by decide +kernel
theorem dX6_alike_89 : decode cX6_alike 89 = .ok (.iload_n 3, 1) := by decide +kernel
theorem dX6_alike_90 : decode cX6_alike 90 = .ok (.aload_n 0, 1) := by decide +kernel
theorem dX6_alike_91 : decode cX6_alike 91 = .ok (.getfield 57, 3) := by decide +kernel
theorem dX6_alike_94 : decode cX6_alike 94 = .ok (.iload 4, 2) := by decide +kernel
theorem dX6_alike_96 : decode cX6_alike 96 = .ok (.iaload, 1) := by decide +kernel
theorem dX6_alike_97 : decode cX6_alike 97 = .ok (.invokevirtual 184, 3) := by decide +kernel
theorem dX6_alike_100 : decode cX6_alike 100 = .ok (.ifCond .eq 18, 3) := by decide +kernel
theorem dX6_alike_103 : decode cX6_alike 103 = .ok (.aload_n 0, 1) := by decide +kernel
theorem dX6_alike_104 : decode cX6_alike 104 = .ok (.getfield 63, 3) := by decide +kernel
theorem dX6_alike_107 : decode cX6_alike 107 = .ok (.aload_n 0, 1) := by decide +kernel
theorem dX6_alike_108 : decode cX6_alike 108 = .ok (.getfield 57, 3) := by decide +kernel
theorem dX6_alike_111 : decode cX6_alike 111 = .ok (.iload 4, 2) := by decide +kernel
theorem dX6_alike_113 : decode cX6_alike 113 = .ok (.iaload, 1) := by decide +kernel
theorem dX6_alike_114 : decode cX6_alike 114 = .ok (.iaload, 1) := by decide +kernel
theorem dX6_alike_115 : decode cX6_alike 115 = .ok (.goto 4, 3) := by decide +kernel
theorem dX6_alike_118 : decode cX6_alike 118 = .ok (.iload_n 3, 1) := by decide +kernel
theorem dX6_alike_119 : decode cX6_alike 119 = .ok (.iastore, 1) := by decide +kernel
theorem dX6_alike_120 : decode cX6_alike 120 = .ok (.iinc 4 (-1), 3) := by decide +kernel
theorem dX6_alike_123 : decode cX6_alike 123 = .ok (.goto (-56), 3) := by decide +kernel
theorem dX6_alike_126 : decode cX6_alike 126 = .ok (.iinc 2 (-1), 3) := by decide +kernel
theorem dX6_alike_129 : decode cX6_alike 129 = .ok (.goto (-88), 3) := by decide +kernel
theorem dX6_alike_132 : decode cX6_alike 132 = .ok (.iconst 0, 1) := by decide +kernel
theorem dX6_alike_133 : decode cX6_alike 133 = .ok (.istore_n 2, 1) := by decide +kernel
theorem dX6_alike_134 : decode cX6_alike 134 = .ok (.aload_n 0, 1) := by decide +kernel
theorem dX6_alike_135 : decode cX6_alike 135 = .ok (.getfield 63, 3) := by decide +kernel
theorem dX6_alike_138 : decode cX6_alike 138 = .ok (.aload_n 0, 1) := by decide +kernel
theorem dX6_alike_139 : decode cX6_alike 139 = .ok (.getfield 57, 3) := by decide +kernel
theorem dX6_alike_142 : decode cX6_alike 142 = .ok (.iload_n 2, 1) := by decide +kernel
theorem dX6_alike_143 : decode cX6_alike 143 = .ok (.iaload, 1) := by decide +kernel
theorem dX6_alike_144 : decode cX6_alike 144 = .ok (.iaload, 1) := by decide +kernel
theorem dX6_alike_145 : decode cX6_alike 145 = .ok (.aload_n 0, 1) := by decide +kernel
theorem dX6_alike_146 : decode cX6_alike 146 = .ok (.getfield 63, 3) := by decide +kernel
theorem dX6_alike_149 : decode cX6_alike 149 = .ok (.iload_n 1, 1) := by decide +kernel
theorem dX6_alike_150 : decode cX6_alike 150 = .ok (.iaload, 1) := by decide +kernel
theorem dX6_alike_151 : decode cX6_alike 151 = .ok (.if_icmp .eq 9, 3) := by decide +kernel
theorem dX6_alike_154 : decode cX6_alike 154 = .ok (.iinc 2 1, 3) := by decide +kernel
theorem dX6_alike_157 : decode cX6_alike 157 = .ok (.goto (-23), 3) := by decide +kernel
theorem dX6_alike_160 : decode cX6_alike 160 = .ok (.aload_n 0, 1) := by decide +kernel
theorem dX6_alike_161 : decode cX6_alike 161 = .ok (.getfield 57, 3) := by decide +kernel
theorem dX6_alike_164 : decode cX6_alike 164 = .ok (.iload_n 2, 1) := by decide +kernel
theorem dX6_alike_165 : decode cX6_alike 165 = .ok (.iaload, 1) := by decide +kernel
theorem dX6_alike_166 : decode cX6_alike 166 = .ok (.ireturn, 1) := by decide +kernel
set_option maxRecDepth 20000 in
theorem ggX6_leave_X6_walk : GoodIn wsX6_leave wsX6_walk := goodIn_r _ [11, 2, 4, 1, 3, 12, 13, 14, 10, 15, 16, 17, 18, 19, 20, 21, 22, 23, 24, 25, 26, 31, 32, 33, 34, 35, 36, 37, 38, 39, 40, 41, 42, 43, 44, 45, 46, 47, 48, 49, 50, 51, 52, 53, 54, 55, 56, 57] (by decide +kernel) (by decide +kernel)
set_option maxRecDepth 20000 in
theorem gX6_leave_X6_walk : GoodIn wsX6_leave (wsV RX6 114 RX6 yX6_walk wsX6_walk) := goodIn_app (goodIn_of _ (by decide +kernel)) ggX6_leave_X6_walk
set_option maxRecDepth 20000 in
theorem ggX6_leave_X6_isAt : GoodIn wsX6_leave wsX6_isAt := goodIn_r _ [30, 21, 31, 32, 33, 34, 35, 36, 37, 38, 39, 40, 41, 42, 43, 44, 45, 46, 47, 48, 49, 50, 51, 52, 53, 54, 55, 56, 57] (by decide +kernel) (by decide +kernel)
set_option maxRecDepth 20000 in
theorem gX6_leave_X6_isAt : GoodIn wsX6_leave (wsV RX6 121 RX6 yX6_isAt wsX6_isAt) := goodIn_app (goodIn_of _ (by decide +kernel)) ggX6_leave_X6_isAt
theorem dX6_leave_0 : decode cX6_leave 0 = .ok (.aload_n 0, 1) := by decide +kernel
theorem dX6_leave_1 : decode cX6_leave 1 = .ok (.iload_n 1, 1) := by decide +kernel
theorem dX6_leave_2 : decode cX6_leave 2 = .ok (.invokevirtual 114, 3) := by decide +kernel
theorem dX6_leave_5 : decode cX6_leave 5 = .ok (.iconst 0, 1) := by decide +kernel
theorem dX6_leave_6 : decode cX6_leave 6 = .ok (.istore_n 3, 1) := by decide +kernel
theorem dX6_leave_7 : decode cX6_leave 7 = .ok (.aload_n 0, 1) := by decide +kernel
theorem dX6_leave_8 : decode cX6_leave 8 = .ok (.iconst 0, 1) := by decide +kernel
theorem dX6_leave_9 : decode cX6_leave 9 = .ok (.putfield 96, 3) := by decide +kernel
theorem dX6_leave_12 : decode cX6_leave 12 = .ok (.iconst 0, 1) := by decide +kernel
theorem dX6_leave_13 : decode cX6_leave 13 = .ok (.istore 4, 2) := by decide +kernel
theorem dX6_leave_15 : decode cX6_leave 15 = .ok (.iload 4, 2) := by decide +kernel
theorem dX6_leave_17 : decode cX6_leave 17 = .ok (.aload_n 0, 1) := by decide +kernel
theorem dX6_leave_18 : decode cX6_leave 18 = .ok (.getfield 93, 3) := by decide +kernel
theorem dX6_leave_21 : decode cX6_leave 21 = .ok (.if_icmp .ge 100, 3) := by decide +kernel
theorem dX6_leave_24 : decode cX6_leave 24 = .ok (.aload_n 0, 1) := by decide +kernel
theorem dX6_leave_25 : decode cX6_leave 25 = .ok (.getfield 57, 3) := by decide +kernel
theorem dX6_leave_28 : decode cX6_leave 28 = .ok (.iload 4, 2) := by decide +kernel
theorem dX6_leave_30 : decode cX6_leave 30 = .ok (.iaload, 1) := by decide +kernel
theorem dX6_leave_31 : decode cX6_leave 31 = .ok (.istore 5, 2) := by decide +kernel
theorem dX6_leave_33 : decode cX6_leave 33 = .ok (.aload_n 0, 1) := by decide +kernel
theorem dX6_leave_34 : decode cX6_leave 34 = .ok (.getfield 96, 3) := by decide +kernel
theorem dX6_leave_37 : decode cX6_leave 37 = .ok (.ifCond .le 57, 3) := by decide +kernel
theorem dX6_leave_40 : decode cX6_leave 40 = .ok (.aload_n 0, 1) := by decide +kernel
theorem dX6_leave_41 : decode cX6_leave 41 = .ok (.iload_n 1, 1) := by decide +kernel
theorem dX6_leave_42 : decode cX6_leave 42 = .ok (.iload 5, 2) := by decide +kernel
theorem dX6_leave_44 : decode cX6_leave 44 = .ok (.aload_n 0, 1) := by decide +kernel
theorem dX6_leave_45 : decode cX6_leave 45 = .ok (.getfield 60, 3) := by decide +kernel
theorem dX6_leave_48 : decode cX6_leave 48 = .ok (.aload_n 0, 1) := by decide +kernel
theorem dX6_leave_49 : decode cX6_leave 49 = .ok (.getfield 96, 3) := by decide +kernel
theorem dX6_leave_52 : decode cX6_leave 52 = .ok (.iconst 1, 1) := by decide +kernel
theorem dX6_leave_53 : decode cX6_leave 53 = .ok (.isub, 1) := by decide +kernel
theorem dX6_leave_54 : decode cX6_leave 54 = .ok (.iaload, 1) := by decide +kernel
theorem dX6_leave_55 : decode cX6_leave 55 = .ok (.invokevirtual 121, 3) := by decide +kernel
theorem dX6_leave_58 : decode cX6_leave 58 = .ok (.ifCond .ne 36, 3) := by decide +kernel
theorem dX6_leave_61 : decode cX6_leave 61 = .ok (.aload_n 0, 1) := by decide +kernel
theorem dX6_leave_62 : decode cX6_leave 62 = .ok (.dup, 1) := by decide +kernel
theorem dX6_leave_63 : decode cX6_leave 63 = .ok (.getfield 96, 3) := by decide +kernel
theorem dX6_leave_66 : decode cX6_leave 66 = .ok (.iconst 1, 1) := by decide +kernel
theorem dX6_leave_67 : decode cX6_leave 67 = .ok (.isub, 1) := by decide +kernel
theorem dX6_leave_68 : decode cX6_leave 68 = .ok (.putfield 96, 3) := by decide +kernel
theorem dX6_leave_71 : decode cX6_leave 71 = .ok (.aload_n 0, 1) := by decide +kernel
theorem dX6_leave_72 : decode cX6_leave 72 = .ok (.getfield 66, 3) := by decide +kernel
theorem dX6_leave_75 : decode cX6_leave 75 = .ok (.iload_n 2, 1) := by decide +kernel
theorem dX6_leave_76 : decode cX6_leave 76 = .ok (.iload_n 3, 1) := by decide +kernel
theorem dX6_leave_77 : decode cX6_leave 77 = .ok (.iadd, 1) := by decide +kernel
theorem dX6_leave_78 : decode cX6_leave 78 = .ok (.aload_n 0, 1) := by decide +kernel
theorem dX6_leave_79 : decode cX6_leave 79 = .ok (.getfield 60, 3) := by decide +kernel
theorem dX6_leave_82 : decode cX6_leave 82 = .ok (.aload_n 0, 1) := by decide +kernel
theorem dX6_leave_83 : decode cX6_leave 83 = .ok (.getfield 96, 3) := by decide +kernel
theorem dX6_leave_86 : decode cX6_leave 86 = .ok (.iaload, 1) := by decide +kernel
theorem dX6_leave_87 : decode cX6_leave 87 = .ok (.iastore, 1) := by decide +kernel
theorem dX6_leave_88 : decode cX6_leave 88 = .ok (.iinc 3 1, 3) := by decide +kernel
theorem dX6_leave_91 : decode cX6_leave 91 = .ok (.goto (-58), 3) := by decide +kernel
theorem dX6_leave_94 : decode cX6_leave 94 = .ok (.aload_n 0, 1) := by decide +kernel
theorem dX6_leave_95 : decode cX6_leave 95 = .ok (.getfield 60, 3) := by decide +kernel
theorem dX6_leave_98 : decode cX6_leave 98 = .ok (.aload_n 0, 1) := by decide +kernel
theorem dX6_leave_99 : decode cX6_leave 99 = .ok (.getfield 96, 3) := by decide +kernel
theorem dX6_leave_102 : decode cX6_leave 102 = .ok (.iload 5, 2) := by decide +kernel
theorem dX6_leave_104 : decode cX6_leave 104 = .ok (.iastore, 1) := by decide +kernel
theorem dX6_leave_105 : decode cX6_leave 105 = .ok (.aload_n 0, 1) := by decide +kernel
theorem dX6_leave_106 : decode cX6_leave 106 = .ok (.dup, 1) := by decide +kernel
theorem dX6_leave_107 : decode cX6_leave 107 = .ok (.getfield 96, 3) := by decide +kernel
theorem dX6_leave_110 : decode cX6_leave 110 = .ok (.iconst 1, 1) := by decide +kernel
theorem dX6_leave_111 : decode cX6_leave 111 = .ok (.iadd, 1) := by decide +kernel
theorem dX6_leave_112 : decode cX6_leave 112 = .ok (.putfield 96, 3) := by decide +kernel
theorem dX6_leave_115 : decode cX6_leave 115 = .ok (.iinc 4 1, 3) := by decide +kernel
theorem dX6_leave_118 : decode cX6_leave 118 = .ok (.goto (-103), 3) := by decide +kernel
theorem dX6_leave_121 : decode cX6_leave 121 = .ok (.aload_n 0, 1) := by decide +kernel
theorem dX6_leave_122 : decode cX6_leave 122 = .ok (.getfield 96, 3) := by decide +kernel
theorem dX6_leave_125 : decode cX6_leave 125 = .ok (.ifCond .le 36, 3) := by decide +kernel
theorem dX6_leave_128 : decode cX6_leave 128 = .ok (.aload_n 0, 1) := by decide +kernel
theorem dX6_leave_129 : decode cX6_leave 129 = .ok (.dup, 1) := by decide +kernel
theorem dX6_leave_130 : decode cX6_leave 130 = .ok (.getfield 96, 3) := by decide +kernel
theorem dX6_leave_133 : decode cX6_leave 133 = .ok (.iconst 1, 1) := by decide +kernel
theorem dX6_leave_134 : decode cX6_leave 134 = .ok (.isub, 1) := by decide +kernel
theorem dX6_leave_135 : decode cX6_leave 135 = .ok (.putfield 96, 3) := by decide +kernel
theorem dX6_leave_138 : decode cX6_leave 138 = .ok (.aload_n 0, 1) := by decide +kernel
theorem dX6_leave_139 : decode cX6_leave 139 = .ok (.getfield 66, 3) := by decide +kernel
theorem dX6_leave_142 : decode cX6_leave 142 = .ok (.iload_n 2, 1) := by decide +kernel
theorem dX6_leave_143 : decode cX6_leave 143 = .ok (.iload_n 3, 1) := by decide +kernel
theorem dX6_leave_144 : decode cX6_leave 144 = .ok (.iadd, 1) := by decide +kernel
theorem dX6_leave_145 : decode cX6_leave 145 = .ok (.aload_n 0, 1) := by decide +kernel
theorem dX6_leave_146 : decode cX6_leave 146 = .ok (.getfield 60, 3) := by decide +kernel
theorem dX6_leave_149 : decode cX6_leave 149 = .ok (.aload_n 0, 1) := by decide +kernel
theorem dX6_leave_150 : decode cX6_leave 150 = .ok (.getfield 96, 3) := by decide +kernel
theorem dX6_leave_153 : decode cX6_leave 153 = .ok (.iaload, 1) := by decide +kernel
theorem dX6_leave_154 : decode cX6_leave 154 = .ok (.iastore, 1) := by decide +kernel
theorem dX6_leave_155 : decode cX6_leave 155 = .ok (.iinc 3 1, 3) := by decide +kernel
theorem dX6_leave_158 : decode cX6_leave 158 = .ok (.goto (-37), 3) := by decide +kernel
theorem dX6_leave_161 : decode cX6_leave 161 = .ok (.iconst 0, 1) := by decide +kernel
theorem dX6_leave_162 : decode cX6_leave 162 = .ok (.istore 4, 2) := by decide +kernel
theorem dX6_leave_164 : decode cX6_leave 164 = .ok (.iload 4, 2) := by decide +kernel
theorem dX6_leave_166 : decode cX6_leave 166 = .ok (.iload_n 3, 1) := by decide +kernel
theorem dX6_leave_167 : decode cX6_leave 167 = .ok (.if_icmp .ge 76, 3) := by decide +kernel
theorem dX6_leave_170 : decode cX6_leave 170 = .ok (.iload 4, 2) := by decide +kernel
theorem dX6_leave_172 : decode cX6_leave 172 = .ok (.istore 5, 2) := by decide +kernel
theorem dX6_leave_174 : decode cX6_leave 174 = .ok (.iload 4, 2) := by decide +kernel
theorem dX6_leave_176 : decode cX6_leave 176 = .ok (.iconst 1, 1) := by decide +kernel
theorem dX6_leave_177 : decode cX6_leave 177 = .ok (.isub, 1) := by decide +kernel
theorem dX6_leave_178 : decode cX6_leave 178 = .ok (.istore 6, 2) := by decide +kernel
theorem dX6_leave_180 : decode cX6_leave 180 = .ok (.iload 6, 2) := by decide +kernel
theorem dX6_leave_182 : decode cX6_leave 182 = .ok (.ifCond .lt 44, 3) := by decide +kernel
theorem dX6_leave_185 : decode cX6_leave 185 = .ok (.aload_n 0, 1) := by decide +kernel
theorem dX6_leave_186 : decode cX6_leave 186 = .ok (.iload_n 1, 1) := by decide +kernel
theorem dX6_leave_187 : decode cX6_leave 187 = .ok (.aload_n 0, 1) := by decide +kernel
theorem dX6_leave_188 : decode cX6_leave 188 = .ok (.getfield 66, 3) := by decide +kernel
theorem dX6_leave_191 : decode cX6_leave 191 = .ok (.iload_n 2, 1) := by decide +kernel
theorem dX6_leave_192 : decode cX6_leave 192 = .ok (.iload 6, 2) := by decide +kernel
theorem dX6_leave_194 : decode cX6_leave 194 = .ok (.iadd, 1) := by decide +kernel
theorem dX6_leave_195 : decode cX6_leave 195 = .ok (.iaload, 1) := by decide +kernel
theorem dX6_leave_196 : decode cX6_leave 196 = .ok (.aload_n 0, 1) := by decide +kernel
theorem dX6_leave_197 : decode cX6_leave 197 = .ok (.getfield 66, 3) := by decide +kernel
theorem dX6_leave_200 : decode cX6_leave 200 = .ok (.iload_n 2, 1) := by decide +kernel
theorem dX6_leave_201 : decode cX6_leave 201 = .ok (.iload 4, 2) := by decide +kernel
theorem dX6_leave_203 : decode cX6_leave 203 = .ok (.iadd, 1) := by decide +kernel
theorem dX6_leave_204 : decode cX6_leave 204 = .ok (.iaload, 1) := by decide +kernel
theorem dX6_leave_205 : decode cX6_leave 205 = .ok (.invokevirtual 121, 3) := by decide +kernel
theorem dX6_leave_208 : decode cX6_leave 208 = .ok (.ifCond .eq 8, 3) := by decide +kernel
theorem dX6_leave_211 : decode cX6_leave 211 = .ok (.iload 6, 2) := by decide +kernel
theorem dX6_leave_213 : decode cX6_leave 213 = .ok (.goto 5, 3) := by decide +kernel
theorem dX6_leave_216 : decode cX6_leave 216 = .ok (.iload 5, 2) := by decide +kernel
theorem dX6_leave_218 : decode cX6_leave 218 = .ok (.istore 5, 2) := by decide +kernel
theorem dX6_leave_220 : decode cX6_leave 220 = .ok (.iinc 6 (-1), 3) := by decide +kernel
theorem dX6_leave_223 : decode cX6_leave 223 = .ok (.goto (-43), 3) := by decide +kernel
theorem dX6_leave_226 : decode cX6_leave 226 = .ok (.aload_n 0, 1) := by decide +kernel
theorem dX6_leave_227 : decode cX6_leave 227 = .ok (.getfield 69, 3) := by decide +kernel
theorem dX6_leave_230 : decode cX6_leave 230 = .ok (.iload_n 2, 1) := by decide +kernel
theorem dX6_leave_231 : decode cX6_leave 231 = .ok (.iload 4, 2) := by decide +kernel
theorem dX6_leave_233 : decode cX6_leave 233 = .ok (.iadd, 1) := by decide +kernel
theorem dX6_leave_234 : decode cX6_leave 234 = .ok (.iload 5, 2) := by decide +kernel
theorem dX6_leave_236 : decode cX6_leave 236 = .ok (.iastore, 1) := by decide +kernel
theorem dX6_leave_237 : decode cX6_leave 237 = .ok (.iinc 4 1, 3) := by decide +kernel
theorem dX6_leave_240 : decode cX6_leave 240 = .ok (.goto (-76), 3) := by decide +kernel
theorem dX6_leave_243 : decode cX6_leave 243 = .ok (.iload_n 3, 1) := by decide +kernel
theorem dX6_leave_244 : decode cX6_leave 244 = .ok (.ireturn, 1) := by decide +kernel
theorem dX6_least_0 : decode cX6_least 0 = .ok (.iload_n 0, 1) := by decide +kernel
theorem dX6_least_1 : decode cX6_least 1 = .ok (.iload_n 1, 1) := by decide +kernel
theorem dX6_least_2 : decode cX6_least 2 = .ok (.if_icmp .ge 7, 3) := by decide +kernel
theorem dX6_least_5 : decode cX6_least 5 = .ok (.iload_n 0, 1) := by decide +kernel
theorem dX6_least_6 : decode cX6_least 6 = .ok (.goto 4, 3) := by decide +kernel
theorem dX6_least_9 : decode cX6_least 9 = .ok (.iload_n 1, 1) := by decide +kernel
theorem dX6_least_10 : decode cX6_least 10 = .ok (.ireturn, 1) := by decide +kernel
set_option maxRecDepth 20000 in
theorem ggX6_compare_X6_least : GoodIn wsX6_compare wsX6_least := goodIn_r _ [9] (by decide +kernel) (by decide +kernel)
set_option maxRecDepth 20000 in
theorem gX6_compare_X6_least : GoodIn wsX6_compare (va_wsS RX6 187 yX6_least wsX6_least) := goodIn_app (goodIn_of _ (by decide +kernel)) ggX6_compare_X6_least
theorem dX6_compare_0 : decode cX6_compare 0 = .ok (.aload_n 0, 1) := by decide +kernel
theorem dX6_compare_1 : decode cX6_compare 1 = .ok (.getfield 69, 3) := by decide +kernel
theorem dX6_compare_4 : decode cX6_compare 4 = .ok (.iload_n 3, 1) := by decide +kernel
theorem dX6_compare_5 : decode cX6_compare 5 = .ok (.iaload, 1) := by decide +kernel
theorem dX6_compare_6 : decode cX6_compare 6 = .ok (.istore 5, 2) := by decide +kernel
theorem dX6_compare_8 : decode cX6_compare 8 = .ok (.aload_n 0, 1) := by decide +kernel
theorem dX6_compare_9 : decode cX6_compare 9 = .ok (.getfield 69, 3) := by decide +kernel
theorem dX6_compare_12 : decode cX6_compare 12 = .ok (.bipush 24, 2) := by decide +kernel
theorem dX6_compare_14 : decode cX6_compare 14 = .ok (.iload 4, 2) := by decide +kernel
theorem dX6_compare_16 : decode cX6_compare 16 = .ok (.iadd, 1) := by decide +kernel
theorem dX6_compare_17 : decode cX6_compare 17 = .ok (.iaload, 1) := by decide +kernel
theorem dX6_compare_18 : decode cX6_compare 18 = .ok (.istore 6, 2) := by decide +kernel
theorem dX6_compare_20 : decode cX6_compare 20 = .ok (.iload 5, 2) := by decide +kernel
theorem dX6_compare_22 : decode cX6_compare 22 = .ok (.iconst 1, 1) := by decide +kernel
theorem dX6_compare_23 : decode cX6_compare 23 = .ok (.isub, 1) := by decide +kernel
theorem dX6_compare_24 : decode cX6_compare 24 = .ok (.istore 7, 2) := by decide +kernel
theorem dX6_compare_26 : decode cX6_compare 26 = .ok (.iload 7, 2) := by decide +kernel
theorem dX6_compare_28 : decode cX6_compare 28 = .ok (.iload_n 3, 1) := by decide +kernel
theorem dX6_compare_29 : decode cX6_compare 29 = .ok (.if_icmp .gt 291, 3) := by decide +kernel
theorem dX6_compare_32 : decode cX6_compare 32 = .ok (.iload 6, 2) := by decide +kernel
theorem dX6_compare_34 : decode cX6_compare 34 = .ok (.iconst 1, 1) := by decide +kernel
theorem dX6_compare_35 : decode cX6_compare 35 = .ok (.isub, 1) := by decide +kernel
theorem dX6_compare_36 : decode cX6_compare 36 = .ok (.istore 8, 2) := by decide +kernel
theorem dX6_compare_38 : decode cX6_compare 38 = .ok (.iload 8, 2) := by decide +kernel
theorem dX6_compare_40 : decode cX6_compare 40 = .ok (.iload 4, 2) := by decide +kernel
theorem dX6_compare_42 : decode cX6_compare 42 = .ok (.if_icmp .gt 272, 3) := by decide +kernel
theorem dX6_compare_45 : decode cX6_compare 45 = .ok (.bipush 25, 2) := by decide +kernel
theorem dX6_compare_47 : decode cX6_compare 47 = .ok (.iload 7, 2) := by decide +kernel
theorem dX6_compare_49 : decode cX6_compare 49 = .ok (.iload 5, 2) := by decide +kernel
theorem dX6_compare_51 : decode cX6_compare 51 = .ok (.isub, 1) := by decide +kernel
theorem dX6_compare_52 : decode cX6_compare 52 = .ok (.iconst 1, 1) := by decide +kernel
theorem dX6_compare_53 : decode cX6_compare 53 = .ok (.iadd, 1) := by decide +kernel
theorem dX6_compare_54 : decode cX6_compare 54 = .ok (.imul, 1) := by decide +kernel
theorem dX6_compare_55 : decode cX6_compare 55 = .ok (.iload 8, 2) := by decide +kernel
theorem dX6_compare_57 : decode cX6_compare 57 = .ok (.iadd, 1) := by decide +kernel
theorem dX6_compare_58 : decode cX6_compare 58 = .ok (.iload 6, 2) := by decide +kernel
theorem dX6_compare_60 : decode cX6_compare 60 = .ok (.isub, 1) := by decide +kernel
theorem dX6_compare_61 : decode cX6_compare 61 = .ok (.iconst 1, 1) := by decide +kernel
theorem dX6_compare_62 : decode cX6_compare 62 = .ok (.iadd, 1) := by decide +kernel
theorem dX6_compare_63 : decode cX6_compare 63 = .ok (.istore 9, 2) := by decide +kernel
theorem dX6_compare_65 : decode cX6_compare 65 = .ok (.iload 7, 2) := by decide +kernel
theorem dX6_compare_67 : decode cX6_compare 67 = .ok (.iload 5, 2) := by decide +kernel
theorem dX6_compare_69 : decode cX6_compare 69 = .ok (.if_icmp .lt 10, 3) := by decide +kernel
theorem dX6_compare_72 : decode cX6_compare 72 = .ok (.iload 8, 2) := by decide +kernel
theorem dX6_compare_74 : decode cX6_compare 74 = .ok (.iload 6, 2) := by decide +kernel
theorem dX6_compare_76 : decode cX6_compare 76 = .ok (.if_icmp .ge 28, 3) := by decide +kernel
theorem dX6_compare_79 : decode cX6_compare 79 = .ok (.aload_n 0, 1) := by decide +kernel
theorem dX6_compare_80 : decode cX6_compare 80 = .ok (.getfield 75, 3) := by decide +kernel
theorem dX6_compare_83 : decode cX6_compare 83 = .ok (.iload 9, 2) := by decide +kernel
theorem dX6_compare_85 : decode cX6_compare 85 = .ok (.iload 7, 2) := by decide +kernel
theorem dX6_compare_87 : decode cX6_compare 87 = .ok (.iload 5, 2) := by decide +kernel
theorem dX6_compare_89 : decode cX6_compare 89 = .ok (.isub, 1) := by decide +kernel
theorem dX6_compare_90 : decode cX6_compare 90 = .ok (.iconst 1, 1) := by decide +kernel
theorem dX6_compare_91 : decode cX6_compare 91 = .ok (.iadd, 1) := by decide +kernel
theorem dX6_compare_92 : decode cX6_compare 92 = .ok (.iload 8, 2) := by decide +kernel
theorem dX6_compare_94 : decode cX6_compare 94 = .ok (.iadd, 1) := by decide +kernel
theorem dX6_compare_95 : decode cX6_compare 95 = .ok (.iload 6, 2) := by decide +kernel
theorem dX6_compare_97 : decode cX6_compare 97 = .ok (.isub, 1) := by decide +kernel
theorem dX6_compare_98 : decode cX6_compare 98 = .ok (.iconst 1, 1) := by decide +kernel
theorem dX6_compare_99 : decode cX6_compare 99 = .ok (.iadd, 1) := by decide +kernel
theorem dX6_compare_100 : decode cX6_compare 100 = .ok (.iastore, 1) := by decide +kernel
theorem dX6_compare_101 : decode cX6_compare 101 = .ok (.goto 207, 3) := by decide +kernel
theorem dX6_compare_104 : decode cX6_compare 104 = .ok (.aload_n 0, 1) := by decide +kernel
theorem dX6_compare_105 : decode cX6_compare 105 = .ok (.getfield 75, 3) := by decide +kernel
theorem dX6_compare_108 : decode cX6_compare 108 = .ok (.iload 9, 2) := by decide +kernel
theorem dX6_compare_110 : decode cX6_compare 110 = .ok (.bipush 25, 2) := by decide +kernel
theorem dX6_compare_112 : decode cX6_compare 112 = .ok (.isub, 1) := by decide +kernel
theorem dX6_compare_113 : decode cX6_compare 113 = .ok (.iaload, 1) := by decide +kernel
theorem dX6_compare_114 : decode cX6_compare 114 = .ok (.aload_n 0, 1) := by decide +kernel
theorem dX6_compare_115 : decode cX6_compare 115 = .ok (.getfield 75, 3) := by decide +kernel
theorem dX6_compare_118 : decode cX6_compare 118 = .ok (.iload 9, 2) := by decide +kernel
theorem dX6_compare_120 : decode cX6_compare 120 = .ok (.iconst 1, 1) := by decide +kernel
theorem dX6_compare_121 : decode cX6_compare 121 = .ok (.isub, 1) := by decide +kernel
theorem dX6_compare_122 : decode cX6_compare 122 = .ok (.iaload, 1) := by decide +kernel
theorem dX6_compare_123 : decode cX6_compare 123 = .ok (.invokestatic 187, 3) := by decide +kernel
theorem dX6_compare_126 : decode cX6_compare 126 = .ok (.iconst 1, 1) := by decide +kernel
theorem dX6_compare_127 : decode cX6_compare 127 = .ok (.iadd, 1) := by decide +kernel
theorem dX6_compare_128 : decode cX6_compare 128 = .ok (.istore 10, 2) := by decide +kernel
theorem dX6_compare_130 : decode cX6_compare 130 = .ok (.aload_n 0, 1) := by decide +kernel
theorem dX6_compare_131 : decode cX6_compare 131 = .ok (.getfield 69, 3) := by decide +kernel
theorem dX6_compare_134 : decode cX6_compare 134 = .ok (.iload 7, 2) := by decide +kernel
theorem dX6_compare_136 : decode cX6_compare 136 = .ok (.iaload, 1) := by decide +kernel
theorem dX6_compare_137 : decode cX6_compare 137 = .ok (.iload 5, 2) := by decide +kernel
theorem dX6_compare_139 : decode cX6_compare 139 = .ok (.if_icmp .ne 103, 3) := by decide +kernel
theorem dX6_compare_142 : decode cX6_compare 142 = .ok (.aload_n 0, 1) := by decide +kernel
theorem dX6_compare_143 : decode cX6_compare 143 = .ok (.getfield 69, 3) := by decide +kernel
theorem dX6_compare_146 : decode cX6_compare 146 = .ok (.bipush 24, 2) := by decide +kernel
theorem dX6_compare_148 : decode cX6_compare 148 = .ok (.iload 8, 2) := by decide +kernel
theorem dX6_compare_150 : decode cX6_compare 150 = .ok (.iadd, 1) := by decide +kernel
theorem dX6_compare_151 : decode cX6_compare 151 = .ok (.iaload, 1) := by decide +kernel
theorem dX6_compare_152 : decode cX6_compare 152 = .ok (.iload 6, 2) := by decide +kernel
theorem dX6_compare_154 : decode cX6_compare 154 = .ok (.if_icmp .ne 88, 3) := by decide +kernel
theorem dX6_compare_157 : decode cX6_compare 157 = .ok (.aload_n 0, 1) := by decide +kernel
theorem dX6_compare_158 : decode cX6_compare 158 = .ok (.getfield 13, 3) := by decide +kernel
theorem dX6_compare_161 : decode cX6_compare 161 = .ok (.bipush 24, 2) := by decide +kernel
theorem dX6_compare_163 : decode cX6_compare 163 = .ok (.iload_n 1, 1) := by decide +kernel
theorem dX6_compare_164 : decode cX6_compare 164 = .ok (.imul, 1) := by decide +kernel
theorem dX6_compare_165 : decode cX6_compare 165 = .ok (.aload_n 0, 1) := by decide +kernel
theorem dX6_compare_166 : decode cX6_compare 166 = .ok (.getfield 66, 3) := by decide +kernel
theorem dX6_compare_169 : decode cX6_compare 169 = .ok (.iload 7, 2) := by decide +kernel
theorem dX6_compare_171 : decode cX6_compare 171 = .ok (.iaload, 1) := by decide +kernel
theorem dX6_compare_172 : decode cX6_compare 172 = .ok (.iadd, 1) := by decide +kernel
theorem dX6_compare_173 : decode cX6_compare 173 = .ok (.iaload, 1) := by decide +kernel
theorem dX6_compare_174 : decode cX6_compare 174 = .ok (.aload_n 0, 1) := by decide +kernel
theorem dX6_compare_175 : decode cX6_compare 175 = .ok (.getfield 13, 3) := by decide +kernel
theorem dX6_compare_178 : decode cX6_compare 178 = .ok (.bipush 24, 2) := by decide +kernel
theorem dX6_compare_180 : decode cX6_compare 180 = .ok (.iload_n 2, 1) := by decide +kernel
theorem dX6_compare_181 : decode cX6_compare 181 = .ok (.imul, 1) := by decide +kernel
theorem dX6_compare_182 : decode cX6_compare 182 = .ok (.aload_n 0, 1) := by decide +kernel
theorem dX6_compare_183 : decode cX6_compare 183 = .ok (.getfield 66, 3) := by decide +kernel
theorem dX6_compare_186 : decode cX6_compare 186 = .ok (.bipush 24, 2) := by decide +kernel
theorem dX6_compare_188 : decode cX6_compare 188 = .ok (.iload 8, 2) := by decide +kernel
theorem dX6_compare_190 : decode cX6_compare 190 = .ok (.iadd, 1) := by decide +kernel
theorem dX6_compare_191 : decode cX6_compare 191 = .ok (.iaload, 1) := by decide +kernel
theorem dX6_compare_192 : decode cX6_compare 192 = .ok (.iadd, 1) := by decide +kernel
theorem dX6_compare_193 : decode cX6_compare 193 = .ok (.iaload, 1) := by decide +kernel
theorem dX6_compare_194 : decode cX6_compare 194 = .ok (.if_icmp .ne 7, 3) := by decide +kernel
theorem dX6_compare_197 : decode cX6_compare 197 = .ok (.iconst 0, 1) := by decide +kernel
theorem dX6_compare_198 : decode cX6_compare 198 = .ok (.goto 4, 3) := by decide +kernel
theorem dX6_compare_201 : decode cX6_compare 201 = .ok (.iconst 1, 1) := by decide +kernel
theorem dX6_compare_202 : decode cX6_compare 202 = .ok (.istore 11, 2) := by decide +kernel
theorem dX6_compare_204 : decode cX6_compare 204 = .ok (.iload 10, 2) := by decide +kernel
theorem dX6_compare_206 : decode cX6_compare 206 = .ok (.aload_n 0, 1) := by decide +kernel
theorem dX6_compare_207 : decode cX6_compare 207 = .ok (.getfield 75, 3) := by decide +kernel
theorem dX6_compare_210 : decode cX6_compare 210 = .ok (.iload 9, 2) := by decide +kernel
theorem dX6_compare_212 : decode cX6_compare 212 = .ok (.bipush 26, 2) := by decide +kernel
theorem dX6_compare_214 : decode cX6_compare 214 = .ok (.isub, 1) := by decide +kernel
theorem dX6_compare_215 : decode cX6_compare 215 = .ok (.iaload, 1) := by decide +kernel
theorem dX6_compare_216 : decode cX6_compare 216 = .ok (.iload 11, 2) := by decide +kernel
theorem dX6_compare_218 : decode cX6_compare 218 = .ok (.iadd, 1) := by decide +kernel
theorem dX6_compare_219 : decode cX6_compare 219 = .ok (.invokestatic 187, 3) := by decide +kernel
theorem dX6_compare_222 : decode cX6_compare 222 = .ok (.istore 10, 2) := by decide +kernel
theorem dX6_compare_224 : decode cX6_compare 224 = .ok (.aload_n 0, 1) := by decide +kernel
theorem dX6_compare_225 : decode cX6_compare 225 = .ok (.getfield 72, 3) := by decide +kernel
theorem dX6_compare_228 : decode cX6_compare 228 = .ok (.bipush 24, 2) := by decide +kernel
theorem dX6_compare_230 : decode cX6_compare 230 = .ok (.iload 7, 2) := by decide +kernel
theorem dX6_compare_232 : decode cX6_compare 232 = .ok (.imul, 1) := by decide +kernel
theorem dX6_compare_233 : decode cX6_compare 233 = .ok (.iload 8, 2) := by decide +kernel
theorem dX6_compare_235 : decode cX6_compare 235 = .ok (.iadd, 1) := by decide +kernel
theorem dX6_compare_236 : decode cX6_compare 236 = .ok (.iload 10, 2) := by decide +kernel
theorem dX6_compare_238 : decode cX6_compare 238 = .ok (.iastore, 1) := by decide +kernel
theorem dX6_compare_239 : decode cX6_compare 239 = .ok (.goto 60, 3) := by decide +kernel
theorem dX6_compare_242 : decode cX6_compare 242 = .ok (.bipush 25, 2) := by decide +kernel
theorem dX6_compare_244 : decode cX6_compare 244 = .ok (.aload_n 0, 1) := by decide +kernel
theorem dX6_compare_245 : decode cX6_compare 245 = .ok (.getfield 69, 3) := by decide +kernel
theorem dX6_compare_248 : decode cX6_compare 248 = .ok (.iload 7, 2) := by decide +kernel
theorem dX6_compare_250 : decode cX6_compare 250 = .ok (.iaload, 1) := by decide +kernel
theorem dX6_compare_251 : decode cX6_compare 251 = .ok (.iload 5, 2) := by decide +kernel
theorem dX6_compare_253 : decode cX6_compare 253 = .ok (.isub, 1) := by decide +kernel
theorem dX6_compare_254 : decode cX6_compare 254 = .ok (.imul, 1) := by decide +kernel
theorem dX6_compare_255 : decode cX6_compare 255 = .ok (.aload_n 0, 1) := by decide +kernel
theorem dX6_compare_256 : decode cX6_compare 256 = .ok (.getfield 69, 3) := by decide +kernel
theorem dX6_compare_259 : decode cX6_compare 259 = .ok (.bipush 24, 2) := by decide +kernel
theorem dX6_compare_261 : decode cX6_compare 261 = .ok (.iload 8, 2) := by decide +kernel
theorem dX6_compare_263 : decode cX6_compare 263 = .ok (.iadd, 1) := by decide +kernel
theorem dX6_compare_264 : decode cX6_compare 264 = .ok (.iaload, 1) := by decide +kernel
theorem dX6_compare_265 : decode cX6_compare 265 = .ok (.iadd, 1) := by decide +kernel
theorem dX6_compare_266 : decode cX6_compare 266 = .ok (.iload 6, 2) := by decide +kernel
theorem dX6_compare_268 : decode cX6_compare 268 = .ok (.isub, 1) := by decide +kernel
theorem dX6_compare_269 : decode cX6_compare 269 = .ok (.istore 11, 2) := by decide +kernel
theorem dX6_compare_271 : decode cX6_compare 271 = .ok (.iload 10, 2) := by decide +kernel
theorem dX6_compare_273 : decode cX6_compare 273 = .ok (.aload_n 0, 1) := by decide +kernel
theorem dX6_compare_274 : decode cX6_compare 274 = .ok (.getfield 75, 3) := by decide +kernel
theorem dX6_compare_277 : decode cX6_compare 277 = .ok (.iload 11, 2) := by decide +kernel
theorem dX6_compare_279 : decode cX6_compare 279 = .ok (.iaload, 1) := by decide +kernel
theorem dX6_compare_280 : decode cX6_compare 280 = .ok (.aload_n 0, 1) := by decide +kernel
theorem dX6_compare_281 : decode cX6_compare 281 = .ok (.getfield 72, 3) := by decide +kernel
theorem dX6_compare_284 : decode cX6_compare 284 = .ok (.bipush 24, 2) := by decide +kernel
theorem dX6_compare_286 : decode cX6_compare 286 = .ok (.iload 7, 2) := by decide +kernel
theorem dX6_compare_288 : decode cX6_compare 288 = .ok (.imul, 1) := by decide +kernel
theorem dX6_compare_289 : decode cX6_compare 289 = .ok (.iload 8, 2) := by decide +kernel
theorem dX6_compare_291 : decode cX6_compare 291 = .ok (.iadd, 1) := by decide +kernel
theorem dX6_compare_292 : decode cX6_compare 292 = .ok (.iaload, 1) := by decide +kernel
theorem dX6_compare_293 : decode cX6_compare 293 = .ok (.iadd, 1) := by decide +kernel
theorem dX6_compare_294 : decode cX6_compare 294 = .ok (.invokestatic 187, 3) := by decide +kernel
theorem dX6_compare_297 : decode cX6_compare 297 = .ok (.istore 10, 2) := by decide +kernel
theorem dX6_compare_299 : decode cX6_compare 299 = .ok (.aload_n 0, 1) := by decide +kernel
theorem dX6_compare_300 : decode cX6_compare 300 = .ok (.getfield 75, 3) := by decide +kernel
theorem dX6_compare_303 : decode cX6_compare 303 = .ok (.iload 9, 2) := by decide +kernel
theorem dX6_compare_305 : decode cX6_compare 305 = .ok (.iload 10, 2) := by decide +kernel
theorem dX6_compare_307 : decode cX6_compare 307 = .ok (.iastore, 1) := by decide +kernel
theorem dX6_compare_308 : decode cX6_compare 308 = .ok (.iinc 8 1, 3) := by decide +kernel
theorem dX6_compare_311 : decode cX6_compare 311 = .ok (.goto (-273), 3) := by decide +kernel
theorem dX6_compare_314 : decode cX6_compare 314 = .ok (.iinc 7 1, 3) := by decide +kernel
theorem dX6_compare_317 : decode cX6_compare 317 = .ok (.goto (-291), 3) := by decide +kernel
theorem dX6_compare_320 : decode cX6_compare 320 = .ok (.return_, 1) := by decide +kernel
set_option maxRecDepth 20000 in
theorem ggX6_distance_X6_isCommit : GoodIn wsX6_distance wsX6_isCommit := goodIn_r _ [7, 8, 51, 52, 53, 54, 55, 56, 57, 58, 59, 60, 61, 62, 63, 64, 65, 66, 67, 68, 69, 70, 71, 72, 73, 74, 75, 76, 77] (by decide +kernel) (by decide +kernel)
set_option maxRecDepth 20000 in
theorem gX6_distance_X6_isCommit : GoodIn wsX6_distance (wsV RX6 127 RX6 yX6_isCommit wsX6_isCommit) := goodIn_app (goodIn_of _ (by decide +kernel)) ggX6_distance_X6_isCommit
set_option maxRecDepth 20000 in
theorem ggX6_distance_X6_leave : GoodIn wsX6_distance wsX6_leave := goodIn_r _ [12, 13, 14, 15, 16, 17, 18, 19, 20, 21, 6, 22, 23, 24, 25, 26, 27, 28, 29, 30, 31, 32, 33, 34, 35, 36, 37, 38, 39, 40, 41, 51, 52, 53, 54, 55, 56, 57, 58, 59, 60, 61, 62, 63, 64, 65, 66, 67, 68, 69, 70, 71, 72, 73, 74, 75, 76, 77] (by decide +kernel) (by decide +kernel)
set_option maxRecDepth 20000 in
theorem gX6_distance_X6_leave : GoodIn wsX6_distance (wsV RX6 190 RX6 yX6_leave wsX6_leave) := goodIn_app (goodIn_of _ (by decide +kernel)) ggX6_distance_X6_leave
set_option maxRecDepth 20000 in
theorem ggX6_distance_X6_compare : GoodIn wsX6_distance wsX6_compare := goodIn_r _ [45, 18, 46, 47, 17, 2, 48, 49, 6, 50, 51, 52, 53, 54, 55, 56, 57, 58, 59, 60, 61, 62, 63, 64, 65, 66, 67, 68, 69, 70, 71, 72, 73, 74, 75, 76, 77] (by decide +kernel) (by decide +kernel)
set_option maxRecDepth 20000 in
theorem gX6_distance_X6_compare : GoodIn wsX6_distance (wsV RX6 193 RX6 yX6_compare wsX6_compare) := goodIn_app (goodIn_of _ (by decide +kernel)) ggX6_distance_X6_compare
theorem dX6_distance_0 : decode cX6_distance 0 = .ok (.aload_n 0, 1) := by decide +kernel
theorem dX6_distance_1 : decode cX6_distance 1 = .ok (.aload_n 0, 1) := by decide +kernel
theorem dX6_distance_2 : decode cX6_distance 2 = .ok (.iload_n 1, 1) := by decide +kernel
theorem dX6_distance_3 : decode cX6_distance 3 = .ok (.invokevirtual 127, 3) := by decide +kernel
theorem dX6_distance_6 : decode cX6_distance 6 = .ok (.ifCond .eq 15, 3) := by decide +kernel
theorem dX6_distance_9 : decode cX6_distance 9 = .ok (.aload_n 0, 1) := by decide +kernel
theorem dX6_distance_10 : decode cX6_distance 10 = .ok (.iload_n 2, 1) := by decide +kernel
theorem dX6_distance_11 : decode cX6_distance 11 = .ok (.invokevirtual 127, 3) := by decide +kernel
theorem dX6_distance_14 : decode cX6_distance 14 = .ok (.ifCond .eq 7, 3) := by decide +kernel
theorem dX6_distance_17 : decode cX6_distance 17 = .ok (.iconst 0, 1) := by decide +kernel
theorem dX6_distance_18 : decode cX6_distance 18 = .ok (.goto 4, 3) := by decide +kernel
theorem dX6_distance_21 : decode cX6_distance 21 = .ok (.iconst 1, 1) := by decide +kernel
theorem dX6_distance_22 : decode cX6_distance 22 = .ok (.putfield 82, 3) := by decide +kernel
theorem dX6_distance_25 : decode cX6_distance 25 = .ok (.aload_n 0, 1) := by decide +kernel
theorem dX6_distance_26 : decode cX6_distance 26 = .ok (.getfield 82, 3) := by decide +kernel
theorem dX6_distance_29 : decode cX6_distance 29 = .ok (.ifCond .le 5, 3) := by decide +kernel
theorem dX6_distance_32 : decode cX6_distance 32 = .ok (.iconst 0, 1) := by decide +kernel
theorem dX6_distance_33 : decode cX6_distance 33 = .ok (.ireturn, 1) := by decide +kernel
theorem dX6_distance_34 : decode cX6_distance 34 = .ok (.aload_n 0, 1) := by decide +kernel
theorem dX6_distance_35 : decode cX6_distance 35 = .ok (.iload_n 1, 1) := by decide +kernel
theorem dX6_distance_36 : decode cX6_distance 36 = .ok (.iconst 0, 1) := by decide +kernel
theorem dX6_distance_37 : decode cX6_distance 37 = .ok (.invokevirtual 190, 3) := by decide +kernel
theorem dX6_distance_40 : decode cX6_distance 40 = .ok (.istore_n 3, 1) := by decide +kernel
theorem dX6_distance_41 : decode cX6_distance 41 = .ok (.aload_n 0, 1) := by decide +kernel
theorem dX6_distance_42 : decode cX6_distance 42 = .ok (.iload_n 2, 1) := by decide +kernel
theorem dX6_distance_43 : decode cX6_distance 43 = .ok (.bipush 24, 2) := by decide +kernel
theorem dX6_distance_45 : decode cX6_distance 45 = .ok (.invokevirtual 190, 3) := by decide +kernel
theorem dX6_distance_48 : decode cX6_distance 48 = .ok (.istore 4, 2) := by decide +kernel
theorem dX6_distance_50 : decode cX6_distance 50 = .ok (.iconst 0, 1) := by decide +kernel
theorem dX6_distance_51 : decode cX6_distance 51 = .ok (.istore 5, 2) := by decide +kernel
theorem dX6_distance_53 : decode cX6_distance 53 = .ok (.iload 5, 2) := by decide +kernel
theorem dX6_distance_55 : decode cX6_distance 55 = .ok (.iload_n 3, 1) := by decide +kernel
theorem dX6_distance_56 : decode cX6_distance 56 = .ok (.if_icmp .ge 35, 3) := by decide +kernel
theorem dX6_distance_59 : decode cX6_distance 59 = .ok (.iconst 0, 1) := by decide +kernel
theorem dX6_distance_60 : decode cX6_distance 60 = .ok (.istore 6, 2) := by decide +kernel
theorem dX6_distance_62 : decode cX6_distance 62 = .ok (.iload 6, 2) := by decide +kernel
theorem dX6_distance_64 : decode cX6_distance 64 = .ok (.iload 4, 2) := by decide +kernel
theorem dX6_distance_66 : decode cX6_distance 66 = .ok (.if_icmp .ge 19, 3) := by decide +kernel
theorem dX6_distance_69 : decode cX6_distance 69 = .ok (.aload_n 0, 1) := by decide +kernel
theorem dX6_distance_70 : decode cX6_distance 70 = .ok (.iload_n 1, 1) := by decide +kernel
theorem dX6_distance_71 : decode cX6_distance 71 = .ok (.iload_n 2, 1) := by decide +kernel
theorem dX6_distance_72 : decode cX6_distance 72 = .ok (.iload 5, 2) := by decide +kernel
theorem dX6_distance_74 : decode cX6_distance 74 = .ok (.iload 6, 2) := by decide +kernel
theorem dX6_distance_76 : decode cX6_distance 76 = .ok (.invokevirtual 193, 3) := by decide +kernel
theorem dX6_distance_79 : decode cX6_distance 79 = .ok (.iinc 6 1, 3) := by decide +kernel
theorem dX6_distance_82 : decode cX6_distance 82 = .ok (.goto (-20), 3) := by decide +kernel
theorem dX6_distance_85 : decode cX6_distance 85 = .ok (.iinc 5 1, 3) := by decide +kernel
theorem dX6_distance_88 : decode cX6_distance 88 = .ok (.goto (-35), 3) := by decide +kernel
theorem dX6_distance_91 : decode cX6_distance 91 = .ok (.aload_n 0, 1) := by decide +kernel
theorem dX6_distance_92 : decode cX6_distance 92 = .ok (.getfield 72, 3) := by decide +kernel
theorem dX6_distance_95 : decode cX6_distance 95 = .ok (.bipush 24, 2) := by decide +kernel
theorem dX6_distance_97 : decode cX6_distance 97 = .ok (.iload_n 3, 1) := by decide +kernel
theorem dX6_distance_98 : decode cX6_distance 98 = .ok (.iconst 1, 1) := by decide +kernel
theorem dX6_distance_99 : decode cX6_distance 99 = .ok (.isub, 1) := by decide +kernel
theorem dX6_distance_100 : decode cX6_distance 100 = .ok (.imul, 1) := by decide +kernel
theorem dX6_distance_101 : decode cX6_distance 101 = .ok (.iload 4, 2) := by decide +kernel
theorem dX6_distance_103 : decode cX6_distance 103 = .ok (.iadd, 1) := by decide +kernel
theorem dX6_distance_104 : decode cX6_distance 104 = .ok (.iconst 1, 1) := by decide +kernel
theorem dX6_distance_105 : decode cX6_distance 105 = .ok (.isub, 1) := by decide +kernel
theorem dX6_distance_106 : decode cX6_distance 106 = .ok (.iaload, 1) := by decide +kernel
theorem dX6_distance_107 : decode cX6_distance 107 = .ok (.ireturn, 1) := by decide +kernel
theorem dX6_state_0 : decode cX6_state 0 = .ok (.aload_n 0, 1) := by decide +kernel
theorem dX6_state_1 : decode cX6_state 1 = .ok (.iload_n 1, 1) := by decide +kernel
theorem dX6_state_2 : decode cX6_state 2 = .ok (.ifCond .lt 8, 3) := by decide +kernel
theorem dX6_state_5 : decode cX6_state 5 = .ok (.iload_n 1, 1) := by decide +kernel
theorem dX6_state_6 : decode cX6_state 6 = .ok (.iconst 2, 1) := by decide +kernel
theorem dX6_state_7 : decode cX6_state 7 = .ok (.if_icmp .le 7, 3) := by decide +kernel
theorem dX6_state_10 : decode cX6_state 10 = .ok (.iconst 1, 1) := by decide +kernel
theorem dX6_state_11 : decode cX6_state 11 = .ok (.goto 4, 3) := by decide +kernel
theorem dX6_state_14 : decode cX6_state 14 = .ok (.iconst 0, 1) := by decide +kernel
theorem dX6_state_15 : decode cX6_state 15 = .ok (.putfield 82, 3) := by decide +kernel
theorem dX6_state_18 : decode cX6_state 18 = .ok (.aload_n 0, 1) := by decide +kernel
theorem dX6_state_19 : decode cX6_state 19 = .ok (.getfield 82, 3) := by decide +kernel
theorem dX6_state_22 : decode cX6_state 22 = .ok (.ifCond .le 7, 3) := by decide +kernel
theorem dX6_state_25 : decode cX6_state 25 = .ok (.iconst 0, 1) := by decide +kernel
theorem dX6_state_26 : decode cX6_state 26 = .ok (.goto 30, 3) := by decide +kernel
theorem dX6_state_29 : decode cX6_state 29 = .ok (.iload_n 1, 1) := by decide +kernel
theorem dX6_state_30 : decode cX6_state 30 = .ok (.ifCond .ne 10, 3) := by decide +kernel
theorem dX6_state_33 : decode cX6_state 33 = .ok (.aload_n 0, 1) := by decide +kernel
theorem dX6_state_34 : decode cX6_state 34 = .ok (.getfield 27, 3) := by decide +kernel
theorem dX6_state_37 : decode cX6_state 37 = .ok (.goto 19, 3) := by decide +kernel
theorem dX6_state_40 : decode cX6_state 40 = .ok (.iload_n 1, 1) := by decide +kernel
theorem dX6_state_41 : decode cX6_state 41 = .ok (.iconst 1, 1) := by decide +kernel
theorem dX6_state_42 : decode cX6_state 42 = .ok (.if_icmp .ne 10, 3) := by decide +kernel
theorem dX6_state_45 : decode cX6_state 45 = .ok (.aload_n 0, 1) := by decide +kernel
theorem dX6_state_46 : decode cX6_state 46 = .ok (.getfield 124, 3) := by decide +kernel
theorem dX6_state_49 : decode cX6_state 49 = .ok (.goto 7, 3) := by decide +kernel
theorem dX6_state_52 : decode cX6_state 52 = .ok (.aload_n 0, 1) := by decide +kernel
theorem dX6_state_53 : decode cX6_state 53 = .ok (.getfield 39, 3) := by decide +kernel
theorem dX6_state_56 : decode cX6_state 56 = .ok (.ireturn, 1) := by decide +kernel
set_option maxRecDepth 20000 in
theorem ggX6_above_X6_isCommit : GoodIn wsX6_above wsX6_isCommit := goodIn_r _ [8, 9, 10, 11, 12, 13, 14, 15, 16, 17, 18, 19, 20, 21, 22, 23, 24, 25, 26, 27, 28, 29, 30, 31, 32, 33, 34, 35, 36] (by decide +kernel) (by decide +kernel)
set_option maxRecDepth 20000 in
theorem gX6_above_X6_isCommit : GoodIn wsX6_above (wsV RX6 127 RX6 yX6_isCommit wsX6_isCommit) := goodIn_app (goodIn_of _ (by decide +kernel)) ggX6_above_X6_isCommit
theorem dX6_above_0 : decode cX6_above 0 = .ok (.aload_n 0, 1) := by decide +kernel
theorem dX6_above_1 : decode cX6_above 1 = .ok (.aload_n 0, 1) := by decide +kernel
theorem dX6_above_2 : decode cX6_above 2 = .ok (.iload_n 1, 1) := by decide +kernel
theorem dX6_above_3 : decode cX6_above 3 = .ok (.invokevirtual 127, 3) := by decide +kernel
theorem dX6_above_6 : decode cX6_above 6 = .ok (.ifCond .ne 7, 3) := by decide +kernel
theorem dX6_above_9 : decode cX6_above 9 = .ok (.iconst 1, 1) := by decide +kernel
theorem dX6_above_10 : decode cX6_above 10 = .ok (.goto 17, 3) := by decide +kernel
theorem dX6_above_13 : decode cX6_above 13 = .ok (.iload_n 2, 1) := by decide +kernel
theorem dX6_above_14 : decode cX6_above 14 = .ok (.ifCond .lt 8, 3) := by decide +kernel
theorem dX6_above_17 : decode cX6_above 17 = .ok (.iload_n 2, 1) := by decide +kernel
theorem dX6_above_18 : decode cX6_above 18 = .ok (.iconst 1, 1) := by decide +kernel
theorem dX6_above_19 : decode cX6_above 19 = .ok (.if_icmp .le 7, 3) := by decide +kernel
theorem dX6_above_22 : decode cX6_above 22 = .ok (.iconst 2, 1) := by decide +kernel
theorem dX6_above_23 : decode cX6_above 23 = .ok (.goto 4, 3) := by decide +kernel
theorem dX6_above_26 : decode cX6_above 26 = .ok (.iconst 0, 1) := by decide +kernel
theorem dX6_above_27 : decode cX6_above 27 = .ok (.putfield 82, 3) := by decide +kernel
theorem dX6_above_30 : decode cX6_above 30 = .ok (.aload_n 0, 1) := by decide +kernel
theorem dX6_above_31 : decode cX6_above 31 = .ok (.getfield 82, 3) := by decide +kernel
theorem dX6_above_34 : decode cX6_above 34 = .ok (.ifCond .le 7, 3) := by decide +kernel
theorem dX6_above_37 : decode cX6_above 37 = .ok (.iconst 0, 1) := by decide +kernel
theorem dX6_above_38 : decode cX6_above 38 = .ok (.goto 22, 3) := by decide +kernel
theorem dX6_above_41 : decode cX6_above 41 = .ok (.iload_n 2, 1) := by decide +kernel
theorem dX6_above_42 : decode cX6_above 42 = .ok (.ifCond .ne 12, 3) := by decide +kernel
theorem dX6_above_45 : decode cX6_above 45 = .ok (.aload_n 0, 1) := by decide +kernel
theorem dX6_above_46 : decode cX6_above 46 = .ok (.getfield 30, 3) := by decide +kernel
theorem dX6_above_49 : decode cX6_above 49 = .ok (.iload_n 1, 1) := by decide +kernel
theorem dX6_above_50 : decode cX6_above 50 = .ok (.iaload, 1) := by decide +kernel
theorem dX6_above_51 : decode cX6_above 51 = .ok (.goto 9, 3) := by decide +kernel
theorem dX6_above_54 : decode cX6_above 54 = .ok (.aload_n 0, 1) := by decide +kernel
theorem dX6_above_55 : decode cX6_above 55 = .ok (.getfield 33, 3) := by decide +kernel
theorem dX6_above_58 : decode cX6_above 58 = .ok (.iload_n 1, 1) := by decide +kernel
theorem dX6_above_59 : decode cX6_above 59 = .ok (.iaload, 1) := by decide +kernel
theorem dX6_above_60 : decode cX6_above 60 = .ok (.ireturn, 1) := by decide +kernel
end
section
/-! THE ABSTRACT MACHINE. Objects are pairs (kind, number); a store gives each object's ints by their slots; what refers to what is fixed (ab_fr, ab_el). -/
abbrev ab_Ob : Type := Nat × Nat
abbrev ab_V : Type := Int32 ⊕ ab_Ob
abbrev ab_S : Type := Nat → Nat → Nat → Int32
/-- how a method ends: with an int or nothing, or by the exception of a number -/
abbrev ab_O : Type := Option Int32 ⊕ Nat
abbrev ab_Po : Type := ab_O → ab_S → Prop
abbrev ab_TR : Type := List ab_V → ab_S → ab_Po → Prop
abbrev ab_Gt : Type := Nat → List (Option ab_V) → List ab_V → ab_S → Nat → Prop
/-- a callee: the receiver's class number, how many arguments, 0 void or 1 int, cells, what it does -/
abbrev ab_call : Type := Nat × Nat × Nat × Nat × ab_TR
def ab_ex : Nat → String
  | 0 => "java/util/NoSuchElementException"
  | 1 => "java/lang/IndexOutOfBoundsException"
  | 2 => "java/lang/IllegalArgumentException"
  | 3 => "java/lang/UnsupportedOperationException"
  | _ => "java/lang/IllegalStateException"
/-- kinds: 0 GroveMerge, 1 History, 2 Merger, 3 EditDistance, 4 Tree (0 working, 1 to 12 commits, 13 result), 5 to 9 their rows, 10 trees, 11 to 13 rows of History, 14 conflicts, 15 to 18 ofParts, ofRests, 19 endsA, endsB, 21 the model, 22 to 40 its rows, 41 the law's out -/
def ab_nb : Nat → Nat
  | 4 => 14 | 5 => 14 | 6 => 14 | 7 => 14 | 8 => 14 | 9 => 14
  | 16 => 24 | 18 => 25 | 19 => 2 | 20 => 0
  | k => if k < 42 then 1 else 0
/-- the arrays: their element's kind (0 int, 1 boolean, 2 Tree, 3 int[], 4 long), their length -/
def ab_ar : Nat → Option (Nat × Nat)
  | 5 => some (0, 24) | 6 => some (0, 24) | 7 => some (0, 24) | 8 => some (0, 24) | 9 => some (0, 24)
  | 10 => some (2, 12) | 11 => some (0, 12) | 12 => some (0, 12) | 13 => some (0, 12) | 14 => some (0, 24)
  | 15 => some (3, 24) | 16 => some (0, 24) | 17 => some (3, 25) | 18 => some (0, 25) | 19 => some (0, 24)
  | 22 => some (1, 336) | 23 => some (0, 336) | 24 => some (0, 336) | 25 => some (0, 336)
  | 26 => some (0, 12) | 27 => some (0, 12) | 28 => some (0, 12) | 29 => some (0, 24) | 30 => some (1, 24)
  | 31 => some (0, 24) | 32 => some (0, 24) | 33 => some (0, 24) | 34 => some (0, 24) | 35 => some (0, 24) | 36 => some (0, 24)
  | 37 => some (0, 48) | 38 => some (0, 48) | 39 => some (0, 576) | 40 => some (0, 625) | 41 => some (4, 1)
  | _ => none
/-- what the places of an array of references hold -/
def ab_el : Nat → Nat → ab_Ob
  | 10, j => (4, j + 1)
  | 15, j => (16, j)
  | _, j => (18, j)
def ab_ci : Nat → Nat
  | 0 => 4 | 1 => 1 | 2 => 2 | 3 => 0 | 4 => 3 | _ => 5
def ab_nf : Nat → Nat
  | 0 => 7 | 1 => 5 | 2 => 3 | 3 => 4 | 4 => 6 | 21 => 27 | _ => 0
/-- the fields that refer -/
def ab_fr : Nat → Nat → Nat → Option ab_Ob
  | 0, 0, _ => some (4, 0) | 0, 1, _ => some (1, 0) | 0, 2, _ => some (2, 0) | 0, 3, _ => some (3, 0)
  | 1, 0, _ => some (10, 0) | 1, 1, _ => some (11, 0) | 1, 2, _ => some (12, 0) | 1, 4, _ => some (13, 0)
  | 2, 0, _ => some (4, 13) | 2, 1, _ => some (14, 0)
  | 3, 0, _ => some (15, 0) | 3, 1, _ => some (17, 0) | 3, 2, _ => some (19, 0) | 3, 3, _ => some (19, 1)
  | 4, 0, i => some (5, i) | 4, 1, i => some (6, i) | 4, 2, i => some (7, i) | 4, 3, i => some (8, i) | 4, 5, i => some (9, i)
  | 21, 1, _ => some (22, 0) | 21, 2, _ => some (23, 0) | 21, 3, _ => some (24, 0) | 21, 4, _ => some (25, 0)
  | 21, 7, _ => some (26, 0) | 21, 8, _ => some (27, 0) | 21, 9, _ => some (28, 0) | 21, 13, _ => some (29, 0)
  | 21, 14, _ => some (30, 0) | 21, 15, _ => some (31, 0) | 21, 16, _ => some (32, 0) | 21, 17, _ => some (33, 0)
  | 21, 19, _ => some (34, 0) | 21, 20, _ => some (35, 0) | 21, 22, _ => some (36, 0) | 21, 23, _ => some (37, 0)
  | 21, 24, _ => some (38, 0) | 21, 25, _ => some (39, 0) | 21, 26, _ => some (40, 0)
  | _, _, _ => none
def ab_fv (κ f i : Nat) (S : ab_S) : ab_V := match ab_fr κ f i with
  | some o => .inr o
  | none => .inl (S κ i f)
def ab_sr (S : ab_S) (κ i : Nat) (f : Nat → Int32) : ab_S := fun a b => if a = κ ∧ b = i then f else S a b
def ab_su (S : ab_S) (κ i j : Nat) (v : Int32) : ab_S := ab_sr S κ i (upd (S κ i) j v)
/-- what a caller goes on with -/
def ab_back (Q : ab_Po) (G : ab_Gt) (pc : Nat) (L : List (Option ab_V)) (rest : List ab_V) (k : Nat) : ab_Po := fun o S' => match o with
  | .inl none => G pc L rest S' k
  | .inl (some r) => G pc L (.inl r :: rest) S' k
  | .inr E => Q (.inr E) S'
/-- a method: its bytes; its fields (index, kind, field) that are read, that are written; its callees by their indices, virtual, static, of the nest; Math.min; arraycopy; the throws; int constants; 0 void, 1 int, 2 boolean; how many cells it may make -/
abbrev ab_M : Type := ByteArray × List (Nat × Nat × Nat) × List (Nat × Nat × Nat) × (Nat → Option ab_call) × (Nat → Option ab_call) × (Nat → Option ab_call) × List Nat × List Nat × (Nat → Option Nat) × List (Nat × Int32) × Nat × Nat
abbrev ab_cc (M : ab_M) : ByteArray := M.1
abbrev ab_fl (M : ab_M) : List (Nat × Nat × Nat) := M.2.1
abbrev ab_pl (M : ab_M) : List (Nat × Nat × Nat) := M.2.2.1
abbrev ab_cv (M : ab_M) : (Nat → Option ab_call) := M.2.2.2.1
abbrev ab_cs (M : ab_M) : (Nat → Option ab_call) := M.2.2.2.2.1
abbrev ab_cn (M : ab_M) : (Nat → Option ab_call) := M.2.2.2.2.2.1
abbrev ab_mn (M : ab_M) : List Nat := M.2.2.2.2.2.2.1
abbrev ab_ac (M : ab_M) : List Nat := M.2.2.2.2.2.2.2.1
abbrev ab_th (M : ab_M) : (Nat → Option Nat) := M.2.2.2.2.2.2.2.2.1
abbrev ab_kn (M : ab_M) : List (Nat × Int32) := M.2.2.2.2.2.2.2.2.2.1
abbrev ab_rk (M : ab_M) : Nat := M.2.2.2.2.2.2.2.2.2.2.1
abbrev ab_K (M : ab_M) : Nat := M.2.2.2.2.2.2.2.2.2.2.2
def ab_c_iload_n (M : ab_M) (Q : ab_Po) (G : ab_Gt) : Prop := ∀ (pc : Nat) (L : List (Option ab_V)) (st : List ab_V) (S : ab_S) (k : Nat) (n : Fin 4) (x : Int32), decode (ab_cc M) pc = .ok (.iload_n n, 1) → L[(n : Nat)]? = some (some (.inl x)) → G (pc + 1) L (.inl x :: st) S k → G pc L st S k
def ab_c_iload (M : ab_M) (Q : ab_Po) (G : ab_Gt) : Prop := ∀ (pc : Nat) (L : List (Option ab_V)) (st : List ab_V) (S : ab_S) (k : Nat) (n : Nat) (x : Int32), decode (ab_cc M) pc = .ok (.iload n, 2) → L[n]? = some (some (.inl x)) → G (pc + 2) L (.inl x :: st) S k → G pc L st S k
def ab_c_aload_n (M : ab_M) (Q : ab_Po) (G : ab_Gt) : Prop := ∀ (pc : Nat) (L : List (Option ab_V)) (st : List ab_V) (S : ab_S) (k : Nat) (n : Fin 4) (o : ab_Ob), decode (ab_cc M) pc = .ok (.aload_n n, 1) → L[(n : Nat)]? = some (some (.inr o)) → G (pc + 1) L (.inr o :: st) S k → G pc L st S k
def ab_c_aload (M : ab_M) (Q : ab_Po) (G : ab_Gt) : Prop := ∀ (pc : Nat) (L : List (Option ab_V)) (st : List ab_V) (S : ab_S) (k : Nat) (n : Nat) (o : ab_Ob), decode (ab_cc M) pc = .ok (.aload n, 2) → L[n]? = some (some (.inr o)) → G (pc + 2) L (.inr o :: st) S k → G pc L st S k
def ab_c_istore_n (M : ab_M) (Q : ab_Po) (G : ab_Gt) : Prop := ∀ (pc : Nat) (L : List (Option ab_V)) (st : List ab_V) (S : ab_S) (k : Nat) (n : Fin 4) (x : Int32), decode (ab_cc M) pc = .ok (.istore_n n, 1) → (n : Nat) < L.length → G (pc + 1) (L.set (n : Nat) (some (.inl x))) st S k → G pc L (.inl x :: st) S k
def ab_c_istore (M : ab_M) (Q : ab_Po) (G : ab_Gt) : Prop := ∀ (pc : Nat) (L : List (Option ab_V)) (st : List ab_V) (S : ab_S) (k : Nat) (n : Nat) (x : Int32), decode (ab_cc M) pc = .ok (.istore n, 2) → n < L.length → G (pc + 2) (L.set n (some (.inl x))) st S k → G pc L (.inl x :: st) S k
def ab_c_astore_n (M : ab_M) (Q : ab_Po) (G : ab_Gt) : Prop := ∀ (pc : Nat) (L : List (Option ab_V)) (st : List ab_V) (S : ab_S) (k : Nat) (n : Fin 4) (o : ab_Ob), decode (ab_cc M) pc = .ok (.astore_n n, 1) → (n : Nat) < L.length → G (pc + 1) (L.set (n : Nat) (some (.inr o))) st S k → G pc L (.inr o :: st) S k
def ab_c_astore (M : ab_M) (Q : ab_Po) (G : ab_Gt) : Prop := ∀ (pc : Nat) (L : List (Option ab_V)) (st : List ab_V) (S : ab_S) (k : Nat) (n : Nat) (o : ab_Ob), decode (ab_cc M) pc = .ok (.astore n, 2) → n < L.length → G (pc + 2) (L.set n (some (.inr o))) st S k → G pc L (.inr o :: st) S k
def ab_c_iinc (M : ab_M) (Q : ab_Po) (G : ab_Gt) : Prop := ∀ (pc : Nat) (L : List (Option ab_V)) (st : List ab_V) (S : ab_S) (k : Nat) (i : Nat) (n : Int) (x v : Int32), decode (ab_cc M) pc = .ok (.iinc i n, 3) → L[i]? = some (some (.inl x)) → x + Int32.ofInt n = v → G (pc + 3) (L.set i (some (.inl v))) st S k → G pc L st S k
def ab_c_iconst (M : ab_M) (Q : ab_Po) (G : ab_Gt) : Prop := ∀ (pc : Nat) (L : List (Option ab_V)) (st : List ab_V) (S : ab_S) (k : Nat) (n : Int) (v : Int32), decode (ab_cc M) pc = .ok (.iconst n, 1) → Int32.ofInt n = v → G (pc + 1) L (.inl v :: st) S k → G pc L st S k
def ab_c_bipush (M : ab_M) (Q : ab_Po) (G : ab_Gt) : Prop := ∀ (pc : Nat) (L : List (Option ab_V)) (st : List ab_V) (S : ab_S) (k : Nat) (n : Int) (v : Int32), decode (ab_cc M) pc = .ok (.bipush n, 2) → (Int8.ofInt n).toInt32 = v → G (pc + 2) L (.inl v :: st) S k → G pc L st S k
def ab_c_sipush (M : ab_M) (Q : ab_Po) (G : ab_Gt) : Prop := ∀ (pc : Nat) (L : List (Option ab_V)) (st : List ab_V) (S : ab_S) (k : Nat) (n : Int) (v : Int32), decode (ab_cc M) pc = .ok (.sipush n, 3) → (Int16.ofInt n).toInt32 = v → G (pc + 3) L (.inl v :: st) S k → G pc L st S k
def ab_c_ldc_w (M : ab_M) (Q : ab_Po) (G : ab_Gt) : Prop := ∀ (pc : Nat) (L : List (Option ab_V)) (st : List ab_V) (S : ab_S) (k : Nat) (i : Nat) (v : Int32), decode (ab_cc M) pc = .ok (.ldc_w i, 3) → (i, v) ∈ ab_kn M → G (pc + 3) L (.inl v :: st) S k → G pc L st S k
def ab_c_iadd (M : ab_M) (Q : ab_Po) (G : ab_Gt) : Prop := ∀ (pc : Nat) (L : List (Option ab_V)) (st : List ab_V) (S : ab_S) (k : Nat) (x y : Int32), decode (ab_cc M) pc = .ok (.iadd, 1) → G (pc + 1) L (.inl (x + y) :: st) S k → G pc L (.inl y :: .inl x :: st) S k
def ab_c_isub (M : ab_M) (Q : ab_Po) (G : ab_Gt) : Prop := ∀ (pc : Nat) (L : List (Option ab_V)) (st : List ab_V) (S : ab_S) (k : Nat) (x y : Int32), decode (ab_cc M) pc = .ok (.isub, 1) → G (pc + 1) L (.inl (x - y) :: st) S k → G pc L (.inl y :: .inl x :: st) S k
def ab_c_imul (M : ab_M) (Q : ab_Po) (G : ab_Gt) : Prop := ∀ (pc : Nat) (L : List (Option ab_V)) (st : List ab_V) (S : ab_S) (k : Nat) (x y : Int32), decode (ab_cc M) pc = .ok (.imul, 1) → G (pc + 1) L (.inl (x * y) :: st) S k → G pc L (.inl y :: .inl x :: st) S k
def ab_c_iand (M : ab_M) (Q : ab_Po) (G : ab_Gt) : Prop := ∀ (pc : Nat) (L : List (Option ab_V)) (st : List ab_V) (S : ab_S) (k : Nat) (x y : Int32), decode (ab_cc M) pc = .ok (.iand, 1) → G (pc + 1) L (.inl (x &&& y) :: st) S k → G pc L (.inl y :: .inl x :: st) S k
def ab_c_ior (M : ab_M) (Q : ab_Po) (G : ab_Gt) : Prop := ∀ (pc : Nat) (L : List (Option ab_V)) (st : List ab_V) (S : ab_S) (k : Nat) (x y : Int32), decode (ab_cc M) pc = .ok (.ior, 1) → G (pc + 1) L (.inl (x ||| y) :: st) S k → G pc L (.inl y :: .inl x :: st) S k
def ab_c_ishl (M : ab_M) (Q : ab_Po) (G : ab_Gt) : Prop := ∀ (pc : Nat) (L : List (Option ab_V)) (st : List ab_V) (S : ab_S) (k : Nat) (x y : Int32), decode (ab_cc M) pc = .ok (.ishl, 1) → G (pc + 1) L (.inl (x <<< (y &&& 31)) :: st) S k → G pc L (.inl y :: .inl x :: st) S k
def ab_c_ishr (M : ab_M) (Q : ab_Po) (G : ab_Gt) : Prop := ∀ (pc : Nat) (L : List (Option ab_V)) (st : List ab_V) (S : ab_S) (k : Nat) (x y : Int32), decode (ab_cc M) pc = .ok (.ishr, 1) → G (pc + 1) L (.inl (x >>> (y &&& 31)) :: st) S k → G pc L (.inl y :: .inl x :: st) S k
def ab_c_iushr (M : ab_M) (Q : ab_Po) (G : ab_Gt) : Prop := ∀ (pc : Nat) (L : List (Option ab_V)) (st : List ab_V) (S : ab_S) (k : Nat) (x y : Int32), decode (ab_cc M) pc = .ok (.iushr, 1) → G (pc + 1) L (.inl ((x.toUInt32 >>> (y.toUInt32 &&& Int32.toUInt32 31)).toInt32) :: st) S k → G pc L (.inl y :: .inl x :: st) S k
def ab_c_dup (M : ab_M) (Q : ab_Po) (G : ab_Gt) : Prop := ∀ (pc : Nat) (L : List (Option ab_V)) (st : List ab_V) (S : ab_S) (k : Nat) (v : ab_V), decode (ab_cc M) pc = .ok (.dup, 1) → G (pc + 1) L (v :: v :: st) S k → G pc L (v :: st) S k
def ab_c_pop (M : ab_M) (Q : ab_Po) (G : ab_Gt) : Prop := ∀ (pc : Nat) (L : List (Option ab_V)) (st : List ab_V) (S : ab_S) (k : Nat) (v : ab_V), decode (ab_cc M) pc = .ok (.pop, 1) → G (pc + 1) L st S k → G pc L (v :: st) S k
def ab_c_if_eq (M : ab_M) (Q : ab_Po) (G : ab_Gt) : Prop := ∀ (pc : Nat) (L : List (Option ab_V)) (st : List ab_V) (S : ab_S) (k : Nat) (off : Int) (tgt : Nat) (x : Int32), decode (ab_cc M) pc = .ok (.ifCond .eq off, 3) → (pc : Int) + off = (tgt : Int) → (x = 0 → G tgt L st S k) → (¬ x = 0 → G (pc + 3) L st S k) → G pc L (.inl x :: st) S k
def ab_c_icmp_eq (M : ab_M) (Q : ab_Po) (G : ab_Gt) : Prop := ∀ (pc : Nat) (L : List (Option ab_V)) (st : List ab_V) (S : ab_S) (k : Nat) (off : Int) (tgt : Nat) (x y : Int32), decode (ab_cc M) pc = .ok (.if_icmp .eq off, 3) → (pc : Int) + off = (tgt : Int) → (x = y → G tgt L st S k) → (¬ x = y → G (pc + 3) L st S k) → G pc L (.inl y :: .inl x :: st) S k
def ab_c_if_ne (M : ab_M) (Q : ab_Po) (G : ab_Gt) : Prop := ∀ (pc : Nat) (L : List (Option ab_V)) (st : List ab_V) (S : ab_S) (k : Nat) (off : Int) (tgt : Nat) (x : Int32), decode (ab_cc M) pc = .ok (.ifCond .ne off, 3) → (pc : Int) + off = (tgt : Int) → (¬ x = 0 → G tgt L st S k) → (x = 0 → G (pc + 3) L st S k) → G pc L (.inl x :: st) S k
def ab_c_icmp_ne (M : ab_M) (Q : ab_Po) (G : ab_Gt) : Prop := ∀ (pc : Nat) (L : List (Option ab_V)) (st : List ab_V) (S : ab_S) (k : Nat) (off : Int) (tgt : Nat) (x y : Int32), decode (ab_cc M) pc = .ok (.if_icmp .ne off, 3) → (pc : Int) + off = (tgt : Int) → (¬ x = y → G tgt L st S k) → (x = y → G (pc + 3) L st S k) → G pc L (.inl y :: .inl x :: st) S k
def ab_c_if_lt (M : ab_M) (Q : ab_Po) (G : ab_Gt) : Prop := ∀ (pc : Nat) (L : List (Option ab_V)) (st : List ab_V) (S : ab_S) (k : Nat) (off : Int) (tgt : Nat) (x : Int32), decode (ab_cc M) pc = .ok (.ifCond .lt off, 3) → (pc : Int) + off = (tgt : Int) → (x < 0 → G tgt L st S k) → (¬ x < 0 → G (pc + 3) L st S k) → G pc L (.inl x :: st) S k
def ab_c_icmp_lt (M : ab_M) (Q : ab_Po) (G : ab_Gt) : Prop := ∀ (pc : Nat) (L : List (Option ab_V)) (st : List ab_V) (S : ab_S) (k : Nat) (off : Int) (tgt : Nat) (x y : Int32), decode (ab_cc M) pc = .ok (.if_icmp .lt off, 3) → (pc : Int) + off = (tgt : Int) → (x < y → G tgt L st S k) → (¬ x < y → G (pc + 3) L st S k) → G pc L (.inl y :: .inl x :: st) S k
def ab_c_if_ge (M : ab_M) (Q : ab_Po) (G : ab_Gt) : Prop := ∀ (pc : Nat) (L : List (Option ab_V)) (st : List ab_V) (S : ab_S) (k : Nat) (off : Int) (tgt : Nat) (x : Int32), decode (ab_cc M) pc = .ok (.ifCond .ge off, 3) → (pc : Int) + off = (tgt : Int) → (0 ≤ x → G tgt L st S k) → (¬ 0 ≤ x → G (pc + 3) L st S k) → G pc L (.inl x :: st) S k
def ab_c_icmp_ge (M : ab_M) (Q : ab_Po) (G : ab_Gt) : Prop := ∀ (pc : Nat) (L : List (Option ab_V)) (st : List ab_V) (S : ab_S) (k : Nat) (off : Int) (tgt : Nat) (x y : Int32), decode (ab_cc M) pc = .ok (.if_icmp .ge off, 3) → (pc : Int) + off = (tgt : Int) → (y ≤ x → G tgt L st S k) → (¬ y ≤ x → G (pc + 3) L st S k) → G pc L (.inl y :: .inl x :: st) S k
def ab_c_if_gt (M : ab_M) (Q : ab_Po) (G : ab_Gt) : Prop := ∀ (pc : Nat) (L : List (Option ab_V)) (st : List ab_V) (S : ab_S) (k : Nat) (off : Int) (tgt : Nat) (x : Int32), decode (ab_cc M) pc = .ok (.ifCond .gt off, 3) → (pc : Int) + off = (tgt : Int) → (0 < x → G tgt L st S k) → (¬ 0 < x → G (pc + 3) L st S k) → G pc L (.inl x :: st) S k
def ab_c_icmp_gt (M : ab_M) (Q : ab_Po) (G : ab_Gt) : Prop := ∀ (pc : Nat) (L : List (Option ab_V)) (st : List ab_V) (S : ab_S) (k : Nat) (off : Int) (tgt : Nat) (x y : Int32), decode (ab_cc M) pc = .ok (.if_icmp .gt off, 3) → (pc : Int) + off = (tgt : Int) → (y < x → G tgt L st S k) → (¬ y < x → G (pc + 3) L st S k) → G pc L (.inl y :: .inl x :: st) S k
def ab_c_if_le (M : ab_M) (Q : ab_Po) (G : ab_Gt) : Prop := ∀ (pc : Nat) (L : List (Option ab_V)) (st : List ab_V) (S : ab_S) (k : Nat) (off : Int) (tgt : Nat) (x : Int32), decode (ab_cc M) pc = .ok (.ifCond .le off, 3) → (pc : Int) + off = (tgt : Int) → (x ≤ 0 → G tgt L st S k) → (¬ x ≤ 0 → G (pc + 3) L st S k) → G pc L (.inl x :: st) S k
def ab_c_icmp_le (M : ab_M) (Q : ab_Po) (G : ab_Gt) : Prop := ∀ (pc : Nat) (L : List (Option ab_V)) (st : List ab_V) (S : ab_S) (k : Nat) (off : Int) (tgt : Nat) (x y : Int32), decode (ab_cc M) pc = .ok (.if_icmp .le off, 3) → (pc : Int) + off = (tgt : Int) → (x ≤ y → G tgt L st S k) → (¬ x ≤ y → G (pc + 3) L st S k) → G pc L (.inl y :: .inl x :: st) S k
def ab_c_goto (M : ab_M) (Q : ab_Po) (G : ab_Gt) : Prop := ∀ (pc : Nat) (L : List (Option ab_V)) (st : List ab_V) (S : ab_S) (k : Nat) (off : Int) (tgt : Nat), decode (ab_cc M) pc = .ok (.goto off, 3) → (pc : Int) + off = (tgt : Int) → G tgt L st S k → G pc L st S k
def ab_c_swO (M : ab_M) (Q : ab_Po) (G : ab_Gt) : Prop := ∀ (pc : Nat) (L : List (Option ab_V)) (st : List ab_V) (S : ab_S) (k : Nat) (dflt lo hi : Int) (offs : Array Int) (len : Nat) (x : Int32) (tgt : Nat), decode (ab_cc M) pc = .ok (.tableswitch dflt lo hi offs, len) → (x.toInt < lo ∨ hi < x.toInt) → (pc : Int) + dflt = (tgt : Int) → G tgt L st S k → G pc L (.inl x :: st) S k
def ab_c_swI (M : ab_M) (Q : ab_Po) (G : ab_Gt) : Prop := ∀ (pc : Nat) (L : List (Option ab_V)) (st : List ab_V) (S : ab_S) (k : Nat) (dflt lo hi : Int) (offs : Array Int) (len : Nat) (x : Int32) (off : Int) (tgt : Nat), decode (ab_cc M) pc = .ok (.tableswitch dflt lo hi offs, len) → ¬ x.toInt < lo → ¬ hi < x.toInt → offs[(x.toInt - lo).toNat]? = some off → (pc : Int) + off = (tgt : Int) → G tgt L st S k → G pc L (.inl x :: st) S k
def ab_c_ireturn (M : ab_M) (Q : ab_Po) (G : ab_Gt) : Prop := ∀ (pc : Nat) (L : List (Option ab_V)) (S : ab_S) (k : Nat) (x : Int32), decode (ab_cc M) pc = .ok (.ireturn, 1) → (ab_rk M = 1 ∨ (ab_rk M = 2 ∧ (x = 0 ∨ x = 1))) → k ≤ ab_K M → Q (.inl (some x)) S → G pc L [.inl x] S k
def ab_c_return_ (M : ab_M) (Q : ab_Po) (G : ab_Gt) : Prop := ∀ (pc : Nat) (L : List (Option ab_V)) (S : ab_S) (k : Nat), decode (ab_cc M) pc = .ok (.return_, 1) → ab_rk M = 0 → k ≤ ab_K M → Q (.inl none) S → G pc L [] S k
def ab_c_getfield (M : ab_M) (Q : ab_Po) (G : ab_Gt) : Prop := ∀ (pc : Nat) (L : List (Option ab_V)) (st : List ab_V) (S : ab_S) (k : Nat) (idx κ f i : Nat), decode (ab_cc M) pc = .ok (.getfield idx, 3) → (idx, κ, f) ∈ ab_fl M → G (pc + 3) L (ab_fv κ f i S :: st) S k → G pc L (.inr (κ, i) :: st) S k
def ab_c_putfield (M : ab_M) (Q : ab_Po) (G : ab_Gt) : Prop := ∀ (pc : Nat) (L : List (Option ab_V)) (st : List ab_V) (S : ab_S) (k : Nat) (idx κ f i : Nat) (x : Int32), decode (ab_cc M) pc = .ok (.putfield idx, 3) → (idx, κ, f) ∈ ab_pl M → G (pc + 3) L st (ab_su S κ i f x) k → G pc L (.inl x :: .inr (κ, i) :: st) S k
def ab_c_iaload (M : ab_M) (Q : ab_Po) (G : ab_Gt) : Prop := ∀ (pc : Nat) (L : List (Option ab_V)) (st : List ab_V) (S : ab_S) (k : Nat) (κ i n : Nat) (j : Int32), decode (ab_cc M) pc = .ok (.iaload, 1) → ab_ar κ = some (0, n) → vp_in j n → G (pc + 1) L (.inl (S κ i j.toNatClampNeg) :: st) S k → G pc L (.inl j :: .inr (κ, i) :: st) S k
def ab_c_baload (M : ab_M) (Q : ab_Po) (G : ab_Gt) : Prop := ∀ (pc : Nat) (L : List (Option ab_V)) (st : List ab_V) (S : ab_S) (k : Nat) (κ i n : Nat) (j : Int32), decode (ab_cc M) pc = .ok (.baload, 1) → ab_ar κ = some (1, n) → vp_in j n → G (pc + 1) L (.inl (S κ i j.toNatClampNeg) :: st) S k → G pc L (.inl j :: .inr (κ, i) :: st) S k
def ab_c_iastore (M : ab_M) (Q : ab_Po) (G : ab_Gt) : Prop := ∀ (pc : Nat) (L : List (Option ab_V)) (st : List ab_V) (S : ab_S) (k : Nat) (κ i n : Nat) (j x : Int32), decode (ab_cc M) pc = .ok (.iastore, 1) → ab_ar κ = some (0, n) → vp_in j n → G (pc + 1) L st (ab_su S κ i j.toNatClampNeg x) k → G pc L (.inl x :: .inl j :: .inr (κ, i) :: st) S k
def ab_c_bastore (M : ab_M) (Q : ab_Po) (G : ab_Gt) : Prop := ∀ (pc : Nat) (L : List (Option ab_V)) (st : List ab_V) (S : ab_S) (k : Nat) (κ i n : Nat) (j x : Int32), decode (ab_cc M) pc = .ok (.bastore, 1) → ab_ar κ = some (1, n) → vp_in j n → G (pc + 1) L st (ab_su S κ i j.toNatClampNeg (vp_nar .boolean x)) k → G pc L (.inl x :: .inl j :: .inr (κ, i) :: st) S k
def ab_c_aaload2 (M : ab_M) (Q : ab_Po) (G : ab_Gt) : Prop := ∀ (pc : Nat) (L : List (Option ab_V)) (st : List ab_V) (S : ab_S) (k : Nat) (κ i n : Nat) (j : Int32), decode (ab_cc M) pc = .ok (.aaload, 1) → ab_ar κ = some (2, n) → vp_in j n → G (pc + 1) L (.inr (ab_el κ j.toNatClampNeg) :: st) S k → G pc L (.inl j :: .inr (κ, i) :: st) S k
def ab_c_aaload3 (M : ab_M) (Q : ab_Po) (G : ab_Gt) : Prop := ∀ (pc : Nat) (L : List (Option ab_V)) (st : List ab_V) (S : ab_S) (k : Nat) (κ i n : Nat) (j : Int32), decode (ab_cc M) pc = .ok (.aaload, 1) → ab_ar κ = some (3, n) → vp_in j n → G (pc + 1) L (.inr (ab_el κ j.toNatClampNeg) :: st) S k → G pc L (.inl j :: .inr (κ, i) :: st) S k
def ab_c_alen (M : ab_M) (Q : ab_Po) (G : ab_Gt) : Prop := ∀ (pc : Nat) (L : List (Option ab_V)) (st : List ab_V) (S : ab_S) (k : Nat) (κ i n : Nat) (v : Int32), decode (ab_cc M) pc = .ok (.arraylength, 1) → ab_ar κ = some (0, n) → Int32.ofNat n = v → G (pc + 1) L (.inl v :: st) S k → G pc L (.inr (κ, i) :: st) S k
def ab_c_invv (M : ab_M) (Q : ab_Po) (G : ab_Gt) : Prop := ∀ (pc : Nat) (L : List (Option ab_V)) (as rest : List ab_V) (S : ab_S) (k idx rc n ri kc : Nat) (τ : ab_TR) (o : ab_Ob), decode (ab_cc M) pc = .ok (.invokevirtual idx, 3) → ab_cv M idx = some (rc, n, ri, kc, τ) → as.length = n → ab_ar o.1 = none → ab_ci o.1 = rc → rest.length ≤ 8 → k + kc ≤ ab_K M → τ (.inr o :: as) S (ab_back Q G (pc + 3) L rest (k + kc)) → G pc L (as.reverse ++ .inr o :: rest) S k
def ab_c_invs (M : ab_M) (Q : ab_Po) (G : ab_Gt) : Prop := ∀ (pc : Nat) (L : List (Option ab_V)) (as rest : List ab_V) (S : ab_S) (k idx rc n ri kc : Nat) (τ : ab_TR), decode (ab_cc M) pc = .ok (.invokestatic idx, 3) → ab_cs M idx = some (rc, n, ri, kc, τ) → as.length = n → rest.length ≤ 8 → k + kc ≤ ab_K M → τ as S (ab_back Q G (pc + 3) L rest (k + kc)) → G pc L (as.reverse ++ rest) S k
def ab_c_invn (M : ab_M) (Q : ab_Po) (G : ab_Gt) : Prop := ∀ (pc : Nat) (L : List (Option ab_V)) (as rest : List ab_V) (S : ab_S) (k idx rc n ri kc : Nat) (τ : ab_TR), decode (ab_cc M) pc = .ok (.invokestatic idx, 3) → ab_cn M idx = some (rc, n, ri, kc, τ) → as.length = n → rest.length ≤ 8 → k + kc ≤ ab_K M → τ as S (ab_back (fun _ _ => False) G (pc + 3) L rest (k + kc)) → G pc L (as.reverse ++ rest) S k
def ab_c_min (M : ab_M) (Q : ab_Po) (G : ab_Gt) : Prop := ∀ (pc : Nat) (L : List (Option ab_V)) (st : List ab_V) (S : ab_S) (k : Nat) (idx : Nat) (x y : Int32), decode (ab_cc M) pc = .ok (.invokestatic idx, 3) → idx ∈ ab_mn M → st.length ≤ 8 → k ≤ ab_K M → G (pc + 3) L (.inl (if y < x then y else x) :: st) S k → G pc L (.inl y :: .inl x :: st) S k
def ab_c_acopy (M : ab_M) (Q : ab_Po) (G : ab_Gt) : Prop := ∀ (pc : Nat) (L : List (Option ab_V)) (st : List ab_V) (S : ab_S) (k : Nat) (idx κs is κd id ns nd : Nat) (sp dp n : Int32), decode (ab_cc M) pc = .ok (.invokestatic idx, 3) → idx ∈ ab_ac M → ab_ar κs = some (0, ns) → ab_ar κd = some (0, nd) → ¬ sp < 0 → ¬ dp < 0 → ¬ n < 0 → sp.toNatClampNeg + n.toNatClampNeg ≤ ns → dp.toNatClampNeg + n.toNatClampNeg ≤ nd → st.length ≤ 8 → G (pc + 3) L st (ab_sr S κd id (va_cpy (S κs is) (S κd id) sp.toNatClampNeg dp.toNatClampNeg n.toNatClampNeg)) k → G pc L (.inl n :: .inl dp :: .inr (κd, id) :: .inl sp :: .inr (κs, is) :: st) S k
def ab_c_throw (M : ab_M) (Q : ab_Po) (G : ab_Gt) : Prop := ∀ (pc : Nat) (L : List (Option ab_V)) (st : List ab_V) (S : ab_S) (k : Nat) (E : Nat), ab_th M pc = some E → st.length ≤ 8 → k + 1 ≤ ab_K M → Q (.inr E) S → G pc L st S k
/-- a predicate of the machine's states from which each instruction goes on -/
def ab_Cl (M : ab_M) (Q : ab_Po) (G : ab_Gt) : Prop := ab_c_iload_n M Q G ∧ ab_c_iload M Q G ∧ ab_c_aload_n M Q G ∧ ab_c_aload M Q G ∧ ab_c_istore_n M Q G ∧ ab_c_istore M Q G ∧ ab_c_astore_n M Q G ∧ ab_c_astore M Q G ∧ ab_c_iinc M Q G ∧ ab_c_iconst M Q G ∧ ab_c_bipush M Q G ∧ ab_c_sipush M Q G ∧ ab_c_ldc_w M Q G ∧ ab_c_iadd M Q G ∧ ab_c_isub M Q G ∧ ab_c_imul M Q G ∧ ab_c_iand M Q G ∧ ab_c_ior M Q G ∧ ab_c_ishl M Q G ∧ ab_c_ishr M Q G ∧ ab_c_iushr M Q G ∧ ab_c_dup M Q G ∧ ab_c_pop M Q G ∧ ab_c_if_eq M Q G ∧ ab_c_icmp_eq M Q G ∧ ab_c_if_ne M Q G ∧ ab_c_icmp_ne M Q G ∧ ab_c_if_lt M Q G ∧ ab_c_icmp_lt M Q G ∧ ab_c_if_ge M Q G ∧ ab_c_icmp_ge M Q G ∧ ab_c_if_gt M Q G ∧ ab_c_icmp_gt M Q G ∧ ab_c_if_le M Q G ∧ ab_c_icmp_le M Q G ∧ ab_c_goto M Q G ∧ ab_c_swO M Q G ∧ ab_c_swI M Q G ∧ ab_c_ireturn M Q G ∧ ab_c_return_ M Q G ∧ ab_c_getfield M Q G ∧ ab_c_putfield M Q G ∧ ab_c_iaload M Q G ∧ ab_c_baload M Q G ∧ ab_c_iastore M Q G ∧ ab_c_bastore M Q G ∧ ab_c_aaload2 M Q G ∧ ab_c_aaload3 M Q G ∧ ab_c_alen M Q G ∧ ab_c_invv M Q G ∧ ab_c_invs M Q G ∧ ab_c_invn M Q G ∧ ab_c_min M Q G ∧ ab_c_acopy M Q G ∧ ab_c_throw M Q G
theorem ab_iload_n' {M : ab_M} {Q : ab_Po} {G : ab_Gt} (hG : ab_Cl M Q G) : ab_c_iload_n M Q G := hG.1
theorem ab_iload' {M : ab_M} {Q : ab_Po} {G : ab_Gt} (hG : ab_Cl M Q G) : ab_c_iload M Q G := hG.2.1
theorem ab_aload_n' {M : ab_M} {Q : ab_Po} {G : ab_Gt} (hG : ab_Cl M Q G) : ab_c_aload_n M Q G := hG.2.2.1
theorem ab_aload' {M : ab_M} {Q : ab_Po} {G : ab_Gt} (hG : ab_Cl M Q G) : ab_c_aload M Q G := hG.2.2.2.1
theorem ab_istore_n' {M : ab_M} {Q : ab_Po} {G : ab_Gt} (hG : ab_Cl M Q G) : ab_c_istore_n M Q G := hG.2.2.2.2.1
theorem ab_istore' {M : ab_M} {Q : ab_Po} {G : ab_Gt} (hG : ab_Cl M Q G) : ab_c_istore M Q G := hG.2.2.2.2.2.1
theorem ab_astore_n' {M : ab_M} {Q : ab_Po} {G : ab_Gt} (hG : ab_Cl M Q G) : ab_c_astore_n M Q G := hG.2.2.2.2.2.2.1
theorem ab_astore' {M : ab_M} {Q : ab_Po} {G : ab_Gt} (hG : ab_Cl M Q G) : ab_c_astore M Q G := hG.2.2.2.2.2.2.2.1
theorem ab_iinc' {M : ab_M} {Q : ab_Po} {G : ab_Gt} (hG : ab_Cl M Q G) : ab_c_iinc M Q G := hG.2.2.2.2.2.2.2.2.1
theorem ab_iconst' {M : ab_M} {Q : ab_Po} {G : ab_Gt} (hG : ab_Cl M Q G) : ab_c_iconst M Q G := hG.2.2.2.2.2.2.2.2.2.1
theorem ab_bipush' {M : ab_M} {Q : ab_Po} {G : ab_Gt} (hG : ab_Cl M Q G) : ab_c_bipush M Q G := hG.2.2.2.2.2.2.2.2.2.2.1
theorem ab_sipush' {M : ab_M} {Q : ab_Po} {G : ab_Gt} (hG : ab_Cl M Q G) : ab_c_sipush M Q G := hG.2.2.2.2.2.2.2.2.2.2.2.1
theorem ab_ldc_w' {M : ab_M} {Q : ab_Po} {G : ab_Gt} (hG : ab_Cl M Q G) : ab_c_ldc_w M Q G := hG.2.2.2.2.2.2.2.2.2.2.2.2.1
theorem ab_iadd' {M : ab_M} {Q : ab_Po} {G : ab_Gt} (hG : ab_Cl M Q G) : ab_c_iadd M Q G := hG.2.2.2.2.2.2.2.2.2.2.2.2.2.1
theorem ab_isub' {M : ab_M} {Q : ab_Po} {G : ab_Gt} (hG : ab_Cl M Q G) : ab_c_isub M Q G := hG.2.2.2.2.2.2.2.2.2.2.2.2.2.2.1
theorem ab_imul' {M : ab_M} {Q : ab_Po} {G : ab_Gt} (hG : ab_Cl M Q G) : ab_c_imul M Q G := hG.2.2.2.2.2.2.2.2.2.2.2.2.2.2.2.1
theorem ab_iand' {M : ab_M} {Q : ab_Po} {G : ab_Gt} (hG : ab_Cl M Q G) : ab_c_iand M Q G := hG.2.2.2.2.2.2.2.2.2.2.2.2.2.2.2.2.1
theorem ab_ior' {M : ab_M} {Q : ab_Po} {G : ab_Gt} (hG : ab_Cl M Q G) : ab_c_ior M Q G := hG.2.2.2.2.2.2.2.2.2.2.2.2.2.2.2.2.2.1
theorem ab_ishl' {M : ab_M} {Q : ab_Po} {G : ab_Gt} (hG : ab_Cl M Q G) : ab_c_ishl M Q G := hG.2.2.2.2.2.2.2.2.2.2.2.2.2.2.2.2.2.2.1
theorem ab_ishr' {M : ab_M} {Q : ab_Po} {G : ab_Gt} (hG : ab_Cl M Q G) : ab_c_ishr M Q G := hG.2.2.2.2.2.2.2.2.2.2.2.2.2.2.2.2.2.2.2.1
theorem ab_iushr' {M : ab_M} {Q : ab_Po} {G : ab_Gt} (hG : ab_Cl M Q G) : ab_c_iushr M Q G := hG.2.2.2.2.2.2.2.2.2.2.2.2.2.2.2.2.2.2.2.2.1
theorem ab_dup' {M : ab_M} {Q : ab_Po} {G : ab_Gt} (hG : ab_Cl M Q G) : ab_c_dup M Q G := hG.2.2.2.2.2.2.2.2.2.2.2.2.2.2.2.2.2.2.2.2.2.1
theorem ab_pop' {M : ab_M} {Q : ab_Po} {G : ab_Gt} (hG : ab_Cl M Q G) : ab_c_pop M Q G := hG.2.2.2.2.2.2.2.2.2.2.2.2.2.2.2.2.2.2.2.2.2.2.1
theorem ab_if_eq' {M : ab_M} {Q : ab_Po} {G : ab_Gt} (hG : ab_Cl M Q G) : ab_c_if_eq M Q G := hG.2.2.2.2.2.2.2.2.2.2.2.2.2.2.2.2.2.2.2.2.2.2.2.1
theorem ab_icmp_eq' {M : ab_M} {Q : ab_Po} {G : ab_Gt} (hG : ab_Cl M Q G) : ab_c_icmp_eq M Q G := hG.2.2.2.2.2.2.2.2.2.2.2.2.2.2.2.2.2.2.2.2.2.2.2.2.1
theorem ab_if_ne' {M : ab_M} {Q : ab_Po} {G : ab_Gt} (hG : ab_Cl M Q G) : ab_c_if_ne M Q G := hG.2.2.2.2.2.2.2.2.2.2.2.2.2.2.2.2.2.2.2.2.2.2.2.2.2.1
theorem ab_icmp_ne' {M : ab_M} {Q : ab_Po} {G : ab_Gt} (hG : ab_Cl M Q G) : ab_c_icmp_ne M Q G := hG.2.2.2.2.2.2.2.2.2.2.2.2.2.2.2.2.2.2.2.2.2.2.2.2.2.2.1
theorem ab_if_lt' {M : ab_M} {Q : ab_Po} {G : ab_Gt} (hG : ab_Cl M Q G) : ab_c_if_lt M Q G := hG.2.2.2.2.2.2.2.2.2.2.2.2.2.2.2.2.2.2.2.2.2.2.2.2.2.2.2.1
theorem ab_icmp_lt' {M : ab_M} {Q : ab_Po} {G : ab_Gt} (hG : ab_Cl M Q G) : ab_c_icmp_lt M Q G := hG.2.2.2.2.2.2.2.2.2.2.2.2.2.2.2.2.2.2.2.2.2.2.2.2.2.2.2.2.1
theorem ab_if_ge' {M : ab_M} {Q : ab_Po} {G : ab_Gt} (hG : ab_Cl M Q G) : ab_c_if_ge M Q G := hG.2.2.2.2.2.2.2.2.2.2.2.2.2.2.2.2.2.2.2.2.2.2.2.2.2.2.2.2.2.1
theorem ab_icmp_ge' {M : ab_M} {Q : ab_Po} {G : ab_Gt} (hG : ab_Cl M Q G) : ab_c_icmp_ge M Q G := hG.2.2.2.2.2.2.2.2.2.2.2.2.2.2.2.2.2.2.2.2.2.2.2.2.2.2.2.2.2.2.1
theorem ab_if_gt' {M : ab_M} {Q : ab_Po} {G : ab_Gt} (hG : ab_Cl M Q G) : ab_c_if_gt M Q G := hG.2.2.2.2.2.2.2.2.2.2.2.2.2.2.2.2.2.2.2.2.2.2.2.2.2.2.2.2.2.2.2.1
theorem ab_icmp_gt' {M : ab_M} {Q : ab_Po} {G : ab_Gt} (hG : ab_Cl M Q G) : ab_c_icmp_gt M Q G := hG.2.2.2.2.2.2.2.2.2.2.2.2.2.2.2.2.2.2.2.2.2.2.2.2.2.2.2.2.2.2.2.2.1
theorem ab_if_le' {M : ab_M} {Q : ab_Po} {G : ab_Gt} (hG : ab_Cl M Q G) : ab_c_if_le M Q G := hG.2.2.2.2.2.2.2.2.2.2.2.2.2.2.2.2.2.2.2.2.2.2.2.2.2.2.2.2.2.2.2.2.2.1
theorem ab_icmp_le' {M : ab_M} {Q : ab_Po} {G : ab_Gt} (hG : ab_Cl M Q G) : ab_c_icmp_le M Q G := hG.2.2.2.2.2.2.2.2.2.2.2.2.2.2.2.2.2.2.2.2.2.2.2.2.2.2.2.2.2.2.2.2.2.2.1
theorem ab_goto' {M : ab_M} {Q : ab_Po} {G : ab_Gt} (hG : ab_Cl M Q G) : ab_c_goto M Q G := hG.2.2.2.2.2.2.2.2.2.2.2.2.2.2.2.2.2.2.2.2.2.2.2.2.2.2.2.2.2.2.2.2.2.2.2.1
theorem ab_swO' {M : ab_M} {Q : ab_Po} {G : ab_Gt} (hG : ab_Cl M Q G) : ab_c_swO M Q G := hG.2.2.2.2.2.2.2.2.2.2.2.2.2.2.2.2.2.2.2.2.2.2.2.2.2.2.2.2.2.2.2.2.2.2.2.2.1
theorem ab_swI' {M : ab_M} {Q : ab_Po} {G : ab_Gt} (hG : ab_Cl M Q G) : ab_c_swI M Q G := hG.2.2.2.2.2.2.2.2.2.2.2.2.2.2.2.2.2.2.2.2.2.2.2.2.2.2.2.2.2.2.2.2.2.2.2.2.2.1
theorem ab_ireturn' {M : ab_M} {Q : ab_Po} {G : ab_Gt} (hG : ab_Cl M Q G) : ab_c_ireturn M Q G := hG.2.2.2.2.2.2.2.2.2.2.2.2.2.2.2.2.2.2.2.2.2.2.2.2.2.2.2.2.2.2.2.2.2.2.2.2.2.2.1
theorem ab_return_' {M : ab_M} {Q : ab_Po} {G : ab_Gt} (hG : ab_Cl M Q G) : ab_c_return_ M Q G := hG.2.2.2.2.2.2.2.2.2.2.2.2.2.2.2.2.2.2.2.2.2.2.2.2.2.2.2.2.2.2.2.2.2.2.2.2.2.2.2.1
theorem ab_getfield' {M : ab_M} {Q : ab_Po} {G : ab_Gt} (hG : ab_Cl M Q G) : ab_c_getfield M Q G := hG.2.2.2.2.2.2.2.2.2.2.2.2.2.2.2.2.2.2.2.2.2.2.2.2.2.2.2.2.2.2.2.2.2.2.2.2.2.2.2.2.1
theorem ab_putfield' {M : ab_M} {Q : ab_Po} {G : ab_Gt} (hG : ab_Cl M Q G) : ab_c_putfield M Q G := hG.2.2.2.2.2.2.2.2.2.2.2.2.2.2.2.2.2.2.2.2.2.2.2.2.2.2.2.2.2.2.2.2.2.2.2.2.2.2.2.2.2.1
theorem ab_iaload' {M : ab_M} {Q : ab_Po} {G : ab_Gt} (hG : ab_Cl M Q G) : ab_c_iaload M Q G := hG.2.2.2.2.2.2.2.2.2.2.2.2.2.2.2.2.2.2.2.2.2.2.2.2.2.2.2.2.2.2.2.2.2.2.2.2.2.2.2.2.2.2.1
theorem ab_baload' {M : ab_M} {Q : ab_Po} {G : ab_Gt} (hG : ab_Cl M Q G) : ab_c_baload M Q G := hG.2.2.2.2.2.2.2.2.2.2.2.2.2.2.2.2.2.2.2.2.2.2.2.2.2.2.2.2.2.2.2.2.2.2.2.2.2.2.2.2.2.2.2.1
theorem ab_iastore' {M : ab_M} {Q : ab_Po} {G : ab_Gt} (hG : ab_Cl M Q G) : ab_c_iastore M Q G := hG.2.2.2.2.2.2.2.2.2.2.2.2.2.2.2.2.2.2.2.2.2.2.2.2.2.2.2.2.2.2.2.2.2.2.2.2.2.2.2.2.2.2.2.2.1
theorem ab_bastore' {M : ab_M} {Q : ab_Po} {G : ab_Gt} (hG : ab_Cl M Q G) : ab_c_bastore M Q G := hG.2.2.2.2.2.2.2.2.2.2.2.2.2.2.2.2.2.2.2.2.2.2.2.2.2.2.2.2.2.2.2.2.2.2.2.2.2.2.2.2.2.2.2.2.2.1
theorem ab_aaload2' {M : ab_M} {Q : ab_Po} {G : ab_Gt} (hG : ab_Cl M Q G) : ab_c_aaload2 M Q G := hG.2.2.2.2.2.2.2.2.2.2.2.2.2.2.2.2.2.2.2.2.2.2.2.2.2.2.2.2.2.2.2.2.2.2.2.2.2.2.2.2.2.2.2.2.2.2.1
theorem ab_aaload3' {M : ab_M} {Q : ab_Po} {G : ab_Gt} (hG : ab_Cl M Q G) : ab_c_aaload3 M Q G := hG.2.2.2.2.2.2.2.2.2.2.2.2.2.2.2.2.2.2.2.2.2.2.2.2.2.2.2.2.2.2.2.2.2.2.2.2.2.2.2.2.2.2.2.2.2.2.2.1
theorem ab_alen' {M : ab_M} {Q : ab_Po} {G : ab_Gt} (hG : ab_Cl M Q G) : ab_c_alen M Q G := hG.2.2.2.2.2.2.2.2.2.2.2.2.2.2.2.2.2.2.2.2.2.2.2.2.2.2.2.2.2.2.2.2.2.2.2.2.2.2.2.2.2.2.2.2.2.2.2.2.1
theorem ab_invv' {M : ab_M} {Q : ab_Po} {G : ab_Gt} (hG : ab_Cl M Q G) : ab_c_invv M Q G := hG.2.2.2.2.2.2.2.2.2.2.2.2.2.2.2.2.2.2.2.2.2.2.2.2.2.2.2.2.2.2.2.2.2.2.2.2.2.2.2.2.2.2.2.2.2.2.2.2.2.1
theorem ab_invs' {M : ab_M} {Q : ab_Po} {G : ab_Gt} (hG : ab_Cl M Q G) : ab_c_invs M Q G := hG.2.2.2.2.2.2.2.2.2.2.2.2.2.2.2.2.2.2.2.2.2.2.2.2.2.2.2.2.2.2.2.2.2.2.2.2.2.2.2.2.2.2.2.2.2.2.2.2.2.2.1
theorem ab_invn' {M : ab_M} {Q : ab_Po} {G : ab_Gt} (hG : ab_Cl M Q G) : ab_c_invn M Q G := hG.2.2.2.2.2.2.2.2.2.2.2.2.2.2.2.2.2.2.2.2.2.2.2.2.2.2.2.2.2.2.2.2.2.2.2.2.2.2.2.2.2.2.2.2.2.2.2.2.2.2.2.1
theorem ab_min' {M : ab_M} {Q : ab_Po} {G : ab_Gt} (hG : ab_Cl M Q G) : ab_c_min M Q G := hG.2.2.2.2.2.2.2.2.2.2.2.2.2.2.2.2.2.2.2.2.2.2.2.2.2.2.2.2.2.2.2.2.2.2.2.2.2.2.2.2.2.2.2.2.2.2.2.2.2.2.2.2.1
theorem ab_acopy' {M : ab_M} {Q : ab_Po} {G : ab_Gt} (hG : ab_Cl M Q G) : ab_c_acopy M Q G := hG.2.2.2.2.2.2.2.2.2.2.2.2.2.2.2.2.2.2.2.2.2.2.2.2.2.2.2.2.2.2.2.2.2.2.2.2.2.2.2.2.2.2.2.2.2.2.2.2.2.2.2.2.2.1
theorem ab_throw' {M : ab_M} {Q : ab_Po} {G : ab_Gt} (hG : ab_Cl M Q G) : ab_c_throw M Q G := hG.2.2.2.2.2.2.2.2.2.2.2.2.2.2.2.2.2.2.2.2.2.2.2.2.2.2.2.2.2.2.2.2.2.2.2.2.2.2.2.2.2.2.2.2.2.2.2.2.2.2.2.2.2.2
/-- what a method does: from its entry every such predicate holds -/
def ab_Sem (M : ab_M) (nL : Nat) : ab_TR := fun vs S Q => vs.length ≤ nL ∧ ∀ G : ab_Gt, ab_Cl M Q G → G 0 (vs.map some ++ List.replicate (nL - vs.length) none) [] S 0
end
section
/-! The abstract machine's world in the heap. -/
def ab_val (ad : ab_Ob → Nat) : ab_V → Value
  | .inl x => .int x
  | .inr o => .ref (ad o)
def ab_okv : ab_V → Prop
  | .inl _ => True
  | .inr o => o.2 < ab_nb o.1
def ab_oks (st : List ab_V) : Prop := ∀ v ∈ st, ab_okv v
def ab_okl (L : List (Option ab_V)) : Prop := ∀ v, some v ∈ L → ab_okv v
def ab_ids : List ab_Ob := (List.range 42).flatMap fun κ => (List.range (ab_nb κ)).map fun i => (κ, i)
def ab_enc (ad : ab_Ob → Nat) (cy : Nat → ClassId) (S : ab_S) (q : ab_Ob) : va_E := match ab_ar q.1 with
  | some (0, n) => .inl (cy 0, n, .inl (S q.1 q.2))
  | some (1, n) => .inl (cy 1, n, .inl (S q.1 q.2))
  | some (2, n) => .inl (cy 2, n, .inr (.inr (.inr (.inr (fun j => some (ad (ab_el q.1 j)))))))
  | some (3, n) => .inl (cy 3, n, .inr (.inr (.inr (.inr (fun j => some (ad (ab_el q.1 j)))))))
  | some (_, n) => .inl (cy 4, n, .inr (.inl (fun _ => (S q.1 q.2 0).toInt64)))
  | none => .inr (ab_ci q.1, (List.range (ab_nf q.1)).map fun f => ab_val ad (ab_fv q.1 f q.2 S))
def ab_wl (ad : ab_Ob → Nat) (cy : Nat → ClassId) (S : ab_S) : va_W := ab_ids.map fun q => (ad q, ab_enc ad cy S q)
def ab_A (base : Nat) : Nat → Prop := fun q => base ≤ q
def ab_tys (cy : Nat → ClassId) : List (ClassId × FieldType) := [(cy 0, .int), (cy 1, .boolean), (cy 2, .object "GroveMerge$Tree"), (cy 3, .array .int), (cy 4, .long)]
def ab_strs : List (Nat × String) := [(71, "all nodes were made"), (82, "the root can't be deleted"), (92, "a node can't be moved into its own part"), (108, "all commits were made"), (131, "the working tree is not the head's, or a commit is taken in"), (146, "no such conflict"), (157, "no such part"), (178, "the path finds no such node"), (190, "no such part of the state"), (202, "no such node in the working tree"), (204, "no such commit"), (206, "no such place"), (208, "no such label")]
def ab_nest : List (String × Nat) := [(RX1, 40), (RX3, 41), (RX4, 75)]
/-- words of the throws that a list doesn't keep -/
def ab_nd : List MethodName := [Bundle.initS "java/lang/RuntimeException", Bundle.initS "java/lang/Exception", Bundle.initS Bundle.tN]
def ab_nw : List Cond := ab_nd.map Cond.declares ++ (List.range 5).map fun E => Cond.castable (ab_ex E) (ab_ex E)
def ab_Kn (D : va_G) (ad : ab_Ob → Nat) (base : Nat) (cy : Nat → ClassId) (sa : Nat → Nat) (U : State) : Prop :=
  va_K D vwCl (ab_tys cy) U ∧ va_D (ab_A base) (ab_wl ad cy (fun _ _ _ => 0)) ∧ (∀ t ∈ ab_nest, va_Nw (.methodLinkNest t.1 t.2 yX5_isIn "GroveMerge") U) ∧ (∀ t ∈ ab_strs, vk_R RX5 t.1 t.2 (sa t.1) U) ∧
  vx_Zq Bundle.tN "UNASSIGNED_STACK" Bundle.steD (ab_A base) U U.heap ∧ vx_Zq Bundle.tN "SUPPRESSED_SENTINEL" Bundle.listD (ab_A base) U U.heap ∧ (∀ w ∈ ab_nd, va_Nw (.declares w) U) ∧ ∀ E, E < 5 → va_Nw (.castable (ab_ex E) (ab_ex E)) U
def ab_lv (ad : ab_Ob → Nat) (L : List (Option ab_V)) : List (Nat × Value) := L.zipIdx.filterMap fun x => x.1.map fun v => (x.2, ab_val ad v)
theorem ab_cat (ad : ab_Ob → Nat) (v : ab_V) : (ab_val ad v).category = 1 := by cases v <;> rfl
theorem ab_cats (ad : ab_Ob → Nat) (st : List ab_V) : ((st.map (ab_val ad)).map fun v => v.category).sum = st.length := by
  induction st with
  | nil => rfl
  | cons v st ih => simp only [List.map_cons, List.sum_cons, List.length_cons, ab_cat, ih]; omega
theorem ab_lv_mem {ad : ab_Ob → Nat} {L : List (Option ab_V)} {i : Nat} {w : Value} : (i, w) ∈ ab_lv ad L ↔ ∃ v, L[i]? = some (some v) ∧ w = ab_val ad v := by
  unfold ab_lv
  rw [List.mem_filterMap]
  constructor
  · rintro ⟨⟨o, j⟩, hm, he⟩
    rw [List.mem_zipIdx_iff_getElem?] at hm
    cases o with
    | none => simp at he
    | some v =>
      simp at he
      obtain ⟨rfl, rfl⟩ := he
      exact ⟨v, hm, rfl⟩
  · rintro ⟨v, hv, rfl⟩
    exact ⟨(some v, i), List.mem_zipIdx_iff_getElem?.mpr hv, rfl⟩
theorem ab_lv_at {ad : ab_Ob → Nat} {ls : Array Slot} {nL : Nat} {L : List (Option ab_V)} (h : lv_has ls nL (ab_lv ad L)) {i : Nat} {v : ab_V} (hv : L[i]? = some (some v)) : ls[i]? = some (.val (ab_val ad v)) := h.2.2 (i, ab_val ad v) (ab_lv_mem.mpr ⟨v, hv, rfl⟩)
theorem ab_lv_set {ad : ab_Ob → Nat} {ls : Array Slot} {nL i : Nat} {v : ab_V} {L : List (Option ab_V)} (h : lv_has ls nL ((i, ab_val ad v) :: (ab_lv ad L).filter (fun q => !(q.1 == i) && !(q.1 + 1 == i && q.2.category == 2)))) : lv_has ls nL (ab_lv ad (L.set i (some v))) := by
  refine ⟨h.1, h.2.1, fun q hq => h.2.2 q ?_⟩
  obtain ⟨j, w⟩ := q
  obtain ⟨u, hu, rfl⟩ := ab_lv_mem.mp hq
  by_cases hj : j = i
  · subst hj
    rw [List.getElem?_set_self'] at hu
    cases hL : L[j]? with
    | none => rw [hL] at hu; simp at hu
    | some z =>
      rw [hL] at hu
      simp at hu
      subst hu
      exact List.mem_cons_self
  · rw [List.getElem?_set_ne (fun e => hj e.symm)] at hu
    refine List.mem_cons_of_mem _ (List.mem_filter.mpr ⟨ab_lv_mem.mpr ⟨u, hu, rfl⟩, ?_⟩)
    simp [hj, ab_cat]
theorem ab_okl_set {L : List (Option ab_V)} {i : Nat} {v : ab_V} (h : ab_okl L) (hv : ab_okv v) : ab_okl (L.set i (some v)) := by
  intro w hw
  rcases List.mem_or_eq_of_mem_set hw with h1 | h1
  · exact h w h1
  · cases h1; exact hv
theorem ab_okl_at {L : List (Option ab_V)} {i : Nat} {v : ab_V} (h : ab_okl L) (hv : L[i]? = some (some v)) : ab_okv v := h v (List.mem_of_getElem? hv)
theorem ab_oks_cons {st : List ab_V} {v : ab_V} (h : ab_oks st) (hv : ab_okv v) : ab_oks (v :: st) := fun w hw => (List.mem_cons.mp hw).elim (fun e => e ▸ hv) (h w)
theorem ab_oks_tl {st : List ab_V} {v : ab_V} (h : ab_oks (v :: st)) : ab_oks st := fun w hw => h w (List.mem_cons_of_mem _ hw)
theorem ab_oks_hd {st : List ab_V} {v : ab_V} (h : ab_oks (v :: st)) : ab_okv v := h v List.mem_cons_self
theorem ab_lv_args (ad : ab_Ob → Nat) : ∀ (vs : List ab_V) (j i : Nat) (v : ab_V), vs[i]? = some v → (j + i, ab_val ad v) ∈ lv_args j (vs.map (ab_val ad))
  | [], j, i, v, h => by simp at h
  | u :: vs, j, 0, v, h => by
    simp at h
    subst h
    exact List.mem_cons_self
  | u :: vs, j, i + 1, v, h => by
    simp at h
    have := ab_lv_args ad vs (j + 1) i v h
    simp only [List.map_cons, lv_args, ab_cat]
    rw [show j + (i + 1) = j + 1 + i by omega]
    exact List.mem_cons_of_mem _ this
theorem ab_sl (ad : ab_Ob → Nat) (vs : List ab_V) : (lg_sl (vs.map (ab_val ad))).length = vs.length := by
  induction vs with
  | nil => rfl
  | cons v vs ih =>
    unfold lg_sl at ih ⊢
    simp only [List.map_cons, List.flatMap_cons, ab_cat, List.length_append, List.length_cons]
    rw [ih]
    simp
    omega
theorem ab_entry {ad : ab_Ob → Nat} {ls : Array Slot} {nL : Nat} {vs : List ab_V} (h : lv_has ls nL (lv_args 0 (vs.map (ab_val ad)))) (n : Nat) : lv_has ls nL (ab_lv ad (vs.map some ++ List.replicate n none)) := by
  refine ⟨h.1, h.2.1, fun q hq => h.2.2 q ?_⟩
  obtain ⟨j, w⟩ := q
  obtain ⟨u, hu, rfl⟩ := ab_lv_mem.mp hq
  have hj : vs[j]? = some u := by
    rw [List.getElem?_append] at hu
    split at hu
    · simpa using hu
    · rw [List.getElem?_replicate] at hu
      split at hu <;> simp at hu
  have := ab_lv_args ad vs 0 j u hj
  rwa [Nat.zero_add] at this
theorem ab_okl_entry {vs : List ab_V} (h : ab_oks vs) (n : Nat) : ab_okl (vs.map some ++ List.replicate n none) := by
  intro v hv
  rcases List.mem_append.mp hv with h1 | h1
  · obtain ⟨u, hu, e⟩ := List.mem_map.mp h1
    cases e
    exact h _ hu
  · have := List.eq_of_mem_replicate h1
    cases this
/-! the list of the world's cells -/
theorem ab_nb_lt {κ i : Nat} (h : i < ab_nb κ) : κ < 42 := by
  apply Decidable.byContradiction
  intro hk
  have : ab_nb κ = 0 := by
    unfold ab_nb
    split <;> first | omega | (rw [if_neg hk])
  omega
theorem ab_mem {κ i : Nat} (h : i < ab_nb κ) : (κ, i) ∈ ab_ids := List.mem_flatMap.mpr ⟨κ, List.mem_range.mpr (ab_nb_lt h), List.mem_map.mpr ⟨i, List.mem_range.mpr h, rfl⟩⟩
theorem ab_nodup : ab_ids.Nodup := by decide +kernel
theorem ab_pos {κ i : Nat} (h : i < ab_nb κ) : ∃ n : Nat, ab_ids[n]? = some (κ, i) := List.getElem?_of_mem (ab_mem h)
theorem ab_wl_at {ad : ab_Ob → Nat} {cy : Nat → ClassId} {S : ab_S} {n : Nat} {q : ab_Ob} (h : ab_ids[n]? = some q) : (ab_wl ad cy S)[n]? = some (ad q, ab_enc ad cy S q) := by
  unfold ab_wl
  rw [List.getElem?_map, h]
  rfl
theorem ab_enc_congr {ad : ab_Ob → Nat} {cy : Nat → ClassId} {S S' : ab_S} {q : ab_Ob} (h : S' q.1 q.2 = S q.1 q.2) : ab_enc ad cy S' q = ab_enc ad cy S q := by
  unfold ab_enc ab_fv
  rw [h]
theorem ab_sr_ne {S : ab_S} {κ i : Nat} {f : Nat → Int32} {a b : Nat} (h : (a, b) ≠ (κ, i)) : ab_sr S κ i f a b = S a b := by
  unfold ab_sr
  rw [if_neg]
  rintro ⟨rfl, rfl⟩
  exact h rfl
theorem ab_sr_self {S : ab_S} {κ i : Nat} {f : Nat → Int32} : ab_sr S κ i f κ i = f := if_pos ⟨rfl, rfl⟩
theorem ab_set {ad : ab_Ob → Nat} {cy : Nat → ClassId} {S : ab_S} {n κ i : Nat} {f : Nat → Int32} {e : va_E} (hn : ab_ids[n]? = some (κ, i)) (he : ab_enc ad cy (ab_sr S κ i f) (κ, i) = e) : (ab_wl ad cy S).set n (ad (κ, i), e) = ab_wl ad cy (ab_sr S κ i f) := by
  apply List.ext_getElem?
  intro j
  by_cases hj : j = n
  · subst hj
    rw [ab_wl_at hn, List.getElem?_set_self', ab_wl_at hn, he]
    rfl
  · rw [List.getElem?_set_ne (fun e => hj e.symm)]
    unfold ab_wl
    rw [List.getElem?_map, List.getElem?_map]
    cases hq : ab_ids[j]? with
    | none => rfl
    | some q =>
      have hne : q ≠ (κ, i) := by
        intro e
        subst e
        have h1 := (List.getElem?_eq_some_iff.mp hq)
        have h2 := (List.getElem?_eq_some_iff.mp hn)
        obtain ⟨l1, e1⟩ := h1
        obtain ⟨l2, e2⟩ := h2
        rcases Nat.lt_or_gt_of_ne hj with h | h
        · exact List.pairwise_iff_getElem.mp ab_nodup j n l1 l2 h (e1.trans e2.symm)
        · exact List.pairwise_iff_getElem.mp ab_nodup n j l2 l1 h (e2.trans e1.symm)
      show some (ad q, _) = some (ad q, _)
      rw [ab_enc_congr (S := S) (S' := ab_sr S κ i f) (q := q) (ab_sr_ne (by rw [Prod.eta]; exact hne))]
theorem ab_D {ad : ab_Ob → Nat} {cy : Nat → ClassId} {A : Nat → Prop} {S S' : ab_S} (h : va_D A (ab_wl ad cy S)) : va_D A (ab_wl ad cy S') := by
  have key : ∀ (k : Nat) (q : Nat × va_E), (ab_wl ad cy S')[k]? = some q → ∃ e, (ab_wl ad cy S)[k]? = some (q.1, e) := by
    intro k q hk
    unfold ab_wl at hk ⊢
    rw [List.getElem?_map] at hk ⊢
    cases hq : ab_ids[k]? with
    | none => rw [hq] at hk; cases hk
    | some o =>
      rw [hq] at hk
      cases hk
      exact ⟨_, rfl⟩
  refine ⟨fun i j p q hi hj e => ?_, fun k q hk => ?_⟩
  · obtain ⟨e1, h1⟩ := key i p hi
    obtain ⟨e2, h2⟩ := key j q hj
    exact h.1 i j _ _ h1 h2 e
  · obtain ⟨e1, h1⟩ := key k q hk
    exact h.2 k (q.1, e1) h1
/-! the classes -/
def ab_cl (κ : Nat) : vw_C := vwCl.getD (ab_ci κ) (RX0, TX0, 0)
theorem ab_ci_lt (κ : Nat) : ab_ci κ < 6 := by
  unfold ab_ci
  split <;> omega
theorem ab_cl_at (κ : Nat) : vwCl[ab_ci κ]? = some ((ab_cl κ).1, (ab_cl κ).2.1, (ab_cl κ).2.2) := by
  have h := ab_ci_lt κ
  unfold ab_cl
  rw [List.getD_eq_getElem?_getD]
  have hl : ab_ci κ < vwCl.length := h
  rw [List.getElem?_eq_getElem hl]
  rfl
theorem ab_cl_ok (κ : Nat) : ∃ ty0 : Nat → FieldType, (∀ k, k < (ab_cl κ).2.2 → parseFieldDescriptor ((ab_cl κ).2.1 k).2.2.1 = some (ty0 k)) ∧ ∀ a, a < (ab_cl κ).2.2 → ∀ b, b < (ab_cl κ).2.2 → a ≠ b → ((ab_cl κ).2.1 a).2.1 ≠ ((ab_cl κ).2.1 b).2.1 := by
  have h := ab_ci_lt κ
  unfold ab_cl
  generalize ab_ci κ = n at h
  match n, h with
  | 0, _ => exact ⟨tyX0, tyX0_ok, nmX0⟩
  | 1, _ => exact ⟨tyX1, tyX1_ok, nmX1⟩
  | 2, _ => exact ⟨tyX2, tyX2_ok, nmX2⟩
  | 3, _ => exact ⟨tyX4, tyX4_ok, nmX4⟩
  | 4, _ => exact ⟨tyX5, tyX5_ok, nmX5⟩
  | 5, _ => exact ⟨tyX6, tyX6_ok, nmX6⟩
theorem ab_enc_obj {ad : ab_Ob → Nat} {cy : Nat → ClassId} {S : ab_S} {κ i : Nat} (h : ab_ar κ = none) : ab_enc ad cy S (κ, i) = .inr (ab_ci κ, (List.range (ab_nf κ)).map fun f => ab_val ad (ab_fv κ f i S)) := by
  simp only [ab_enc, h]
theorem ab_enc_int {ad : ab_Ob → Nat} {cy : Nat → ClassId} {S : ab_S} {κ i n : Nat} (h : ab_ar κ = some (0, n)) : ab_enc ad cy S (κ, i) = .inl (cy 0, n, .inl (S κ i)) := by
  simp only [ab_enc, h]
theorem ab_enc_bool {ad : ab_Ob → Nat} {cy : Nat → ClassId} {S : ab_S} {κ i n : Nat} (h : ab_ar κ = some (1, n)) : ab_enc ad cy S (κ, i) = .inl (cy 1, n, .inl (S κ i)) := by
  simp only [ab_enc, h]
theorem ab_enc_ref2 {ad : ab_Ob → Nat} {cy : Nat → ClassId} {S : ab_S} {κ i n : Nat} (h : ab_ar κ = some (2, n)) : ab_enc ad cy S (κ, i) = .inl (cy 2, n, .inr (.inr (.inr (.inr (fun j => some (ad (ab_el κ j))))))) := by
  simp only [ab_enc, h]
theorem ab_enc_ref3 {ad : ab_Ob → Nat} {cy : Nat → ClassId} {S : ab_S} {κ i n : Nat} (h : ab_ar κ = some (3, n)) : ab_enc ad cy S (κ, i) = .inl (cy 3, n, .inr (.inr (.inr (.inr (fun j => some (ad (ab_el κ j))))))) := by
  simp only [ab_enc, h]
theorem ab_fr_nb : ∀ κ, κ < 42 → ∀ f, f < 27 → ∀ i, i < 14 → i < ab_nb κ → (ab_fr κ f i).all (fun o => decide (o.2 < ab_nb o.1)) = true := by decide +kernel
theorem ab_nb_le (κ : Nat) (h : ab_ar κ = none) : ab_nb κ ≤ 14 := by
  unfold ab_ar at h
  unfold ab_nb
  split <;> simp_all
  split <;> omega
theorem ab_fv_ok {κ f i : Nat} {S : ab_S} (ha : ab_ar κ = none) (hf : f < ab_nf κ) (hi : i < ab_nb κ) : ab_okv (ab_fv κ f i S) := by
  have h27 : ab_nf κ ≤ 27 := by unfold ab_nf; split <;> omega
  have h := ab_fr_nb κ (ab_nb_lt hi) f (by omega) i (Nat.lt_of_lt_of_le hi (ab_nb_le κ ha)) hi
  unfold ab_fv
  cases he : ab_fr κ f i with
  | none => trivial
  | some o => rw [he] at h; exact (of_decide_eq_true h : o.2 < ab_nb o.1)
theorem ab_el_ok {κ n j t : Nat} (h : ab_ar κ = some (t, n)) (ht : t = 2 ∨ t = 3) (hj : j < n) : (ab_el κ j).2 < ab_nb (ab_el κ j).1 := by
  unfold ab_ar at h
  split at h <;> cases h <;> first | omega | (simp [ab_el, ab_nb]; omega) | (simp [ab_el, ab_nb])
/-! the world's words from one state to another -/
theorem ab_Kn.same {D : va_G} {ad : ab_Ob → Nat} {base : Nat} {cy : Nat → ClassId} {sa : Nat → Nat} {u U : State} (hv : U.vm = u.vm) (hh : U.heap = u.heap) (h : ab_Kn D ad base cy sa u) : ab_Kn D ad base cy sa U := by
  obtain ⟨h1, h2, h3, h4, h5, h6, h7, h8⟩ := h
  have al : u.vm.Alike U.vm := by rw [hv]; exact Vm.Alike.refl _
  refine ⟨va_K.moved al h1, h2, fun t ht => va_Nw.same rfl hv.symm (h3 t ht), fun t ht => vk_R.same hv (h4 t ht), ?_, ?_, fun w hw => va_Nw.same rfl hv.symm (h7 w hw), fun E hE => va_Nw.same rfl hv.symm (h8 E hE)⟩
  · rw [hh]; exact vx_Zq.moved al h5
  · rw [hh]; exact vx_Zq.moved al h6
theorem ab_Kn.warm {D : va_G} {ad : ab_Ob → Nat} {base : Nat} {cy : Nat → ClassId} {sa : Nat → Nat} {s U : State} (hW : s.WarmedH U.vm) (hk : ∀ q : Nat, q < s.heap.size → ¬ ab_A base q → U.heap[q]? = s.heap[q]?) (h : ab_Kn D ad base cy sa s) : ab_Kn D ad base cy sa U := by
  obtain ⟨h1, h2, h3, h4, h5, h6, h7, h8⟩ := h
  refine ⟨va_K.moved hW.alike h1, h2, fun t ht => va_Nw.warmM hW (h3 t ht), fun t ht => vk_R.warm hW (h4 t ht), ?_, ?_, fun w hw => va_Nw.warmD hW (h7 w hw), fun E hE => va_Nw.warmC hW (h8 E hE)⟩
  · exact vx_Zq.moved hW.alike (h5.kept hk)
  · exact vx_Zq.moved hW.alike (h6.kept hk)
theorem ab_Kn.nw {D : va_G} {ad : ab_Ob → Nat} {base : Nat} {cy : Nat → ClassId} {sa : Nat → Nat} {s : State} {args : Array Value} (h : ab_Kn D ad base cy sa s) : ∀ w ∈ ab_nw, w.before args s = true := by
  obtain ⟨-, -, -, -, -, -, h7, h8⟩ := h
  intro w hw
  rcases List.mem_append.mp hw with h | h
  · obtain ⟨y, hy, rfl⟩ := List.mem_map.mp h
    exact va_Nw.use rfl (h7 y hy)
  · obtain ⟨E, hE, rfl⟩ := List.mem_map.mp h
    exact va_Nw.use rfl (h8 E (List.mem_range.mp hE))
end
section
/-! Each row of the abstract machine, over the kit's rows. -/
section ABS
variable {p : Program} {l : Launch} {e : Env} {R : Room} {s : State} {m : MethodId} {args : Array Value} {below : List Frame} {meth : Method} {c : Code}
variable {D : va_G} {ad : ab_Ob → Nat} {base : Nat} {cy : Nat → ClassId} {sa : Nat → Nat} {own : String} {Ts : List Cond} {M : ab_M} {Q : ab_Po} {nL : Nat} {Qf : State → Prop}
/-- the abstract state stands in the machine, and from there the machine comes to Qf -/
def ab_G (p : Program) (l : Launch) (e : Env) (R : Room) (s : State) (m : MethodId) (args : Array Value) (below : List Frame) (meth : Method) (c : Code) (D : va_G) (ad : ab_Ob → Nat) (base : Nat) (cy : Nat → ClassId) (nL : Nat) (Qf : State → Prop) : ab_Gt := fun pc L st S k =>
  ∀ (H : Heap) (locs : List Loc) (ls : Array Slot), L.length = nL → ab_oks st → ab_okl L → va_P D vwCl (ab_wl ad cy S) H → va_S (ab_A base) s.heap H locs → lv_has ls nL (ab_lv ad L) → W p l e R s m args below meth c H locs k (6 * k) Qf (F0 m pc ls (st.map (ab_val ad)))
theorem so_iload_n (hx : p.tables.exec = Jvm.exec) (hb : c.code = ab_cc M) : ab_c_iload_n M Q (ab_G p l e R s m args below meth c D ad base cy nL Qf) := by
  intro pc L st S k n x hd hL hk H locs ls hn ho hol hP hS hl
  exact lv_iload_n hx hb hd rfl (ab_lv_at hl hL) (hk H locs ls hn (ab_oks_cons ho trivial) hol hP hS hl)
theorem so_iload (hx : p.tables.exec = Jvm.exec) (hb : c.code = ab_cc M) : ab_c_iload M Q (ab_G p l e R s m args below meth c D ad base cy nL Qf) := by
  intro pc L st S k n x hd hL hk H locs ls hn ho hol hP hS hl
  exact lv_iload hx hb hd (ab_lv_at hl hL) (hk H locs ls hn (ab_oks_cons ho trivial) hol hP hS hl)
theorem so_aload_n (hx : p.tables.exec = Jvm.exec) (hb : c.code = ab_cc M) : ab_c_aload_n M Q (ab_G p l e R s m args below meth c D ad base cy nL Qf) := by
  intro pc L st S k n o hd hL hk H locs ls hn ho hol hP hS hl
  exact lv_aload_n hx hb hd rfl (ab_lv_at hl hL) (hk H locs ls hn (ab_oks_cons ho (ab_okl_at hol hL)) hol hP hS hl)
theorem so_aload (hx : p.tables.exec = Jvm.exec) (hb : c.code = ab_cc M) : ab_c_aload M Q (ab_G p l e R s m args below meth c D ad base cy nL Qf) := by
  intro pc L st S k n o hd hL hk H locs ls hn ho hol hP hS hl
  exact lv_aload hx hb hd (ab_lv_at hl hL) (hk H locs ls hn (ab_oks_cons ho (ab_okl_at hol hL)) hol hP hS hl)
theorem so_istore_n (hx : p.tables.exec = Jvm.exec) (hb : c.code = ab_cc M) : ab_c_istore_n M Q (ab_G p l e R s m args below meth c D ad base cy nL Qf) := by
  intro pc L st S k n x hd hlt hk H locs ls hn ho hol hP hS hl
  exact lv_istore_n hx hb hd rfl hl (by omega) rfl (fun ls' hl' => hk H locs ls' (by rw [List.length_set]; exact hn) (ab_oks_tl ho) (ab_okl_set hol (ab_oks_hd ho)) hP hS (ab_lv_set (v := .inl x) hl'))
theorem so_istore (hx : p.tables.exec = Jvm.exec) (hb : c.code = ab_cc M) : ab_c_istore M Q (ab_G p l e R s m args below meth c D ad base cy nL Qf) := by
  intro pc L st S k n x hd hlt hk H locs ls hn ho hol hP hS hl
  exact lv_istore hx hb hd hl (by omega) rfl (fun ls' hl' => hk H locs ls' (by rw [List.length_set]; exact hn) (ab_oks_tl ho) (ab_okl_set hol (ab_oks_hd ho)) hP hS (ab_lv_set (v := .inl x) hl'))
theorem so_astore_n (hx : p.tables.exec = Jvm.exec) (hb : c.code = ab_cc M) : ab_c_astore_n M Q (ab_G p l e R s m args below meth c D ad base cy nL Qf) := by
  intro pc L st S k n o hd hlt hk H locs ls hn ho hol hP hS hl
  exact lv_astore_n hx hb hd rfl hl (by omega) rfl (fun ls' hl' => hk H locs ls' (by rw [List.length_set]; exact hn) (ab_oks_tl ho) (ab_okl_set hol (ab_oks_hd ho)) hP hS (ab_lv_set (v := .inr o) hl'))
theorem so_astore (hx : p.tables.exec = Jvm.exec) (hb : c.code = ab_cc M) : ab_c_astore M Q (ab_G p l e R s m args below meth c D ad base cy nL Qf) := by
  intro pc L st S k n o hd hlt hk H locs ls hn ho hol hP hS hl
  exact lv_astore hx hb hd hl (by omega) rfl (fun ls' hl' => hk H locs ls' (by rw [List.length_set]; exact hn) (ab_oks_tl ho) (ab_okl_set hol (ab_oks_hd ho)) hP hS (ab_lv_set (v := .inr o) hl'))
theorem so_iinc (hx : p.tables.exec = Jvm.exec) (hb : c.code = ab_cc M) : ab_c_iinc M Q (ab_G p l e R s m args below meth c D ad base cy nL Qf) := by
  intro pc L st S k i n x v hd hL hv hk H locs ls hn ho hol hP hS hl
  have hmem : (i, ab_val ad (.inl x)) ∈ ab_lv ad L := ab_lv_mem.mpr ⟨_, hL, rfl⟩
  obtain ⟨kk, hkk⟩ := List.getElem?_of_mem hmem
  have hlt : i < L.length := (List.getElem?_eq_some_iff.mp hL).1
  exact lv_iinc hx hb hd hl hkk hv (by omega) rfl (fun ls' hl' => hk H locs ls' (by rw [List.length_set]; exact hn) ho (ab_okl_set hol trivial) hP hS (ab_lv_set (v := .inl v) hl'))
theorem so_iconst (hx : p.tables.exec = Jvm.exec) (hb : c.code = ab_cc M) : ab_c_iconst M Q (ab_G p l e R s m args below meth c D ad base cy nL Qf) := by
  intro pc L st S k n v hd hv hk H locs ls hn ho hol hP hS hl
  exact lv_iconst hx hb hd hv (hk H locs ls hn (ab_oks_cons ho trivial) hol hP hS hl)
theorem so_bipush (hx : p.tables.exec = Jvm.exec) (hb : c.code = ab_cc M) : ab_c_bipush M Q (ab_G p l e R s m args below meth c D ad base cy nL Qf) := by
  intro pc L st S k n v hd hv hk H locs ls hn ho hol hP hS hl
  exact lv_bipush hx hb hd hv (hk H locs ls hn (ab_oks_cons ho trivial) hol hP hS hl)
theorem so_sipush (hx : p.tables.exec = Jvm.exec) (hb : c.code = ab_cc M) : ab_c_sipush M Q (ab_G p l e R s m args below meth c D ad base cy nL Qf) := by
  intro pc L st S k n v hd hv hk H locs ls hn ho hol hP hS hl
  exact lv_sipush hx hb hd hv (hk H locs ls hn (ab_oks_cons ho trivial) hol hP hS hl)
theorem so_ldc_w (hx : p.tables.exec = Jvm.exec) (hb : c.code = ab_cc M) (hown : s.vm.findClass own = some m.cls) (hkn : ∀ t ∈ ab_kn M, (Jvm.Cond.constant own t.1 t.2).before args s = true) : ab_c_ldc_w M Q (ab_G p l e R s m args below meth c D ad base cy nL Qf) := by
  intro pc L st S k i v hd hv hk H locs ls hn ho hol hP hS hl
  exact lv_ldcw hx hb hown (hkn _ hv) hd (hk H locs ls hn (ab_oks_cons ho trivial) hol hP hS hl)
theorem so_iadd (hx : p.tables.exec = Jvm.exec) (hb : c.code = ab_cc M) : ab_c_iadd M Q (ab_G p l e R s m args below meth c D ad base cy nL Qf) := by
  intro pc L st S k x y hd hk H locs ls hn ho hol hP hS hl
  exact lv_iadd hx hb hd (hk H locs ls hn (ab_oks_cons (ab_oks_tl (ab_oks_tl ho)) trivial) hol hP hS hl)
theorem so_isub (hx : p.tables.exec = Jvm.exec) (hb : c.code = ab_cc M) : ab_c_isub M Q (ab_G p l e R s m args below meth c D ad base cy nL Qf) := by
  intro pc L st S k x y hd hk H locs ls hn ho hol hP hS hl
  exact lv_isub hx hb hd (hk H locs ls hn (ab_oks_cons (ab_oks_tl (ab_oks_tl ho)) trivial) hol hP hS hl)
theorem so_imul (hx : p.tables.exec = Jvm.exec) (hb : c.code = ab_cc M) : ab_c_imul M Q (ab_G p l e R s m args below meth c D ad base cy nL Qf) := by
  intro pc L st S k x y hd hk H locs ls hn ho hol hP hS hl
  exact lv_imul hx hb hd (hk H locs ls hn (ab_oks_cons (ab_oks_tl (ab_oks_tl ho)) trivial) hol hP hS hl)
theorem so_iand (hx : p.tables.exec = Jvm.exec) (hb : c.code = ab_cc M) : ab_c_iand M Q (ab_G p l e R s m args below meth c D ad base cy nL Qf) := by
  intro pc L st S k x y hd hk H locs ls hn ho hol hP hS hl
  exact lv_iand hx hb hd (hk H locs ls hn (ab_oks_cons (ab_oks_tl (ab_oks_tl ho)) trivial) hol hP hS hl)
theorem so_ior (hx : p.tables.exec = Jvm.exec) (hb : c.code = ab_cc M) : ab_c_ior M Q (ab_G p l e R s m args below meth c D ad base cy nL Qf) := by
  intro pc L st S k x y hd hk H locs ls hn ho hol hP hS hl
  exact lv_ior hx hb hd (hk H locs ls hn (ab_oks_cons (ab_oks_tl (ab_oks_tl ho)) trivial) hol hP hS hl)
theorem so_ishl (hx : p.tables.exec = Jvm.exec) (hb : c.code = ab_cc M) : ab_c_ishl M Q (ab_G p l e R s m args below meth c D ad base cy nL Qf) := by
  intro pc L st S k x y hd hk H locs ls hn ho hol hP hS hl
  exact lv_ishl hx hb hd (hk H locs ls hn (ab_oks_cons (ab_oks_tl (ab_oks_tl ho)) trivial) hol hP hS hl)
theorem so_ishr (hx : p.tables.exec = Jvm.exec) (hb : c.code = ab_cc M) : ab_c_ishr M Q (ab_G p l e R s m args below meth c D ad base cy nL Qf) := by
  intro pc L st S k x y hd hk H locs ls hn ho hol hP hS hl
  exact lv_ishr hx hb hd (hk H locs ls hn (ab_oks_cons (ab_oks_tl (ab_oks_tl ho)) trivial) hol hP hS hl)
theorem so_iushr (hx : p.tables.exec = Jvm.exec) (hb : c.code = ab_cc M) : ab_c_iushr M Q (ab_G p l e R s m args below meth c D ad base cy nL Qf) := by
  intro pc L st S k x y hd hk H locs ls hn ho hol hP hS hl
  exact lv_iushr hx hb hd rfl (hk H locs ls hn (ab_oks_cons (ab_oks_tl (ab_oks_tl ho)) trivial) hol hP hS hl)
theorem so_dup (hx : p.tables.exec = Jvm.exec) (hb : c.code = ab_cc M) : ab_c_dup M Q (ab_G p l e R s m args below meth c D ad base cy nL Qf) := by
  intro pc L st S k v hd hk H locs ls hn ho hol hP hS hl
  exact lv_dup hx hb hd (ab_cat ad v) (hk H locs ls hn (ab_oks_cons ho (ab_oks_hd ho)) hol hP hS hl)
theorem so_pop (hx : p.tables.exec = Jvm.exec) (hb : c.code = ab_cc M) : ab_c_pop M Q (ab_G p l e R s m args below meth c D ad base cy nL Qf) := by
  intro pc L st S k v hd hk H locs ls hn ho hol hP hS hl
  exact lv_pop hx hb hd (ab_cat ad v) (hk H locs ls hn (ab_oks_tl ho) hol hP hS hl)
theorem so_if_eq (hx : p.tables.exec = Jvm.exec) (hb : c.code = ab_cc M) : ab_c_if_eq M Q (ab_G p l e R s m args below meth c D ad base cy nL Qf) := by
  intro pc L st S k off tgt x hd ht h1 h2 H locs ls hn ho hol hP hS hl
  exact lv_if_eq hx hb hd ht (fun q => h1 q H locs ls hn (ab_oks_tl ho) hol hP hS hl) (fun q => h2 q H locs ls hn (ab_oks_tl ho) hol hP hS hl)
theorem so_icmp_eq (hx : p.tables.exec = Jvm.exec) (hb : c.code = ab_cc M) : ab_c_icmp_eq M Q (ab_G p l e R s m args below meth c D ad base cy nL Qf) := by
  intro pc L st S k off tgt x y hd ht h1 h2 H locs ls hn ho hol hP hS hl
  exact lv_icmp_eq hx hb hd ht (fun q => h1 q H locs ls hn (ab_oks_tl (ab_oks_tl ho)) hol hP hS hl) (fun q => h2 q H locs ls hn (ab_oks_tl (ab_oks_tl ho)) hol hP hS hl)
theorem so_if_ne (hx : p.tables.exec = Jvm.exec) (hb : c.code = ab_cc M) : ab_c_if_ne M Q (ab_G p l e R s m args below meth c D ad base cy nL Qf) := by
  intro pc L st S k off tgt x hd ht h1 h2 H locs ls hn ho hol hP hS hl
  exact lv_if_ne hx hb hd ht (fun q => h1 q H locs ls hn (ab_oks_tl ho) hol hP hS hl) (fun q => h2 q H locs ls hn (ab_oks_tl ho) hol hP hS hl)
theorem so_icmp_ne (hx : p.tables.exec = Jvm.exec) (hb : c.code = ab_cc M) : ab_c_icmp_ne M Q (ab_G p l e R s m args below meth c D ad base cy nL Qf) := by
  intro pc L st S k off tgt x y hd ht h1 h2 H locs ls hn ho hol hP hS hl
  exact lv_icmp_ne hx hb hd ht (fun q => h1 q H locs ls hn (ab_oks_tl (ab_oks_tl ho)) hol hP hS hl) (fun q => h2 q H locs ls hn (ab_oks_tl (ab_oks_tl ho)) hol hP hS hl)
theorem so_if_lt (hx : p.tables.exec = Jvm.exec) (hb : c.code = ab_cc M) : ab_c_if_lt M Q (ab_G p l e R s m args below meth c D ad base cy nL Qf) := by
  intro pc L st S k off tgt x hd ht h1 h2 H locs ls hn ho hol hP hS hl
  exact lv_if_lt hx hb hd ht (fun q => h1 q H locs ls hn (ab_oks_tl ho) hol hP hS hl) (fun q => h2 q H locs ls hn (ab_oks_tl ho) hol hP hS hl)
theorem so_icmp_lt (hx : p.tables.exec = Jvm.exec) (hb : c.code = ab_cc M) : ab_c_icmp_lt M Q (ab_G p l e R s m args below meth c D ad base cy nL Qf) := by
  intro pc L st S k off tgt x y hd ht h1 h2 H locs ls hn ho hol hP hS hl
  exact lv_icmp_lt hx hb hd ht (fun q => h1 q H locs ls hn (ab_oks_tl (ab_oks_tl ho)) hol hP hS hl) (fun q => h2 q H locs ls hn (ab_oks_tl (ab_oks_tl ho)) hol hP hS hl)
theorem so_if_ge (hx : p.tables.exec = Jvm.exec) (hb : c.code = ab_cc M) : ab_c_if_ge M Q (ab_G p l e R s m args below meth c D ad base cy nL Qf) := by
  intro pc L st S k off tgt x hd ht h1 h2 H locs ls hn ho hol hP hS hl
  exact lv_if_ge hx hb hd ht (fun q => h1 q H locs ls hn (ab_oks_tl ho) hol hP hS hl) (fun q => h2 q H locs ls hn (ab_oks_tl ho) hol hP hS hl)
theorem so_icmp_ge (hx : p.tables.exec = Jvm.exec) (hb : c.code = ab_cc M) : ab_c_icmp_ge M Q (ab_G p l e R s m args below meth c D ad base cy nL Qf) := by
  intro pc L st S k off tgt x y hd ht h1 h2 H locs ls hn ho hol hP hS hl
  exact lv_icmp_ge hx hb hd ht (fun q => h1 q H locs ls hn (ab_oks_tl (ab_oks_tl ho)) hol hP hS hl) (fun q => h2 q H locs ls hn (ab_oks_tl (ab_oks_tl ho)) hol hP hS hl)
theorem so_if_gt (hx : p.tables.exec = Jvm.exec) (hb : c.code = ab_cc M) : ab_c_if_gt M Q (ab_G p l e R s m args below meth c D ad base cy nL Qf) := by
  intro pc L st S k off tgt x hd ht h1 h2 H locs ls hn ho hol hP hS hl
  exact lv_if_gt hx hb hd ht (fun q => h1 q H locs ls hn (ab_oks_tl ho) hol hP hS hl) (fun q => h2 q H locs ls hn (ab_oks_tl ho) hol hP hS hl)
theorem so_icmp_gt (hx : p.tables.exec = Jvm.exec) (hb : c.code = ab_cc M) : ab_c_icmp_gt M Q (ab_G p l e R s m args below meth c D ad base cy nL Qf) := by
  intro pc L st S k off tgt x y hd ht h1 h2 H locs ls hn ho hol hP hS hl
  exact lv_icmp_gt hx hb hd ht (fun q => h1 q H locs ls hn (ab_oks_tl (ab_oks_tl ho)) hol hP hS hl) (fun q => h2 q H locs ls hn (ab_oks_tl (ab_oks_tl ho)) hol hP hS hl)
theorem so_if_le (hx : p.tables.exec = Jvm.exec) (hb : c.code = ab_cc M) : ab_c_if_le M Q (ab_G p l e R s m args below meth c D ad base cy nL Qf) := by
  intro pc L st S k off tgt x hd ht h1 h2 H locs ls hn ho hol hP hS hl
  exact lv_if_le hx hb hd ht (fun q => h1 q H locs ls hn (ab_oks_tl ho) hol hP hS hl) (fun q => h2 q H locs ls hn (ab_oks_tl ho) hol hP hS hl)
theorem so_icmp_le (hx : p.tables.exec = Jvm.exec) (hb : c.code = ab_cc M) : ab_c_icmp_le M Q (ab_G p l e R s m args below meth c D ad base cy nL Qf) := by
  intro pc L st S k off tgt x y hd ht h1 h2 H locs ls hn ho hol hP hS hl
  exact lv_icmp_le hx hb hd ht (fun q => h1 q H locs ls hn (ab_oks_tl (ab_oks_tl ho)) hol hP hS hl) (fun q => h2 q H locs ls hn (ab_oks_tl (ab_oks_tl ho)) hol hP hS hl)
theorem so_goto (hx : p.tables.exec = Jvm.exec) (hb : c.code = ab_cc M) : ab_c_goto M Q (ab_G p l e R s m args below meth c D ad base cy nL Qf) := by
  intro pc L st S k off tgt hd ht hk H locs ls hn ho hol hP hS hl
  exact lv_goto hx hb hd ht (hk H locs ls hn ho hol hP hS hl)
theorem so_swO (hx : p.tables.exec = Jvm.exec) (hb : c.code = ab_cc M) : ab_c_swO M Q (ab_G p l e R s m args below meth c D ad base cy nL Qf) := by
  intro pc L st S k dflt lo hi offs len x tgt hd h ht hk H locs ls hn ho hol hP hS hl
  exact lv_tableOut hx hb hd h ht (hk H locs ls hn (ab_oks_tl ho) hol hP hS hl)
theorem so_swI (hx : p.tables.exec = Jvm.exec) (hb : c.code = ab_cc M) : ab_c_swI M Q (ab_G p l e R s m args below meth c D ad base cy nL Qf) := by
  intro pc L st S k dflt lo hi offs len x off tgt hd h1 h2 ho1 ht hk H locs ls hn ho hol hP hS hl
  exact lv_tableIn hx hb hd h1 h2 ho1 ht (hk H locs ls hn (ab_oks_tl ho) hol hP hS hl)
/-- a field of the pool: its index, its object's kind, its number there -/
def ab_flok (own : String) (Ts : List Cond) (t : Nat × Nat × Nat) : Prop := ab_ar t.2.1 = none ∧ t.2.2 < ab_nf t.2.1 ∧ (ab_cl t.2.1).2.2 = ab_nf t.2.1 ∧
  Cond.fieldLink own t.1 ((ab_cl t.2.1).2.1 t.2.2).1 ((ab_cl t.2.1).2.1 t.2.2).2.1 ((ab_cl t.2.1).2.1 t.2.2).2.2.1 ∈ Ts ∧ ∀ w ∈ u_ws (ab_cl t.2.1).1 (ab_cl t.2.1).2.1 (ab_cl t.2.1).2.2, w ∈ Ts
def ab_plok (own : String) (Ts : List Cond) (t : Nat × Nat × Nat) : Prop := ab_flok own Ts t ∧ (∀ i, i < 14 → ab_fr t.2.1 t.2.2 i = none) ∧ ((ab_cl t.2.1).2.1 t.2.2).2.2.2 = false ∧ ((ab_cl t.2.1).2.1 t.2.2).2.2.1 = "I"
theorem ab_nf_at {ad : ab_Ob → Nat} {κ i f : Nat} {S : ab_S} (hf : f < ab_nf κ) : ((List.range (ab_nf κ)).map fun f => ab_val ad (ab_fv κ f i S))[f]? = some (ab_val ad (ab_fv κ f i S)) := by
  rw [List.getElem?_map, List.getElem?_range hf]
  rfl
theorem so_getfield (hx : p.tables.exec = Jvm.exec) (hb : c.code = ab_cc M) (hown : s.vm.findClass own = some m.cls) (hts : ∀ w ∈ Ts, w.before args s = true) (hK : va_K D vwCl (ab_tys cy) s) (hfl : ∀ t ∈ ab_fl M, ab_flok own Ts t) : ab_c_getfield M Q (ab_G p l e R s m args below meth c D ad base cy nL Qf) := by
  intro pc L st S k idx κ f i hd hm hk H locs ls hn ho hol hP hS hl
  obtain ⟨ha, hf, hN, hlk, hin⟩ := hfl _ hm
  have hi : i < ab_nb κ := ab_oks_hd ho
  obtain ⟨n, hn0⟩ := ab_pos hi
  have he : (ab_wl ad cy S)[n]? = some (ad (κ, i), .inr (ab_ci κ, (List.range (ab_nf κ)).map fun f => ab_val ad (ab_fv κ f i S))) := by rw [ab_wl_at hn0, ab_enc_obj ha]
  exact va_get hx hb hts hin hown hK hP n he (ab_cl_at κ) f (by rw [hN]; exact hf) (hts _ hlk) (fun x h => h) (ab_nf_at hf) hd (hk H locs ls hn (ab_oks_cons (ab_oks_tl ho) (ab_fv_ok ha hf hi)) hol hP hS hl)
theorem ab_put_enc {ad : ab_Ob → Nat} {cy : Nat → ClassId} {S : ab_S} {κ i f : Nat} {x : Int32} (ha : ab_ar κ = none) (hf : f < ab_nf κ) (hi : i < 14) (hr : ∀ i, i < 14 → ab_fr κ f i = none) : ab_enc ad cy (ab_sr S κ i (upd (S κ i) f x)) (κ, i) = .inr (ab_ci κ, ((List.range (ab_nf κ)).map fun f => ab_val ad (ab_fv κ f i S)).set f (.int x)) := by
  rw [ab_enc_obj ha]
  congr 2
  apply List.ext_getElem?
  intro j
  by_cases hj : j = f
  · subst hj
    rw [List.getElem?_set_self', List.getElem?_map, List.getElem?_map, List.getElem?_range hf]
    show some (ab_val ad (ab_fv κ j i _)) = some (Value.int x)
    unfold ab_fv
    rw [hr i hi, ab_sr_self]
    simp [upd, ab_val]
  · rw [List.getElem?_set_ne (fun e => hj e.symm), List.getElem?_map, List.getElem?_map]
    by_cases hjn : j < ab_nf κ
    · rw [List.getElem?_range hjn]
      show some _ = some _
      unfold ab_fv
      rw [ab_sr_self]
      simp [upd, hj]
    · rw [List.getElem?_eq_none (by simp; omega)]
      rfl
theorem so_putfield (hx : p.tables.exec = Jvm.exec) (hb : c.code = ab_cc M) (hown : s.vm.findClass own = some m.cls) (hts : ∀ w ∈ Ts, w.before args s = true) (hK : va_K D vwCl (ab_tys cy) s) (hD : va_D (ab_A base) (ab_wl ad cy (fun _ _ _ => 0))) (hpl : ∀ t ∈ ab_pl M, ab_plok own Ts t) : ab_c_putfield M Q (ab_G p l e R s m args below meth c D ad base cy nL Qf) := by
  intro pc L st S k idx κ f i x hd hm hk H locs ls hn ho hol hP hS hl
  obtain ⟨⟨ha, hf, hN, hlk, hin⟩, hr, hfin, hI⟩ := hpl _ hm
  have hi : i < ab_nb κ := ab_oks_hd (ab_oks_tl ho)
  have hi14 : i < 14 := Nat.lt_of_lt_of_le hi (ab_nb_le κ ha)
  obtain ⟨n, hn0⟩ := ab_pos hi
  obtain ⟨ty0, hty, hnm⟩ := ab_cl_ok κ
  have he : (ab_wl ad cy S)[n]? = some (ad (κ, i), .inr (ab_ci κ, (List.range (ab_nf κ)).map fun f => ab_val ad (ab_fv κ f i S))) := by rw [ab_wl_at hn0, ab_enc_obj ha]
  refine va_put (ty := .int) (v := .int x) hx hb hts hin ty0 hty hnm hown hK hP (ab_D hD) hS n he (ab_cl_at κ) f (by rw [hN]; exact hf) (hts _ hlk) (fun x h => h) hfin (by rw [hI]; decide +kernel) rfl rfl (by simp; exact hf) hd (fun H1 locs1 hP1 hD1 hS1 => ?_)
  rw [ab_set hn0 (ab_put_enc ha hf hi14 hr)] at hP1
  exact hk H1 locs1 ls hn (ab_oks_tl (ab_oks_tl ho)) hol hP1 hS1 hl
theorem so_iaload (hx : p.tables.exec = Jvm.exec) (hb : c.code = ab_cc M) (hK : va_K D vwCl (ab_tys cy) s) : ab_c_iaload M Q (ab_G p l e R s m args below meth c D ad base cy nL Qf) := by
  intro pc L st S k κ i n j hd ha hin hk H locs ls hn ho hol hP hS hl
  have hi : i < ab_nb κ := ab_oks_hd (ab_oks_tl ho)
  obtain ⟨q, hq⟩ := ab_pos hi
  exact va_iald hx hb hK hP q 0 (by rw [ab_wl_at hq, ab_enc_int ha]) rfl hin hd (hk H locs ls hn (ab_oks_cons (ab_oks_tl (ab_oks_tl ho)) trivial) hol hP hS hl)
theorem so_baload (hx : p.tables.exec = Jvm.exec) (hb : c.code = ab_cc M) (hK : va_K D vwCl (ab_tys cy) s) : ab_c_baload M Q (ab_G p l e R s m args below meth c D ad base cy nL Qf) := by
  intro pc L st S k κ i n j hd ha hin hk H locs ls hn ho hol hP hS hl
  have hi : i < ab_nb κ := ab_oks_hd (ab_oks_tl ho)
  obtain ⟨q, hq⟩ := ab_pos hi
  exact va_zald hx hb hK hP q 1 (by rw [ab_wl_at hq, ab_enc_bool ha]) rfl hin hd (hk H locs ls hn (ab_oks_cons (ab_oks_tl (ab_oks_tl ho)) trivial) hol hP hS hl)
theorem so_iastore (hx : p.tables.exec = Jvm.exec) (hb : c.code = ab_cc M) (hK : va_K D vwCl (ab_tys cy) s) (hD : va_D (ab_A base) (ab_wl ad cy (fun _ _ _ => 0))) : ab_c_iastore M Q (ab_G p l e R s m args below meth c D ad base cy nL Qf) := by
  intro pc L st S k κ i n j x hd ha hin hk H locs ls hn ho hol hP hS hl
  have hi : i < ab_nb κ := ab_oks_hd (ab_oks_tl (ab_oks_tl ho))
  obtain ⟨q, hq⟩ := ab_pos hi
  refine va_iast hx hb hK hP (ab_D hD) hS q 0 (by rw [ab_wl_at hq, ab_enc_int ha]) rfl hin hd (fun H1 locs1 hP1 hD1 hS1 => ?_)
  rw [ab_set (f := upd (S κ i) j.toNatClampNeg x) hq (by rw [ab_enc_int ha, ab_sr_self])] at hP1
  exact hk H1 locs1 ls hn (ab_oks_tl (ab_oks_tl (ab_oks_tl ho))) hol hP1 hS1 hl
theorem so_bastore (hx : p.tables.exec = Jvm.exec) (hb : c.code = ab_cc M) (hK : va_K D vwCl (ab_tys cy) s) (hD : va_D (ab_A base) (ab_wl ad cy (fun _ _ _ => 0))) : ab_c_bastore M Q (ab_G p l e R s m args below meth c D ad base cy nL Qf) := by
  intro pc L st S k κ i n j x hd ha hin hk H locs ls hn ho hol hP hS hl
  have hi : i < ab_nb κ := ab_oks_hd (ab_oks_tl (ab_oks_tl ho))
  obtain ⟨q, hq⟩ := ab_pos hi
  refine va_zast hx hb hK hP (ab_D hD) hS q 1 (by rw [ab_wl_at hq, ab_enc_bool ha]) rfl hin hd (fun H1 locs1 hP1 hD1 hS1 => ?_)
  rw [ab_set (f := upd (S κ i) j.toNatClampNeg (vp_nar .boolean x)) hq (by rw [ab_enc_bool ha, ab_sr_self])] at hP1
  exact hk H1 locs1 ls hn (ab_oks_tl (ab_oks_tl (ab_oks_tl ho))) hol hP1 hS1 hl
theorem so_aaload2 (hx : p.tables.exec = Jvm.exec) (hb : c.code = ab_cc M) (hK : va_K D vwCl (ab_tys cy) s) : ab_c_aaload2 M Q (ab_G p l e R s m args below meth c D ad base cy nL Qf) := by
  intro pc L st S k κ i n j hd ha hin hk H locs ls hn ho hol hP hS hl
  have hi : i < ab_nb κ := ab_oks_hd (ab_oks_tl ho)
  obtain ⟨q, hq⟩ := ab_pos hi
  have hlt : j.toNatClampNeg < n := Nat.not_le.mp fun q => hin (Or.inr q)
  exact va_aldq (f := fun j => some (ad (ab_el κ j))) hx hb hK hP q 2 (by rw [ab_wl_at hq, ab_enc_ref2 ha]) rfl hin hd (hk H locs ls hn (ab_oks_cons (ab_oks_tl (ab_oks_tl ho)) (ab_el_ok ha (Or.inl rfl) hlt)) hol hP hS hl)
theorem so_aaload3 (hx : p.tables.exec = Jvm.exec) (hb : c.code = ab_cc M) (hK : va_K D vwCl (ab_tys cy) s) : ab_c_aaload3 M Q (ab_G p l e R s m args below meth c D ad base cy nL Qf) := by
  intro pc L st S k κ i n j hd ha hin hk H locs ls hn ho hol hP hS hl
  have hi : i < ab_nb κ := ab_oks_hd (ab_oks_tl ho)
  obtain ⟨q, hq⟩ := ab_pos hi
  have hlt : j.toNatClampNeg < n := Nat.not_le.mp fun q => hin (Or.inr q)
  have hc := hP q _ (ab_wl_at hq)
  rw [ab_enc_ref3 ha] at hc
  exact W.aald (v := .ref (ad (ab_el κ j.toNatClampNeg))) (ty := .array .int) hx hb hc ((hK.2 3 _ rfl).1 n (fun j => va_rf (some (ad (ab_el κ j))))) rfl (fun q => by cases q) (by show ¬ (j < 0 ∨ (arrV _ _ _).slots.size ≤ _); rw [arrV_size]; exact hin) (by show (arrV _ _ _).slots[_]? = _; rw [arrV_read _ _ hlt]; rfl) rfl rfl hd (hk H locs ls hn (ab_oks_cons (ab_oks_tl (ab_oks_tl ho)) (ab_el_ok ha (Or.inr rfl) hlt)) hol hP hS hl)
theorem so_alen (hx : p.tables.exec = Jvm.exec) (hb : c.code = ab_cc M) (hK : va_K D vwCl (ab_tys cy) s) : ab_c_alen M Q (ab_G p l e R s m args below meth c D ad base cy nL Qf) := by
  intro pc L st S k κ i n v hd ha hv hk H locs ls hn ho hol hP hS hl
  have hi : i < ab_nb κ := ab_oks_hd ho
  obtain ⟨q, hq⟩ := ab_pos hi
  exact va_alen hx hb hK hP q 0 (x := (n, .inl (S κ i))) (by rw [ab_wl_at hq, ab_enc_int ha]) rfl hv hd (hk H locs ls hn (ab_oks_cons (ab_oks_tl ho) trivial) hol hP hS hl)
theorem so_min (hx : p.tables.exec = Jvm.exec) (hb : c.code = ab_cc M) (hml : c.maxLocals = nL) (hown : s.vm.findClass own = some m.cls) (hts : ∀ w ∈ Ts, w.before args s = true) (hmn : ∀ idx ∈ ab_mn M, (Cond.methodLink own idx Lib.Math.min.name ∈ Ts ∧ Cond.static Lib.Math.min.name ∈ Ts ∧ Cond.initialized "java/lang/Math" ∈ Ts ∧ Cond.code Lib.Math.min.name Lib.Math.min.code 2 (some .int) ∈ Ts) ∧ 1 ≤ R.frames ∧ 21 ≤ R.locals) (hRK : ab_K M ≤ R.cells ∧ 6 * ab_K M ≤ R.slots) : ab_c_min M Q (ab_G p l e R s m args below meth c D ad base cy nL Qf) := by
  intro pc L st S k idx x y hd hm h8 hkK hk H locs ls hn ho hol hP hS hl
  obtain ⟨⟨w1, w2, w3, w4⟩, r1, r2⟩ := hmn idx hm
  exact va_mmin hx hb (hml.trans hl.1.symm) hown (hts _ w1) (hts _ w2) (hts _ w3) (hts _ w4) r1 (by rw [ab_cats]; omega) (by omega) (by omega) hd (hk H locs ls hn (ab_oks_cons (ab_oks_tl (ab_oks_tl ho)) trivial) hol hP hS hl)
theorem so_acopy (hx : p.tables.exec = Jvm.exec) (hb : c.code = ab_cc M) (hml : c.maxLocals = nL) (hown : s.vm.findClass own = some m.cls) (hts : ∀ w ∈ Ts, w.before args s = true) (hK : va_K D vwCl (ab_tys cy) s) (hD : va_D (ab_A base) (ab_wl ad cy (fun _ _ _ => 0))) (hac : ∀ idx ∈ ab_ac M, (Cond.methodLink own idx arraycopyName ∈ Ts ∧ Cond.native arraycopyName ∈ Ts ∧ Cond.static arraycopyName ∈ Ts ∧ Cond.initialized "java/lang/System" ∈ Ts) ∧ 1 ≤ R.frames ∧ 8 + (nativeFrameWords "java/lang/System" "arraycopy" 5 + 11) ≤ R.locals) : ab_c_acopy M Q (ab_G p l e R s m args below meth c D ad base cy nL Qf) := by
  intro pc L st S k idx κs is κd id ns nd sp dp n hd hm hs hd2 h1 h2 h3 h4 h5 h8 hk H locs ls hn ho hol hP hS hl
  obtain ⟨⟨w1, w2, w3, w4⟩, r1, r2⟩ := hac idx hm
  have o3 := ab_oks_tl (ab_oks_tl ho)
  have hid : id < ab_nb κd := ab_oks_hd o3
  have o5 := ab_oks_tl (ab_oks_tl o3)
  have his : is < ab_nb κs := ab_oks_hd o5
  obtain ⟨qs, hqs⟩ := ab_pos his
  obtain ⟨qd, hqd⟩ := ab_pos hid
  refine va_copyi (ty := .int) hx hb (hml.trans hl.1.symm) hown (hts _ w1) (hts _ w2) (hts _ w3) (hts _ w4) hK hP (ab_D hD) hS qs qd 0 0 (by rw [ab_wl_at hqs, ab_enc_int hs]) (by rw [ab_wl_at hqd, ab_enc_int hd2]) rfl rfl rfl h1 h2 h3 h4 h5 (fun i hi => rfl) r1 (by rw [ab_cats]; omega) hd (fun H1 locs1 hP1 hD1 hS1 => ?_)
  rw [ab_set (f := va_cpy (S κs is) (S κd id) sp.toNatClampNeg dp.toNatClampNeg n.toNatClampNeg) hqd (by rw [ab_enc_int hd2, ab_sr_self])] at hP1
  exact hk H1 locs1 ls hn (ab_oks_tl o5) hol hP1 hS1 hl
end ABS
end
section
/-! A method's contract out of what the abstract machine says of it. -/
def ab_B (D : va_G) (ad : ab_Ob → Nat) (cy : Nat → ClassId) (S' : ab_S) (t : State) : Prop := va_P D vwCl (ab_wl ad cy S') t.heap
def ab_Qc (ri : Nat) (D : va_G) (ad : ab_Ob → Nat) (base : Nat) (cy : Nat → ClassId) (Q : ab_Po) : Array Value → State → Outcome → State → Prop := match ri with
  | 0 => va_Qv (fun S' => Q (.inl none) S') (ab_B D ad cy) (ab_A base)
  | _ => va_Qi (fun r S' => Q (.inl (some r)) S') (ab_B D ad cy) (ab_A base)
def ab_Xc (D : va_G) (ad : ab_Ob → Nat) (base : Nat) (cy : Nat → ClassId) (Q : ab_Po) : String → State → State → Prop := vx_X (fun u : ab_S × Nat => Q (.inr u.2) u.1) (fun E u t => E = ab_ex u.2 ∧ ab_B D ad cy u.1 t) (ab_A base)
def ab_Pc (D : va_G) (ad : ab_Ob → Nat) (base : Nat) (cy : Nat → ClassId) (sa : Nat → Nat) (vs : List ab_V) (S : ab_S) : Array Value → State → Prop := va_Pc (vs.map (ab_val ad)) (fun U => ab_oks vs ∧ base ≤ U.heap.size ∧ va_P D vwCl (ab_wl ad cy S) U.heap ∧ ab_Kn D ad base cy sa U)
/-- the method y does what τ says, and makes no more than its room has -/
def ab_Sound (l : Launch) (y : MethodName) (ws : List Cond) (rm : Room) (ri : Nat) (τ : ab_TR) : Prop := ∀ (D : va_G) (ad : ab_Ob → Nat) (base : Nat) (cy : Nat → ClassId) (sa : Nat → Nat) (vs : List ab_V) (S : ab_S) (Q : ab_Po), τ vs S Q →
  vx_Met l y ws rm (ab_Pc D ad base cy sa vs S) (ab_Qc ri D ad base cy Q) (ab_Xc D ad base cy Q) rm.cells rm.slots (ab_A base)
theorem ab_blind (D : va_G) (ad : ab_Ob → Nat) (base : Nat) (cy : Nat → ClassId) (sa : Nat → Nat) (vs : List ab_V) (S : ab_S) : FrameBlind (ab_Pc D ad base cy sa vs S) := by
  intro a U g mk q
  obtain ⟨h1, h2, h3, h4, h5⟩ := q
  exact ⟨h1, h2, h3, h4, ab_Kn.same (u := U) (U := U.calling g mk a) rfl rfl h5⟩
def ab_sok (n kc : Nat) (own : String) (Ts : List Cond) (R : Room) (y : MethodName) (bytes : ByteArray) (maxL : Nat) (ret : Option FieldType) (ws ws' : List Cond) (rm : Room) : Prop :=
  ws = Cond.code y bytes maxL ret :: ws' ∧ rm.cells = kc ∧ rm.slots = 6 * kc ∧ (y.cls ≠ "java/lang/invoke/MethodHandle" ∧ y.cls ≠ "java/lang/invoke/VarHandle" ∧ (parseMethodDescriptor y.desc).map (fun d => d.parameters.length) = some n) ∧ (rm.frames + 1 ≤ R.frames ∧ 8 + (maxL + 11) + rm.locals ≤ R.locals)
def ab_vok (l : Launch) (own : String) (Ts : List Cond) (R : Room) (idx rc n ri kc : Nat) (τ : ab_TR) : Prop := ∃ (y : MethodName) (bytes : ByteArray) (maxL : Nat) (ret : Option FieldType) (ws ws' : List Cond) (rm : Room), ab_Sound l y ws rm ri τ ∧ GoodIn Ts (wsV own idx y.cls y ws) ∧ (vwCl.getD rc (RX0, TX0, 0)).1 = y.cls ∧ ab_sok n kc own Ts R y bytes maxL ret ws ws' rm
def ab_tok (l : Launch) (own : String) (Ts : List Cond) (R : Room) (idx n ri kc : Nat) (τ : ab_TR) : Prop := ∃ (y : MethodName) (bytes : ByteArray) (maxL : Nat) (ret : Option FieldType) (ws ws' : List Cond) (rm : Room), ab_Sound l y ws rm ri τ ∧ GoodIn Ts (va_wsS own idx y ws) ∧ ab_sok n kc own Ts R y bytes maxL ret ws ws' rm
def ab_nok (l : Launch) (own : String) (Ts : List Cond) (R : Room) (idx n ri kc : Nat) (τ : ab_TR) : Prop := (own, idx) ∈ ab_nest ∧ ∃ (bytes : ByteArray) (maxL : Nat) (ret : Option FieldType) (ws ws' : List Cond) (rm : Room), ab_Sound l yX5_isIn ws rm ri τ ∧ GoodIn Ts ws ∧ Cond.initialized yX5_isIn.cls ∈ Ts ∧ Cond.static yX5_isIn ∈ Ts ∧ ab_sok n kc own Ts R yX5_isIn bytes maxL ret ws ws' rm
def ab_thok (own : String) (Ts : List Cond) (R : Room) (cc : ByteArray) (pc E : Nat) : Prop := ∃ (ik is ic : Nat) (text : String) (names : List String), own = RX5 ∧ (is, text) ∈ ab_strs ∧ Bundle.fit (ab_ex E) = true ∧ (∀ n ∈ names, Bundle.fit n = true) ∧ Cond.classLink own ik (ab_ex E) ∈ Ts ∧ Cond.initialized (ab_ex E) ∈ Ts ∧ (∀ w ∈ (vx_atS own ic (ab_ex E) names).filter goodWord, w ∈ Ts) ∧ (∀ w ∈ (vx_atS own ic (ab_ex E) names).filter (fun w => !goodWord w), w ∈ ab_nw) ∧
  (∀ w ∈ Cond.classLink own ik (ab_ex E) :: Cond.initialized (ab_ex E) :: vx_atS own ic (ab_ex E) names, vx_ot w = true) ∧ decode cc pc = .ok (.new ik, 3) ∧ decode cc (pc + 3) = .ok (.dup, 1) ∧ decode cc (pc + 4) = .ok (.ldc is, 2) ∧ decode cc (pc + 6) = .ok (.invokespecial ic, 3) ∧ decode cc (pc + 9) = .ok (.athrow, 1) ∧
  names.length + 3 < R.frames ∧ 8 + (13 * (names.length + 1) + 43) ≤ R.locals
theorem ab_oks_rev {as : List ab_V} {st : List ab_V} (h : ab_oks (as.reverse ++ st)) : ab_oks as ∧ ab_oks st := ⟨fun v hv => h v (List.mem_append_left _ (List.mem_reverse.mpr hv)), fun v hv => h v (List.mem_append_right _ hv)⟩
section ABC
variable {p : Program} {l : Launch} {e : Env} {R : Room} {s : State} {m : MethodId} {args : Array Value} {below : List Frame} {meth : Method} {c : Code}
variable {D : va_G} {ad : ab_Ob → Nat} {base : Nat} {cy : Nat → ClassId} {sa : Nat → Nat} {own : String} {Ts : List Cond} {M : ab_M} {Q : ab_Po} {nL ri0 : Nat}
/-- the end that a method owes -/
abbrev ab_End (below : List Frame) (args : Array Value) (s : State) (ri0 : Nat) (D : va_G) (ad : ab_Ob → Nat) (base : Nat) (cy : Nat → ClassId) (Q : ab_Po) (K : Nat) : State → Prop := vx_MQ below (ab_Qc ri0 D ad base cy Q) (ab_Xc D ad base cy Q) args s K (6 * K) (ab_A base)
abbrev ab_GE (p : Program) (l : Launch) (e : Env) (R : Room) (s : State) (m : MethodId) (args : Array Value) (below : List Frame) (meth : Method) (c : Code) (D : va_G) (ad : ab_Ob → Nat) (base : Nat) (cy : Nat → ClassId) (nL ri0 : Nat) (Q : ab_Po) (K : Nat) : ab_Gt := ab_G p l e R s m args below meth c D ad base cy nL (ab_End below args s ri0 D ad base cy Q K)
/-- an exception of a callee goes on to the caller -/
theorem ab_kx {K : Nat} (hout : ∀ x ∈ c.exceptionTable.toList, False) (hlocks : meth.locks = false) {E : String} {ce : Cell} {q9 : Addr} {u : ab_S × Nat} {t : State} {H1 : Heap} {locs1 : List Loc} {pc k kc : Nat} {ls : Array Slot} {rest : List Value} (ht : t.heap = H1) (hq : Q (.inr u.2) u.1) (hB : E = ab_ex u.2 ∧ ab_B D ad cy u.1 t) (hS : va_S (ab_A base) s.heap H1 locs1) (hce : H1[q9]? = some ce) (hcv : ce.vm = .none) (hcl : s.vm.findClass E = some ce.cls) (hK : k + kc ≤ K) :
    vx_W p l e R s m args below meth c H1 locs1 (k + kc) (6 * k + 6 * kc) (ab_End below args s ri0 D ad base cy Q K) (F0 m pc ls rest) q9 := by
  refine vx_out (fun x hx => (hout x hx).elim) hlocks hce hcv hcl ?_ (fun z hz => hS.2.2 z hz) hK (by omega)
  intro t' ht' _
  refine ⟨u, hq, ⟨hB.1, ?_⟩, hS.F ht'⟩
  show va_P D vwCl _ t'.heap
  rw [ht', ← ht]
  exact hB.2
theorem so_invv (hx : p.tables.exec = Jvm.exec) (hb : c.code = ab_cc M) (hml : c.maxLocals = nL) (hown : s.vm.findClass own = some m.cls) (hts : ∀ w ∈ Ts, w.before args s = true) (hKn : ab_Kn D ad base cy sa s) (hbs : base ≤ s.heap.size) (hout : ∀ x ∈ c.exceptionTable.toList, False) (hlocks : meth.locks = false) (hRK : ab_K M ≤ R.cells ∧ 6 * ab_K M ≤ R.slots)
    (hcv : ∀ idx rc n ri kc τ, ab_cv M idx = some (rc, n, ri, kc, τ) → ab_vok l own Ts R idx rc n ri kc τ) : ab_c_invv M Q (ab_GE p l e R s m args below meth c D ad base cy nL ri0 Q (ab_K M)) := by
  intro pc L as rest S k idx rc n ri kc τ o hd hc hlen ha hrc h8 hkK hτ H locs ls hn ho hol hP hS hl
  obtain ⟨y, bytes, maxL, ret, ws, ws', rm, hso, hG, hcls, hw, hcel, hslo, hnm, hRm⟩ := hcv idx rc n ri kc τ hc
  obtain ⟨oa, ob⟩ := ab_oks_rev ho
  have hoo := ab_oks_hd ob
  have hM := hso D ad base cy sa (.inr o :: as) S _ hτ
  obtain ⟨q, hq⟩ := ab_pos (κ := o.1) (i := o.2) hoo
  have he : (ab_wl ad cy S)[q]? = some (ad o, .inr (ab_ci o.1, (List.range (ab_nf o.1)).map fun f => ab_val ad (ab_fv o.1 f o.2 S))) := by rw [ab_wl_at hq, ab_enc_obj ha]
  have hrv := va_recv hKn.1 hP (ab_cl_at o.1) he
  have hcl : (ab_cl o.1).1 = y.cls := by unfold ab_cl; rw [hrc]; exact hcls
  rw [show ((ab_cl o.1).1, (ab_cl o.1).2.1, (ab_cl o.1).2.2).1 = y.cls from hcl] at hrv
  have hst : (as.reverse ++ .inr o :: rest).map (ab_val ad) = (as.map (ab_val ad)).reverse ++ .ref (ad o) :: rest.map (ab_val ad) := by simp [ab_val]
  rw [hst]
  have hrun := vx_runV (H := H) (locs := locs) (cells := k) (slots := 6 * k) (below := below) (e := e) (meth := meth) (As := as.map (ab_val ad)) (rest := rest.map (ab_val ad)) (g := F0 m pc ls ((as.map (ab_val ad)).reverse ++ .ref (ad o) :: rest.map (ab_val ad))) ⟨hx, hb, hml, hown, hts⟩ hM (cwV n hts hG hw rfl rfl ⟨rfl, hnm⟩ hRm)
    ⟨ab_blind _ _ _ _ _ _ _, hrv, fun U hU hW => ⟨rfl, ab_oks_cons oa hoo, by rw [hU]; exact Nat.le_trans hbs hS.1, by rw [hU]; exact hP, ab_Kn.warm hW (by rw [hU]; exact hS.2.1) hKn⟩⟩
    rfl (by rw [List.length_map]; exact hlen) hl.1 rfl (lv_room (by rw [ab_cats]; exact h8)) hd (by rw [hcel, hslo]; omega)
  rw [hcel, hslo] at hrun
  match ri, hrun with
  | 0, hrun =>
    refine vx_callv (a := #[]) (S := ab_S) (SX := ab_S × Nat) hrun hS (fun q _ h => h) (fun q h => h) (fun q _ h => h) (fun E ce q9 u t H1 locs1 ht _ hpx hB _ _ hS1 hce hcv1 hcl1 => ab_kx hout hlocks ht hpx hB hS1 hce hcv1 hcl1 hkK) (fun u t H1 locs1 ht _ hp hB _ _ hS1 => ?_)
    have h1 := hp H1 locs1 ls hn (ab_oks_tl ob) hol (by rw [← ht]; exact hB) hS1 hl
    rw [Nat.mul_add] at h1
    exact h1
  | ri + 1, hrun =>
    refine vx_calli (a := #[]) (S := ab_S) (SX := ab_S × Nat) hrun hS (fun q _ h => h) (fun q h => h) (fun q _ h => h) (fun E ce q9 u t H1 locs1 ht _ hpx hB _ _ hS1 hce hcv1 hcl1 => ab_kx hout hlocks ht hpx hB hS1 hce hcv1 hcl1 hkK) (fun r u t H1 locs1 ht _ hp hB _ _ hS1 => ?_)
    have h1 := hp H1 locs1 ls hn (ab_oks_cons (ab_oks_tl ob) trivial) hol (by rw [← ht]; exact hB) hS1 hl
    rw [Nat.mul_add] at h1
    exact h1
theorem so_invs (hx : p.tables.exec = Jvm.exec) (hb : c.code = ab_cc M) (hml : c.maxLocals = nL) (hown : s.vm.findClass own = some m.cls) (hts : ∀ w ∈ Ts, w.before args s = true) (hKn : ab_Kn D ad base cy sa s) (hbs : base ≤ s.heap.size) (hout : ∀ x ∈ c.exceptionTable.toList, False) (hlocks : meth.locks = false) (hRK : ab_K M ≤ R.cells ∧ 6 * ab_K M ≤ R.slots)
    (hcs : ∀ idx rc n ri kc τ, ab_cs M idx = some (rc, n, ri, kc, τ) → ab_tok l own Ts R idx n ri kc τ) : ab_c_invs M Q (ab_GE p l e R s m args below meth c D ad base cy nL ri0 Q (ab_K M)) := by
  intro pc L as rest S k idx rc n ri kc τ hd hc hlen h8 hkK hτ H locs ls hn ho hol hP hS hl
  obtain ⟨y, bytes, maxL, ret, ws, ws', rm, hso, hG, hw, hcel, hslo, hnm, hRm⟩ := hcs idx rc n ri kc τ hc
  obtain ⟨oa, ob⟩ := ab_oks_rev ho
  have hM := hso D ad base cy sa as S _ hτ
  have hst : (as.reverse ++ rest).map (ab_val ad) = (as.map (ab_val ad)).reverse ++ rest.map (ab_val ad) := by simp
  rw [hst]
  have hrun := vx_runS (H := H) (locs := locs) (cells := k) (slots := 6 * k) (below := below) (e := e) (meth := meth) (As := as.map (ab_val ad)) (rest := rest.map (ab_val ad)) (g := F0 m pc ls ((as.map (ab_val ad)).reverse ++ rest.map (ab_val ad))) ⟨hx, hb, hml, hown, hts⟩ hM (va_cwS n hts hG hw rfl rfl hnm hRm)
    ⟨ab_blind _ _ _ _ _ _ _, fun U hU hW => ⟨rfl, oa, by rw [hU]; exact Nat.le_trans hbs hS.1, by rw [hU]; exact hP, ab_Kn.warm hW (by rw [hU]; exact hS.2.1) hKn⟩⟩
    rfl (by rw [List.length_map]; exact hlen) hl.1 rfl (lv_room (by rw [ab_cats]; exact h8)) hd (by rw [hcel, hslo]; omega)
  rw [hcel, hslo] at hrun
  match ri, hrun with
  | 0, hrun =>
    refine vx_callv (a := #[]) (S := ab_S) (SX := ab_S × Nat) hrun hS (fun q _ h => h) (fun q h => h) (fun q _ h => h) (fun E ce q9 u t H1 locs1 ht _ hpx hB _ _ hS1 hce hcv1 hcl1 => ab_kx hout hlocks ht hpx hB hS1 hce hcv1 hcl1 hkK) (fun u t H1 locs1 ht _ hp hB _ _ hS1 => ?_)
    have h1 := hp H1 locs1 ls hn ob hol (by rw [← ht]; exact hB) hS1 hl
    rw [Nat.mul_add] at h1
    exact h1
  | ri + 1, hrun =>
    refine vx_calli (a := #[]) (S := ab_S) (SX := ab_S × Nat) hrun hS (fun q _ h => h) (fun q h => h) (fun q _ h => h) (fun E ce q9 u t H1 locs1 ht _ hpx hB _ _ hS1 hce hcv1 hcl1 => ab_kx hout hlocks ht hpx hB hS1 hce hcv1 hcl1 hkK) (fun r u t H1 locs1 ht _ hp hB _ _ hS1 => ?_)
    have h1 := hp H1 locs1 ls hn (ab_oks_cons ob trivial) hol (by rw [← ht]; exact hB) hS1 hl
    rw [Nat.mul_add] at h1
    exact h1
theorem ab_ofx {y : MethodName} {ws : List Cond} {rm : Room} {Pc : Array Value → State → Prop} {Qc : Array Value → State → Outcome → State → Prop} {XC : String → State → State → Prop} {mc ms : Nat} {free : Addr → Prop} (hM : vx_Met l y ws rm Pc Qc XC mc ms free) (hX : ∀ E st t, ¬ XC E st t) : Met l y ws rm Pc Qc mc ms free := by
  intro p e ha hc hk s m args below hf happ hP hK
  obtain ⟨n, o, h1, h2, h3, hQ⟩ := hM p e ha hc hk s m args below hf happ hP hK
  refine ⟨n, o, h1, h2, h3, ?_⟩
  rcases hQ with h | ⟨q, ho, E, ce, L, hx, -⟩
  · exact h
  · exact (hX _ _ _ hx).elim
theorem so_invn (hx : p.tables.exec = Jvm.exec) (hb : c.code = ab_cc M) (hml : c.maxLocals = nL) (hown : s.vm.findClass own = some m.cls) (hts : ∀ w ∈ Ts, w.before args s = true) (hKn : ab_Kn D ad base cy sa s) (hbs : base ≤ s.heap.size) (hRK : ab_K M ≤ R.cells ∧ 6 * ab_K M ≤ R.slots)
    (hcn : ∀ idx rc n ri kc τ, ab_cn M idx = some (rc, n, ri, kc, τ) → ab_nok l own Ts R idx n ri kc τ) : ab_c_invn M Q (ab_GE p l e R s m args below meth c D ad base cy nL ri0 Q (ab_K M)) := by
  intro pc L as rest S k idx rc n ri kc τ hd hc hlen h8 hkK hτ H locs ls hn ho hol hP hS hl
  obtain ⟨hnst, bytes, maxL, ret, ws, ws', rm, hso, hG, hini, hsta, hw, hcel, hslo, hnm, hRm⟩ := hcn idx rc n ri kc τ hc
  obtain ⟨oa, ob⟩ := ab_oks_rev ho
  have hM := ab_ofx (hso D ad base cy sa as S _ hτ) (fun E st t h => by obtain ⟨u, hu, -⟩ := h; exact hu)
  have hst : (as.reverse ++ rest).map (ab_val ad) = (as.map (ab_val ad)).reverse ++ rest.map (ab_val ad) := by simp
  rw [hst]
  have hrun := va_runSN (H := H) (locs := locs) (cells := k) (slots := 6 * k) (below := below) (e := e) (meth := meth) (As := as.map (ab_val ad)) (rest := rest.map (ab_val ad)) (g := F0 m pc ls ((as.map (ab_val ad)).reverse ++ rest.map (ab_val ad))) ⟨hx, hb, hml, hown, hts⟩ hM ⟨va_cnB n hts hG hw rfl rfl (hKn.2.2.1 _ hnst) (hts _ hini) hnm hRm, hts _ hsta, trivial⟩
    ⟨ab_blind _ _ _ _ _ _ _, fun U hU hW => ⟨rfl, oa, by rw [hU]; exact Nat.le_trans hbs hS.1, by rw [hU]; exact hP, ab_Kn.warm hW (by rw [hU]; exact hS.2.1) hKn⟩⟩
    rfl (by rw [List.length_map]; exact hlen) hl.1 rfl (lv_room (by rw [ab_cats]; exact h8)) hd (by rw [hcel, hslo]; omega)
  rw [hcel, hslo] at hrun
  match ri, hrun with
  | 0, hrun =>
    refine va_callv (a := #[]) (S := ab_S) hrun hS (fun q _ h => h) (fun q h => h) (fun u t H1 locs1 ht _ hp hB _ _ hS1 => ?_)
    have h1 := hp H1 locs1 ls hn ob hol (by rw [← ht]; exact hB) hS1 hl
    rw [Nat.mul_add] at h1
    exact h1
  | ri + 1, hrun =>
    refine va_calli (a := #[]) (S := ab_S) hrun hS (fun q _ h => h) (fun q h => h) (fun r u t H1 locs1 ht _ hp hB _ _ hS1 => ?_)
    have h1 := hp H1 locs1 ls hn (ab_oks_cons ob trivial) hol (by rw [← ht]; exact hB) hS1 hl
    rw [Nat.mul_add] at h1
    exact h1
/-- what a method returns by its number -/
def ab_rt : Nat → Option FieldType
  | 0 => none
  | 1 => some .int
  | _ => some .boolean
theorem so_ireturn (hx : p.tables.exec = Jvm.exec) (hb : c.code = ab_cc M) (hr : meth.sig.returnType = ab_rt (ab_rk M)) (hri : ab_rk M ≠ 0 → ri0 = 1) (hlocks : meth.locks = false) : ab_c_ireturn M Q (ab_GE p l e R s m args below meth c D ad base cy nL ri0 Q (ab_K M)) := by
  intro pc L S k x hd hrk hk hq H locs ls hn ho hol hP hS hl
  refine vx_ret (W.widen (n := 6 * ab_K M) hk (by omega) ?_)
  have h1 : ri0 = 1 := hri (by omega)
  subst h1
  obtain ⟨ty, hty, hnr⟩ : ∃ ty, ab_rt (ab_rk M) = some ty ∧ narrow ty (.int x) = .int x := by
    rcases hrk with h | ⟨h, h0⟩
    · exact ⟨.int, by rw [h]; rfl, rfl⟩
    · refine ⟨.boolean, by rw [h]; rfl, ?_⟩
      rcases h0 with rfl | rfl <;> decide +kernel
  refine W.zret hx hb (hr.trans hty) hnr ?_ (fun q hq => hS.2.2 q hq) hd hlocks
  intro t ht hW
  refine ⟨⟨x, S, rfl, hq, ?_⟩, hS.F ht⟩
  show va_P D vwCl _ t.heap
  rw [ht]
  exact hP
theorem so_return_ (hx : p.tables.exec = Jvm.exec) (hb : c.code = ab_cc M) (hr : meth.sig.returnType = ab_rt (ab_rk M)) (hri : ab_rk M = 0 → ri0 = 0) (hlocks : meth.locks = false) : ab_c_return_ M Q (ab_GE p l e R s m args below meth c D ad base cy nL ri0 Q (ab_K M)) := by
  intro pc L S k hd hrk hk hq H locs ls hn ho hol hP hS hl
  refine vx_ret (W.widen (n := 6 * ab_K M) hk (by omega) ?_)
  have h1 : ri0 = 0 := hri hrk
  subst h1
  refine W.vret hx hb (by rw [hr, hrk]; rfl) ?_ (fun q hq => hS.2.2 q hq) hd hlocks
  intro t ht hW
  refine ⟨⟨S, rfl, hq, ?_⟩, hS.F ht⟩
  show va_P D vwCl _ t.heap
  rw [ht]
  exact hP
theorem so_throw (hx : p.tables.exec = Jvm.exec) (hb : c.code = ab_cc M) (hml : c.maxLocals = nL) (hlt : ab_th M = (fun _ => none) ∨ l.stackTraces = false) (hown : s.vm.findClass own = some m.cls) (hts : ∀ w ∈ Ts, w.before args s = true) (hKn : ab_Kn D ad base cy sa s) (hout : ∀ x ∈ c.exceptionTable.toList, False) (hlocks : meth.locks = false) (hRK : ab_K M ≤ R.cells ∧ 6 * ab_K M ≤ R.slots)
    (hth : ∀ pc E, ab_th M pc = some E → ab_thok own Ts R (ab_cc M) pc E) : ab_c_throw M Q (ab_GE p l e R s m args below meth c D ad base cy nL ri0 Q (ab_K M)) := by
  intro pc L st S k E hE h8 hk hq H locs ls hn ho hol hP hS hl
  have hlt : l.stackTraces = false := by
    rcases hlt with h | h
    · rw [h] at hE; cases hE
    · exact h
  obtain ⟨ik, is, ic, text, names, hO, hstr, hf1, hf2, w1, w2, w3, w4, hg, d0, d3, d4, d6, d9, r1, r2⟩ := hth pc E hE
  subst hO
  have hnw := hKn.nw (args := args)
  obtain ⟨-, -, -, hstrs, hU, hN, -⟩ := hKn
  refine vx_throwS (XC := ab_Xc D ad base cy Q) hx hb hlt hown hf1 hf2 (hts _ w1) (hts _ w2) (hstrs _ hstr) (vx_hat (fun w h => hts w (w3 w h)) w4 hnw) hg hU hN hS (hl.1.trans hml.symm) d0 d3 d4 d6 d9 (fun x hx => (hout x hx).elim) r1 (by rw [ab_cats]; omega) (by omega) (by omega) hlocks ?_ (fun z hz => hS.2.2 z hz) hk (by omega)
  intro t hal hsz hkeep
  refine ⟨(S, E), hq, ⟨rfl, ?_⟩, Nat.le_trans hS.1 hsz, fun q h1 h2 => (hkeep q (Nat.lt_of_lt_of_le h1 hS.1)).trans (hS.2.1 q h1 h2)⟩
  exact hP.kept (fun kk q hq => hkeep q.1 (hP kk q hq).lt)
end ABC
end
section
/-! The rows together; a method's contract. -/
/-- what is to be looked up of a method once: its fields, its callees, its throws -/
def ab_Ok (l : Launch) (own : String) (Ts : List Cond) (R : Room) (ri0 : Nat) (M : ab_M) : Prop :=
  ((ab_rk M ≠ 0 → ri0 = 1) ∧ (ab_rk M = 0 → ri0 = 0)) ∧ (ab_th M = (fun _ => none) ∨ l.stackTraces = false) ∧ (∀ t ∈ ab_fl M, ab_flok own Ts t) ∧ (∀ t ∈ ab_pl M, ab_plok own Ts t) ∧ (∀ t ∈ ab_kn M, Jvm.Cond.constant own t.1 t.2 ∈ Ts) ∧
  (∀ idx rc n ri kc τ, ab_cv M idx = some (rc, n, ri, kc, τ) → ab_vok l own Ts R idx rc n ri kc τ) ∧ (∀ idx rc n ri kc τ, ab_cs M idx = some (rc, n, ri, kc, τ) → ab_tok l own Ts R idx n ri kc τ) ∧ (∀ idx rc n ri kc τ, ab_cn M idx = some (rc, n, ri, kc, τ) → ab_nok l own Ts R idx n ri kc τ) ∧
  (∀ idx ∈ ab_mn M, (Cond.methodLink own idx Lib.Math.min.name ∈ Ts ∧ Cond.static Lib.Math.min.name ∈ Ts ∧ Cond.initialized "java/lang/Math" ∈ Ts ∧ Cond.code Lib.Math.min.name Lib.Math.min.code 2 (some .int) ∈ Ts) ∧ 1 ≤ R.frames ∧ 21 ≤ R.locals) ∧
  (∀ idx ∈ ab_ac M, (Cond.methodLink own idx arraycopyName ∈ Ts ∧ Cond.native arraycopyName ∈ Ts ∧ Cond.static arraycopyName ∈ Ts ∧ Cond.initialized "java/lang/System" ∈ Ts) ∧ 1 ≤ R.frames ∧ 8 + (nativeFrameWords "java/lang/System" "arraycopy" 5 + 11) ≤ R.locals) ∧
  (∀ pc E, ab_th M pc = some E → ab_thok own Ts R (ab_cc M) pc E) ∧ ab_K M ≤ R.cells ∧ 6 * ab_K M ≤ R.slots
theorem ab_closed {p : Program} {l : Launch} {e : Env} {R : Room} {s : State} {m : MethodId} {args : Array Value} {below : List Frame} {meth : Method} {c : Code} {D : va_G} {ad : ab_Ob → Nat} {base : Nat} {cy : Nat → ClassId} {sa : Nat → Nat} {own : String} {Ts : List Cond} {M : ab_M} {Q : ab_Po} {nL ri0 : Nat}
    (hok : ab_Ok l own Ts R ri0 M) (hx : p.tables.exec = Jvm.exec) (hb : c.code = ab_cc M) (hml : c.maxLocals = nL) (hr : meth.sig.returnType = ab_rt (ab_rk M)) (hown : s.vm.findClass own = some m.cls) (hts : ∀ w ∈ Ts, w.before args s = true) (hKn : ab_Kn D ad base cy sa s) (hbs : base ≤ s.heap.size) (hout : ∀ x ∈ c.exceptionTable.toList, False) (hlocks : meth.locks = false) :
    ab_Cl M Q (ab_GE p l e R s m args below meth c D ad base cy nL ri0 Q (ab_K M)) := by
  obtain ⟨hri, hlt, hfl, hpl, hkn, hcv, hcs, hcn, hmn, hac, hth, hRK⟩ := hok
  exact ⟨so_iload_n hx hb, so_iload hx hb, so_aload_n hx hb, so_aload hx hb, so_istore_n hx hb, so_istore hx hb, so_astore_n hx hb, so_astore hx hb, so_iinc hx hb, so_iconst hx hb, so_bipush hx hb, so_sipush hx hb, so_ldc_w hx hb hown (fun t ht => hts _ (hkn t ht)), so_iadd hx hb, so_isub hx hb, so_imul hx hb, so_iand hx hb, so_ior hx hb, so_ishl hx hb, so_ishr hx hb, so_iushr hx hb, so_dup hx hb, so_pop hx hb, so_if_eq hx hb, so_icmp_eq hx hb, so_if_ne hx hb, so_icmp_ne hx hb, so_if_lt hx hb, so_icmp_lt hx hb, so_if_ge hx hb, so_icmp_ge hx hb, so_if_gt hx hb, so_icmp_gt hx hb, so_if_le hx hb, so_icmp_le hx hb, so_goto hx hb, so_swO hx hb, so_swI hx hb, so_ireturn hx hb hr hri.1 hlocks, so_return_ hx hb hr hri.2 hlocks, so_getfield hx hb hown hts hKn.1 hfl, so_putfield hx hb hown hts hKn.1 hKn.2.1 hpl, so_iaload hx hb hKn.1, so_baload hx hb hKn.1, so_iastore hx hb hKn.1 hKn.2.1, so_bastore hx hb hKn.1 hKn.2.1, so_aaload2 hx hb hKn.1, so_aaload3 hx hb hKn.1, so_alen hx hb hKn.1, so_invv hx hb hml hown hts hKn hbs hout hlocks hRK hcv, so_invs hx hb hml hown hts hKn hbs hout hlocks hRK hcs, so_invn hx hb hml hown hts hKn hbs hRK hcn, so_min hx hb hml hown hts hmn hRK, so_acopy hx hb hml hown hts hKn.1 hKn.2.1 hac, so_throw hx hb hml hlt hown hts hKn hout hlocks hRK hth⟩
theorem ab_sound {l : Launch} {y : MethodName} {ws ws' : List Cond} {rm : Room} {maxL ri0 : Nat} {M : ab_M} (hy : plainName y.cls = true) (hw : ws = Cond.code y (ab_cc M) maxL (ab_rt (ab_rk M)) :: ws') (hrc : rm.cells = ab_K M) (hrs : rm.slots = 6 * ab_K M)
    (hok : ab_Ok l y.cls ws rm ri0 M) : ab_Sound l y ws rm ri0 (ab_Sem M maxL) := by
  intro D ad base cy sa vs S Q hs
  obtain ⟨hlen, hsem⟩ := hs
  rw [hrc, hrs]
  refine vx_ofW hy hw ?_
  intro p e s m args below meth c s₁ B hml hout hv
  obtain ⟨rfl, hoks, hbs, hP, hKn⟩ := hv
  have hts := atoms_spec (ws := ws) B.pre
  have hown : s.vm.findClass y.cls = some m.cls := findClass_of_methodNamed B.named
  have hcl : ab_Cl M Q (ab_GE p l e (headSpec ws rm).room s m _ below meth c D ad base cy maxL ri0 Q (ab_K M)) := ab_closed hok B.exec B.bytes hml B.returns hown hts hKn hbs hout B.notSynchronized
  have h := hsem _ hcl
  have hl := lv_entry (vs.map (ab_val ad)) (n := maxL) (by rw [ab_sl]; exact hlen)
  rw [lg_entry_eq]
  exact h s.heap [] _ (by simp; omega) (fun _ h => by cases h) (ab_okl_entry hoks _) hP va_S.rf (ab_entry hl _)
end
