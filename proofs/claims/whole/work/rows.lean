section
-- ===== PART A: goes FIRST, ahead of the names: the tables' words, and 'selects' of the private methods out of them =====
/-- a private method of a class that the tables say can be made, by its rows of tables_1 -/
def lw_okq (q : MethodName × Nat) : Prop := (q.1.cls ≠ "java/lang/invoke/MethodHandle" ∧ q.1.cls ≠ "java/lang/invoke/VarHandle") ∧ Cond.instantiable q.1.cls q.2 ∈ tables_1 ∧ Cond.privateMethod q.1 ∈ tables_1 ∧ Cond.instanceMethod q.1 ∈ tables_1
theorem lw_p0 : lw_okq (⟨"GroveMerge$Tree", "putCarried", "(II)V"⟩, 6) := ⟨⟨by decide +kernel, by decide +kernel⟩, List.mem_of_getElem? (i := 29) (by decide +kernel), List.mem_of_getElem? (i := 158) (by decide +kernel), List.mem_of_getElem? (i := 159) (by decide +kernel)⟩
theorem lw_p1 : lw_okq (⟨"GroveMerge$Tree", "renumberFrom", "(I)V"⟩, 6) := ⟨⟨by decide +kernel, by decide +kernel⟩, List.mem_of_getElem? (i := 29) (by decide +kernel), List.mem_of_getElem? (i := 165) (by decide +kernel), List.mem_of_getElem? (i := 166) (by decide +kernel)⟩
theorem lw_p2 : lw_okq (⟨"GroveMerge$History", "reachOf", "(I)I"⟩, 5) := ⟨⟨by decide +kernel, by decide +kernel⟩, List.mem_of_getElem? (i := 79) (by decide +kernel), List.mem_of_getElem? (i := 177) (by decide +kernel), List.mem_of_getElem? (i := 178) (by decide +kernel)⟩
theorem lw_p3 : lw_okq (⟨"GroveMerge", "requireNode", "(I)V"⟩, 7) := ⟨⟨by decide +kernel, by decide +kernel⟩, List.mem_of_getElem? (i := 21) (by decide +kernel), List.mem_of_getElem? (i := 249) (by decide +kernel), List.mem_of_getElem? (i := 250) (by decide +kernel)⟩
theorem lw_p4 : lw_okq (⟨"java/lang/Throwable", "fillInStackTrace", "(I)Ljava/lang/Throwable;"⟩, 6) := ⟨⟨by decide +kernel, by decide +kernel⟩, List.mem_of_getElem? (i := 297) (by decide +kernel), List.mem_of_getElem? (i := 295) (by decide +kernel), List.mem_of_getElem? (i := 296) (by decide +kernel)⟩
theorem lw_p5 : lw_okq (⟨"GroveMerge$Tree", "takeOut", "(I)I"⟩, 6) := ⟨⟨by decide +kernel, by decide +kernel⟩, List.mem_of_getElem? (i := 29) (by decide +kernel), List.mem_of_getElem? (i := 413) (by decide +kernel), List.mem_of_getElem? (i := 414) (by decide +kernel)⟩
theorem lw_p6 : lw_okq (⟨"GroveMerge", "requireCommit", "(I)V"⟩, 7) := ⟨⟨by decide +kernel, by decide +kernel⟩, List.mem_of_getElem? (i := 21) (by decide +kernel), List.mem_of_getElem? (i := 455) (by decide +kernel), List.mem_of_getElem? (i := 456) (by decide +kernel)⟩
theorem lw_p7 : lw_okq (⟨"GroveMerge$History", "isReachedFromAnother", "(II)Z"⟩, 5) := ⟨⟨by decide +kernel, by decide +kernel⟩, List.mem_of_getElem? (i := 79) (by decide +kernel), List.mem_of_getElem? (i := 473) (by decide +kernel), List.mem_of_getElem? (i := 474) (by decide +kernel)⟩
theorem lw_p8 : lw_okq (⟨"GroveMerge$Merger", "settle", "(ILGroveMerge$Tree;LGroveMerge$Tree;LGroveMerge$Tree;)V"⟩, 3) := ⟨⟨by decide +kernel, by decide +kernel⟩, List.mem_of_getElem? (i := 108) (by decide +kernel), List.mem_of_getElem? (i := 515) (by decide +kernel), List.mem_of_getElem? (i := 516) (by decide +kernel)⟩
theorem lw_p9 : lw_okq (⟨"GroveMerge$Merger", "name", "(II)V"⟩, 3) := ⟨⟨by decide +kernel, by decide +kernel⟩, List.mem_of_getElem? (i := 108) (by decide +kernel), List.mem_of_getElem? (i := 520) (by decide +kernel), List.mem_of_getElem? (i := 521) (by decide +kernel)⟩
theorem lw_p10 : lw_okq (⟨"GroveMerge$Merger", "nameThoseWithoutParent", "()V"⟩, 3) := ⟨⟨by decide +kernel, by decide +kernel⟩, List.mem_of_getElem? (i := 108) (by decide +kernel), List.mem_of_getElem? (i := 527) (by decide +kernel), List.mem_of_getElem? (i := 528) (by decide +kernel)⟩
theorem lw_p11 : lw_okq (⟨"GroveMerge$Merger", "nameThoseCutOff", "()V"⟩, 3) := ⟨⟨by decide +kernel, by decide +kernel⟩, List.mem_of_getElem? (i := 108) (by decide +kernel), List.mem_of_getElem? (i := 531) (by decide +kernel), List.mem_of_getElem? (i := 532) (by decide +kernel)⟩
theorem lw_p12 : lw_okq (⟨"GroveMerge$Merger", "comesToRoot", "(I)Z"⟩, 3) := ⟨⟨by decide +kernel, by decide +kernel⟩, List.mem_of_getElem? (i := 108) (by decide +kernel), List.mem_of_getElem? (i := 535) (by decide +kernel), List.mem_of_getElem? (i := 536) (by decide +kernel)⟩
theorem lw_p13 : lw_okq (⟨"GroveMerge$Merger", "arrange", "(LGroveMerge$Tree;LGroveMerge$Tree;)V"⟩, 3) := ⟨⟨by decide +kernel, by decide +kernel⟩, List.mem_of_getElem? (i := 108) (by decide +kernel), List.mem_of_getElem? (i := 539) (by decide +kernel), List.mem_of_getElem? (i := 540) (by decide +kernel)⟩
theorem lw_p14 : lw_okq (⟨"GroveMerge$Merger", "arrangeChildren", "(ILGroveMerge$Tree;LGroveMerge$Tree;)V"⟩, 3) := ⟨⟨by decide +kernel, by decide +kernel⟩, List.mem_of_getElem? (i := 108) (by decide +kernel), List.mem_of_getElem? (i := 544) (by decide +kernel), List.mem_of_getElem? (i := 545) (by decide +kernel)⟩
theorem lw_p15 : lw_okq (⟨"GroveMerge$Merger", "isChildNowAsIn", "(LGroveMerge$Tree;II)Z"⟩, 3) := ⟨⟨by decide +kernel, by decide +kernel⟩, List.mem_of_getElem? (i := 108) (by decide +kernel), List.mem_of_getElem? (i := 548) (by decide +kernel), List.mem_of_getElem? (i := 549) (by decide +kernel)⟩
def lw_privs_1 : List (MethodName × Nat) := [(⟨"GroveMerge$Tree", "putCarried", "(II)V"⟩, 6), (⟨"GroveMerge$Tree", "renumberFrom", "(I)V"⟩, 6), (⟨"GroveMerge$History", "reachOf", "(I)I"⟩, 5), (⟨"GroveMerge", "requireNode", "(I)V"⟩, 7), (⟨"java/lang/Throwable", "fillInStackTrace", "(I)Ljava/lang/Throwable;"⟩, 6), (⟨"GroveMerge$Tree", "takeOut", "(I)I"⟩, 6), (⟨"GroveMerge", "requireCommit", "(I)V"⟩, 7), (⟨"GroveMerge$History", "isReachedFromAnother", "(II)Z"⟩, 5), (⟨"GroveMerge$Merger", "settle", "(ILGroveMerge$Tree;LGroveMerge$Tree;LGroveMerge$Tree;)V"⟩, 3), (⟨"GroveMerge$Merger", "name", "(II)V"⟩, 3), (⟨"GroveMerge$Merger", "nameThoseWithoutParent", "()V"⟩, 3), (⟨"GroveMerge$Merger", "nameThoseCutOff", "()V"⟩, 3), (⟨"GroveMerge$Merger", "comesToRoot", "(I)Z"⟩, 3), (⟨"GroveMerge$Merger", "arrange", "(LGroveMerge$Tree;LGroveMerge$Tree;)V"⟩, 3), (⟨"GroveMerge$Merger", "arrangeChildren", "(ILGroveMerge$Tree;LGroveMerge$Tree;)V"⟩, 3), (⟨"GroveMerge$Merger", "isChildNowAsIn", "(LGroveMerge$Tree;II)Z"⟩, 3)]
theorem lw_r1 : ∀ q ∈ lw_privs_1, lw_okq q := List.forall_mem_cons.mpr ⟨lw_p0, List.forall_mem_cons.mpr ⟨lw_p1, List.forall_mem_cons.mpr ⟨lw_p2, List.forall_mem_cons.mpr ⟨lw_p3, List.forall_mem_cons.mpr ⟨lw_p4, List.forall_mem_cons.mpr ⟨lw_p5, List.forall_mem_cons.mpr ⟨lw_p6, List.forall_mem_cons.mpr ⟨lw_p7, List.forall_mem_cons.mpr ⟨lw_p8, List.forall_mem_cons.mpr ⟨lw_p9, List.forall_mem_cons.mpr ⟨lw_p10, List.forall_mem_cons.mpr ⟨lw_p11, List.forall_mem_cons.mpr ⟨lw_p12, List.forall_mem_cons.mpr ⟨lw_p13, List.forall_mem_cons.mpr ⟨lw_p14, List.forall_mem_cons.mpr ⟨lw_p15, fun _ h => absurd h List.not_mem_nil⟩⟩⟩⟩⟩⟩⟩⟩⟩⟩⟩⟩⟩⟩⟩⟩
theorem lw_p16 : lw_okq (⟨"GroveMerge$Tree", "areAlike", "(II)Z"⟩, 6) := ⟨⟨by decide +kernel, by decide +kernel⟩, List.mem_of_getElem? (i := 29) (by decide +kernel), List.mem_of_getElem? (i := 600) (by decide +kernel), List.mem_of_getElem? (i := 601) (by decide +kernel)⟩
theorem lw_p17 : lw_okq (⟨"GroveMerge$EditDistance", "compareWithAll", "(LGroveMerge$Tree;LGroveMerge$Tree;I)V"⟩, 4) := ⟨⟨by decide +kernel, by decide +kernel⟩, List.mem_of_getElem? (i := 129) (by decide +kernel), List.mem_of_getElem? (i := 623) (by decide +kernel), List.mem_of_getElem? (i := 624) (by decide +kernel)⟩
theorem lw_p18 : lw_okq (⟨"GroveMerge$EditDistance", "compareParts", "(LGroveMerge$Tree;LGroveMerge$Tree;II)V"⟩, 4) := ⟨⟨by decide +kernel, by decide +kernel⟩, List.mem_of_getElem? (i := 129) (by decide +kernel), List.mem_of_getElem? (i := 627) (by decide +kernel), List.mem_of_getElem? (i := 628) (by decide +kernel)⟩
theorem lw_p19 : lw_okq (⟨"GroveMerge$EditDistance", "least", "(III)I"⟩, 4) := ⟨⟨by decide +kernel, by decide +kernel⟩, List.mem_of_getElem? (i := 129) (by decide +kernel), List.mem_of_getElem? (i := 631) (by decide +kernel), List.mem_of_getElem? (i := 632) (by decide +kernel)⟩
theorem lw_p20 : lw_okq (⟨"GroveMergeModel", "copy", "(II)V"⟩, 27) := ⟨⟨by decide +kernel, by decide +kernel⟩, List.mem_of_getElem? (i := 653) (by decide +kernel), List.mem_of_getElem? (i := 659) (by decide +kernel), List.mem_of_getElem? (i := 660) (by decide +kernel)⟩
theorem lw_p21 : lw_okq (⟨"GroveMergeModel", "has", "(II)Z"⟩, 27) := ⟨⟨by decide +kernel, by decide +kernel⟩, List.mem_of_getElem? (i := 653) (by decide +kernel), List.mem_of_getElem? (i := 754) (by decide +kernel), List.mem_of_getElem? (i := 755) (by decide +kernel)⟩
theorem lw_p22 : lw_okq (⟨"GroveMergeModel", "children", "(II)I"⟩, 27) := ⟨⟨by decide +kernel, by decide +kernel⟩, List.mem_of_getElem? (i := 653) (by decide +kernel), List.mem_of_getElem? (i := 758) (by decide +kernel), List.mem_of_getElem? (i := 759) (by decide +kernel)⟩
theorem lw_p23 : lw_okq (⟨"GroveMergeModel", "isChild", "(III)Z"⟩, 27) := ⟨⟨by decide +kernel, by decide +kernel⟩, List.mem_of_getElem? (i := 653) (by decide +kernel), List.mem_of_getElem? (i := 762) (by decide +kernel), List.mem_of_getElem? (i := 763) (by decide +kernel)⟩
theorem lw_p24 : lw_okq (⟨"GroveMergeModel", "hang", "(IIII)V"⟩, 27) := ⟨⟨by decide +kernel, by decide +kernel⟩, List.mem_of_getElem? (i := 653) (by decide +kernel), List.mem_of_getElem? (i := 766) (by decide +kernel), List.mem_of_getElem? (i := 767) (by decide +kernel)⟩
theorem lw_p25 : lw_okq (⟨"GroveMergeModel", "shift", "(IIII)V"⟩, 27) := ⟨⟨by decide +kernel, by decide +kernel⟩, List.mem_of_getElem? (i := 653) (by decide +kernel), List.mem_of_getElem? (i := 770) (by decide +kernel), List.mem_of_getElem? (i := 771) (by decide +kernel)⟩
theorem lw_p26 : lw_okq (⟨"GroveMergeModel", "walk", "(I)V"⟩, 27) := ⟨⟨by decide +kernel, by decide +kernel⟩, List.mem_of_getElem? (i := 653) (by decide +kernel), List.mem_of_getElem? (i := 778) (by decide +kernel), List.mem_of_getElem? (i := 779) (by decide +kernel)⟩
theorem lw_p27 : lw_okq (⟨"GroveMergeModel", "childAt", "(III)I"⟩, 27) := ⟨⟨by decide +kernel, by decide +kernel⟩, List.mem_of_getElem? (i := 653) (by decide +kernel), List.mem_of_getElem? (i := 782) (by decide +kernel), List.mem_of_getElem? (i := 783) (by decide +kernel)⟩
theorem lw_p28 : lw_okq (⟨"GroveMergeModel", "unhang", "(II)V"⟩, 27) := ⟨⟨by decide +kernel, by decide +kernel⟩, List.mem_of_getElem? (i := 653) (by decide +kernel), List.mem_of_getElem? (i := 786) (by decide +kernel), List.mem_of_getElem? (i := 787) (by decide +kernel)⟩
theorem lw_p29 : lw_okq (⟨"GroveMergeModel", "isAt", "(III)Z"⟩, 27) := ⟨⟨by decide +kernel, by decide +kernel⟩, List.mem_of_getElem? (i := 653) (by decide +kernel), List.mem_of_getElem? (i := 790) (by decide +kernel), List.mem_of_getElem? (i := 791) (by decide +kernel)⟩
theorem lw_p30 : lw_okq (⟨"GroveMergeModel", "isCommit", "(I)Z"⟩, 27) := ⟨⟨by decide +kernel, by decide +kernel⟩, List.mem_of_getElem? (i := 653) (by decide +kernel), List.mem_of_getElem? (i := 810) (by decide +kernel), List.mem_of_getElem? (i := 811) (by decide +kernel)⟩
theorem lw_p31 : lw_okq (⟨"GroveMergeModel", "baseOf", "(II)I"⟩, 27) := ⟨⟨by decide +kernel, by decide +kernel⟩, List.mem_of_getElem? (i := 653) (by decide +kernel), List.mem_of_getElem? (i := 818) (by decide +kernel), List.mem_of_getElem? (i := 819) (by decide +kernel)⟩
def lw_privs_2 : List (MethodName × Nat) := [(⟨"GroveMerge$Tree", "areAlike", "(II)Z"⟩, 6), (⟨"GroveMerge$EditDistance", "compareWithAll", "(LGroveMerge$Tree;LGroveMerge$Tree;I)V"⟩, 4), (⟨"GroveMerge$EditDistance", "compareParts", "(LGroveMerge$Tree;LGroveMerge$Tree;II)V"⟩, 4), (⟨"GroveMerge$EditDistance", "least", "(III)I"⟩, 4), (⟨"GroveMergeModel", "copy", "(II)V"⟩, 27), (⟨"GroveMergeModel", "has", "(II)Z"⟩, 27), (⟨"GroveMergeModel", "children", "(II)I"⟩, 27), (⟨"GroveMergeModel", "isChild", "(III)Z"⟩, 27), (⟨"GroveMergeModel", "hang", "(IIII)V"⟩, 27), (⟨"GroveMergeModel", "shift", "(IIII)V"⟩, 27), (⟨"GroveMergeModel", "walk", "(I)V"⟩, 27), (⟨"GroveMergeModel", "childAt", "(III)I"⟩, 27), (⟨"GroveMergeModel", "unhang", "(II)V"⟩, 27), (⟨"GroveMergeModel", "isAt", "(III)Z"⟩, 27), (⟨"GroveMergeModel", "isCommit", "(I)Z"⟩, 27), (⟨"GroveMergeModel", "baseOf", "(II)I"⟩, 27)]
theorem lw_r2 : ∀ q ∈ lw_privs_2, lw_okq q := List.forall_mem_cons.mpr ⟨lw_p16, List.forall_mem_cons.mpr ⟨lw_p17, List.forall_mem_cons.mpr ⟨lw_p18, List.forall_mem_cons.mpr ⟨lw_p19, List.forall_mem_cons.mpr ⟨lw_p20, List.forall_mem_cons.mpr ⟨lw_p21, List.forall_mem_cons.mpr ⟨lw_p22, List.forall_mem_cons.mpr ⟨lw_p23, List.forall_mem_cons.mpr ⟨lw_p24, List.forall_mem_cons.mpr ⟨lw_p25, List.forall_mem_cons.mpr ⟨lw_p26, List.forall_mem_cons.mpr ⟨lw_p27, List.forall_mem_cons.mpr ⟨lw_p28, List.forall_mem_cons.mpr ⟨lw_p29, List.forall_mem_cons.mpr ⟨lw_p30, List.forall_mem_cons.mpr ⟨lw_p31, fun _ h => absurd h List.not_mem_nil⟩⟩⟩⟩⟩⟩⟩⟩⟩⟩⟩⟩⟩⟩⟩⟩
theorem lw_p32 : lw_okq (⟨"GroveMergeModel", "isHeads", "()Z"⟩, 27) := ⟨⟨by decide +kernel, by decide +kernel⟩, List.mem_of_getElem? (i := 653) (by decide +kernel), List.mem_of_getElem? (i := 826) (by decide +kernel), List.mem_of_getElem? (i := 827) (by decide +kernel)⟩
theorem lw_p33 : lw_okq (⟨"GroveMergeModel", "meet", "(III)V"⟩, 27) := ⟨⟨by decide +kernel, by decide +kernel⟩, List.mem_of_getElem? (i := 653) (by decide +kernel), List.mem_of_getElem? (i := 830) (by decide +kernel), List.mem_of_getElem? (i := 831) (by decide +kernel)⟩
theorem lw_p34 : lw_okq (⟨"GroveMergeModel", "stay", "(III)I"⟩, 27) := ⟨⟨by decide +kernel, by decide +kernel⟩, List.mem_of_getElem? (i := 653) (by decide +kernel), List.mem_of_getElem? (i := 834) (by decide +kernel), List.mem_of_getElem? (i := 835) (by decide +kernel)⟩
theorem lw_p35 : lw_okq (⟨"GroveMergeModel", "countKinds", "()I"⟩, 27) := ⟨⟨by decide +kernel, by decide +kernel⟩, List.mem_of_getElem? (i := 653) (by decide +kernel), List.mem_of_getElem? (i := 841) (by decide +kernel), List.mem_of_getElem? (i := 842) (by decide +kernel)⟩
theorem lw_p36 : lw_okq (⟨"GroveMergeModel", "findOrphans", "()V"⟩, 27) := ⟨⟨by decide +kernel, by decide +kernel⟩, List.mem_of_getElem? (i := 653) (by decide +kernel), List.mem_of_getElem? (i := 845) (by decide +kernel), List.mem_of_getElem? (i := 846) (by decide +kernel)⟩
theorem lw_p37 : lw_okq (⟨"GroveMergeModel", "findRings", "()V"⟩, 27) := ⟨⟨by decide +kernel, by decide +kernel⟩, List.mem_of_getElem? (i := 653) (by decide +kernel), List.mem_of_getElem? (i := 849) (by decide +kernel), List.mem_of_getElem? (i := 850) (by decide +kernel)⟩
theorem lw_p38 : lw_okq (⟨"GroveMergeModel", "comes", "(I)Z"⟩, 27) := ⟨⟨by decide +kernel, by decide +kernel⟩, List.mem_of_getElem? (i := 653) (by decide +kernel), List.mem_of_getElem? (i := 853) (by decide +kernel), List.mem_of_getElem? (i := 854) (by decide +kernel)⟩
theorem lw_p39 : lw_okq (⟨"GroveMergeModel", "build", "(I)V"⟩, 27) := ⟨⟨by decide +kernel, by decide +kernel⟩, List.mem_of_getElem? (i := 653) (by decide +kernel), List.mem_of_getElem? (i := 857) (by decide +kernel), List.mem_of_getElem? (i := 858) (by decide +kernel)⟩
theorem lw_p40 : lw_okq (⟨"GroveMergeModel", "putChildren", "(II)V"⟩, 27) := ⟨⟨by decide +kernel, by decide +kernel⟩, List.mem_of_getElem? (i := 653) (by decide +kernel), List.mem_of_getElem? (i := 861) (by decide +kernel), List.mem_of_getElem? (i := 862) (by decide +kernel)⟩
theorem lw_p41 : lw_okq (⟨"GroveMergeModel", "numberOf", "(I)I"⟩, 27) := ⟨⟨by decide +kernel, by decide +kernel⟩, List.mem_of_getElem? (i := 653) (by decide +kernel), List.mem_of_getElem? (i := 873) (by decide +kernel), List.mem_of_getElem? (i := 874) (by decide +kernel)⟩
theorem lw_p42 : lw_okq (⟨"GroveMergeModel", "found", "(I)I"⟩, 27) := ⟨⟨by decide +kernel, by decide +kernel⟩, List.mem_of_getElem? (i := 653) (by decide +kernel), List.mem_of_getElem? (i := 889) (by decide +kernel), List.mem_of_getElem? (i := 890) (by decide +kernel)⟩
theorem lw_p43 : lw_okq (⟨"GroveMergeModel", "isFound", "(III)Z"⟩, 27) := ⟨⟨by decide +kernel, by decide +kernel⟩, List.mem_of_getElem? (i := 653) (by decide +kernel), List.mem_of_getElem? (i := 893) (by decide +kernel), List.mem_of_getElem? (i := 894) (by decide +kernel)⟩
theorem lw_p44 : lw_okq (⟨"GroveMergeModel", "fail", "(I)I"⟩, 27) := ⟨⟨by decide +kernel, by decide +kernel⟩, List.mem_of_getElem? (i := 653) (by decide +kernel), List.mem_of_getElem? (i := 901) (by decide +kernel), List.mem_of_getElem? (i := 902) (by decide +kernel)⟩
theorem lw_p45 : lw_okq (⟨"GroveMergeModel", "areAlike", "(II)Z"⟩, 27) := ⟨⟨by decide +kernel, by decide +kernel⟩, List.mem_of_getElem? (i := 653) (by decide +kernel), List.mem_of_getElem? (i := 909) (by decide +kernel), List.mem_of_getElem? (i := 910) (by decide +kernel)⟩
theorem lw_p46 : lw_okq (⟨"GroveMergeModel", "leave", "(II)I"⟩, 27) := ⟨⟨by decide +kernel, by decide +kernel⟩, List.mem_of_getElem? (i := 653) (by decide +kernel), List.mem_of_getElem? (i := 917) (by decide +kernel), List.mem_of_getElem? (i := 918) (by decide +kernel)⟩
theorem lw_p47 : lw_okq (⟨"GroveMergeModel", "compare", "(IIII)V"⟩, 27) := ⟨⟨by decide +kernel, by decide +kernel⟩, List.mem_of_getElem? (i := 653) (by decide +kernel), List.mem_of_getElem? (i := 921) (by decide +kernel), List.mem_of_getElem? (i := 922) (by decide +kernel)⟩
def lw_privs_3 : List (MethodName × Nat) := [(⟨"GroveMergeModel", "isHeads", "()Z"⟩, 27), (⟨"GroveMergeModel", "meet", "(III)V"⟩, 27), (⟨"GroveMergeModel", "stay", "(III)I"⟩, 27), (⟨"GroveMergeModel", "countKinds", "()I"⟩, 27), (⟨"GroveMergeModel", "findOrphans", "()V"⟩, 27), (⟨"GroveMergeModel", "findRings", "()V"⟩, 27), (⟨"GroveMergeModel", "comes", "(I)Z"⟩, 27), (⟨"GroveMergeModel", "build", "(I)V"⟩, 27), (⟨"GroveMergeModel", "putChildren", "(II)V"⟩, 27), (⟨"GroveMergeModel", "numberOf", "(I)I"⟩, 27), (⟨"GroveMergeModel", "found", "(I)I"⟩, 27), (⟨"GroveMergeModel", "isFound", "(III)Z"⟩, 27), (⟨"GroveMergeModel", "fail", "(I)I"⟩, 27), (⟨"GroveMergeModel", "areAlike", "(II)Z"⟩, 27), (⟨"GroveMergeModel", "leave", "(II)I"⟩, 27), (⟨"GroveMergeModel", "compare", "(IIII)V"⟩, 27)]
theorem lw_r3 : ∀ q ∈ lw_privs_3, lw_okq q := List.forall_mem_cons.mpr ⟨lw_p32, List.forall_mem_cons.mpr ⟨lw_p33, List.forall_mem_cons.mpr ⟨lw_p34, List.forall_mem_cons.mpr ⟨lw_p35, List.forall_mem_cons.mpr ⟨lw_p36, List.forall_mem_cons.mpr ⟨lw_p37, List.forall_mem_cons.mpr ⟨lw_p38, List.forall_mem_cons.mpr ⟨lw_p39, List.forall_mem_cons.mpr ⟨lw_p40, List.forall_mem_cons.mpr ⟨lw_p41, List.forall_mem_cons.mpr ⟨lw_p42, List.forall_mem_cons.mpr ⟨lw_p43, List.forall_mem_cons.mpr ⟨lw_p44, List.forall_mem_cons.mpr ⟨lw_p45, List.forall_mem_cons.mpr ⟨lw_p46, List.forall_mem_cons.mpr ⟨lw_p47, fun _ h => absurd h List.not_mem_nil⟩⟩⟩⟩⟩⟩⟩⟩⟩⟩⟩⟩⟩⟩⟩⟩
def lw_privs : List (MethodName × Nat) := lw_privs_1 ++ (lw_privs_2 ++ (lw_privs_3))
def lw_tbl : List Cond := k2_sels lw_privs ++ tables_1
theorem lw_privs_ok : ∀ q ∈ lw_privs, lw_okq q := by
  show ∀ q ∈ lw_privs_1 ++ (lw_privs_2 ++ (lw_privs_3)), lw_okq q
  exact List.forall_mem_append.mpr ⟨lw_r1, List.forall_mem_append.mpr ⟨lw_r2, lw_r3⟩⟩
-- ===== end of PART A; then your names; then what follows =====
end
section
/-! ===== BEGIN words of one list among another's, by their places ===== -/
theorem goodIn_r {big : List Cond} (ws : List Cond) (ps : List Nat) (hp : ws = ps.filterMap (fun i => big[i]?)) (h : ws.all goodWord = true) : GoodIn big ws := by
  intro w hw
  have h1 := List.all_eq_true.mp h w hw
  rw [hp] at hw
  obtain ⟨i, -, hi⟩ := List.mem_filterMap.mp hw
  have hm : w ∈ big := by first | exact List.mem_of_getElem? hi | exact List.getElem?_mem hi
  exact ⟨hm, good_of_word h1⟩
theorem goodIn_app {big a b : List Cond} (ha : GoodIn big a) (hb : GoodIn big b) : GoodIn big (a ++ b) := fun w h => (List.mem_append.mp h).elim (ha w) (hb w)
theorem goodIn_ca {big a b : List Cond} {c : Cond} (ha : GoodIn big (c :: a)) (hb : GoodIn big b) : GoodIn big (c :: (a ++ b)) := fun w h => (List.mem_cons.mp h).elim (fun e => ha w (List.mem_cons.mpr (Or.inl e))) (fun h => (List.mem_append.mp h).elim (fun h => ha w (List.mem_cons.mpr (Or.inr h))) (hb w))
theorem goodIn_sub {big ws : List Cond} (hm : ∀ w ∈ ws, w ∈ big) (h : ws.all goodWord = true) : GoodIn big ws := fun w hw => ⟨hm w hw, good_of_word (List.all_eq_true.mp h w hw)⟩
/-! ===== END ===== -/
/-! ===== BEGIN exceptions that leave a method, and their catching by the caller (launches without stack traces) ===== -/
section VXA
/-! The laws vx_back, vx_callV, vx_callS, vx_callSW, vx_throw0, vx_throwS follow proofs of the library, with one case more: JvmDerived/Free/Laws.lean (Back.of_free), Shelf42/LK1.lean (callV, callS), Shelf/KitTraced.lean (throwNew0V, throwNewS). -/
/-- where a method has thrown q: the class by its name, the cell, what was written, the world -/
def vx_T (XC : String → State → State → Prop) (st : State) (q : Addr) (t : State) (mc ms : Nat) (free : Addr → Prop) : Prop :=
  ∃ (E : String) (ce : Cell) (L : List Loc), XC E st t ∧ t.heap[q]? = some ce ∧ ce.vm = .none ∧ st.vm.findClass E = some ce.cls ∧ st.WarmedH t.vm ∧ st.sameButNew ({ t with vm := st.vm } : State) L mc ms ∧ ∀ z ∈ L, free z.base
def vx_Q (Qc : Array Value → State → Outcome → State → Prop) (XC : String → State → State → Prop) (mc ms : Nat) (free : Addr → Prop) : Array Value → State → Outcome → State → Prop := fun a st o t =>
  (Qc a st o t ∧ ∃ L, FrameEnd st o t L mc ms ∧ ∀ q ∈ L, free q.base) ∨ ∃ q, o = .threw q ∧ vx_T XC st q t mc ms free
/-- a callee that returns or throws -/
def vx_Met (l : Launch) (y : MethodName) (ws : List Cond) (rm : Room) (Pc : Array Value → State → Prop) (Qc : Array Value → State → Outcome → State → Prop) (XC : String → State → State → Prop) (mc ms : Nat) (free : Addr → Prop) : Prop :=
  MetFree l y (headSpec ws rm) Pc (fun _ _ _ _ _ => True) (vx_Q Qc XC mc ms free)
def vx_Post (XC : String → State → State → Prop) (mc ms : Nat) (free : Addr → Prop) : Pt → Array Value → Addr → Pt → Prop := fun A a q B =>
  ∃ (g : JFrame) (mk : MethodId) (t : State) (L : List Loc) (E : String) (ce : Cell), B.U.heap = t.heap ∧ B.U.vm = t.vm ∧ XC E (A.U.calling g mk a) t ∧ t.heap[q]? = some ce ∧ ce.vm = .none ∧ A.U.vm.findClass E = some ce.cls ∧ B.locs = A.locs ++ L ∧ (∀ z ∈ L, free z.base) ∧ B.cells = A.cells + mc ∧ B.slots = A.slots + ms
def vx_Back (l : Launch) (R : Room) (p : Program) (e : Env) (below : List Frame) (s : State) (sargs : Array Value) (y : MethodName) (len W9 : Nat)
    (Pre : Pt → Array Value → Prop) (Post : Pt → Array Value → Option Value → Pt → Prop) (PostX : Pt → Array Value → Addr → Pt → Prop) : Prop :=
  ∀ (m : MethodId) (meth : Method) (c : Code) (A : Pt) (g : JFrame) (ig : Instr) (mk : MethodId) (a : Array Value),
    Stand p l e R s m sargs below meth c A.U A.locs A.cells A.slots → g.method = m → g.locals.size = c.maxLocals → decode c.code g.pc = .ok (ig, len) →
    2 * g.monitorRoom + (g.stack.map fun v => v.category).sum ≤ W9 → A.U.methodNamed? y = some mk → Pre A a →
    (∃ (v : Option Value) (B : Pt), Stand p l e R s m sargs below meth c B.U B.locs B.cells B.slots ∧ Post A a v B ∧
      Steps p.tables e below (doInvoke e (A.U.setTop g) [] mk a).1 (B.U.setTop { g with pc := g.pc + len, stack := v.toList ++ g.stack })) ∨
    (∃ (q : Addr) (B : Pt), Stand p l e R s m sargs below meth c B.U B.locs B.cells B.slots ∧ PostX A a q B ∧
      Steps p.tables e below (doInvoke e (A.U.setTop g) [] mk a).1 ((B.U.setTop g).pushFrame (.throwing q)))
section Payer
variable {l : Launch} {R : Room} {p : Program} {e : Env} {below : List Frame} {s : State} {sargs : Array Value} {y : MethodName} {len W9 : Nat}
theorem vx_back {ws : List Cond} {rm : Room} {Pc : Array Value → State → Prop} {Qc : Array Value → State → Outcome → State → Prop} {XC : String → State → State → Prop} {mc ms : Nat} {free : Addr → Prop} {bytes : ByteArray} {maxL : Nat} {ret : Option FieldType}
    (hM : vx_Met l y ws rm Pc Qc XC mc ms free) (hblind : FrameBlind Pc) (hrc : rm.cells = mc) (hrs : rm.slots = ms)
    (hframes : rm.frames + 1 ≤ R.frames) (hlocals : W9 + (maxL + 11) + rm.locals ≤ R.locals)
    (hws : ∀ w ∈ ws, ∀ a' U, s.WarmedH U.vm → w.before a' U = true) (hcode : Cond.code y bytes maxL ret ∈ ws) (hinit : ∀ a' U, s.WarmedH U.vm → (Cond.initialized y.cls).before a' U = true) :
    vx_Back l R p e below s sargs y len W9 (PreOf R mc ms Pc) (PostOf Qc mc ms free) (vx_Post XC mc ms free) := by
  intro m meth c A g ig mk a X hg hsize hdg hW hn hp
  have h1 : (headSpec ws rm).pre.before a A.U = true := atoms_intro fun w hw => hws w hw _ _ X.warmed
  have h2 : (Cond.code y bytes maxL ret).before a A.U = true := hws _ hcode _ _ X.warmed
  have h3 : (Cond.initialized y.cls).before a A.U = true := hinit _ _ X.warmed
  have h4 : A.cells + (headSpec ws rm).room.cells ≤ R.cells := by rw [show (headSpec ws rm).room.cells = mc from hrc]; exact hp.1
  have h5 : A.slots + (headSpec ws rm).room.slots ≤ R.slots := by rw [show (headSpec ws rm).room.slots = ms from hrs]; exact hp.2.1
  have hPc : Pc a (A.U.calling g mk a) := hblind _ _ _ _ hp.2.2
  obtain ⟨U, Ls, c0, s0⟩ := A
  dsimp only [Pt.U, Pt.locs, Pt.cells, Pt.slots] at h1 h2 h3 h4 h5 X hn hPc ⊢
  obtain ⟨methY, cY, hmY, hcY, -, hlY, -, -, -, -⟩ := Cond.code_spec hn h2
  obtain ⟨kY, hkY, -⟩ := className_of_methodNamed hn
  have hinitY : kY.init = .initialized := Cond.initialized_spec (findClass_of_methodNamed hn) hkY h3
  have h : At U g.method c below := by rw [hg]; exact X.here
  have hlocals9 : W9 + (maxL + 11) + (headSpec ws rm).room.locals ≤ R.locals := hlocals
  have happ : (headSpec ws rm).appliesLoose y e.platform (U.calling g mk a) = true :=
    Spec.appliesLoose_calling (g := g) h hdg hn hkY hinitY
      (X.room_calling (g := g) (R' := (headSpec ws rm).room) hsize hmY hcY hframes (by rw [hlY]; omega) h4 h5) h1
  obtain ⟨mid, hmid⟩ := h.above
  have hfr : (U.setTop g).frames = (.java g :: mid) ++ below := by rw [State.frames_setTop' g h.top, hmid]; rfl
  obtain ⟨o, s₂, hsteps, -, hend, hq⟩ := Steps.callFree hM p X.admits X.cas X.clock (acts := []) hfr happ hPc trivial
  have hq' : vx_Q Qc XC mc ms free a (U.calling g mk a) o s₂ := hq
  rw [State.frames_setTop' g h.top] at hend
  obtain ⟨g₀, hg0⟩ := Option.isSome_iff_exists.mp h.top
  obtain ⟨r, hr⟩ := State.topJava?_eq_some.mp hg0
  have hr' : (({ U with heap := s₂.heap, slotsUsed := s₂.slotsUsed } : State).setVm s₂.vm).frames = .java g₀ :: r := hr
  rcases hq' with ⟨hqc, L, hfe, hL⟩ | ⟨q, rfl, E, ce, L, hx, hce, hcv, hcl, hW₂, hsm, hL⟩
  · obtain ⟨⟨v, rfl⟩, hW₂, e2, q2, q3, q4, q5, q6⟩ := id hfe
    have e3 : s₂ = ({ (U.calling g mk a).setFrames s₂.frames with heap := s₂.heap, slotsUsed := s₂.slotsUsed } : State).setVm s₂.vm := by
      have : s₂ = ({ s₂ with vm := (U.calling g mk a).vm } : State).setVm s₂.vm := rfl
      rw [e2] at this
      exact this
    obtain ⟨c₂, i₂, len₂, hc₂, hd₂, hf₂⟩ := hend
    have hW' : U.WarmedH s₂.vm := hW₂
    have hcc : c₂ = c := by
      have h1 : s₂.code? g.method = U.code? g.method := by
        rw [State.code?_eq, State.code?_eq, hW'.alike.method?]
      exact Option.some.inj (hc₂.symm.trans (h1.trans h.code))
    subst hcc
    have hlen : len₂ = len := by rw [hdg] at hd₂; cases hd₂; rfl
    subst hlen
    have hs₂ : s₂ = (({ U with heap := s₂.heap, slotsUsed := s₂.slotsUsed } : State).setVm s₂.vm).setTop { g with pc := g.pc + len₂, stack := v.toList ++ g.stack } := by
      refine e3.trans ?_
      rw [hf₂, State.calling_eq h.top, State.setFrames_setFrames, State.setTop_of_frames _ hr', hr]
      rfl
    have hsame : U.sameButNew ({ U with heap := s₂.heap, slotsUsed := s₂.slotsUsed } : State) L mc ms := by
      refine ⟨?_, q2, q3, q4, q5, q6⟩
      obtain ⟨t, ht, -⟩ := State.frames_cons hr
      show ({ U with heap := s₂.heap, slotsUsed := s₂.slotsUsed } : State) = { U.setFrames U.frames with heap := s₂.heap, slotsUsed := s₂.slotsUsed }
      rw [State.setFrames_self ht]
    subst hg
    refine Or.inl ⟨v, ⟨(({ U with heap := s₂.heap, slotsUsed := s₂.slotsUsed } : State).setVm s₂.vm), Ls ++ L, c0 + mc, s0 + ms⟩,
      ⟨X.admits, X.cas, X.clock, X.frames, X.room, X.hears, X.method, X.code, (X.here.setHeapUsed s₂.heap s₂.slotsUsed).setVm hW'.alike, X.tail, State.WarmedH.trans X.warmed hW', X.limits, X.bytes, X.same.trans (hsame.setVm s.vm)⟩,
      ⟨g, mk, s₂, L, rfl, rfl, hqc, rfl, hL, rfl, rfl⟩, ?_⟩
    show Steps p.tables e below _ ((({ U with heap := s₂.heap, slotsUsed := s₂.slotsUsed } : State).setVm s₂.vm).setTop { g with pc := g.pc + len₂, stack := v.toList ++ g.stack })
    rw [← hs₂]
    exact hsteps
  · obtain ⟨e2, q2, q3, q4, q5, q6⟩ := id hsm
    have e3 : s₂ = ({ (U.calling g mk a).setFrames s₂.frames with heap := s₂.heap, slotsUsed := s₂.slotsUsed } : State).setVm s₂.vm := by
      have : s₂ = ({ s₂ with vm := (U.calling g mk a).vm } : State).setVm s₂.vm := rfl
      rw [e2] at this
      exact this
    have hf₂ : s₂.frames = .throwing q :: .java g :: U.frames.tail := hend
    have hW' : U.WarmedH s₂.vm := hW₂
    have hs₂ : s₂ = ((({ U with heap := s₂.heap, slotsUsed := s₂.slotsUsed } : State).setVm s₂.vm).setTop g).pushFrame (.throwing q) := by
      refine e3.trans ?_
      rw [hf₂, State.calling_eq h.top, State.setFrames_setFrames, State.pushFrame, State.frames_setTop _ hr', State.setTop_of_frames _ hr', State.setFrames_setFrames, hr]
      rfl
    have hsame : U.sameButNew ({ U with heap := s₂.heap, slotsUsed := s₂.slotsUsed } : State) L mc ms := by
      refine ⟨?_, q2, q3, q4, q5, q6⟩
      obtain ⟨t, ht, -⟩ := State.frames_cons hr
      show ({ U with heap := s₂.heap, slotsUsed := s₂.slotsUsed } : State) = { U.setFrames U.frames with heap := s₂.heap, slotsUsed := s₂.slotsUsed }
      rw [State.setFrames_self ht]
    subst hg
    refine Or.inr ⟨q, ⟨(({ U with heap := s₂.heap, slotsUsed := s₂.slotsUsed } : State).setVm s₂.vm), Ls ++ L, c0 + mc, s0 + ms⟩,
      ⟨X.admits, X.cas, X.clock, X.frames, X.room, X.hears, X.method, X.code, (X.here.setHeapUsed s₂.heap s₂.slotsUsed).setVm hW'.alike, X.tail, State.WarmedH.trans X.warmed hW', X.limits, X.bytes, X.same.trans (hsame.setVm s.vm)⟩,
      ⟨g, mk, s₂, L, E, ce, rfl, rfl, hx, hce, hcv, hcl, rfl, hL, rfl, rfl⟩, ?_⟩
    show Steps p.tables e below _ (((({ U with heap := s₂.heap, slotsUsed := s₂.slotsUsed } : State).setVm s₂.vm).setTop g).pushFrame (.throwing q))
    rw [← hs₂]
    exact hsteps
end Payer
section Calls
variable {p : Program} {l : Launch} {e : Env} {R : Room} {s : State} {m : MethodId} {args : Array Value} {below : List Frame} {meth : Method} {c : Code} {T : State} {locs : List Loc} {cells slots : Nat}
theorem vx_callV (X : Stand p l e R s m args below meth c T locs cells slots) (hexec : p.tables.exec = Jvm.exec) {own C : String} {index : Nat} {y : MethodName} {bytes : ByteArray} {maxL : Nat} {ret : Option FieldType}
    (hown : s.vm.findClass own = some m.cls) (hlink : (Cond.methodLink own index y).before args s = true) (hinst : (Cond.instanceMethod y).before args s = true) (hsel : (Cond.selects C y y).before args s = true)
    (hcode : (Cond.code y bytes maxL ret).before args s = true) (hy : y.cls ≠ "java/lang/invoke/MethodHandle" ∧ y.cls ≠ "java/lang/invoke/VarHandle")
    {W9 : Nat} {Pre : Pt → Array Value → Prop} {Post : Pt → Array Value → Option Value → Pt → Prop} {PostX : Pt → Array Value → Addr → Pt → Prop} (hK : vx_Back l R p e below s args y 3 W9 Pre Post PostX)
    {b : Addr} {cellB : Cell} (hcell : T.heap[b]? = some cellB) (hobj : cellB.vm.isStatics = false) (hcls : s.vm.findClass C = some cellB.cls)
    {g : JFrame} (hg : g.method = m) (hsize : g.locals.size = c.maxLocals) {argsL rest : List Value} (hlen : ∀ sig, parseMethodDescriptor y.desc = some sig → argsL.length = sig.parameters.length)
    (hstack : g.stack = argsL.reverse ++ .ref b :: rest) (hW : 2 * g.monitorRoom + (rest.map fun v => v.category).sum ≤ W9) (hdg : decode c.code g.pc = .ok (.invokevirtual index, 3))
    (hpre : ∀ vm₁, s.WarmedH vm₁ → Pre ⟨T.setVm vm₁, locs, cells, slots⟩ (Value.ref b :: argsL).toArray) :
    (∃ (v : Option Value) (vm₁ : Vm) (B : Pt), s.WarmedH vm₁ ∧ Stand p l e R s m args below meth c B.U B.locs B.cells B.slots ∧ Post ⟨T.setVm vm₁, locs, cells, slots⟩ (Value.ref b :: argsL).toArray v B ∧
      ∀ target, Steps p.tables e below (B.U.setTop { g with pc := g.pc + 3, stack := v.toList ++ rest }) target → Steps p.tables e below (T.setTop g) target) ∨
    (∃ (q : Addr) (vm₁ : Vm) (B : Pt), s.WarmedH vm₁ ∧ Stand p l e R s m args below meth c B.U B.locs B.cells B.slots ∧ PostX ⟨T.setVm vm₁, locs, cells, slots⟩ (Value.ref b :: argsL).toArray q B ∧
      Steps p.tables e below (T.setTop g) ((B.U.setTop { g with stack := rest }).pushFrame (.throwing q))) := by
  obtain ⟨mk, methM, hnamed, hmethM, hstM, habM⟩ := Cond.instanceMethod_spec hinst
  obtain ⟨methM', cM, hmethM', -, -, -, -, -, -, hsigM⟩ := Cond.code_spec hnamed hcode
  cases hmethM.symm.trans hmethM'
  obtain ⟨c2, r2, m2, q1, q2, q3, q4, kP, hkP, hkPi⟩ := Cond.selects_spec hsel
  cases hcls.symm.trans q1
  cases (State.methodFound?_of_named hnamed hy).symm.trans q2
  cases hnamed.symm.trans q3
  have hselP : selectMethod e.platform s.vm cellB.cls mk = .method mk := by rw [Launch.admits_selectMethod X.admits]; exact q4
  obtain ⟨vm₁, X₁, hstep₁⟩ := X.invokevirtual hexec hown hlink hnamed hmethM hstM hkP hkPi hy (a := b) (cell := cellB) hcell
    (fun z h => by rw [h] at hobj; cases hobj) hselP hmethM habM hkP hkPi (g := g) hg (argsL := argsL) (rest := rest) (hlen _ hsigM) hstack hdg
  rcases hK m meth c ⟨T.setVm vm₁, locs, cells, slots⟩ { g with stack := rest } (.invokevirtual index) mk (Value.ref b :: argsL).toArray X₁ hg hsize hdg hW (X₁.named hnamed) (hpre vm₁ X₁.warmed) with ⟨v, B, X', hpost, hsteps⟩ | ⟨q, B, X', hpost, hsteps⟩
  · exact Or.inl ⟨v, vm₁, B, X₁.warmed, X', hpost, fun target h => hstep₁ _ fun acts => by rw [doInvoke_state]; exact hsteps.trans h⟩
  · exact Or.inr ⟨q, vm₁, B, X₁.warmed, X', hpost, hstep₁ _ fun acts => by rw [doInvoke_state]; exact hsteps⟩
theorem vx_callS (X : Stand p l e R s m args below meth c T locs cells slots) (hexec : p.tables.exec = Jvm.exec) {own : String} {index : Nat} {y : MethodName} {bytes : ByteArray} {maxL : Nat} {ret : Option FieldType}
    (hown : s.vm.findClass own = some m.cls) (hlink : (Cond.methodLink own index y).before args s = true) (hstat : (Cond.static y).before args s = true) (hinit : (Cond.initialized y.cls).before args s = true)
    (hcode : (Cond.code y bytes maxL ret).before args s = true) (hy : y.cls ≠ "java/lang/invoke/MethodHandle" ∧ y.cls ≠ "java/lang/invoke/VarHandle")
    {W9 : Nat} {Pre : Pt → Array Value → Prop} {Post : Pt → Array Value → Option Value → Pt → Prop} {PostX : Pt → Array Value → Addr → Pt → Prop} (hK : vx_Back l R p e below s args y 3 W9 Pre Post PostX)
    {g : JFrame} (hg : g.method = m) (hsize : g.locals.size = c.maxLocals) {argsL rest : List Value} (hlen : ∀ sig, parseMethodDescriptor y.desc = some sig → argsL.length = sig.parameters.length)
    (hstack : g.stack = argsL.reverse ++ rest) (hW : 2 * g.monitorRoom + (rest.map fun v => v.category).sum ≤ W9) (hdg : decode c.code g.pc = .ok (.invokestatic index, 3))
    (hpre : ∀ vm₁, s.WarmedH vm₁ → Pre ⟨T.setVm vm₁, locs, cells, slots⟩ argsL.toArray) :
    (∃ (v : Option Value) (vm₁ : Vm) (B : Pt), s.WarmedH vm₁ ∧ Stand p l e R s m args below meth c B.U B.locs B.cells B.slots ∧ Post ⟨T.setVm vm₁, locs, cells, slots⟩ argsL.toArray v B ∧
      ∀ target, Steps p.tables e below (B.U.setTop { g with pc := g.pc + 3, stack := v.toList ++ rest }) target → Steps p.tables e below (T.setTop g) target) ∨
    (∃ (q : Addr) (vm₁ : Vm) (B : Pt), s.WarmedH vm₁ ∧ Stand p l e R s m args below meth c B.U B.locs B.cells B.slots ∧ PostX ⟨T.setVm vm₁, locs, cells, slots⟩ argsL.toArray q B ∧
      Steps p.tables e below (T.setTop g) ((B.U.setTop { g with stack := rest }).pushFrame (.throwing q))) := by
  obtain ⟨mk, hnamed⟩ := Cond.code_named hcode
  obtain ⟨methM, cM, hmethM, -, -, -, -, -, -, hsigM⟩ := Cond.code_spec hnamed hcode
  have hstatic : methM.isStatic = true := Cond.static_spec hnamed hmethM hstat
  obtain ⟨kP, hkP, -⟩ := className_of_methodNamed hnamed
  have hinitP : kP.init = .initialized := Cond.initialized_spec (findClass_of_methodNamed hnamed) hkP hinit
  obtain ⟨vm₁, X₁, hstep₁⟩ := X.invokestatic hexec hown hlink hnamed hmethM hstatic hkP hinitP hy (g := g) hg (argsL := argsL) (rest := rest) (hlen _ hsigM) hstack hdg
  rcases hK m meth c ⟨T.setVm vm₁, locs, cells, slots⟩ { g with stack := rest } (.invokestatic index) mk argsL.toArray X₁ hg hsize hdg hW (X₁.named hnamed) (hpre vm₁ X₁.warmed) with ⟨v, B, X', hpost, hsteps⟩ | ⟨q, B, X', hpost, hsteps⟩
  · exact Or.inl ⟨v, vm₁, B, X₁.warmed, X', hpost, fun target h => hstep₁ _ fun acts => by rw [doInvoke_state]; exact hsteps.trans h⟩
  · exact Or.inr ⟨q, vm₁, B, X₁.warmed, X', hpost, hstep₁ _ fun acts => by rw [doInvoke_state]; exact hsteps⟩
end Calls
theorem vx_cls {s : State} {T : State} {vm₁ : Vm} {E : String} {k : ClassId} (hW : s.WarmedH vm₁) (h : (T.setVm vm₁).vm.findClass E = some k) : s.vm.findClass E = some k := by
  have h1 : vm₁.findClass E = some k := h
  rw [hW.alike.findClass] at h1
  exact h1
/-- the method's frame g, with q thrown over it -/
def vx_W (p : Program) (l : Launch) (e : Env) (R : Room) (s : State) (m : MethodId) (args : Array Value) (below : List Frame) (meth : Method) (c : Code) (H : Heap) (locs : List Loc) (cells slots : Nat) (Q : State → Prop) (g : JFrame) (q : Addr) : Prop :=
  ∀ T : State, T.heap = H → Stand p l e R s m args below meth c T locs cells slots → ∃ t, Steps p.tables e below ((T.setTop g).pushFrame (.throwing q)) t ∧ Q t
def vx_Run (p : Program) (l : Launch) (e : Env) (R : Room) (s : State) (m : MethodId) (args : Array Value) (below : List Frame) (meth : Method) (c : Code) (H : Heap) (locs : List Loc) (cells slots mc ms : Nat) (g : JFrame) (rest : List Value) (Qa : State → Outcome → State → Prop) (XC : String → State → State → Prop) (free : Addr → Prop) : Prop :=
  ∀ T : State, T.heap = H → Stand p l e R s m args below meth c T locs cells slots →
    (∃ (v : Option Value) (st₀ t T' : State) (L : List Loc), st₀.heap = H ∧ Stand p l e R s m args below meth c T' (locs ++ L) (cells + mc) (slots + ms) ∧ (∀ q ∈ L, free q.base) ∧ T'.heap = t.heap ∧ T'.vm = t.vm ∧ Qa st₀ (.returned v) t ∧
      Goes p e below T g T' { g with pc := g.pc + 3, stack := v.toList ++ rest }) ∨
    (∃ (q : Addr) (st₀ t T' : State) (L : List Loc) (E : String) (ce : Cell), st₀.heap = H ∧ Stand p l e R s m args below meth c T' (locs ++ L) (cells + mc) (slots + ms) ∧ (∀ z ∈ L, free z.base) ∧ T'.heap = t.heap ∧ T'.vm = t.vm ∧ XC E st₀ t ∧ t.heap[q]? = some ce ∧ ce.vm = .none ∧ s.vm.findClass E = some ce.cls ∧
      Steps p.tables e below (T.setTop g) ((T'.setTop { g with stack := rest }).pushFrame (.throwing q)))
def vx_X {S : Type} (px : S → Prop) (B : String → S → State → Prop) (A : Nat → Prop) : String → State → State → Prop := fun E st t => ∃ u : S, px u ∧ B E u t ∧ va_F A st t
section Runs
variable {p : Program} {l : Launch} {e : Env} {R : Room} {s : State} {m : MethodId} {args : Array Value} {below : List Frame} {meth : Method} {c : Code} {H : Heap} {locs : List Loc} {cells slots : Nat}
variable {y : MethodName} {bytes cc : ByteArray} {maxL nL mc ms n index : Nat} {ret : Option FieldType} {ws : List Cond} {rm : Room} {Pc : Array Value → State → Prop} {Qc : Array Value → State → Outcome → State → Prop} {XC : String → State → State → Prop} {free : Addr → Prop} {Ts : List Cond} {own C : String} {b : Addr} {As rest : List Value} {g : JFrame}
theorem vx_callBack (cb : CallB R s args own index y bytes maxL ret ws rm mc ms n) (hM : vx_Met l y ws rm Pc Qc XC mc ms free) (hbl : FrameBlind Pc) : vx_Back l R p e below s args y 3 8 (PreOf R mc ms Pc) (PostOf Qc mc ms free) (vx_Post XC mc ms free) := by
  obtain ⟨hrc, hrs, hfr, hlo, hws, hcw, -, hini, -⟩ := cb
  exact vx_back (bytes := bytes) (maxL := maxL) (ret := ret) hM hbl hrc hrs hfr hlo hws hcw (fun a' U hW => word_at hW (Or.inl (by first | rfl | simp [Cond.onTables, Cond.keeps, Cond.steady])) hini)
theorem vx_runV (S : CallFix p m c cc nL s args Ts own) (hM : vx_Met l y ws rm Pc Qc XC mc ms free) (cw : CallW R s args own C index y bytes maxL ret ws rm mc ms n) (hp : PreV s H C b Pc As)
    (hg : g.method = m) (hn : As.length = n) (hsize : g.locals.size = nL) (hstack : g.stack = As.reverse ++ .ref b :: rest) (hW : 2 * g.monitorRoom + (rest.map fun v => v.category).sum ≤ 8) (hdg : decode cc g.pc = .ok (.invokevirtual index, 3)) (hf : cells + mc ≤ R.cells ∧ slots + ms ≤ R.slots) :
    vx_Run p l e R s m args below meth c H locs cells slots mc ms g rest (Qc (Value.ref b :: As).toArray) XC free := by
  have hK : vx_Back l R p e below s args y 3 8 (PreOf R mc ms Pc) (PostOf Qc mc ms free) (vx_Post XC mc ms free) := vx_callBack cw.1 hM hp.1
  obtain ⟨⟨-, -, -, -, -, -, hcode, -, hy, hlen, hl⟩, hin, hse⟩ := cw
  obtain ⟨hx, hb, hml, ho, -⟩ := S
  obtain ⟨-, ⟨cellB, hcB, hoB, hclB⟩, hPc⟩ := hp
  intro T hT X
  rcases vx_callV X hx (C := C) (bytes := bytes) (maxL := maxL) (ret := ret) ho hl hin hse hcode hy hK (by rw [hT]; exact hcB) hoB hclB hg (hsize.trans hml.symm) (argsL := As) (rest := rest) (fun sig h => hn.trans (hlen sig h)) hstack hW (by rw [hb]; exact hdg)
    (fun vm₁ hW₁ => ⟨hf.1, hf.2, hPc (T.setVm vm₁) hT hW₁⟩) with ⟨v, vm₁, ⟨U', l2, c2, s2⟩, hW₁, X', ⟨g', mk, t, L, e1, e2, hq, h1, hL, h2, h3⟩, st⟩ | ⟨q, vm₁, ⟨U', l2, c2, s2⟩, hW₁, X', ⟨g', mk, t, L, E, ce, e1, e2, hq, hce, hcv, hcl, h1, hL, h2, h3⟩, st⟩
  · dsimp only [Pt.U, Pt.locs, Pt.cells, Pt.slots] at X' e1 e2 h1 h2 h3 st
    subst h1; subst h2; subst h3
    exact Or.inl ⟨v, (T.setVm vm₁).calling g' mk (Value.ref b :: As).toArray, t, U', L, hT, X', hL, e1, e2, hq, st⟩
  · dsimp only [Pt.U, Pt.locs, Pt.cells, Pt.slots] at X' e1 e2 h1 h2 h3 st hcl
    subst h1; subst h2; subst h3
    exact Or.inr ⟨q, (T.setVm vm₁).calling g' mk (Value.ref b :: As).toArray, t, U', L, E, ce, hT, X', hL, e1, e2, hq, hce, hcv, vx_cls hW₁ hcl, st⟩
theorem vx_runS (S : CallFix p m c cc nL s args Ts own) (hM : vx_Met l y ws rm Pc Qc XC mc ms free) (cw : CallB R s args own index y bytes maxL ret ws rm mc ms n ∧ (Cond.static y).before args s = true) (hp : PreS s H Pc As)
    (hg : g.method = m) (hn : As.length = n) (hsize : g.locals.size = nL) (hstack : g.stack = As.reverse ++ rest) (hW : 2 * g.monitorRoom + (rest.map fun v => v.category).sum ≤ 8) (hdg : decode cc g.pc = .ok (.invokestatic index, 3)) (hf : cells + mc ≤ R.cells ∧ slots + ms ≤ R.slots) :
    vx_Run p l e R s m args below meth c H locs cells slots mc ms g rest (Qc As.toArray) XC free := by
  have hK : vx_Back l R p e below s args y 3 8 (PreOf R mc ms Pc) (PostOf Qc mc ms free) (vx_Post XC mc ms free) := vx_callBack cw.1 hM hp.1
  obtain ⟨⟨-, -, -, -, -, -, hcode, hini, hy, hlen, hl⟩, hstt⟩ := cw
  obtain ⟨hx, hb, hml, ho, -⟩ := S
  intro T hT X
  rcases vx_callS X hx (bytes := bytes) (maxL := maxL) (ret := ret) ho hl hstt hini hcode hy hK hg (hsize.trans hml.symm) (argsL := As) (rest := rest) (fun sig h => hn.trans (hlen sig h)) hstack hW (by rw [hb]; exact hdg)
    (fun vm₁ hW₁ => ⟨hf.1, hf.2, hp.2 (T.setVm vm₁) hT hW₁⟩) with ⟨v, vm₁, ⟨U', l2, c2, s2⟩, hW₁, X', ⟨g', mk, t, L, e1, e2, hq, h1, hL, h2, h3⟩, st⟩ | ⟨q, vm₁, ⟨U', l2, c2, s2⟩, hW₁, X', ⟨g', mk, t, L, E, ce, e1, e2, hq, hce, hcv, hcl, h1, hL, h2, h3⟩, st⟩
  · dsimp only [Pt.U, Pt.locs, Pt.cells, Pt.slots] at X' e1 e2 h1 h2 h3 st
    subst h1; subst h2; subst h3
    exact Or.inl ⟨v, (T.setVm vm₁).calling g' mk As.toArray, t, U', L, hT, X', hL, e1, e2, hq, st⟩
  · dsimp only [Pt.U, Pt.locs, Pt.cells, Pt.slots] at X' e1 e2 h1 h2 h3 st hcl
    subst h1; subst h2; subst h3
    exact Or.inr ⟨q, (T.setVm vm₁).calling g' mk As.toArray, t, U', L, E, ce, hT, X', hL, e1, e2, hq, hce, hcv, vx_cls hW₁ hcl, st⟩
end Runs
section Rows
variable {p : Program} {l : Launch} {e : Env} {R : Room} {s : State} {m : MethodId} {args : Array Value} {below : List Frame} {meth : Method} {c : Code} {H : Heap} {locs : List Loc} {cells slots : Nat} {Q : State → Prop}
variable {mc ms : Nat} {free : Addr → Prop} {A0 A1 : Nat → Prop} {H0 : Heap} {a : Array Value} {pc : Nat} {ls : Array Slot} {st0 rest : List Value}
theorem vx_keep {st₀ t T' : State} {L : List Loc} (h0 : st₀.heap = H) (e1 : T'.heap = t.heap) (hS : va_S A0 H0 H locs) (hA : ∀ q, q < H.size → A1 q → A0 q) (hf : ∀ q, free q → A0 q) (hL : ∀ q ∈ L, free q.base) (hF : va_F A1 st₀ t) :
    H.size ≤ T'.heap.size ∧ (∀ q : Nat, q < H.size → ¬ A1 q → T'.heap[q]? = H[q]?) ∧ va_S A0 H0 T'.heap (locs ++ L) := by
  obtain ⟨hz, hk⟩ := hF
  rw [h0] at hz hk
  exact ⟨by rw [e1]; exact hz, fun q h1 h2 => by rw [e1]; exact hk q h1 h2,
    ⟨Nat.le_trans hS.1 (by rw [e1]; exact hz), fun q h1 h2 => by rw [e1, hk q (Nat.lt_of_lt_of_le h1 hS.1) (fun z => h2 (hA q (Nat.lt_of_lt_of_le h1 hS.1) z))]; exact hS.2.1 q h1 h2, fun q hq => by
      rcases List.mem_append.mp hq with h | h
      · exact hS.2.2 q h
      · exact hf _ (hL q h)⟩⟩
theorem vx_calli {S SX : Type} {post : Int32 → S → Prop} {px : SX → Prop} {B : S → State → Prop} {BX : String → SX → State → Prop} {AX : Nat → Prop} (hr : vx_Run p l e R s m args below meth c H locs cells slots mc ms (F0 m pc ls st0) rest (va_Qi post B A1 a) (vx_X px BX AX) free) (hS : va_S A0 H0 H locs) (hA : ∀ q, q < H.size → A1 q → A0 q) (hf : ∀ q, free q → A0 q) (hAX : ∀ q, q < H.size → AX q → A0 q)
    (kx : ∀ (E : String) (ce : Cell) (q9 : Addr) (u : SX) (t : State) (H1 : Heap) (locs1 : List Loc), t.heap = H1 → s.vm.Alike t.vm → px u → BX E u t → H.size ≤ H1.size → (∀ q : Nat, q < H.size → ¬ AX q → H1[q]? = H[q]?) → va_S A0 H0 H1 locs1 → H1[q9]? = some ce → ce.vm = .none → s.vm.findClass E = some ce.cls → vx_W p l e R s m args below meth c H1 locs1 (cells + mc) (slots + ms) Q (F0 m pc ls rest) q9)
    (kk : ∀ (r : Int32) (u : S) (t : State) (H1 : Heap) (locs1 : List Loc), t.heap = H1 → s.vm.Alike t.vm → post r u → B u t → H.size ≤ H1.size → (∀ q : Nat, q < H.size → ¬ A1 q → H1[q]? = H[q]?) → va_S A0 H0 H1 locs1 → W p l e R s m args below meth c H1 locs1 (cells + mc) (slots + ms) Q (F0 m (pc + 3) ls (.int r :: rest))) : W p l e R s m args below meth c H locs cells slots Q (F0 m pc ls st0) := by
  intro T hT X
  rcases hr T hT X with ⟨v, st₀, t, T', L, h0, X', hL, e1, e2, ⟨⟨r, u, hv, hp, hb⟩, hF⟩, st⟩ | ⟨q, st₀, t, T', L, E, ce, h0, X', hL, e1, e2, ⟨u, hp, hb, hF⟩, hce, hcv, hcl, st⟩
  · cases hv
    obtain ⟨k1, k2, k3⟩ := vx_keep h0 e1 hS hA hf hL hF
    obtain ⟨t2, a1, b1⟩ := kk r u t T'.heap (locs ++ L) e1.symm (by rw [← e2]; exact X'.warmed.alike) hp hb k1 k2 k3 T' rfl X'
    exact ⟨t2, st t2 a1, b1⟩
  · obtain ⟨k1, k2, k3⟩ := vx_keep h0 e1 hS hAX hf hL hF
    obtain ⟨t2, a1, b1⟩ := kx E ce q u t T'.heap (locs ++ L) e1.symm (by rw [← e2]; exact X'.warmed.alike) hp hb k1 k2 k3 (by rw [e1]; exact hce) hcv hcl T' rfl X'
    exact ⟨t2, st.trans a1, b1⟩
theorem vx_calll {S SX : Type} {post : Int64 → S → Prop} {px : SX → Prop} {B : S → State → Prop} {BX : String → SX → State → Prop} {AX : Nat → Prop} (hr : vx_Run p l e R s m args below meth c H locs cells slots mc ms (F0 m pc ls st0) rest (va_Ql post B A1 a) (vx_X px BX AX) free) (hS : va_S A0 H0 H locs) (hA : ∀ q, q < H.size → A1 q → A0 q) (hf : ∀ q, free q → A0 q) (hAX : ∀ q, q < H.size → AX q → A0 q)
    (kx : ∀ (E : String) (ce : Cell) (q9 : Addr) (u : SX) (t : State) (H1 : Heap) (locs1 : List Loc), t.heap = H1 → s.vm.Alike t.vm → px u → BX E u t → H.size ≤ H1.size → (∀ q : Nat, q < H.size → ¬ AX q → H1[q]? = H[q]?) → va_S A0 H0 H1 locs1 → H1[q9]? = some ce → ce.vm = .none → s.vm.findClass E = some ce.cls → vx_W p l e R s m args below meth c H1 locs1 (cells + mc) (slots + ms) Q (F0 m pc ls rest) q9)
    (kk : ∀ (r : Int64) (u : S) (t : State) (H1 : Heap) (locs1 : List Loc), t.heap = H1 → s.vm.Alike t.vm → post r u → B u t → H.size ≤ H1.size → (∀ q : Nat, q < H.size → ¬ A1 q → H1[q]? = H[q]?) → va_S A0 H0 H1 locs1 → W p l e R s m args below meth c H1 locs1 (cells + mc) (slots + ms) Q (F0 m (pc + 3) ls (.long r :: rest))) : W p l e R s m args below meth c H locs cells slots Q (F0 m pc ls st0) := by
  intro T hT X
  rcases hr T hT X with ⟨v, st₀, t, T', L, h0, X', hL, e1, e2, ⟨⟨r, u, hv, hp, hb⟩, hF⟩, st⟩ | ⟨q, st₀, t, T', L, E, ce, h0, X', hL, e1, e2, ⟨u, hp, hb, hF⟩, hce, hcv, hcl, st⟩
  · cases hv
    obtain ⟨k1, k2, k3⟩ := vx_keep h0 e1 hS hA hf hL hF
    obtain ⟨t2, a1, b1⟩ := kk r u t T'.heap (locs ++ L) e1.symm (by rw [← e2]; exact X'.warmed.alike) hp hb k1 k2 k3 T' rfl X'
    exact ⟨t2, st t2 a1, b1⟩
  · obtain ⟨k1, k2, k3⟩ := vx_keep h0 e1 hS hAX hf hL hF
    obtain ⟨t2, a1, b1⟩ := kx E ce q u t T'.heap (locs ++ L) e1.symm (by rw [← e2]; exact X'.warmed.alike) hp hb k1 k2 k3 (by rw [e1]; exact hce) hcv hcl T' rfl X'
    exact ⟨t2, st.trans a1, b1⟩
theorem vx_callf {S SX : Type} {post : UInt32 → S → Prop} {px : SX → Prop} {B : S → State → Prop} {BX : String → SX → State → Prop} {AX : Nat → Prop} (hr : vx_Run p l e R s m args below meth c H locs cells slots mc ms (F0 m pc ls st0) rest (va_Qf post B A1 a) (vx_X px BX AX) free) (hS : va_S A0 H0 H locs) (hA : ∀ q, q < H.size → A1 q → A0 q) (hf : ∀ q, free q → A0 q) (hAX : ∀ q, q < H.size → AX q → A0 q)
    (kx : ∀ (E : String) (ce : Cell) (q9 : Addr) (u : SX) (t : State) (H1 : Heap) (locs1 : List Loc), t.heap = H1 → s.vm.Alike t.vm → px u → BX E u t → H.size ≤ H1.size → (∀ q : Nat, q < H.size → ¬ AX q → H1[q]? = H[q]?) → va_S A0 H0 H1 locs1 → H1[q9]? = some ce → ce.vm = .none → s.vm.findClass E = some ce.cls → vx_W p l e R s m args below meth c H1 locs1 (cells + mc) (slots + ms) Q (F0 m pc ls rest) q9)
    (kk : ∀ (r : UInt32) (u : S) (t : State) (H1 : Heap) (locs1 : List Loc), t.heap = H1 → s.vm.Alike t.vm → post r u → B u t → H.size ≤ H1.size → (∀ q : Nat, q < H.size → ¬ A1 q → H1[q]? = H[q]?) → va_S A0 H0 H1 locs1 → W p l e R s m args below meth c H1 locs1 (cells + mc) (slots + ms) Q (F0 m (pc + 3) ls (.float r :: rest))) : W p l e R s m args below meth c H locs cells slots Q (F0 m pc ls st0) := by
  intro T hT X
  rcases hr T hT X with ⟨v, st₀, t, T', L, h0, X', hL, e1, e2, ⟨⟨r, u, hv, hp, hb⟩, hF⟩, st⟩ | ⟨q, st₀, t, T', L, E, ce, h0, X', hL, e1, e2, ⟨u, hp, hb, hF⟩, hce, hcv, hcl, st⟩
  · cases hv
    obtain ⟨k1, k2, k3⟩ := vx_keep h0 e1 hS hA hf hL hF
    obtain ⟨t2, a1, b1⟩ := kk r u t T'.heap (locs ++ L) e1.symm (by rw [← e2]; exact X'.warmed.alike) hp hb k1 k2 k3 T' rfl X'
    exact ⟨t2, st t2 a1, b1⟩
  · obtain ⟨k1, k2, k3⟩ := vx_keep h0 e1 hS hAX hf hL hF
    obtain ⟨t2, a1, b1⟩ := kx E ce q u t T'.heap (locs ++ L) e1.symm (by rw [← e2]; exact X'.warmed.alike) hp hb k1 k2 k3 (by rw [e1]; exact hce) hcv hcl T' rfl X'
    exact ⟨t2, st.trans a1, b1⟩
theorem vx_calld {S SX : Type} {post : UInt64 → S → Prop} {px : SX → Prop} {B : S → State → Prop} {BX : String → SX → State → Prop} {AX : Nat → Prop} (hr : vx_Run p l e R s m args below meth c H locs cells slots mc ms (F0 m pc ls st0) rest (va_Qd post B A1 a) (vx_X px BX AX) free) (hS : va_S A0 H0 H locs) (hA : ∀ q, q < H.size → A1 q → A0 q) (hf : ∀ q, free q → A0 q) (hAX : ∀ q, q < H.size → AX q → A0 q)
    (kx : ∀ (E : String) (ce : Cell) (q9 : Addr) (u : SX) (t : State) (H1 : Heap) (locs1 : List Loc), t.heap = H1 → s.vm.Alike t.vm → px u → BX E u t → H.size ≤ H1.size → (∀ q : Nat, q < H.size → ¬ AX q → H1[q]? = H[q]?) → va_S A0 H0 H1 locs1 → H1[q9]? = some ce → ce.vm = .none → s.vm.findClass E = some ce.cls → vx_W p l e R s m args below meth c H1 locs1 (cells + mc) (slots + ms) Q (F0 m pc ls rest) q9)
    (kk : ∀ (r : UInt64) (u : S) (t : State) (H1 : Heap) (locs1 : List Loc), t.heap = H1 → s.vm.Alike t.vm → post r u → B u t → H.size ≤ H1.size → (∀ q : Nat, q < H.size → ¬ A1 q → H1[q]? = H[q]?) → va_S A0 H0 H1 locs1 → W p l e R s m args below meth c H1 locs1 (cells + mc) (slots + ms) Q (F0 m (pc + 3) ls (.double r :: rest))) : W p l e R s m args below meth c H locs cells slots Q (F0 m pc ls st0) := by
  intro T hT X
  rcases hr T hT X with ⟨v, st₀, t, T', L, h0, X', hL, e1, e2, ⟨⟨r, u, hv, hp, hb⟩, hF⟩, st⟩ | ⟨q, st₀, t, T', L, E, ce, h0, X', hL, e1, e2, ⟨u, hp, hb, hF⟩, hce, hcv, hcl, st⟩
  · cases hv
    obtain ⟨k1, k2, k3⟩ := vx_keep h0 e1 hS hA hf hL hF
    obtain ⟨t2, a1, b1⟩ := kk r u t T'.heap (locs ++ L) e1.symm (by rw [← e2]; exact X'.warmed.alike) hp hb k1 k2 k3 T' rfl X'
    exact ⟨t2, st t2 a1, b1⟩
  · obtain ⟨k1, k2, k3⟩ := vx_keep h0 e1 hS hAX hf hL hF
    obtain ⟨t2, a1, b1⟩ := kx E ce q u t T'.heap (locs ++ L) e1.symm (by rw [← e2]; exact X'.warmed.alike) hp hb k1 k2 k3 (by rw [e1]; exact hce) hcv hcl T' rfl X'
    exact ⟨t2, st.trans a1, b1⟩
theorem vx_callv {S SX : Type} {post : S → Prop} {px : SX → Prop} {B : S → State → Prop} {BX : String → SX → State → Prop} {AX : Nat → Prop} (hr : vx_Run p l e R s m args below meth c H locs cells slots mc ms (F0 m pc ls st0) rest (va_Qv post B A1 a) (vx_X px BX AX) free) (hS : va_S A0 H0 H locs) (hA : ∀ q, q < H.size → A1 q → A0 q) (hf : ∀ q, free q → A0 q) (hAX : ∀ q, q < H.size → AX q → A0 q)
    (kx : ∀ (E : String) (ce : Cell) (q9 : Addr) (u : SX) (t : State) (H1 : Heap) (locs1 : List Loc), t.heap = H1 → s.vm.Alike t.vm → px u → BX E u t → H.size ≤ H1.size → (∀ q : Nat, q < H.size → ¬ AX q → H1[q]? = H[q]?) → va_S A0 H0 H1 locs1 → H1[q9]? = some ce → ce.vm = .none → s.vm.findClass E = some ce.cls → vx_W p l e R s m args below meth c H1 locs1 (cells + mc) (slots + ms) Q (F0 m pc ls rest) q9)
    (kk : ∀ (u : S) (t : State) (H1 : Heap) (locs1 : List Loc), t.heap = H1 → s.vm.Alike t.vm → post u → B u t → H.size ≤ H1.size → (∀ q : Nat, q < H.size → ¬ A1 q → H1[q]? = H[q]?) → va_S A0 H0 H1 locs1 → W p l e R s m args below meth c H1 locs1 (cells + mc) (slots + ms) Q (F0 m (pc + 3) ls (rest))) : W p l e R s m args below meth c H locs cells slots Q (F0 m pc ls st0) := by
  intro T hT X
  rcases hr T hT X with ⟨v, st₀, t, T', L, h0, X', hL, e1, e2, ⟨⟨u, hv, hp, hb⟩, hF⟩, st⟩ | ⟨q, st₀, t, T', L, E, ce, h0, X', hL, e1, e2, ⟨u, hp, hb, hF⟩, hce, hcv, hcl, st⟩
  · cases hv
    obtain ⟨k1, k2, k3⟩ := vx_keep h0 e1 hS hA hf hL hF
    obtain ⟨t2, a1, b1⟩ := kk u t T'.heap (locs ++ L) e1.symm (by rw [← e2]; exact X'.warmed.alike) hp hb k1 k2 k3 T' rfl X'
    exact ⟨t2, st t2 a1, b1⟩
  · obtain ⟨k1, k2, k3⟩ := vx_keep h0 e1 hS hAX hf hL hF
    obtain ⟨t2, a1, b1⟩ := kx E ce q u t T'.heap (locs ++ L) e1.symm (by rw [← e2]; exact X'.warmed.alike) hp hb k1 k2 k3 (by rw [e1]; exact hce) hcv hcl T' rfl X'
    exact ⟨t2, st.trans a1, b1⟩
/-- caught by the row x of this method's table; the rows ahead don't take it -/
theorem vx_catch {own name : String} {E : String} {ce : Cell} {q : Addr} (hown : s.vm.findClass own = some m.cls) (pre : List ExceptionTableEntry) (x : ExceptionTableEntry) (suf : List ExceptionTableEntry) (hsplit : c.exceptionTable.toList = pre ++ x :: suf)
    (hpass : ∀ z ∈ pre, covers z pc = false ∨ (z.catchType ≠ 0 ∧ ∃ nm : String, (Cond.classLink own z.catchType nm).before args s = true ∧ va_Nc E nm s)) (hx : covers x pc = true) (h0 : x.catchType ≠ 0)
    (hlink : (Cond.classLink own x.catchType name).before args s = true) (hcast : (Cond.castable E name).before args s = true) (hcell : H[q]? = some ce) (hv : ce.vm = .none) (hcl : s.vm.findClass E = some ce.cls)
    (kk : W p l e R s m args below meth c H locs cells slots Q (F0 m x.handlerPc ls [.ref q])) : vx_W p l e R s m args below meth c H locs cells slots Q (F0 m pc ls rest) q := by
  intro T hT X
  have hpl : e.platform.magicAccessors = ({} : Platform).magicAccessors := by rw [X.admits.platform]
  obtain ⟨c3, c4, hc3, hc4, hasg⟩ := Cond.castable_spec hcast
  cases Option.some.inj (hc3.symm.trans hcl)
  obtain ⟨c5, hc5, hcl5⟩ := Cond.classLink_spec hown hlink e.platform hpl
  cases Option.some.inj (hc4.symm.trans hc5)
  obtain ⟨vm', X', st⟩ := X.thenCaughtThrough q (g := F0 m pc ls rest) rfl (Steps.refl _) (by rw [hT]; exact hcell) (by rw [hv]; rfl) (by obtain ⟨k9, h9, -⟩ := Vm.findClass_spec hcl; exact ⟨k9, h9⟩) pre x suf hsplit
    (fun z hz => by
      rcases hpass z hz with h | ⟨hz0, nm, hl1, hn1⟩
      · exact Or.inl h
      · obtain ⟨c6, hc6, hcl6⟩ := Cond.classLink_spec hown hl1 e.platform hpl
        obtain ⟨a8, b8, h1, h2, h3⟩ := hn1
        cases Option.some.inj (h1.symm.trans hcl)
        cases Option.some.inj (h2.symm.trans hc6)
        exact Or.inr ⟨hz0, _, hcl6, h3⟩) hx (Or.inr ⟨h0, c4, hcl5, hasg⟩)
  obtain ⟨t, a1, b1⟩ := kk (T.setVm vm') hT X'
  exact ⟨t, st.trans a1, b1⟩
end Rows
section Ends
variable {p : Program} {l : Launch} {e : Env} {R : Room} {s : State} {m : MethodId} {args : Array Value} {below : List Frame} {meth : Method} {c : Code} {H : Heap} {locs : List Loc} {cells slots : Nat} {Q : State → Prop}
variable {mc ms : Nat} {free : Addr → Prop} {A0 A1 : Nat → Prop} {H0 : Heap} {a : Array Value} {ls : Array Slot} {st0 rest : List Value}
variable {Qc : Array Value → State → Outcome → State → Prop} {XC : String → State → State → Prop}
/-- what a body that may throw owes at its end -/
def vx_MQ (below : List Frame) (Qc : Array Value → State → Outcome → State → Prop) (XC : String → State → State → Prop) (a : Array Value) (s : State) (mc ms : Nat) (free : Addr → Prop) : State → Prop := fun t =>
  ∃ o, t.status = .running ∧ Ended t below o ∧ vx_Q Qc XC mc ms free a s o t
theorem vx_ret {g : JFrame} {mc ms : Nat} (k : W p l e R s m args below meth c H locs cells slots (MQ below Qc args s mc ms free) g) : W p l e R s m args below meth c H locs cells slots (vx_MQ below Qc XC args s mc ms free) g := by
  intro T hT X
  obtain ⟨t, a1, o, b1, b2, b3, b4⟩ := k T hT X
  exact ⟨t, a1, o, b1, b2, Or.inl ⟨b3, b4⟩⟩
/-- not caught here: it goes on to the caller -/
theorem vx_widen {g : JFrame} {q : Addr} {k n : Nat} (h1 : cells ≤ k) (h2 : slots ≤ n) (kk : vx_W p l e R s m args below meth c H locs k n Q g q) : vx_W p l e R s m args below meth c H locs cells slots Q g q := fun T hT X => kk T hT (stand_widen X h1 h2)
theorem vx_out {pc : Nat} {E : String} {ce : Cell} {q : Addr} {mc ms : Nat} (hout : ∀ x ∈ c.exceptionTable.toList, covers x pc = false) (hlocks : meth.locks = false) (hcell : H[q]? = some ce) (hv : ce.vm = .none) (hcl : s.vm.findClass E = some ce.cls)
    (hx : ∀ t : State, t.heap = H → s.vm.Alike t.vm → XC E s t) (hf : ∀ z ∈ locs, free z.base) (hc : cells ≤ mc) (hs : slots ≤ ms) :
    vx_W p l e R s m args below meth c H locs cells slots (vx_MQ below Qc XC args s mc ms free) (F0 m pc ls rest) q := by
  intro T hT X
  obtain ⟨st1, hrun, hend, hW, hsm⟩ := X.leaveThrown q (g := F0 m pc ls rest) rfl rfl rfl hout hlocks
  have hcell9 : (T.setFrames (.throwing q :: below)).heap[q]? = some ce := by
    show T.heap[q]? = some ce
    rw [hT]; exact hcell
  exact ⟨_, st1, .threw q, hrun, hend, Or.inr ⟨q, rfl, E, ce, locs, hx _ hT hW.alike, hcell9, hv, hcl, hW, hsm.mono hc hs, hf⟩⟩
theorem vx_frame {U : State} {k n : Nat} (h : s.sameButNew ({ U with vm := s.vm } : State) locs k n) : s.heap.size ≤ U.heap.size ∧ ∀ q : Nat, q < s.heap.size → (∀ z ∈ locs, z.base ≠ q) → U.heap[q]? = s.heap[q]? := by
  obtain ⟨-, h2, -, -, -, h6⟩ := h
  refine ⟨h2, fun q hq hz => ?_⟩
  obtain ⟨c9, e1, e2, e3, e4⟩ := h6 q _ (Array.getElem?_eq_getElem hq)
  have hs : c9.slots = (s.heap[q]).slots := Array.ext_getElem? fun i => e4 i fun hm => hz _ hm rfl
  have h9 : c9 = s.heap[q] := by
    rw [hs] at e2
    exact e2
  have e5 : U.heap[q]? = some c9 := e1
  rw [e5, h9, Array.getElem?_eq_getElem hq]
/-- the words of a throw but the four that speak of the heap -/
def vx_no (w : Cond) : Bool := decide (w ≠ .isRef (.static Bundle.tN "UNASSIGNED_STACK" Bundle.steD)) && decide (w ≠ .isRef (.static Bundle.tN "SUPPRESSED_SENTINEL" Bundle.listD)) && decide (w ≠ .laysStatic Bundle.tN "UNASSIGNED_STACK" Bundle.steD) && decide (w ≠ .laysStatic Bundle.tN "SUPPRESSED_SENTINEL" Bundle.listD)
def vx_at0 (own : String) (ic : Nat) (X : String) (names : List String) : List Cond := (Bundle.ownAtoms0 own ic X names).filter vx_no
def vx_atS (own : String) (ic : Nat) (X : String) (names : List String) : List Cond := (Bundle.ownAtoms own ic X names).filter vx_no
/-- a word that the tables alone decide, or a good one -/
def vx_ot (w : Cond) : Bool := w.onTables || goodWord w
theorem vx_ot_at {args a' : Array Value} {s U : State} {w : Cond} (hW : s.WarmedH U.vm) (hvm : s.vm = U.vm) (hg : vx_ot w = true) (h : w.before args s = true) : w.before a' U = true := by
  simp only [vx_ot, Bool.or_eq_true] at hg
  rcases hg with hg | hg
  · exact va_tabs hg hvm h
  · exact word_at hW (good_of_word hg) h
/-- a list's words: the good ones out of the method's own list, the others by premises of their own -/
theorem vx_hat {args : Array Value} {s : State} {L B : List Cond} (h1 : ∀ w ∈ L.filter goodWord, w.before args s = true) (h2 : ∀ w ∈ L.filter (fun w => !goodWord w), w ∈ B) (h3 : ∀ w ∈ B, w.before args s = true) : ∀ w ∈ L, w.before args s = true := by
  intro w hw
  by_cases g : goodWord w = true
  · exact h1 w (List.mem_filter.mpr ⟨hw, g⟩)
  · refine h3 w (h2 w (List.mem_filter.mpr ⟨hw, ?_⟩))
    show (!goodWord w) = true
    cases hgw : goodWord w
    · rfl
    · exact absurd hgw g
theorem vx_c {args : Array Value} {s : State} {w : Cond} {B : List Cond} (h : w.before args s = true) (t : ∀ w ∈ B, w.before args s = true) : ∀ w' ∈ w :: B, w'.before args s = true := fun w' h' => (List.mem_cons.mp h').elim (fun e => by rw [e]; exact h) (t w')
theorem vx_n {args : Array Value} {s : State} : ∀ w ∈ ([] : List Cond), w.before args s = true := fun _ h => nomatch h
theorem vx_own {args : Array Value} {s : State} {L : List Cond} (h1 : ∀ w ∈ L.filter vx_no, w.before args s = true)
    (hU : (Cond.isRef (.static Bundle.tN "UNASSIGNED_STACK" Bundle.steD)).before args s = true) (hN : (Cond.isRef (.static Bundle.tN "SUPPRESSED_SENTINEL" Bundle.listD)).before args s = true)
    (lU : (Cond.laysStatic Bundle.tN "UNASSIGNED_STACK" Bundle.steD).before args s = true) (lN : (Cond.laysStatic Bundle.tN "SUPPRESSED_SENTINEL" Bundle.listD).before args s = true) : ∀ w ∈ L, w.before args s = true := by
  intro w hw
  by_cases e1 : w = .isRef (.static Bundle.tN "UNASSIGNED_STACK" Bundle.steD)
  · rw [e1]; exact hU
  · by_cases e2 : w = .isRef (.static Bundle.tN "SUPPRESSED_SENTINEL" Bundle.listD)
    · rw [e2]; exact hN
    · by_cases e3 : w = .laysStatic Bundle.tN "UNASSIGNED_STACK" Bundle.steD
      · rw [e3]; exact lU
      · by_cases e4 : w = .laysStatic Bundle.tN "SUPPRESSED_SENTINEL" Bundle.listD
        · rw [e4]; exact lN
        · exact h1 w (List.mem_filter.mpr ⟨hw, by unfold vx_no; rw [decide_eq_true e1, decide_eq_true e2, decide_eq_true e3, decide_eq_true e4]; rfl⟩)
/-- where a static field lies, its class's statics cell in H -/
def vx_L (C n d : String) (A : Nat → Prop) (U : State) (H : Heap) : Prop := ∃ (c : ClassId) (k : Class) (i : Nat) (f : Field) (a : Nat) (cell : Cell), U.vm.findClass C = some c ∧ U.fieldFound? C n d = some (c, k, i, f) ∧ f.isStatic = true ∧ k.statics = some a ∧ H[a]? = some cell ∧ cell.vm.isStatics = true ∧ cell.cls = c ∧ f.slot < cell.slots.size ∧ k.staticTypes[f.slot]? = some f.type ∧ ¬ A a
theorem vx_L.moved {C n d : String} {A : Nat → Prop} {u U : State} {H : Heap} (hvm : u.vm.Alike U.vm) (h : vx_L C n d A u H) : vx_L C n d A U H := by
  obtain ⟨c, k, i, f, a, cell, h1, h2, h3, h4, h5, h6, h7, h8, h9, h10⟩ := h
  obtain ⟨k', hi', he⟩ := State.fieldFound?_setVm hvm h2
  exact ⟨c, k', i, f, a, cell, by rw [hvm.findClass]; exact h1, hi', h3, by rw [he]; exact h4, h5, h6, h7, h8, by rw [he]; exact h9, h10⟩
theorem vx_L.kept {C n d : String} {A : Nat → Prop} {U : State} {H H1 : Heap} (h : vx_L C n d A U H) (hq : ∀ a : Nat, a < H.size → ¬ A a → H1[a]? = H[a]?) : vx_L C n d A U H1 := by
  obtain ⟨c, k, i, f, a, cell, h1, h2, h3, h4, h5, h6, h7, h8, h9, h10⟩ := h
  exact ⟨c, k, i, f, a, cell, h1, h2, h3, h4, by rw [hq a (Array.getElem?_eq_some_iff.mp h5).1 h10]; exact h5, h6, h7, h8, h9, h10⟩
theorem vx_L.narrow {C n d : String} {A B : Nat → Prop} {U : State} {H : Heap} (h : vx_L C n d A U H) (hAB : ∀ q, B q → A q) : vx_L C n d B U H := by
  obtain ⟨c, k, i, f, a, cell, h1, h2, h3, h4, h5, h6, h7, h8, h9, h10⟩ := h
  exact ⟨c, k, i, f, a, cell, h1, h2, h3, h4, h5, h6, h7, h8, h9, fun z => h10 (hAB _ z)⟩
theorem vx_L.word {C n d : String} {A : Nat → Prop} {s : State} {args : Array Value} (h : vx_L C n d A s s.heap) : (Cond.laysStatic C n d).before args s = true := by
  obtain ⟨c, k, i, f, a, cell, h1, h2, h3, h4, h5, h6, h7, h8, h9, -⟩ := h
  show (Cond.laysStatic C n d).holds args s none s [] = true
  exact Cond.laysStatic_of h1 h2 h3 h4 h5 h6 h7 h8 h9
/-- .. and what it holds: null or some reference -/
def vx_Zq (C n d : String) (A : Nat → Prop) (U : State) (H : Heap) : Prop := va_Zq C n d A U H ∧ vx_L C n d A U H
theorem vx_Zq.moved {C n d : String} {A : Nat → Prop} {u U : State} {H : Heap} (hvm : u.vm.Alike U.vm) (h : vx_Zq C n d A u H) : vx_Zq C n d A U H := ⟨va_Zq.moved hvm h.1, vx_L.moved hvm h.2⟩
theorem vx_Zq.kept {C n d : String} {A : Nat → Prop} {U : State} {H H1 : Heap} (h : vx_Zq C n d A U H) (hq : ∀ a : Nat, a < H.size → ¬ A a → H1[a]? = H[a]?) : vx_Zq C n d A U H1 := ⟨va_Zq.kept h.1 hq, vx_L.kept h.2 hq⟩
theorem vx_Zq.narrow {C n d : String} {A B : Nat → Prop} {U : State} {H : Heap} (h : vx_Zq C n d A U H) (hAB : ∀ q, B q → A q) : vx_Zq C n d B U H := ⟨va_Zq.narrow h.1 hAB, vx_L.narrow h.2 hAB⟩
theorem vx_Zqof {args : Array Value} {s : State} {C n d : String} {A : Nat → Prop} (hl : (Cond.laysStatic C n d).before args s = true) (hini : (Cond.initialized C).before args s = true) (h : (Cond.isRef (.static C n d)).before args s = true) (hA : ∀ a : Nat, a < s.heap.size → ¬ A a) : vx_Zq C n d A s s.heap := by
  refine ⟨va_Zqof hl hini h hA, ?_⟩
  obtain ⟨c, k, i, f, a, cell, h1, h2, h3, h4, h5, h6, h7, h8, h9⟩ := Cond.laysStatic_spec hl
  exact ⟨c, k, i, f, a, cell, h1, h2, h3, h4, h5, h6, h7, h8, h9, hA a (Array.getElem?_eq_some_iff.mp h5).1⟩
theorem vx_isRef {C n d : String} {v : Value} {A : Nat → Prop} {s : State} {args : Array Value} (h : va_Z C n d v A s s.heap) (hv : v.isRef = true) : (Cond.isRef (.static C n d)).before args s = true := by
  obtain ⟨cf, kf, fi, f, a, cell, h1, h2, h3, h4, h5, h6, h7, -⟩ := h
  have he : (Term.static C n d).eval args s none [] s = some v := by
    simp [Term.eval, State.fieldNamed?, h1, h2, h4, h5, h6, h7]
  simp only [Cond.before, Cond.holds, Cond.value, he]
  cases v <;> simp_all [Value.isRef]
theorem vx_isRefq {C n d : String} {A : Nat → Prop} {s : State} {args : Array Value} (h : va_Zq C n d A s s.heap) : (Cond.isRef (.static C n d)).before args s = true := by
  rcases h with h | ⟨t, h⟩
  · exact vx_isRef h rfl
  · exact vx_isRef h rfl
/-- the same frame, seen from here: as if the method were called anew in this heap -/
theorem vx_rebase {T : State} (X : Stand p l e R s m args below meth c T locs cells slots) {R' : Room} (hf : R'.frames ≤ R.frames) (hl : R'.locals ≤ R.locals) (hc : cells + R'.cells ≤ R.cells) (hs : slots + R'.slots ≤ R.slots) :
    Stand p l e R' ((T.setVm s.vm).setFrames (.invoking m args :: below)) m args below meth c T [] 0 0 := by
  have htop : (T.setVm s.vm).topJava?.isSome := X.here.top
  have hF : ((T.setVm s.vm).setFrames (.invoking m args :: below)).frames = .invoking m args :: below := State.frames_setFrames _ (State.cur_lt_of_top htop)
  obtain ⟨g₀, hg0⟩ := Option.isSome_iff_exists.mp htop
  obtain ⟨r, hr⟩ := State.topJava?_eq_some.mp hg0
  have hl9 : e.platform.stackLimits (T.setVm s.vm).me = e.platform.stackLimits s.me := X.limits
  have hb9 : (T.setVm s.vm).me.stackBytes = s.me.stackBytes := X.bytes
  refine ⟨X.admits, X.cas, X.clock, hF, ?_, X.hears, X.method, X.code, X.here, X.tail, X.warmed, ?_, ?_, ?_⟩
  · have h := X.room
    have hU : ((T.setVm s.vm).setFrames (.invoking m args :: below)).localsInUse = s.localsInUse := by
      rw [State.localsInUse_invoking hF (meth := meth) (c := c) X.method X.code, State.localsInUse_invoking X.frames X.method X.code]
    simp only [State.hasRoom, Bool.and_eq_true, decide_eq_true_eq] at h ⊢
    obtain ⟨⟨⟨⟨h1, h2, h3, h4, h5, h6⟩, h7⟩, h8⟩, h9⟩ := h
    rw [X.frames, List.length_cons] at h2 h3
    have q1 := X.heapSize
    have q2 := X.used
    simp only [hF, hU, List.length_cons, State.stackLimits_setFrames, State.stackBytes_setFrames, hl9, hb9]
    refine ⟨⟨⟨⟨by omega, by omega, by omega, by omega, by omega, h6⟩, ?_⟩, ?_⟩, X.book⟩
    · show T.heap.size + R'.cells ≤ e.platform.maxCells
      omega
    · show T.slotsUsed + R'.slots ≤ e.platform.maxSlots
      omega
  · rw [State.stackLimits_setFrames]; rfl
  · rw [State.stackBytes_setFrames]; rfl
  · refine ⟨?_, Nat.le_refl _, Nat.le_refl _, ?_, ?_, fun a c9 h9 => ⟨c9, h9, rfl, rfl, fun _ _ => rfl⟩⟩
    · obtain ⟨t, ht, -⟩ := State.frames_cons hr
      show T.setVm s.vm = { ((T.setVm s.vm).setFrames (.invoking m args :: below)).setFrames (T.setVm s.vm).frames with heap := T.heap, slotsUsed := T.slotsUsed }
      rw [State.setFrames_setFrames, State.setFrames_self ht]
      rfl
    · show T.slotsUsed = T.slotsUsed + ((T.heap.toList.drop T.heap.size).map (·.slots.size)).sum
      rw [List.drop_eq_nil_of_le (Nat.le_of_eq Array.length_toList)]
      rfl
    · show ((T.heap.toList.drop T.heap.size).map (·.slots.size)).sum ≤ 0
      rw [List.drop_eq_nil_of_le (Nat.le_of_eq Array.length_toList)]
      exact Nat.le_refl _
/-- 'throw new E()': new; dup; invokespecial; athrow -/
theorem vx_throw0 {cc : ByteArray} {pc : Nat} (hexec : p.tables.exec = Jvm.exec) (hb : c.code = cc) (hl : l.stackTraces = false) {own cls : String} {names : List String} {ik ic mc ms : Nat} {A : Nat → Prop}
    (hown : s.vm.findClass own = some m.cls) (hcls : Bundle.fit cls = true) (hnames : ∀ n ∈ names, Bundle.fit n = true)
    (hk : (Cond.classLink own ik cls).before args s = true) (hini : (Cond.initialized cls).before args s = true) (hat : ∀ w ∈ vx_at0 own ic cls names, w.before args s = true)
    (hgood : ∀ w ∈ Cond.classLink own ik cls :: Cond.initialized cls :: vx_at0 own ic cls names, vx_ot w = true)
    (hU : vx_Zq Bundle.tN "UNASSIGNED_STACK" Bundle.steD A s s.heap) (hN : vx_Zq Bundle.tN "SUPPRESSED_SENTINEL" Bundle.listD A s s.heap) (hS : va_S A s.heap H locs) (hsize : ls.size = c.maxLocals)
    (d0 : decode cc pc = .ok (.new ik, 3)) (d3 : decode cc (pc + 3) = .ok (.dup, 1)) (d4 : decode cc (pc + 4) = .ok (.invokespecial ic, 3)) (d7 : decode cc (pc + 7) = .ok (.athrow, 1))
    (hout : ∀ x ∈ c.exceptionTable.toList, covers x (pc + 7) = false)
    (hRframes : names.length + 3 < R.frames) (hRlocals : (rest.map fun v => v.category).sum + (13 * (names.length + 1) + 42) ≤ R.locals) (hRcells : cells + 1 ≤ R.cells) (hRslots : slots + 6 ≤ R.slots) (hlocks : meth.locks = false)
    (hx : ∀ t : State, s.vm.Alike t.vm → H.size ≤ t.heap.size → (∀ q : Nat, q < H.size → t.heap[q]? = H[q]?) → XC cls s t)
    (hf : ∀ z ∈ locs, free z.base) (hc : cells + 1 ≤ mc) (hs : slots + 6 ≤ ms) :
    W p l e R s m args below meth c H locs cells slots (vx_MQ below Qc XC args s mc ms free) (F0 m pc ls rest) := by
  intro T hT X
  have htr : e.platform.stackTraces = false := (show e.platform.stackTraces = l.stackTraces by rw [X.admits.platform]).trans hl
  have Y := vx_rebase X (R' := { frames := R.frames, locals := R.locals, cells := 1, slots := 6 }) (Nat.le_refl _) (Nat.le_refl _) hRcells hRslots
  obtain ⟨s', hA⟩ : ∃ z, z = (T.setVm s.vm).setFrames (.invoking m args :: below) := ⟨_, rfl⟩
  rw [← hA] at Y
  have hvm : s'.vm = s.vm := by rw [hA]; rfl
  have hhp : s'.heap = H := by rw [hA]; exact hT
  have hW0 : s.WarmedH s'.vm := by rw [hvm]; exact State.WarmedH.refl s
  have hat' : ∀ w ∈ vx_at0 own ic cls names, w.before args s' = true := fun w hw => vx_ot_at hW0 hvm.symm (hgood w (List.mem_cons_of_mem _ (List.mem_cons_of_mem _ hw))) (hat w hw)
  have hk' : (Cond.classLink own ik cls).before args s' = true := vx_ot_at hW0 hvm.symm (hgood _ List.mem_cons_self) hk
  have hini' : (Cond.initialized cls).before args s' = true := vx_ot_at hW0 hvm.symm (hgood _ (List.mem_cons_of_mem _ List.mem_cons_self)) hini
  have hU' : vx_Zq Bundle.tN "UNASSIGNED_STACK" Bundle.steD A s' s'.heap := by rw [hhp]; exact vx_Zq.moved hW0.alike (hU.kept hS.2.1)
  have hN' : vx_Zq Bundle.tN "SUPPRESSED_SENTINEL" Bundle.listD A s' s'.heap := by rw [hhp]; exact vx_Zq.moved hW0.alike (hN.kept hS.2.1)
  have h : ∀ w ∈ Bundle.ownAtoms0 own ic cls names, w.before args s' = true := vx_own hat' (vx_isRefq hU'.1) (vx_isRefq hN'.1) hU'.2.word hN'.2.word
  have hown' : s'.vm.findClass own = some m.cls := by rw [hvm]; exact hown
  have hins : (Cond.instantiable cls 6).before args s' = true := h _ (by simp [Bundle.ownAtoms0])
  obtain ⟨vm₁, cX, kX, hfX, hkX, -, -, X₁, st1⟩ := Y.newCold hexec (own := own) (C := cls) (index := ik) (n := 6) hown' hk' hins hini'
    (g := F0 m pc ls rest) rfl (by rw [hb]; exact d0) (Nat.le_refl _) (Nat.le_refl _)
  generalize hT1 : (T.setVm vm₁).pushCell { cls := cX, slots := kX.instanceTypes.map defaultValue, vm := .none } = T1 at X₁ st1
  have hcat : (Value.ref T.heap.size).category = 1 := rfl
  have hcellA : T1.heap[T.heap.size]? = some (freshCell cX kX) := by rw [← hT1]; exact State.heap_pushCell_size _ _
  have d3' : decode c.code (pc + 3) = .ok (.dup, 1) := by rw [hb]; exact d3
  obtain ⟨U, hsteps, hrun, hend, hW, hsame, ce, hce, hO⟩ := X₁.ctorThrow0 hexec htr (own := own) (cls := cls) (names := names) (ic := ic) hown' hcls hnames h (fun x hx => nomatch hx) hfX hkX hcellA (by rw [hhp, hT]; exact Nat.le_refl _)
    (g := { method := m, pc := pc + 4, locals := ls, stack := .ref T.heap.size :: .ref T.heap.size :: rest, locked := none }) rfl hsize rfl rfl (rest := rest) rfl
    (by rw [hb]; exact d4) (by rw [hb]; exact d7) hout hRframes (by simp only [List.map_cons, List.sum_cons, hcat]; omega) hlocks
  obtain ⟨f1, f2⟩ := vx_frame hsame
  rw [hhp] at f1 f2
  have hWs : s.WarmedH U.vm := State.WarmedH.trans hW0 hW
  have hcl : s.vm.findClass cls = some ce.cls := by
    have h9 := hO.cls
    rw [hvm] at h9
    exact h9
  have hall : s.sameButNew ({ U with vm := s.vm } : State) locs mc ms := by
    subst hA
    obtain ⟨e1, e2⟩ := hsame
    rw [State.setFrames_setFrames] at e1
    have h2 : (T.setVm s.vm).sameButNew ({ U with vm := s.vm } : State) [] (0 + 1) (0 + 6) := ⟨e1, e2⟩
    have h3 := X.same.trans h2
    rw [List.append_nil] at h3
    exact h3.mono hc hs
  refine ⟨U, ?_, .threw T.heap.size, hrun, hend, Or.inr ⟨T.heap.size, rfl, cls, ce, locs, hx U hWs.alike f1 (fun q hq => f2 q hq (fun z hz => nomatch hz)), hce, hO.vm, hcl, hWs, hall, hf⟩⟩
  refine st1 _ ?_
  show Steps p.tables e below (T1.setTop { method := m, pc := pc + 3, locals := ls, stack := .ref T.heap.size :: rest, locked := none }) _
  jvm_step X₁.here [X₁.here.top, hexec, d3', Value.category]
  exact hsteps
/-- 'throw new E("text")': new; dup; ldc; invokespecial; athrow -/
theorem vx_throwS {cc : ByteArray} {pc : Nat} (hexec : p.tables.exec = Jvm.exec) (hb : c.code = cc) (hl : l.stackTraces = false) {own cls text : String} {names : List String} {ik is ic mc ms sa : Nat} {A : Nat → Prop}
    (hown : s.vm.findClass own = some m.cls) (hcls : Bundle.fit cls = true) (hnames : ∀ n ∈ names, Bundle.fit n = true)
    (hk : (Cond.classLink own ik cls).before args s = true) (hini : (Cond.initialized cls).before args s = true) (hstr : vk_R own is text sa s) (hat : ∀ w ∈ vx_atS own ic cls names, w.before args s = true)
    (hgood : ∀ w ∈ Cond.classLink own ik cls :: Cond.initialized cls :: vx_atS own ic cls names, vx_ot w = true)
    (hU : vx_Zq Bundle.tN "UNASSIGNED_STACK" Bundle.steD A s s.heap) (hN : vx_Zq Bundle.tN "SUPPRESSED_SENTINEL" Bundle.listD A s s.heap) (hS : va_S A s.heap H locs) (hsize : ls.size = c.maxLocals)
    (d0 : decode cc pc = .ok (.new ik, 3)) (d3 : decode cc (pc + 3) = .ok (.dup, 1)) (d4 : decode cc (pc + 4) = .ok (.ldc is, 2)) (d6 : decode cc (pc + 6) = .ok (.invokespecial ic, 3)) (d9 : decode cc (pc + 9) = .ok (.athrow, 1))
    (hout : ∀ x ∈ c.exceptionTable.toList, covers x (pc + 9) = false)
    (hRframes : names.length + 3 < R.frames) (hRlocals : (rest.map fun v => v.category).sum + (13 * (names.length + 1) + 43) ≤ R.locals) (hRcells : cells + 1 ≤ R.cells) (hRslots : slots + 6 ≤ R.slots) (hlocks : meth.locks = false)
    (hx : ∀ t : State, s.vm.Alike t.vm → H.size ≤ t.heap.size → (∀ q : Nat, q < H.size → t.heap[q]? = H[q]?) → XC cls s t)
    (hf : ∀ z ∈ locs, free z.base) (hc : cells + 1 ≤ mc) (hs : slots + 6 ≤ ms) :
    W p l e R s m args below meth c H locs cells slots (vx_MQ below Qc XC args s mc ms free) (F0 m pc ls rest) := by
  intro T hT X
  have htr : e.platform.stackTraces = false := (show e.platform.stackTraces = l.stackTraces by rw [X.admits.platform]).trans hl
  have Y := vx_rebase X (R' := { frames := R.frames, locals := R.locals, cells := 1, slots := 6 }) (Nat.le_refl _) (Nat.le_refl _) hRcells hRslots
  obtain ⟨s', hA⟩ : ∃ z, z = (T.setVm s.vm).setFrames (.invoking m args :: below) := ⟨_, rfl⟩
  rw [← hA] at Y
  have hvm : s'.vm = s.vm := by rw [hA]; rfl
  have hhp : s'.heap = H := by rw [hA]; exact hT
  have hW0 : s.WarmedH s'.vm := by rw [hvm]; exact State.WarmedH.refl s
  have hat' : ∀ w ∈ vx_atS own ic cls names, w.before args s' = true := fun w hw => vx_ot_at hW0 hvm.symm (hgood w (List.mem_cons_of_mem _ (List.mem_cons_of_mem _ hw))) (hat w hw)
  have hk' : (Cond.classLink own ik cls).before args s' = true := vx_ot_at hW0 hvm.symm (hgood _ List.mem_cons_self) hk
  have hini' : (Cond.initialized cls).before args s' = true := vx_ot_at hW0 hvm.symm (hgood _ (List.mem_cons_of_mem _ List.mem_cons_self)) hini
  have hU' : vx_Zq Bundle.tN "UNASSIGNED_STACK" Bundle.steD A s' s'.heap := by rw [hhp]; exact vx_Zq.moved hW0.alike (hU.kept hS.2.1)
  have hN' : vx_Zq Bundle.tN "SUPPRESSED_SENTINEL" Bundle.listD A s' s'.heap := by rw [hhp]; exact vx_Zq.moved hW0.alike (hN.kept hS.2.1)
  have h : ∀ w ∈ Bundle.ownAtoms own ic cls names, w.before args s' = true := vx_own hat' (vx_isRefq hU'.1) (vx_isRefq hN'.1) hU'.2.word hN'.2.word
  have hown' : s'.vm.findClass own = some m.cls := by rw [hvm]; exact hown
  have hins : (Cond.instantiable cls 6).before args s' = true := h _ (by simp [Bundle.ownAtoms])
  obtain ⟨vm₁, cX, kX, hfX, hkX, -, -, X₁, st1⟩ := Y.newCold hexec (own := own) (C := cls) (index := ik) (n := 6) hown' hk' hins hini'
    (g := F0 m pc ls rest) rfl (by rw [hb]; exact d0) (Nat.le_refl _) (Nat.le_refl _)
  generalize hT1 : (T.setVm vm₁).pushCell { cls := cX, slots := kX.instanceTypes.map defaultValue, vm := .none } = T1 at X₁ st1
  have hcat : (Value.ref T.heap.size).category = 1 := rfl
  have hcellA : T1.heap[T.heap.size]? = some (freshCell cX kX) := by rw [← hT1]; exact State.heap_pushCell_size _ _
  have d3' : decode c.code (pc + 3) = .ok (.dup, 1) := by rw [hb]; exact d3
  have d4' : decode c.code (pc + 4) = .ok (.ldc is, 2) := by rw [hb]; exact d4
  have hstr' : vk_R own is text sa s' := vk_R.warm hW0 hstr
  obtain ⟨U, hsteps, hrun, hend, hW, hsame, ce, hce, hO⟩ := X₁.ctorThrowS hexec htr (own := own) (cls := cls) (names := names) (ic := ic) hown' hcls hnames h (fun x hx => nomatch hx) hfX hkX hcellA (by rw [hhp, hT]; exact Nat.le_refl _) (msg := .ref sa) rfl
    (g := { method := m, pc := pc + 6, locals := ls, stack := .ref sa :: .ref T.heap.size :: .ref T.heap.size :: rest, locked := none }) rfl hsize rfl rfl (rest := rest) rfl
    (by rw [hb]; exact d6) (by rw [hb]; exact d9) hout hRframes (by simp only [List.map_cons, List.sum_cons, hcat]; omega) hlocks
  obtain ⟨f1, f2⟩ := vx_frame hsame
  rw [hhp] at f1 f2
  have hWs : s.WarmedH U.vm := State.WarmedH.trans hW0 hW
  have hcl : s.vm.findClass cls = some ce.cls := by
    have h9 := hO.cls
    rw [hvm] at h9
    exact h9
  have hall : s.sameButNew ({ U with vm := s.vm } : State) locs mc ms := by
    subst hA
    obtain ⟨e1, e2⟩ := hsame
    rw [State.setFrames_setFrames] at e1
    have h2 : (T.setVm s.vm).sameButNew ({ U with vm := s.vm } : State) [] (0 + 1) (0 + 6) := ⟨e1, e2⟩
    have h3 := X.same.trans h2
    rw [List.append_nil] at h3
    exact h3.mono hc hs
  refine ⟨U, ?_, .threw T.heap.size, hrun, hend, Or.inr ⟨T.heap.size, rfl, cls, ce, locs, hx U hWs.alike f1 (fun q hq => f2 q hq (fun z hz => nomatch hz)), hce, hO.vm, hcl, hWs, hall, hf⟩⟩
  refine st1 _ ?_
  show Steps p.tables e below (T1.setTop { method := m, pc := pc + 3, locals := ls, stack := .ref T.heap.size :: rest, locked := none }) _
  jvm_step X₁.here [X₁.here.top, hexec, d3', Value.category]
  exact X₁.ldcString hexec (own := own) (text := text) (index := is) (a := sa) hown' hstr'.1 hstr'.2
    (g := { method := m, pc := pc + 4, locals := ls, stack := .ref T.heap.size :: .ref T.heap.size :: rest, locked := none }) rfl d4' _ hsteps
/-- 'throw new E("text")', the text by a wide index -/
theorem vx_throwSW {cc : ByteArray} {pc : Nat} (hexec : p.tables.exec = Jvm.exec) (hb : c.code = cc) (hl : l.stackTraces = false) {own cls text : String} {names : List String} {ik is ic mc ms sa : Nat} {A : Nat → Prop}
    (hown : s.vm.findClass own = some m.cls) (hcls : Bundle.fit cls = true) (hnames : ∀ n ∈ names, Bundle.fit n = true)
    (hk : (Cond.classLink own ik cls).before args s = true) (hini : (Cond.initialized cls).before args s = true) (hstr : vk_R own is text sa s) (hat : ∀ w ∈ vx_atS own ic cls names, w.before args s = true)
    (hgood : ∀ w ∈ Cond.classLink own ik cls :: Cond.initialized cls :: vx_atS own ic cls names, vx_ot w = true)
    (hU : vx_Zq Bundle.tN "UNASSIGNED_STACK" Bundle.steD A s s.heap) (hN : vx_Zq Bundle.tN "SUPPRESSED_SENTINEL" Bundle.listD A s s.heap) (hS : va_S A s.heap H locs) (hsize : ls.size = c.maxLocals)
    (d0 : decode cc pc = .ok (.new ik, 3)) (d3 : decode cc (pc + 3) = .ok (.dup, 1)) (d4 : decode cc (pc + 4) = .ok (.ldc_w is, 3)) (d7 : decode cc (pc + 7) = .ok (.invokespecial ic, 3)) (d10 : decode cc (pc + 10) = .ok (.athrow, 1))
    (hout : ∀ x ∈ c.exceptionTable.toList, covers x (pc + 10) = false)
    (hRframes : names.length + 3 < R.frames) (hRlocals : (rest.map fun v => v.category).sum + (13 * (names.length + 1) + 43) ≤ R.locals) (hRcells : cells + 1 ≤ R.cells) (hRslots : slots + 6 ≤ R.slots) (hlocks : meth.locks = false)
    (hx : ∀ t : State, s.vm.Alike t.vm → H.size ≤ t.heap.size → (∀ q : Nat, q < H.size → t.heap[q]? = H[q]?) → XC cls s t)
    (hf : ∀ z ∈ locs, free z.base) (hc : cells + 1 ≤ mc) (hs : slots + 6 ≤ ms) :
    W p l e R s m args below meth c H locs cells slots (vx_MQ below Qc XC args s mc ms free) (F0 m pc ls rest) := by
  intro T hT X
  have htr : e.platform.stackTraces = false := (show e.platform.stackTraces = l.stackTraces by rw [X.admits.platform]).trans hl
  have Y := vx_rebase X (R' := { frames := R.frames, locals := R.locals, cells := 1, slots := 6 }) (Nat.le_refl _) (Nat.le_refl _) hRcells hRslots
  obtain ⟨s', hA⟩ : ∃ z, z = (T.setVm s.vm).setFrames (.invoking m args :: below) := ⟨_, rfl⟩
  rw [← hA] at Y
  have hvm : s'.vm = s.vm := by rw [hA]; rfl
  have hhp : s'.heap = H := by rw [hA]; exact hT
  have hW0 : s.WarmedH s'.vm := by rw [hvm]; exact State.WarmedH.refl s
  have hat' : ∀ w ∈ vx_atS own ic cls names, w.before args s' = true := fun w hw => vx_ot_at hW0 hvm.symm (hgood w (List.mem_cons_of_mem _ (List.mem_cons_of_mem _ hw))) (hat w hw)
  have hk' : (Cond.classLink own ik cls).before args s' = true := vx_ot_at hW0 hvm.symm (hgood _ List.mem_cons_self) hk
  have hini' : (Cond.initialized cls).before args s' = true := vx_ot_at hW0 hvm.symm (hgood _ (List.mem_cons_of_mem _ List.mem_cons_self)) hini
  have hU' : vx_Zq Bundle.tN "UNASSIGNED_STACK" Bundle.steD A s' s'.heap := by rw [hhp]; exact vx_Zq.moved hW0.alike (hU.kept hS.2.1)
  have hN' : vx_Zq Bundle.tN "SUPPRESSED_SENTINEL" Bundle.listD A s' s'.heap := by rw [hhp]; exact vx_Zq.moved hW0.alike (hN.kept hS.2.1)
  have h : ∀ w ∈ Bundle.ownAtoms own ic cls names, w.before args s' = true := vx_own hat' (vx_isRefq hU'.1) (vx_isRefq hN'.1) hU'.2.word hN'.2.word
  have hown' : s'.vm.findClass own = some m.cls := by rw [hvm]; exact hown
  have hins : (Cond.instantiable cls 6).before args s' = true := h _ (by simp [Bundle.ownAtoms])
  obtain ⟨vm₁, cX, kX, hfX, hkX, -, -, X₁, st1⟩ := Y.newCold hexec (own := own) (C := cls) (index := ik) (n := 6) hown' hk' hins hini'
    (g := F0 m pc ls rest) rfl (by rw [hb]; exact d0) (Nat.le_refl _) (Nat.le_refl _)
  generalize hT1 : (T.setVm vm₁).pushCell { cls := cX, slots := kX.instanceTypes.map defaultValue, vm := .none } = T1 at X₁ st1
  have hcat : (Value.ref T.heap.size).category = 1 := rfl
  have hcellA : T1.heap[T.heap.size]? = some (freshCell cX kX) := by rw [← hT1]; exact State.heap_pushCell_size _ _
  have d3' : decode c.code (pc + 3) = .ok (.dup, 1) := by rw [hb]; exact d3
  have d4' : decode c.code (pc + 4) = .ok (.ldc_w is, 3) := by rw [hb]; exact d4
  have hstr' : vk_R own is text sa s' := vk_R.warm hW0 hstr
  obtain ⟨U, hsteps, hrun, hend, hW, hsame, ce, hce, hO⟩ := X₁.ctorThrowS hexec htr (own := own) (cls := cls) (names := names) (ic := ic) hown' hcls hnames h (fun x hx => nomatch hx) hfX hkX hcellA (by rw [hhp, hT]; exact Nat.le_refl _) (msg := .ref sa) rfl
    (g := { method := m, pc := pc + 7, locals := ls, stack := .ref sa :: .ref T.heap.size :: .ref T.heap.size :: rest, locked := none }) rfl hsize rfl rfl (rest := rest) rfl
    (by rw [hb]; exact d7) (by rw [hb]; exact d10) hout hRframes (by simp only [List.map_cons, List.sum_cons, hcat]; omega) hlocks
  obtain ⟨f1, f2⟩ := vx_frame hsame
  rw [hhp] at f1 f2
  have hWs : s.WarmedH U.vm := State.WarmedH.trans hW0 hW
  have hcl : s.vm.findClass cls = some ce.cls := by
    have h9 := hO.cls
    rw [hvm] at h9
    exact h9
  have hall : s.sameButNew ({ U with vm := s.vm } : State) locs mc ms := by
    subst hA
    obtain ⟨e1, e2⟩ := hsame
    rw [State.setFrames_setFrames] at e1
    have h2 : (T.setVm s.vm).sameButNew ({ U with vm := s.vm } : State) [] (0 + 1) (0 + 6) := ⟨e1, e2⟩
    have h3 := X.same.trans h2
    rw [List.append_nil] at h3
    exact h3.mono hc hs
  refine ⟨U, ?_, .threw T.heap.size, hrun, hend, Or.inr ⟨T.heap.size, rfl, cls, ce, locs, hx U hWs.alike f1 (fun q hq => f2 q hq (fun z hz => nomatch hz)), hce, hO.vm, hcl, hWs, hall, hf⟩⟩
  refine st1 _ ?_
  show Steps p.tables e below (T1.setTop { method := m, pc := pc + 3, locals := ls, stack := .ref T.heap.size :: rest, locked := none }) _
  jvm_step X₁.here [X₁.here.top, hexec, d3', Value.category]
  exact X₁.ldcStringW hexec (own := own) (text := text) (index := is) (a := sa) hown' hstr'.1 hstr'.2
    (g := { method := m, pc := pc + 4, locals := ls, stack := .ref T.heap.size :: .ref T.heap.size :: rest, locked := none }) rfl d4' _ hsteps
end Ends
section Bodies
variable {l : Launch}
theorem vx_ofW {y : MethodName} {ws ws' : List Cond} {rm : Room} {Pc : Array Value → State → Prop} {Qc : Array Value → State → Outcome → State → Prop} {XC : String → State → State → Prop} {mc ms : Nat} {free : Addr → Prop} {cc : ByteArray} {maxL : Nat} {ret : Option FieldType}
    (hy : plainName y.cls = true) (hw : ws = Cond.code y cc maxL ret :: ws')
    (body : ∀ p e s m args below meth c s₁, BodyLoose p l y (headSpec ws rm) cc maxL ret e s m args below meth c s₁ → c.maxLocals = maxL → (∀ x ∈ c.exceptionTable.toList, False) → Pc args s →
      W p l e (headSpec ws rm).room s m args below meth c s.heap [] 0 0 (vx_MQ below Qc XC args s mc ms free) (entryFrame m args maxL)) : vx_Met l y ws rm Pc Qc XC mc ms free := by
  refine MetFree.of_bodyS (code := cc) (maxLocals := maxL) (ret := ret) hy ?_ ?_
  · intro args s m h hn
    obtain ⟨meth, c, h1, h2, h3, h4, h5, h6, -, -⟩ := Cond.code_spec hn (atoms_spec (ws := ws) h _ (by rw [hw]; exact List.mem_cons_self))
    exact ⟨meth, c, h1, h2, h3, h4, h5, h6⟩
  · intro p e s m args below meth c s₁ B hml hP _
    have hh0 : s₁.heap = s.heap := by rw [B.state]; rfl
    have ht : ∀ x ∈ c.exceptionTable.toList, False := by
      obtain ⟨meth9, c9, h1, h2, -, -, -, -, h7, -⟩ := Cond.code_spec B.named (atoms_spec (ws := ws) B.pre _ (by rw [hw]; exact List.mem_cons_self))
      cases Option.some.inj (h1.symm.trans B.method)
      cases Option.some.inj (h2.symm.trans (Stand.of_body B).code)
      intro x hx
      rw [Array.isEmpty_iff.mp h7] at hx
      cases hx
    obtain ⟨t, a1, o, b1, b2, b3⟩ := body p e s m args below meth c s₁ B hml ht hP s₁ hh0 (Stand.of_body B)
    exact ⟨t, o, a1, b1, b2, b3⟩
/-- the table of a body with handlers -/
theorem vx_table {p : Program} {x y : MethodName} {S : Spec} {cc bytes : ByteArray} {maxL maxL' : Nat} {ret ret' : Option FieldType} {e : Env} {s s₁ : State} {m : MethodId} {args : Array Value} {below : List Frame} {meth : Method} {c : Code} {hh : List (Nat × Nat × Nat × Nat)}
    (B : BodyLoose p l y S cc maxL ret e s m args below meth c s₁) (h : (Cond.codeWith y bytes maxL' ret' hh).before args s = true) : c.exceptionTable.toList = tableOf hh := by
  obtain ⟨m9, meth9, c9, hn9, h1, h2, -, -, h6, -⟩ := Cond.codeWith_spec h
  cases Option.some.inj (hn9.symm.trans B.named)
  cases Option.some.inj (h1.symm.trans B.method)
  cases Option.some.inj (h2.symm.trans (Stand.of_body B).code)
  rw [← h6, table_eq]
end Bodies
end VXA
/-! ===== END ===== -/
/-! ===== BEGIN a static call of a method with an exception table ===== -/
section VXS
variable {p : Program} {l : Launch} {e : Env} {R : Room} {s : State} {m : MethodId} {args : Array Value} {below : List Frame} {meth : Method} {c : Code} {T : State} {H : Heap} {locs : List Loc} {cells slots : Nat}
abbrev vx_CSW (R : Room) (s : State) (args : Array Value) (own : String) (index : Nat) (y : MethodName) (bytes : ByteArray) (maxL : Nat) (ret : Option FieldType) (hh : List (Nat × Nat × Nat × Nat)) (ws : List Cond) (rm : Room) (mc ms n : Nat) : Prop :=
  (rm.cells = mc ∧ rm.slots = ms ∧ rm.frames + 1 ≤ R.frames ∧ 8 + (maxL + 11) + rm.locals ≤ R.locals ∧ (∀ w ∈ ws, ∀ (a' : Array Value) (U : State), s.WarmedH U.vm → w.before a' U = true) ∧ Cond.codeWith y bytes maxL ret hh ∈ ws) ∧
  (Cond.codeWith y bytes maxL ret hh).before args s = true ∧ (Cond.initialized y.cls).before args s = true ∧ (y.cls ≠ "java/lang/invoke/MethodHandle" ∧ y.cls ≠ "java/lang/invoke/VarHandle") ∧
  (∀ sig, parseMethodDescriptor y.desc = some sig → n = sig.parameters.length) ∧ (Cond.methodLink own index y).before args s = true ∧ (Cond.static y).before args s = true
theorem vx_cwSW {own : String} {index maxL mc ms : Nat} {y : MethodName} {bytes : ByteArray} {ret : Option FieldType} {hh : List (Nat × Nat × Nat × Nat)} {Ts ws ws' : List Cond} {rm : Room} (n : Nat) (ht : ∀ w ∈ Ts, w.before args s = true) (hT : GoodIn Ts (va_wsS own index y ws)) (hw : ws = Cond.codeWith y bytes maxL ret hh :: ws') (hrc : rm.cells = mc) (hrs : rm.slots = ms)
    (hd : y.cls ≠ "java/lang/invoke/MethodHandle" ∧ y.cls ≠ "java/lang/invoke/VarHandle" ∧ (parseMethodDescriptor y.desc).map (fun d => d.parameters.length) = some n) (hR : rm.frames + 1 ≤ R.frames ∧ 8 + (maxL + 11) + rm.locals ≤ R.locals) :
    vx_CSW R s args own index y bytes maxL ret hh ws rm mc ms n := by
  have ok : ∀ w ∈ va_wsS own index y ws, w.before args s = true := fun w h => ht w (hT w h).1
  have hG : GoodIn Ts ws := fun w h => hT w (by unfold va_wsS; exact List.mem_append_right _ h)
  have hc : Cond.codeWith y bytes maxL ret hh ∈ ws := by rw [hw]; exact List.mem_cons_self
  refine ⟨⟨hrc, hrs, hR.1, hR.2, pay_in ht hG, hc⟩, ht _ (hG _ hc).1, ok _ (by simp [va_wsS]), ⟨hd.1, hd.2.1⟩, fun sig h => ?_, ok _ (by simp [va_wsS]), ok _ (by simp [va_wsS])⟩
  have h2 := hd.2.2
  rw [h] at h2
  exact (Option.some.inj h2).symm
theorem vx_callSW (X : Stand p l e R s m args below meth c T locs cells slots) (hexec : p.tables.exec = Jvm.exec) {own : String} {index : Nat} {y : MethodName} {bytes : ByteArray} {maxL : Nat} {ret : Option FieldType} {hh : List (Nat × Nat × Nat × Nat)}
    (hown : s.vm.findClass own = some m.cls) (hlink : (Cond.methodLink own index y).before args s = true) (hstat : (Cond.static y).before args s = true) (hinit : (Cond.initialized y.cls).before args s = true)
    (hcode : (Cond.codeWith y bytes maxL ret hh).before args s = true) (hy : y.cls ≠ "java/lang/invoke/MethodHandle" ∧ y.cls ≠ "java/lang/invoke/VarHandle")
    {W9 : Nat} {Pre : Pt → Array Value → Prop} {Post : Pt → Array Value → Option Value → Pt → Prop} (hK : Back l R p e below s args y 3 W9 Pre Post)
    {g : JFrame} (hg : g.method = m) (hsize : g.locals.size = c.maxLocals) {argsL rest : List Value} (hlen : ∀ sig, parseMethodDescriptor y.desc = some sig → argsL.length = sig.parameters.length)
    (hstack : g.stack = argsL.reverse ++ rest) (hW : 2 * g.monitorRoom + (rest.map fun v => v.category).sum ≤ W9) (hdg : decode c.code g.pc = .ok (.invokestatic index, 3))
    (hpre : ∀ vm₁, s.WarmedH vm₁ → Pre ⟨T.setVm vm₁, locs, cells, slots⟩ argsL.toArray) :
    ∃ (v : Option Value) (vm₁ : Vm) (B : Pt), s.WarmedH vm₁ ∧ Stand p l e R s m args below meth c B.U B.locs B.cells B.slots ∧ Post ⟨T.setVm vm₁, locs, cells, slots⟩ argsL.toArray v B ∧
      ∀ target, Steps p.tables e below (B.U.setTop { g with pc := g.pc + 3, stack := v.toList ++ rest }) target → Steps p.tables e below (T.setTop g) target := by
  obtain ⟨mk, methM, cM, hnamed, hmethM, -, -, -, -, -, -, hsigM⟩ := Cond.codeWith_spec hcode
  have hstatic : methM.isStatic = true := Cond.static_spec hnamed hmethM hstat
  obtain ⟨kP, hkP, -⟩ := className_of_methodNamed hnamed
  have hinitP : kP.init = .initialized := Cond.initialized_spec (findClass_of_methodNamed hnamed) hkP hinit
  obtain ⟨vm₁, X₁, hstep₁⟩ := X.invokestatic hexec hown hlink hnamed hmethM hstatic hkP hinitP hy (g := g) hg (argsL := argsL) (rest := rest) (hlen _ hsigM) hstack hdg
  obtain ⟨v, B, X', hpost, hsteps⟩ := hK m meth c ⟨T.setVm vm₁, locs, cells, slots⟩ { g with stack := rest } (.invokestatic index) mk argsL.toArray X₁ hg hsize hdg hW (X₁.named hnamed) (hpre vm₁ X₁.warmed)
  exact ⟨v, vm₁, B, X₁.warmed, X', hpost, fun target h => hstep₁ _ fun acts => by rw [doInvoke_state]; exact hsteps.trans h⟩
theorem vx_runSW {y : MethodName} {bytes cc : ByteArray} {maxL nL mc ms n index : Nat} {ret : Option FieldType} {hh : List (Nat × Nat × Nat × Nat)} {ws : List Cond} {rm : Room} {Pc : Array Value → State → Prop} {Qc : Array Value → State → Outcome → State → Prop} {free : Addr → Prop} {Ts : List Cond} {own : String} {As rest : List Value} {g : JFrame}
    (S : CallFix p m c cc nL s args Ts own) (hM : Met l y ws rm Pc Qc mc ms free) (cw : vx_CSW R s args own index y bytes maxL ret hh ws rm mc ms n) (hp : PreS s H Pc As)
    (hg : g.method = m) (hn : As.length = n) (hsize : g.locals.size = nL) (hstack : g.stack = As.reverse ++ rest) (hW : 2 * g.monitorRoom + (rest.map fun v => v.category).sum ≤ 8) (hdg : decode cc g.pc = .ok (.invokestatic index, 3)) (hf : cells + mc ≤ R.cells ∧ slots + ms ≤ R.slots) :
    va_Run p l e R s m args below meth c H locs cells slots mc ms g rest (Qc As.toArray) (free) := by
  obtain ⟨⟨hrc, hrs, hfr, hlo, hws, hcw⟩, hcode, hini, hy, hlen, hl, hstt⟩ := cw
  have hK : Back l R p e below s args y 3 8 (PreOf R mc ms Pc) (PostOf Qc mc ms free) := va_backW (hh := hh) (bytes := bytes) (maxL := maxL) (ret := ret) hM hp.1 hrc hrs hfr hlo hws hcw (fun a' U hW => word_at hW (Or.inl (by first | rfl | simp [Cond.onTables, Cond.keeps, Cond.steady])) hini)
  obtain ⟨hx, hb, hml, ho, -⟩ := S
  intro T hT X
  obtain ⟨v, vm₁, ⟨U', l2, c2, s2⟩, hW₁, X', ⟨g', mk, t, L, e1, e2, hq, h1, hL, h2, h3⟩, st⟩ := vx_callSW X hx (hh := hh) (bytes := bytes) (maxL := maxL) (ret := ret) ho hl hstt hini hcode hy hK hg (hsize.trans hml.symm) (argsL := As) (rest := rest) (fun sig h => hn.trans (hlen sig h)) hstack hW (by rw [hb]; exact hdg)
    (fun vm₁ hW₁ => ⟨hf.1, hf.2, hp.2 (T.setVm vm₁) hT hW₁⟩)
  dsimp only [Pt.U, Pt.locs, Pt.cells, Pt.slots] at X' e1 e2 h1 h2 h3 st
  subst h1; subst h2; subst h3
  exact ⟨v, (T.setVm vm₁).calling g' mk As.toArray, t, U', L, hT, X', hL, e1, e2, hq, st⟩
/-- not caught here, past rows that name other classes: it goes on to the caller -/
theorem vx_outP {p : Program} {l : Launch} {e : Env} {R : Room} {s : State} {m : MethodId} {args : Array Value} {below : List Frame} {meth : Method} {c : Code} {H : Heap} {locs : List Loc} {cells slots : Nat} {free : Addr → Prop} {ls : Array Slot} {rest : List Value} {Qc : Array Value → State → Outcome → State → Prop} {XC : String → State → State → Prop}
    {pc : Nat} {own E : String} {ce : Cell} {q : Addr} {mc ms : Nat} (hown : s.vm.findClass own = some m.cls) (hlocks : meth.locks = false)
    (hpass : ∀ z ∈ c.exceptionTable.toList, covers z pc = false ∨ (z.catchType ≠ 0 ∧ ∃ nm : String, (Cond.classLink own z.catchType nm).before args s = true ∧ va_Nc E nm s)) (hcell : H[q]? = some ce) (hv : ce.vm = .none) (hcl : s.vm.findClass E = some ce.cls)
    (hx : ∀ t : State, t.heap = H → s.vm.Alike t.vm → XC E s t) (hf : ∀ z ∈ locs, free z.base) (hc : cells ≤ mc) (hs : slots ≤ ms) :
    vx_W p l e R s m args below meth c H locs cells slots (vx_MQ below Qc XC args s mc ms free) (F0 m pc ls rest) q := by
  intro T hT X
  have hpl : e.platform.magicAccessors = ({} : Platform).magicAccessors := by rw [X.admits.platform]
  obtain ⟨vm', hW', X', st⟩ := X.outThrough hlocks q (g := F0 m pc ls rest) rfl rfl rfl (cell := ce) (by rw [hT]; exact hcell) (by rw [hv]; rfl)
    (by obtain ⟨k9, h9, -⟩ := Vm.findClass_spec hcl; exact ⟨k9, h9⟩) (fun z hz => by
      rcases hpass z hz with h | ⟨hz0, nm, hl1, hn1⟩
      · exact Or.inl h
      · obtain ⟨c6, hc6, hcl6⟩ := Cond.classLink_spec hown hl1 e.platform hpl
        obtain ⟨a8, b8, h1, h2, h3⟩ := hn1
        cases Option.some.inj (h1.symm.trans hcl)
        cases Option.some.inj (h2.symm.trans hc6)
        exact Or.inr ⟨hz0, _, hcl6, h3⟩)
  obtain ⟨g₀, hfr⟩ := X'.frames_eq
  have hcell9 : ((T.setVm vm').setFrames (.throwing q :: below)).heap[q]? = some ce := by
    show T.heap[q]? = some ce
    rw [hT]; exact hcell
  have hend : Ended ((T.setVm vm').setFrames (.throwing q :: below)) below (.threw q) := State.frames_setFrames _ (State.cur_lt_of_frames hfr)
  refine ⟨(T.setVm vm').setFrames (.throwing q :: below), ?_, .threw q, X'.here.running, hend, Or.inr ⟨q, rfl, E, ce, locs, hx _ hT (X'.ends _).1.alike, hcell9, hv, hcl, (X'.ends _).1, (X'.ends _).2.mono hc hs, hf⟩⟩
  rw [X.pushThrowing_eq]
  exact st
/-- a thing of a world lies in the heap -/
theorem vx_lt {D : va_G} {cl : List vw_C} {ws : va_W} {H1 : Heap} (h : va_P D cl ws H1) {k : Nat} {q : Nat × va_E} (hk : ws[k]? = some q) : q.1 < H1.size := (h k q hk).lt
end VXS
/-! ===== END ===== -/
/-! ===== BEGIN methods with a table of their own: called by a name, returning or throwing ===== -/
section VXH
/-! vx_backW, vx_callVX, vx_callSX, vx_callVW, vx_runVW, vx_runVX, vx_runSX, vx_ofWH follow the same proofs as their sisters above (Free/Laws.lean, Shelf42/LK1.lean); vx_outP calls Shelf42/NT130.lean (outThrough). -/
section
variable {l : Launch} {R : Room} {p : Program} {e : Env} {below : List Frame} {s : State} {sargs : Array Value} {y : MethodName} {len W9 : Nat}
theorem vx_backW {ws : List Cond} {rm : Room} {Pc : Array Value → State → Prop} {Qc : Array Value → State → Outcome → State → Prop} {XC : String → State → State → Prop} {mc ms : Nat} {free : Addr → Prop} {bytes : ByteArray} {maxL : Nat} {ret : Option FieldType} {hh : List (Nat × Nat × Nat × Nat)}
    (hM : vx_Met l y ws rm Pc Qc XC mc ms free) (hblind : FrameBlind Pc) (hrc : rm.cells = mc) (hrs : rm.slots = ms)
    (hframes : rm.frames + 1 ≤ R.frames) (hlocals : W9 + (maxL + 11) + rm.locals ≤ R.locals)
    (hws : ∀ w ∈ ws, ∀ a' U, s.WarmedH U.vm → w.before a' U = true) (hcode : Cond.codeWith y bytes maxL ret hh ∈ ws) (hinit : ∀ a' U, s.WarmedH U.vm → (Cond.initialized y.cls).before a' U = true) :
    vx_Back l R p e below s sargs y len W9 (PreOf R mc ms Pc) (PostOf Qc mc ms free) (vx_Post XC mc ms free) := by
  intro m meth c A g ig mk a X hg hsize hdg hW hn hp
  have h1 : (headSpec ws rm).pre.before a A.U = true := atoms_intro fun w hw => hws w hw _ _ X.warmed
  have h2 : (Cond.codeWith y bytes maxL ret hh).before a A.U = true := hws _ hcode _ _ X.warmed
  have h3 : (Cond.initialized y.cls).before a A.U = true := hinit _ _ X.warmed
  have h4 : A.cells + (headSpec ws rm).room.cells ≤ R.cells := by rw [show (headSpec ws rm).room.cells = mc from hrc]; exact hp.1
  have h5 : A.slots + (headSpec ws rm).room.slots ≤ R.slots := by rw [show (headSpec ws rm).room.slots = ms from hrs]; exact hp.2.1
  have hPc : Pc a (A.U.calling g mk a) := hblind _ _ _ _ hp.2.2
  obtain ⟨U, Ls, c0, s0⟩ := A
  dsimp only [Pt.U, Pt.locs, Pt.cells, Pt.slots] at h1 h2 h3 h4 h5 X hn hPc ⊢
  obtain ⟨m9, methY, cY, hn9, hmY, hcY, -, hlY, -⟩ := Cond.codeWith_spec h2
  cases Option.some.inj (hn9.symm.trans hn)
  obtain ⟨kY, hkY, -⟩ := className_of_methodNamed hn
  have hinitY : kY.init = .initialized := Cond.initialized_spec (findClass_of_methodNamed hn) hkY h3
  have h : At U g.method c below := by rw [hg]; exact X.here
  have hlocals9 : W9 + (maxL + 11) + (headSpec ws rm).room.locals ≤ R.locals := hlocals
  have happ : (headSpec ws rm).appliesLoose y e.platform (U.calling g mk a) = true :=
    Spec.appliesLoose_calling (g := g) h hdg hn hkY hinitY
      (X.room_calling (g := g) (R' := (headSpec ws rm).room) hsize hmY hcY hframes (by rw [hlY]; omega) h4 h5) h1
  obtain ⟨mid, hmid⟩ := h.above
  have hfr : (U.setTop g).frames = (.java g :: mid) ++ below := by rw [State.frames_setTop' g h.top, hmid]; rfl
  obtain ⟨o, s₂, hsteps, -, hend, hq⟩ := Steps.callFree hM p X.admits X.cas X.clock (acts := []) hfr happ hPc trivial
  have hq' : vx_Q Qc XC mc ms free a (U.calling g mk a) o s₂ := hq
  rw [State.frames_setTop' g h.top] at hend
  obtain ⟨g₀, hg0⟩ := Option.isSome_iff_exists.mp h.top
  obtain ⟨r, hr⟩ := State.topJava?_eq_some.mp hg0
  have hr' : (({ U with heap := s₂.heap, slotsUsed := s₂.slotsUsed } : State).setVm s₂.vm).frames = .java g₀ :: r := hr
  rcases hq' with ⟨hqc, L, hfe, hL⟩ | ⟨q, rfl, E, ce, L, hx, hce, hcv, hcl, hW₂, hsm, hL⟩
  · obtain ⟨⟨v, rfl⟩, hW₂, e2, q2, q3, q4, q5, q6⟩ := id hfe
    have e3 : s₂ = ({ (U.calling g mk a).setFrames s₂.frames with heap := s₂.heap, slotsUsed := s₂.slotsUsed } : State).setVm s₂.vm := by
      have : s₂ = ({ s₂ with vm := (U.calling g mk a).vm } : State).setVm s₂.vm := rfl
      rw [e2] at this
      exact this
    obtain ⟨c₂, i₂, len₂, hc₂, hd₂, hf₂⟩ := hend
    have hW' : U.WarmedH s₂.vm := hW₂
    have hcc : c₂ = c := by
      have h1 : s₂.code? g.method = U.code? g.method := by
        rw [State.code?_eq, State.code?_eq, hW'.alike.method?]
      exact Option.some.inj (hc₂.symm.trans (h1.trans h.code))
    subst hcc
    have hlen : len₂ = len := by rw [hdg] at hd₂; cases hd₂; rfl
    subst hlen
    have hs₂ : s₂ = (({ U with heap := s₂.heap, slotsUsed := s₂.slotsUsed } : State).setVm s₂.vm).setTop { g with pc := g.pc + len₂, stack := v.toList ++ g.stack } := by
      refine e3.trans ?_
      rw [hf₂, State.calling_eq h.top, State.setFrames_setFrames, State.setTop_of_frames _ hr', hr]
      rfl
    have hsame : U.sameButNew ({ U with heap := s₂.heap, slotsUsed := s₂.slotsUsed } : State) L mc ms := by
      refine ⟨?_, q2, q3, q4, q5, q6⟩
      obtain ⟨t, ht, -⟩ := State.frames_cons hr
      show ({ U with heap := s₂.heap, slotsUsed := s₂.slotsUsed } : State) = { U.setFrames U.frames with heap := s₂.heap, slotsUsed := s₂.slotsUsed }
      rw [State.setFrames_self ht]
    subst hg
    refine Or.inl ⟨v, ⟨(({ U with heap := s₂.heap, slotsUsed := s₂.slotsUsed } : State).setVm s₂.vm), Ls ++ L, c0 + mc, s0 + ms⟩,
      ⟨X.admits, X.cas, X.clock, X.frames, X.room, X.hears, X.method, X.code, (X.here.setHeapUsed s₂.heap s₂.slotsUsed).setVm hW'.alike, X.tail, State.WarmedH.trans X.warmed hW', X.limits, X.bytes, X.same.trans (hsame.setVm s.vm)⟩,
      ⟨g, mk, s₂, L, rfl, rfl, hqc, rfl, hL, rfl, rfl⟩, ?_⟩
    show Steps p.tables e below _ ((({ U with heap := s₂.heap, slotsUsed := s₂.slotsUsed } : State).setVm s₂.vm).setTop { g with pc := g.pc + len₂, stack := v.toList ++ g.stack })
    rw [← hs₂]
    exact hsteps
  · obtain ⟨e2, q2, q3, q4, q5, q6⟩ := id hsm
    have e3 : s₂ = ({ (U.calling g mk a).setFrames s₂.frames with heap := s₂.heap, slotsUsed := s₂.slotsUsed } : State).setVm s₂.vm := by
      have : s₂ = ({ s₂ with vm := (U.calling g mk a).vm } : State).setVm s₂.vm := rfl
      rw [e2] at this
      exact this
    have hf₂ : s₂.frames = .throwing q :: .java g :: U.frames.tail := hend
    have hW' : U.WarmedH s₂.vm := hW₂
    have hs₂ : s₂ = ((({ U with heap := s₂.heap, slotsUsed := s₂.slotsUsed } : State).setVm s₂.vm).setTop g).pushFrame (.throwing q) := by
      refine e3.trans ?_
      rw [hf₂, State.calling_eq h.top, State.setFrames_setFrames, State.pushFrame, State.frames_setTop _ hr', State.setTop_of_frames _ hr', State.setFrames_setFrames, hr]
      rfl
    have hsame : U.sameButNew ({ U with heap := s₂.heap, slotsUsed := s₂.slotsUsed } : State) L mc ms := by
      refine ⟨?_, q2, q3, q4, q5, q6⟩
      obtain ⟨t, ht, -⟩ := State.frames_cons hr
      show ({ U with heap := s₂.heap, slotsUsed := s₂.slotsUsed } : State) = { U.setFrames U.frames with heap := s₂.heap, slotsUsed := s₂.slotsUsed }
      rw [State.setFrames_self ht]
    subst hg
    refine Or.inr ⟨q, ⟨(({ U with heap := s₂.heap, slotsUsed := s₂.slotsUsed } : State).setVm s₂.vm), Ls ++ L, c0 + mc, s0 + ms⟩,
      ⟨X.admits, X.cas, X.clock, X.frames, X.room, X.hears, X.method, X.code, (X.here.setHeapUsed s₂.heap s₂.slotsUsed).setVm hW'.alike, X.tail, State.WarmedH.trans X.warmed hW', X.limits, X.bytes, X.same.trans (hsame.setVm s.vm)⟩,
      ⟨g, mk, s₂, L, E, ce, rfl, rfl, hx, hce, hcv, hcl, rfl, hL, rfl, rfl⟩, ?_⟩
    show Steps p.tables e below _ (((({ U with heap := s₂.heap, slotsUsed := s₂.slotsUsed } : State).setVm s₂.vm).setTop g).pushFrame (.throwing q))
    rw [← hs₂]
    exact hsteps
end
variable {p : Program} {l : Launch} {e : Env} {R : Room} {s : State} {m : MethodId} {args : Array Value} {below : List Frame} {meth : Method} {c : Code} {T : State} {H : Heap} {locs : List Loc} {cells slots : Nat}
theorem vx_callVX (X : Stand p l e R s m args below meth c T locs cells slots) (hexec : p.tables.exec = Jvm.exec) {own C : String} {index : Nat} {y : MethodName} {bytes : ByteArray} {maxL : Nat} {ret : Option FieldType} {hh : List (Nat × Nat × Nat × Nat)}
    (hown : s.vm.findClass own = some m.cls) (hlink : (Cond.methodLink own index y).before args s = true) (hinst : (Cond.instanceMethod y).before args s = true) (hsel : (Cond.selects C y y).before args s = true)
    (hcode : (Cond.codeWith y bytes maxL ret hh).before args s = true) (hy : y.cls ≠ "java/lang/invoke/MethodHandle" ∧ y.cls ≠ "java/lang/invoke/VarHandle")
    {W9 : Nat} {Pre : Pt → Array Value → Prop} {Post : Pt → Array Value → Option Value → Pt → Prop} {PostX : Pt → Array Value → Addr → Pt → Prop} (hK : vx_Back l R p e below s args y 3 W9 Pre Post PostX)
    {b : Addr} {cellB : Cell} (hcell : T.heap[b]? = some cellB) (hobj : cellB.vm.isStatics = false) (hcls : s.vm.findClass C = some cellB.cls)
    {g : JFrame} (hg : g.method = m) (hsize : g.locals.size = c.maxLocals) {argsL rest : List Value} (hlen : ∀ sig, parseMethodDescriptor y.desc = some sig → argsL.length = sig.parameters.length)
    (hstack : g.stack = argsL.reverse ++ .ref b :: rest) (hW : 2 * g.monitorRoom + (rest.map fun v => v.category).sum ≤ W9) (hdg : decode c.code g.pc = .ok (.invokevirtual index, 3))
    (hpre : ∀ vm₁, s.WarmedH vm₁ → Pre ⟨T.setVm vm₁, locs, cells, slots⟩ (Value.ref b :: argsL).toArray) :
    (∃ (v : Option Value) (vm₁ : Vm) (B : Pt), s.WarmedH vm₁ ∧ Stand p l e R s m args below meth c B.U B.locs B.cells B.slots ∧ Post ⟨T.setVm vm₁, locs, cells, slots⟩ (Value.ref b :: argsL).toArray v B ∧
      ∀ target, Steps p.tables e below (B.U.setTop { g with pc := g.pc + 3, stack := v.toList ++ rest }) target → Steps p.tables e below (T.setTop g) target) ∨
    (∃ (q : Addr) (vm₁ : Vm) (B : Pt), s.WarmedH vm₁ ∧ Stand p l e R s m args below meth c B.U B.locs B.cells B.slots ∧ PostX ⟨T.setVm vm₁, locs, cells, slots⟩ (Value.ref b :: argsL).toArray q B ∧
      Steps p.tables e below (T.setTop g) ((B.U.setTop { g with stack := rest }).pushFrame (.throwing q))) := by
  obtain ⟨mk, methM, hnamed, hmethM, hstM, habM⟩ := Cond.instanceMethod_spec hinst
  obtain ⟨m8, methM', cM, hn8, hmethM', -, -, -, -, -, -, hsigM⟩ := Cond.codeWith_spec hcode
  cases Option.some.inj (hn8.symm.trans hnamed)
  cases hmethM.symm.trans hmethM'
  obtain ⟨c2, r2, m2, q1, q2, q3, q4, kP, hkP, hkPi⟩ := Cond.selects_spec hsel
  cases hcls.symm.trans q1
  cases (State.methodFound?_of_named hnamed hy).symm.trans q2
  cases hnamed.symm.trans q3
  have hselP : selectMethod e.platform s.vm cellB.cls mk = .method mk := by rw [Launch.admits_selectMethod X.admits]; exact q4
  obtain ⟨vm₁, X₁, hstep₁⟩ := X.invokevirtual hexec hown hlink hnamed hmethM hstM hkP hkPi hy (a := b) (cell := cellB) hcell
    (fun z h => by rw [h] at hobj; cases hobj) hselP hmethM habM hkP hkPi (g := g) hg (argsL := argsL) (rest := rest) (hlen _ hsigM) hstack hdg
  rcases hK m meth c ⟨T.setVm vm₁, locs, cells, slots⟩ { g with stack := rest } (.invokevirtual index) mk (Value.ref b :: argsL).toArray X₁ hg hsize hdg hW (X₁.named hnamed) (hpre vm₁ X₁.warmed) with ⟨v, B, X', hpost, hsteps⟩ | ⟨q, B, X', hpost, hsteps⟩
  · exact Or.inl ⟨v, vm₁, B, X₁.warmed, X', hpost, fun target h => hstep₁ _ fun acts => by rw [doInvoke_state]; exact hsteps.trans h⟩
  · exact Or.inr ⟨q, vm₁, B, X₁.warmed, X', hpost, hstep₁ _ fun acts => by rw [doInvoke_state]; exact hsteps⟩
theorem vx_callSX (X : Stand p l e R s m args below meth c T locs cells slots) (hexec : p.tables.exec = Jvm.exec) {own : String} {index : Nat} {y : MethodName} {bytes : ByteArray} {maxL : Nat} {ret : Option FieldType} {hh : List (Nat × Nat × Nat × Nat)}
    (hown : s.vm.findClass own = some m.cls) (hlink : (Cond.methodLink own index y).before args s = true) (hstat : (Cond.static y).before args s = true) (hinit : (Cond.initialized y.cls).before args s = true)
    (hcode : (Cond.codeWith y bytes maxL ret hh).before args s = true) (hy : y.cls ≠ "java/lang/invoke/MethodHandle" ∧ y.cls ≠ "java/lang/invoke/VarHandle")
    {W9 : Nat} {Pre : Pt → Array Value → Prop} {Post : Pt → Array Value → Option Value → Pt → Prop} {PostX : Pt → Array Value → Addr → Pt → Prop} (hK : vx_Back l R p e below s args y 3 W9 Pre Post PostX)
    {g : JFrame} (hg : g.method = m) (hsize : g.locals.size = c.maxLocals) {argsL rest : List Value} (hlen : ∀ sig, parseMethodDescriptor y.desc = some sig → argsL.length = sig.parameters.length)
    (hstack : g.stack = argsL.reverse ++ rest) (hW : 2 * g.monitorRoom + (rest.map fun v => v.category).sum ≤ W9) (hdg : decode c.code g.pc = .ok (.invokestatic index, 3))
    (hpre : ∀ vm₁, s.WarmedH vm₁ → Pre ⟨T.setVm vm₁, locs, cells, slots⟩ argsL.toArray) :
    (∃ (v : Option Value) (vm₁ : Vm) (B : Pt), s.WarmedH vm₁ ∧ Stand p l e R s m args below meth c B.U B.locs B.cells B.slots ∧ Post ⟨T.setVm vm₁, locs, cells, slots⟩ argsL.toArray v B ∧
      ∀ target, Steps p.tables e below (B.U.setTop { g with pc := g.pc + 3, stack := v.toList ++ rest }) target → Steps p.tables e below (T.setTop g) target) ∨
    (∃ (q : Addr) (vm₁ : Vm) (B : Pt), s.WarmedH vm₁ ∧ Stand p l e R s m args below meth c B.U B.locs B.cells B.slots ∧ PostX ⟨T.setVm vm₁, locs, cells, slots⟩ argsL.toArray q B ∧
      Steps p.tables e below (T.setTop g) ((B.U.setTop { g with stack := rest }).pushFrame (.throwing q))) := by
  obtain ⟨mk, methM, cM, hnamed, hmethM, -, -, -, -, -, -, hsigM⟩ := Cond.codeWith_spec hcode
  have hstatic : methM.isStatic = true := Cond.static_spec hnamed hmethM hstat
  obtain ⟨kP, hkP, -⟩ := className_of_methodNamed hnamed
  have hinitP : kP.init = .initialized := Cond.initialized_spec (findClass_of_methodNamed hnamed) hkP hinit
  obtain ⟨vm₁, X₁, hstep₁⟩ := X.invokestatic hexec hown hlink hnamed hmethM hstatic hkP hinitP hy (g := g) hg (argsL := argsL) (rest := rest) (hlen _ hsigM) hstack hdg
  rcases hK m meth c ⟨T.setVm vm₁, locs, cells, slots⟩ { g with stack := rest } (.invokestatic index) mk argsL.toArray X₁ hg hsize hdg hW (X₁.named hnamed) (hpre vm₁ X₁.warmed) with ⟨v, B, X', hpost, hsteps⟩ | ⟨q, B, X', hpost, hsteps⟩
  · exact Or.inl ⟨v, vm₁, B, X₁.warmed, X', hpost, fun target h => hstep₁ _ fun acts => by rw [doInvoke_state]; exact hsteps.trans h⟩
  · exact Or.inr ⟨q, vm₁, B, X₁.warmed, X', hpost, hstep₁ _ fun acts => by rw [doInvoke_state]; exact hsteps⟩
theorem vx_callVW (X : Stand p l e R s m args below meth c T locs cells slots) (hexec : p.tables.exec = Jvm.exec) {own C : String} {index : Nat} {y : MethodName} {bytes : ByteArray} {maxL : Nat} {ret : Option FieldType} {hh : List (Nat × Nat × Nat × Nat)}
    (hown : s.vm.findClass own = some m.cls) (hlink : (Cond.methodLink own index y).before args s = true) (hinst : (Cond.instanceMethod y).before args s = true) (hsel : (Cond.selects C y y).before args s = true)
    (hcode : (Cond.codeWith y bytes maxL ret hh).before args s = true) (hy : y.cls ≠ "java/lang/invoke/MethodHandle" ∧ y.cls ≠ "java/lang/invoke/VarHandle")
    {W9 : Nat} {Pre : Pt → Array Value → Prop} {Post : Pt → Array Value → Option Value → Pt → Prop} (hK : Back l R p e below s args y 3 W9 Pre Post)
    {b : Addr} {cellB : Cell} (hcell : T.heap[b]? = some cellB) (hobj : cellB.vm.isStatics = false) (hcls : s.vm.findClass C = some cellB.cls)
    {g : JFrame} (hg : g.method = m) (hsize : g.locals.size = c.maxLocals) {argsL rest : List Value} (hlen : ∀ sig, parseMethodDescriptor y.desc = some sig → argsL.length = sig.parameters.length)
    (hstack : g.stack = argsL.reverse ++ .ref b :: rest) (hW : 2 * g.monitorRoom + (rest.map fun v => v.category).sum ≤ W9) (hdg : decode c.code g.pc = .ok (.invokevirtual index, 3))
    (hpre : ∀ vm₁, s.WarmedH vm₁ → Pre ⟨T.setVm vm₁, locs, cells, slots⟩ (Value.ref b :: argsL).toArray) :
    ∃ (v : Option Value) (vm₁ : Vm) (B : Pt), s.WarmedH vm₁ ∧ Stand p l e R s m args below meth c B.U B.locs B.cells B.slots ∧ Post ⟨T.setVm vm₁, locs, cells, slots⟩ (Value.ref b :: argsL).toArray v B ∧
      ∀ target, Steps p.tables e below (B.U.setTop { g with pc := g.pc + 3, stack := v.toList ++ rest }) target → Steps p.tables e below (T.setTop g) target := by
  obtain ⟨mk, methM, hnamed, hmethM, hstM, habM⟩ := Cond.instanceMethod_spec hinst
  obtain ⟨m8, methM', cM, hn8, hmethM', -, -, -, -, -, -, hsigM⟩ := Cond.codeWith_spec hcode
  cases Option.some.inj (hn8.symm.trans hnamed)
  cases hmethM.symm.trans hmethM'
  obtain ⟨c2, r2, m2, q1, q2, q3, q4, kP, hkP, hkPi⟩ := Cond.selects_spec hsel
  cases hcls.symm.trans q1
  cases (State.methodFound?_of_named hnamed hy).symm.trans q2
  cases hnamed.symm.trans q3
  have hselP : selectMethod e.platform s.vm cellB.cls mk = .method mk := by rw [Launch.admits_selectMethod X.admits]; exact q4
  obtain ⟨vm₁, X₁, hstep₁⟩ := X.invokevirtual hexec hown hlink hnamed hmethM hstM hkP hkPi hy (a := b) (cell := cellB) hcell
    (fun z h => by rw [h] at hobj; cases hobj) hselP hmethM habM hkP hkPi (g := g) hg (argsL := argsL) (rest := rest) (hlen _ hsigM) hstack hdg
  obtain ⟨v, B, X', hpost, hsteps⟩ := hK m meth c ⟨T.setVm vm₁, locs, cells, slots⟩ { g with stack := rest } (.invokevirtual index) mk (Value.ref b :: argsL).toArray X₁ hg hsize hdg hW (X₁.named hnamed) (hpre vm₁ X₁.warmed)
  exact ⟨v, vm₁, B, X₁.warmed, X', hpost, fun target h => hstep₁ _ fun acts => by rw [doInvoke_state]; exact hsteps.trans h⟩
abbrev vx_CVW (R : Room) (s : State) (args : Array Value) (own C : String) (index : Nat) (y : MethodName) (bytes : ByteArray) (maxL : Nat) (ret : Option FieldType) (hh : List (Nat × Nat × Nat × Nat)) (ws : List Cond) (rm : Room) (mc ms n : Nat) : Prop :=
  (rm.cells = mc ∧ rm.slots = ms ∧ rm.frames + 1 ≤ R.frames ∧ 8 + (maxL + 11) + rm.locals ≤ R.locals ∧ (∀ w ∈ ws, ∀ (a' : Array Value) (U : State), s.WarmedH U.vm → w.before a' U = true) ∧ Cond.codeWith y bytes maxL ret hh ∈ ws) ∧
  (Cond.codeWith y bytes maxL ret hh).before args s = true ∧ (Cond.initialized y.cls).before args s = true ∧ (y.cls ≠ "java/lang/invoke/MethodHandle" ∧ y.cls ≠ "java/lang/invoke/VarHandle") ∧
  (∀ sig, parseMethodDescriptor y.desc = some sig → n = sig.parameters.length) ∧ (Cond.methodLink own index y).before args s = true ∧ (Cond.instanceMethod y).before args s = true ∧ (Cond.selects C y y).before args s = true
theorem vx_cwVW {own C : String} {index maxL mc ms : Nat} {y : MethodName} {bytes : ByteArray} {ret : Option FieldType} {hh : List (Nat × Nat × Nat × Nat)} {Ts ws ws' : List Cond} {rm : Room} (n : Nat) (ht : ∀ w ∈ Ts, w.before args s = true) (hT : GoodIn Ts (wsV own index C y ws)) (hw : ws = Cond.codeWith y bytes maxL ret hh :: ws') (hrc : rm.cells = mc) (hrs : rm.slots = ms)
    (hd : y.cls = C ∧ y.cls ≠ "java/lang/invoke/MethodHandle" ∧ y.cls ≠ "java/lang/invoke/VarHandle" ∧ (parseMethodDescriptor y.desc).map (fun d => d.parameters.length) = some n) (hR : rm.frames + 1 ≤ R.frames ∧ 8 + (maxL + 11) + rm.locals ≤ R.locals) :
    vx_CVW R s args own C index y bytes maxL ret hh ws rm mc ms n := by
  obtain ⟨hC, hd⟩ := hd
  subst hC
  have ok : ∀ w ∈ wsV own index y.cls y ws, w.before args s = true := fun w h => ht w (hT w h).1
  have hG : GoodIn Ts ws := fun w h => hT w (by unfold wsV; exact List.mem_append_right _ h)
  have hc : Cond.codeWith y bytes maxL ret hh ∈ ws := by rw [hw]; exact List.mem_cons_self
  refine ⟨⟨hrc, hrs, hR.1, hR.2, pay_in ht hG, hc⟩, ht _ (hG _ hc).1, ok _ (by simp [wsV]), ⟨hd.1, hd.2.1⟩, fun sig h => ?_, ok _ (by simp [wsV]), ok _ (by simp [wsV]), ok _ (by simp [wsV])⟩
  have h2 := hd.2.2
  rw [h] at h2
  exact (Option.some.inj h2).symm
theorem vx_runVW {y : MethodName} {bytes cc : ByteArray} {maxL nL mc ms n index : Nat} {ret : Option FieldType} {hh : List (Nat × Nat × Nat × Nat)} {ws : List Cond} {rm : Room} {Pc : Array Value → State → Prop} {Qc : Array Value → State → Outcome → State → Prop} {free : Addr → Prop} {Ts : List Cond} {own C : String} {b : Addr} {As rest : List Value} {g : JFrame}
    (S : CallFix p m c cc nL s args Ts own) (hM : Met l y ws rm Pc Qc mc ms free) (cw : vx_CVW R s args own C index y bytes maxL ret hh ws rm mc ms n) (hp : PreV s H C b Pc As)
    (hg : g.method = m) (hn : As.length = n) (hsize : g.locals.size = nL) (hstack : g.stack = As.reverse ++ .ref b :: rest) (hW : 2 * g.monitorRoom + (rest.map fun v => v.category).sum ≤ 8) (hdg : decode cc g.pc = .ok (.invokevirtual index, 3)) (hf : cells + mc ≤ R.cells ∧ slots + ms ≤ R.slots) :
    va_Run p l e R s m args below meth c H locs cells slots mc ms g rest (Qc (Value.ref b :: As).toArray) free := by
  obtain ⟨⟨hrc, hrs, hfr, hlo, hws, hcw⟩, hcode, hini, hy, hlen, hl, hin, hse⟩ := cw
  have hK : Back l R p e below s args y 3 8 (PreOf R mc ms Pc) (PostOf Qc mc ms free) := va_backW (hh := hh) (bytes := bytes) (maxL := maxL) (ret := ret) hM hp.1 hrc hrs hfr hlo hws hcw (fun a' U hW => word_at hW (Or.inl (by first | rfl | simp [Cond.onTables, Cond.keeps, Cond.steady])) hini)
  obtain ⟨hx, hb, hml, ho, -⟩ := S
  obtain ⟨-, ⟨cellB, hcB, hoB, hclB⟩, hPc⟩ := hp
  intro T hT X
  obtain ⟨v, vm₁, ⟨U', l2, c2, s2⟩, hW₁, X', ⟨g', mk, t, L, e1, e2, hq, h1, hL, h2, h3⟩, st⟩ := vx_callVW X hx (C := C) (hh := hh) (bytes := bytes) (maxL := maxL) (ret := ret) ho hl hin hse hcode hy hK (by rw [hT]; exact hcB) hoB hclB hg (hsize.trans hml.symm) (argsL := As) (rest := rest) (fun sig h => hn.trans (hlen sig h)) hstack hW (by rw [hb]; exact hdg)
    (fun vm₁ hW₁ => ⟨hf.1, hf.2, hPc (T.setVm vm₁) hT hW₁⟩)
  dsimp only [Pt.U, Pt.locs, Pt.cells, Pt.slots] at X' e1 e2 h1 h2 h3 st
  subst h1; subst h2; subst h3
  exact ⟨v, (T.setVm vm₁).calling g' mk (Value.ref b :: As).toArray, t, U', L, hT, X', hL, e1, e2, hq, st⟩
section
variable {y : MethodName} {bytes cc : ByteArray} {maxL nL mc ms n index : Nat} {ret : Option FieldType} {ws : List Cond} {rm : Room} {Pc : Array Value → State → Prop} {Qc : Array Value → State → Outcome → State → Prop} {XC : String → State → State → Prop} {free : Addr → Prop} {Ts : List Cond} {own C : String} {b : Addr} {As rest : List Value} {g : JFrame}
theorem vx_runVX {hh : List (Nat × Nat × Nat × Nat)} (S : CallFix p m c cc nL s args Ts own) (hM : vx_Met l y ws rm Pc Qc XC mc ms free) (cw : vx_CVW R s args own C index y bytes maxL ret hh ws rm mc ms n) (hp : PreV s H C b Pc As)
    (hg : g.method = m) (hn : As.length = n) (hsize : g.locals.size = nL) (hstack : g.stack = As.reverse ++ .ref b :: rest) (hW : 2 * g.monitorRoom + (rest.map fun v => v.category).sum ≤ 8) (hdg : decode cc g.pc = .ok (.invokevirtual index, 3)) (hf : cells + mc ≤ R.cells ∧ slots + ms ≤ R.slots) :
    vx_Run p l e R s m args below meth c H locs cells slots mc ms g rest (Qc (Value.ref b :: As).toArray) XC free := by
  obtain ⟨⟨hrc, hrs, hfr, hlo, hws, hcw⟩, hcode, hini, hy, hlen, hl, hin, hse⟩ := cw
  have hK : vx_Back l R p e below s args y 3 8 (PreOf R mc ms Pc) (PostOf Qc mc ms free) (vx_Post XC mc ms free) := vx_backW (hh := hh) (bytes := bytes) (maxL := maxL) (ret := ret) hM hp.1 hrc hrs hfr hlo hws hcw (fun a' U hW => word_at hW (Or.inl (by first | rfl | simp [Cond.onTables, Cond.keeps, Cond.steady])) hini)
  obtain ⟨hx, hb, hml, ho, -⟩ := S
  obtain ⟨-, ⟨cellB, hcB, hoB, hclB⟩, hPc⟩ := hp
  intro T hT X
  rcases vx_callVX X hx (C := C) (hh := hh) (bytes := bytes) (maxL := maxL) (ret := ret) ho hl hin hse hcode hy hK (by rw [hT]; exact hcB) hoB hclB hg (hsize.trans hml.symm) (argsL := As) (rest := rest) (fun sig h => hn.trans (hlen sig h)) hstack hW (by rw [hb]; exact hdg)
    (fun vm₁ hW₁ => ⟨hf.1, hf.2, hPc (T.setVm vm₁) hT hW₁⟩) with ⟨v, vm₁, ⟨U', l2, c2, s2⟩, hW₁, X', ⟨g', mk, t, L, e1, e2, hq, h1, hL, h2, h3⟩, st⟩ | ⟨q, vm₁, ⟨U', l2, c2, s2⟩, hW₁, X', ⟨g', mk, t, L, E, ce, e1, e2, hq, hce, hcv, hcl, h1, hL, h2, h3⟩, st⟩
  · dsimp only [Pt.U, Pt.locs, Pt.cells, Pt.slots] at X' e1 e2 h1 h2 h3 st
    subst h1; subst h2; subst h3
    exact Or.inl ⟨v, (T.setVm vm₁).calling g' mk (Value.ref b :: As).toArray, t, U', L, hT, X', hL, e1, e2, hq, st⟩
  · dsimp only [Pt.U, Pt.locs, Pt.cells, Pt.slots] at X' e1 e2 h1 h2 h3 st hcl
    subst h1; subst h2; subst h3
    exact Or.inr ⟨q, (T.setVm vm₁).calling g' mk (Value.ref b :: As).toArray, t, U', L, E, ce, hT, X', hL, e1, e2, hq, hce, hcv, vx_cls hW₁ hcl, st⟩
theorem vx_runSX {hh : List (Nat × Nat × Nat × Nat)} (S : CallFix p m c cc nL s args Ts own) (hM : vx_Met l y ws rm Pc Qc XC mc ms free) (cw : vx_CSW R s args own index y bytes maxL ret hh ws rm mc ms n) (hp : PreS s H Pc As)
    (hg : g.method = m) (hn : As.length = n) (hsize : g.locals.size = nL) (hstack : g.stack = As.reverse ++ rest) (hW : 2 * g.monitorRoom + (rest.map fun v => v.category).sum ≤ 8) (hdg : decode cc g.pc = .ok (.invokestatic index, 3)) (hf : cells + mc ≤ R.cells ∧ slots + ms ≤ R.slots) :
    vx_Run p l e R s m args below meth c H locs cells slots mc ms g rest (Qc As.toArray) XC free := by
  obtain ⟨⟨hrc, hrs, hfr, hlo, hws, hcw⟩, hcode, hini, hy, hlen, hl, hstt⟩ := cw
  have hK : vx_Back l R p e below s args y 3 8 (PreOf R mc ms Pc) (PostOf Qc mc ms free) (vx_Post XC mc ms free) := vx_backW (hh := hh) (bytes := bytes) (maxL := maxL) (ret := ret) hM hp.1 hrc hrs hfr hlo hws hcw (fun a' U hW => word_at hW (Or.inl (by first | rfl | simp [Cond.onTables, Cond.keeps, Cond.steady])) hini)
  obtain ⟨hx, hb, hml, ho, -⟩ := S
  intro T hT X
  rcases vx_callSX X hx (hh := hh) (bytes := bytes) (maxL := maxL) (ret := ret) ho hl hstt hini hcode hy hK hg (hsize.trans hml.symm) (argsL := As) (rest := rest) (fun sig h => hn.trans (hlen sig h)) hstack hW (by rw [hb]; exact hdg)
    (fun vm₁ hW₁ => ⟨hf.1, hf.2, hp.2 (T.setVm vm₁) hT hW₁⟩) with ⟨v, vm₁, ⟨U', l2, c2, s2⟩, hW₁, X', ⟨g', mk, t, L, e1, e2, hq, h1, hL, h2, h3⟩, st⟩ | ⟨q, vm₁, ⟨U', l2, c2, s2⟩, hW₁, X', ⟨g', mk, t, L, E, ce, e1, e2, hq, hce, hcv, hcl, h1, hL, h2, h3⟩, st⟩
  · dsimp only [Pt.U, Pt.locs, Pt.cells, Pt.slots] at X' e1 e2 h1 h2 h3 st
    subst h1; subst h2; subst h3
    exact Or.inl ⟨v, (T.setVm vm₁).calling g' mk As.toArray, t, U', L, hT, X', hL, e1, e2, hq, st⟩
  · dsimp only [Pt.U, Pt.locs, Pt.cells, Pt.slots] at X' e1 e2 h1 h2 h3 st hcl
    subst h1; subst h2; subst h3
    exact Or.inr ⟨q, (T.setVm vm₁).calling g' mk As.toArray, t, U', L, E, ce, hT, X', hL, e1, e2, hq, hce, hcv, vx_cls hW₁ hcl, st⟩
end
end VXH
theorem vx_ofWH {l : Launch} {y : MethodName} {ws ws' : List Cond} {rm : Room} {Pc : Array Value → State → Prop} {Qc : Array Value → State → Outcome → State → Prop} {XC : String → State → State → Prop} {mc ms : Nat} {free : Addr → Prop} {cc : ByteArray} {maxL : Nat} {ret : Option FieldType} {hh : List (Nat × Nat × Nat × Nat)}
    (hy : plainName y.cls = true) (hw : ws = Cond.codeWith y cc maxL ret hh :: ws')
    (body : ∀ p e s m args below meth c s₁, BodyLoose p l y (headSpec ws rm) cc maxL ret e s m args below meth c s₁ → c.maxLocals = maxL → Pc args s →
      W p l e (headSpec ws rm).room s m args below meth c s.heap [] 0 0 (vx_MQ below Qc XC args s mc ms free) (entryFrame m args maxL)) : vx_Met l y ws rm Pc Qc XC mc ms free := by
  refine MetFree.of_bodyS (code := cc) (maxLocals := maxL) (ret := ret) hy ?_ ?_
  · intro args s m h hn
    obtain ⟨m9, meth, c, hn9, h1, h2, h3, h4, -, h5, h6, -⟩ := Cond.codeWith_spec (atoms_spec (ws := ws) h _ (by rw [hw]; exact List.mem_cons_self))
    cases hn.symm.trans hn9
    exact ⟨meth, c, h1, h2, h3, h4, h5, h6⟩
  · intro p e s m args below meth c s₁ B hml hP _
    have hh0 : s₁.heap = s.heap := by rw [B.state]; rfl
    obtain ⟨t, a1, o, b1, b2, b3⟩ := body p e s m args below meth c s₁ B hml hP s₁ hh0 (Stand.of_body B)
    exact ⟨t, o, a1, b1, b2, b3⟩
/-! ===== END ===== -/
end
section
/-! ===== BEGIN printed: names, fields, word lists, decode rows ===== -/
def RX0 : String := "GroveMerge$EditDistance"
def TX0 : u_T := fun k => match k with
  | 0 => ("GroveMerge$EditDistance", "ofParts", "[[I", true)
  | 1 => ("GroveMerge$EditDistance", "ofRests", "[[I", true)
  | 2 => ("GroveMerge$EditDistance", "endsA", "[I", true)
  | _ => ("GroveMerge$EditDistance", "endsB", "[I", true)
def tyX0 : Nat → FieldType := fun k => match k with
  | 0 => .array (.array .int)
  | 1 => .array (.array .int)
  | 2 => .array .int
  | _ => .array .int
abbrev wsX00 : List Cond := u_ws RX0 TX0 4
theorem nmX0 : ∀ a, a < 4 → ∀ b, b < 4 → a ≠ b → (TX0 a).2.1 ≠ (TX0 b).2.1 := by decide +kernel
theorem tyX0_ok : ∀ k, k < 4 → parseFieldDescriptor (TX0 k).2.2.1 = some (tyX0 k) := by decide +kernel
abbrev cX0_init : ByteArray := prog_2_method_1_code
def yX0_init : MethodName := ⟨RX0, "<init>", "()V"⟩
abbrev cX0_between : ByteArray := prog_2_method_2_code
def yX0_between : MethodName := ⟨RX0, "between", "(LGroveMerge$Tree;LGroveMerge$Tree;)I"⟩
abbrev cX0_compareWithAll : ByteArray := prog_2_method_3_code
def yX0_compareWithAll : MethodName := ⟨RX0, "compareWithAll", "(LGroveMerge$Tree;LGroveMerge$Tree;I)V"⟩
abbrev cX0_noteEnds : ByteArray := prog_2_method_4_code
def yX0_noteEnds : MethodName := ⟨RX0, "noteEnds", "(LGroveMerge$Tree;[I)V"⟩
abbrev cX0_isWidest : ByteArray := prog_2_method_5_code
def yX0_isWidest : MethodName := ⟨RX0, "isWidest", "(LGroveMerge$Tree;[II)Z"⟩
abbrev cX0_compareParts : ByteArray := prog_2_method_6_code
def yX0_compareParts : MethodName := ⟨RX0, "compareParts", "(LGroveMerge$Tree;LGroveMerge$Tree;II)V"⟩
abbrev cX0_least : ByteArray := prog_2_method_7_code
def yX0_least : MethodName := ⟨RX0, "least", "(III)I"⟩
def RX1 : String := "GroveMerge$History"
def TX1 : u_T := fun k => match k with
  | 0 => ("GroveMerge$History", "trees", "[LGroveMerge$Tree;", true)
  | 1 => ("GroveMerge$History", "firstParent", "[I", true)
  | 2 => ("GroveMerge$History", "secondParent", "[I", true)
  | 3 => ("GroveMerge$History", "size", "I", false)
  | _ => ("GroveMerge$History", "reach", "[I", true)
def tyX1 : Nat → FieldType := fun k => match k with
  | 0 => .array (.object "GroveMerge$Tree")
  | 1 => .array .int
  | 2 => .array .int
  | 3 => .int
  | _ => .array .int
abbrev wsX10 : List Cond := u_ws RX1 TX1 5
theorem nmX1 : ∀ a, a < 5 → ∀ b, b < 5 → a ≠ b → (TX1 a).2.1 ≠ (TX1 b).2.1 := by decide +kernel
theorem tyX1_ok : ∀ k, k < 5 → parseFieldDescriptor (TX1 k).2.2.1 = some (tyX1 k) := by decide +kernel
abbrev cX1_init : ByteArray := prog_3_method_1_code
def yX1_init : MethodName := ⟨RX1, "<init>", "()V"⟩
abbrev cX1_record : ByteArray := prog_3_method_2_code
def yX1_record : MethodName := ⟨RX1, "record", "(LGroveMerge$Tree;II)I"⟩
abbrev cX1_reachOf : ByteArray := prog_3_method_3_code
def yX1_reachOf : MethodName := ⟨RX1, "reachOf", "(I)I"⟩
abbrev cX1_baseOf : ByteArray := prog_3_method_4_code
def yX1_baseOf : MethodName := ⟨RX1, "baseOf", "(II)I"⟩
abbrev cX1_isReachedFromAnother : ByteArray := prog_3_method_5_code
def yX1_isReachedFromAnother : MethodName := ⟨RX1, "isReachedFromAnother", "(II)Z"⟩
def RX2 : String := "GroveMerge$Merger"
def TX2 : u_T := fun k => match k with
  | 0 => ("GroveMerge$Merger", "result", "LGroveMerge$Tree;", true)
  | 1 => ("GroveMerge$Merger", "conflicts", "[I", true)
  | _ => ("GroveMerge$Merger", "conflictCount", "I", false)
def tyX2 : Nat → FieldType := fun k => match k with
  | 0 => .object "GroveMerge$Tree"
  | 1 => .array .int
  | _ => .int
abbrev wsX20 : List Cond := u_ws RX2 TX2 3
theorem nmX2 : ∀ a, a < 3 → ∀ b, b < 3 → a ≠ b → (TX2 a).2.1 ≠ (TX2 b).2.1 := by decide +kernel
theorem tyX2_ok : ∀ k, k < 3 → parseFieldDescriptor (TX2 k).2.2.1 = some (tyX2 k) := by decide +kernel
abbrev cX2_init : ByteArray := prog_4_method_1_code
def yX2_init : MethodName := ⟨RX2, "<init>", "()V"⟩
abbrev cX2_run : ByteArray := prog_4_method_2_code
def yX2_run : MethodName := ⟨RX2, "run", "(LGroveMerge$Tree;LGroveMerge$Tree;LGroveMerge$Tree;)I"⟩
abbrev cX2_settle : ByteArray := prog_4_method_3_code
def yX2_settle : MethodName := ⟨RX2, "settle", "(ILGroveMerge$Tree;LGroveMerge$Tree;LGroveMerge$Tree;)V"⟩
abbrev cX2_agreed : ByteArray := prog_4_method_4_code
def yX2_agreed : MethodName := ⟨RX2, "agreed", "(III)I"⟩
abbrev cX2_name : ByteArray := prog_4_method_5_code
def yX2_name : MethodName := ⟨RX2, "name", "(II)V"⟩
abbrev cX2_nameThoseWithoutParent : ByteArray := prog_4_method_6_code
def yX2_nameThoseWithoutParent : MethodName := ⟨RX2, "nameThoseWithoutParent", "()V"⟩
abbrev cX2_nameThoseCutOff : ByteArray := prog_4_method_7_code
def yX2_nameThoseCutOff : MethodName := ⟨RX2, "nameThoseCutOff", "()V"⟩
abbrev cX2_comesToRoot : ByteArray := prog_4_method_8_code
def yX2_comesToRoot : MethodName := ⟨RX2, "comesToRoot", "(I)Z"⟩
abbrev cX2_arrange : ByteArray := prog_4_method_9_code
def yX2_arrange : MethodName := ⟨RX2, "arrange", "(LGroveMerge$Tree;LGroveMerge$Tree;)V"⟩
abbrev cX2_arrangeChildren : ByteArray := prog_4_method_10_code
def yX2_arrangeChildren : MethodName := ⟨RX2, "arrangeChildren", "(ILGroveMerge$Tree;LGroveMerge$Tree;)V"⟩
abbrev cX2_isChildNowAsIn : ByteArray := prog_4_method_11_code
def yX2_isChildNowAsIn : MethodName := ⟨RX2, "isChildNowAsIn", "(LGroveMerge$Tree;II)Z"⟩
def RX3 : String := "GroveMerge$PathWalk"
def TX3 : u_T := fun k => match k with
  | _ => ("", "", "", false)
def tyX3 : Nat → FieldType := fun k => match k with
  | _ => .int
abbrev wsX30 : List Cond := u_ws RX3 TX3 0
theorem nmX3 : ∀ a, a < 0 → ∀ b, b < 0 → a ≠ b → (TX3 a).2.1 ≠ (TX3 b).2.1 := by decide +kernel
theorem tyX3_ok : ∀ k, k < 0 → parseFieldDescriptor (TX3 k).2.2.1 = some (tyX3 k) := by decide +kernel
abbrev cX3_follow : ByteArray := prog_5_method_2_code
def yX3_follow : MethodName := ⟨RX3, "follow", "(ILGroveMerge$Tree;)I"⟩
abbrev cX3_alongAxis : ByteArray := prog_5_method_3_code
def yX3_alongAxis : MethodName := ⟨RX3, "alongAxis", "(IILGroveMerge$Tree;)I"⟩
abbrev cX3_childrenOf : ByteArray := prog_5_method_4_code
def yX3_childrenOf : MethodName := ⟨RX3, "childrenOf", "(ILGroveMerge$Tree;)I"⟩
abbrev cX3_below : ByteArray := prog_5_method_5_code
def yX3_below : MethodName := ⟨RX3, "below", "(ILGroveMerge$Tree;)I"⟩
abbrev cX3_behind : ByteArray := prog_5_method_6_code
def yX3_behind : MethodName := ⟨RX3, "behind", "(ILGroveMerge$Tree;)I"⟩
abbrev cX3_labelled : ByteArray := prog_5_method_7_code
def yX3_labelled : MethodName := ⟨RX3, "labelled", "(ILGroveMerge$Tree;)I"⟩
def RX4 : String := "GroveMerge$Tree"
def TX4 : u_T := fun k => match k with
  | 0 => ("GroveMerge$Tree", "order", "[I", true)
  | 1 => ("GroveMerge$Tree", "spot", "[I", true)
  | 2 => ("GroveMerge$Tree", "parent", "[I", true)
  | 3 => ("GroveMerge$Tree", "label", "[I", true)
  | 4 => ("GroveMerge$Tree", "size", "I", false)
  | _ => ("GroveMerge$Tree", "carried", "[I", true)
def tyX4 : Nat → FieldType := fun k => match k with
  | 0 => .array .int
  | 1 => .array .int
  | 2 => .array .int
  | 3 => .array .int
  | 4 => .int
  | _ => .array .int
abbrev wsX40 : List Cond := u_ws RX4 TX4 6
theorem nmX4 : ∀ a, a < 6 → ∀ b, b < 6 → a ≠ b → (TX4 a).2.1 ≠ (TX4 b).2.1 := by decide +kernel
theorem tyX4_ok : ∀ k, k < 6 → parseFieldDescriptor (TX4 k).2.2.1 = some (tyX4 k) := by decide +kernel
abbrev cX4_init : ByteArray := prog_6_method_1_code
def yX4_init : MethodName := ⟨RX4, "<init>", "()V"⟩
abbrev cX4_clear : ByteArray := prog_6_method_2_code
def yX4_clear : MethodName := ⟨RX4, "clear", "()V"⟩
abbrev cX4_copyFrom : ByteArray := prog_6_method_3_code
def yX4_copyFrom : MethodName := ⟨RX4, "copyFrom", "(LGroveMerge$Tree;)V"⟩
abbrev cX4_isSameAs : ByteArray := prog_6_method_4_code
def yX4_isSameAs : MethodName := ⟨RX4, "isSameAs", "(LGroveMerge$Tree;)Z"⟩
abbrev cX4_hasAsIn : ByteArray := prog_6_method_5_code
def yX4_hasAsIn : MethodName := ⟨RX4, "hasAsIn", "(LGroveMerge$Tree;I)Z"⟩
abbrev cX4_holds : ByteArray := prog_6_method_6_code
def yX4_holds : MethodName := ⟨RX4, "holds", "(I)Z"⟩
abbrev cX4_isWithin : ByteArray := prog_6_method_7_code
def yX4_isWithin : MethodName := ⟨RX4, "isWithin", "(II)Z"⟩
abbrev cX4_childCount : ByteArray := prog_6_method_8_code
def yX4_childCount : MethodName := ⟨RX4, "childCount", "(I)I"⟩
abbrev cX4_slotFor : ByteArray := prog_6_method_9_code
def yX4_slotFor : MethodName := ⟨RX4, "slotFor", "(II)I"⟩
abbrev cX4_endOf : ByteArray := prog_6_method_10_code
def yX4_endOf : MethodName := ⟨RX4, "endOf", "(I)I"⟩
abbrev cX4_parentSpot : ByteArray := prog_6_method_11_code
def yX4_parentSpot : MethodName := ⟨RX4, "parentSpot", "(I)I"⟩
abbrev cX4_plant : ByteArray := prog_6_method_12_code
def yX4_plant : MethodName := ⟨RX4, "plant", "(II)V"⟩
abbrev cX4_attach : ByteArray := prog_6_method_13_code
def yX4_attach : MethodName := ⟨RX4, "attach", "(IIII)V"⟩
abbrev cX4_prune : ByteArray := prog_6_method_14_code
def yX4_prune : MethodName := ⟨RX4, "prune", "(I)I"⟩
abbrev cX4_transplant : ByteArray := prog_6_method_15_code
def yX4_transplant : MethodName := ⟨RX4, "transplant", "(III)V"⟩
abbrev cX4_putInto : ByteArray := prog_6_method_16_code
def yX4_putInto : MethodName := ⟨RX4, "putInto", "(II)V"⟩
abbrev cX4_takeOut : ByteArray := prog_6_method_17_code
def yX4_takeOut : MethodName := ⟨RX4, "takeOut", "(I)I"⟩
abbrev cX4_putCarried : ByteArray := prog_6_method_18_code
def yX4_putCarried : MethodName := ⟨RX4, "putCarried", "(II)V"⟩
abbrev cX4_renumberFrom : ByteArray := prog_6_method_19_code
def yX4_renumberFrom : MethodName := ⟨RX4, "renumberFrom", "(I)V"⟩
abbrev cX4_pick : ByteArray := prog_6_method_20_code
def yX4_pick : MethodName := ⟨RX4, "pick", "(II)I"⟩
abbrev cX4_firstAlike : ByteArray := prog_6_method_21_code
def yX4_firstAlike : MethodName := ⟨RX4, "firstAlike", "(I)I"⟩
abbrev cX4_areAlike : ByteArray := prog_6_method_22_code
def yX4_areAlike : MethodName := ⟨RX4, "areAlike", "(II)Z"⟩
def RX5 : String := "GroveMerge"
def TX5 : u_T := fun k => match k with
  | 0 => ("GroveMerge", "working", "LGroveMerge$Tree;", true)
  | 1 => ("GroveMerge", "history", "LGroveMerge$History;", true)
  | 2 => ("GroveMerge", "merger", "LGroveMerge$Merger;", true)
  | 3 => ("GroveMerge", "editDistance", "LGroveMerge$EditDistance;", true)
  | 4 => ("GroveMerge", "made", "I", false)
  | 5 => ("GroveMerge", "head", "I", false)
  | _ => ("GroveMerge", "takenIn", "I", false)
def tyX5 : Nat → FieldType := fun k => match k with
  | 0 => .object "GroveMerge$Tree"
  | 1 => .object "GroveMerge$History"
  | 2 => .object "GroveMerge$Merger"
  | 3 => .object "GroveMerge$EditDistance"
  | 4 => .int
  | 5 => .int
  | _ => .int
abbrev wsX50 : List Cond := u_ws RX5 TX5 7
theorem nmX5 : ∀ a, a < 7 → ∀ b, b < 7 → a ≠ b → (TX5 a).2.1 ≠ (TX5 b).2.1 := by decide +kernel
theorem tyX5_ok : ∀ k, k < 7 → parseFieldDescriptor (TX5 k).2.2.1 = some (tyX5 k) := by decide +kernel
abbrev cX5_init : ByteArray := prog_1_method_1_code
def yX5_init : MethodName := ⟨RX5, "<init>", "()V"⟩
abbrev cX5_insert : ByteArray := prog_1_method_2_code
def yX5_insert : MethodName := ⟨RX5, "insert", "(III)I"⟩
abbrev cX5_delete : ByteArray := prog_1_method_3_code
def yX5_delete : MethodName := ⟨RX5, "delete", "(I)I"⟩
abbrev cX5_move : ByteArray := prog_1_method_4_code
def yX5_move : MethodName := ⟨RX5, "move", "(III)V"⟩
abbrev cX5_relabel : ByteArray := prog_1_method_5_code
def yX5_relabel : MethodName := ⟨RX5, "relabel", "(II)V"⟩
abbrev cX5_commit : ByteArray := prog_1_method_6_code
def yX5_commit : MethodName := ⟨RX5, "commit", "()I"⟩
abbrev cX5_checkout : ByteArray := prog_1_method_7_code
def yX5_checkout : MethodName := ⟨RX5, "checkout", "(I)V"⟩
abbrev cX5_base : ByteArray := prog_1_method_8_code
def yX5_base : MethodName := ⟨RX5, "base", "(II)I"⟩
abbrev cX5_merge : ByteArray := prog_1_method_9_code
def yX5_merge : MethodName := ⟨RX5, "merge", "(I)I"⟩
abbrev cX5_conflict : ByteArray := prog_1_method_10_code
def yX5_conflict : MethodName := ⟨RX5, "conflict", "(I)I"⟩
abbrev cX5_about : ByteArray := prog_1_method_11_code
def yX5_about : MethodName := ⟨RX5, "about", "(II)I"⟩
abbrev cX5_child : ByteArray := prog_1_method_12_code
def yX5_child : MethodName := ⟨RX5, "child", "(II)I"⟩
abbrev cX5_nodes : ByteArray := prog_1_method_13_code
def yX5_nodes : MethodName := ⟨RX5, "nodes", "(Z)I"⟩
abbrev cX5_count : ByteArray := prog_1_method_14_code
def yX5_count : MethodName := ⟨RX5, "count", "(I)I"⟩
abbrev cX5_find : ByteArray := prog_1_method_15_code
def yX5_find : MethodName := ⟨RX5, "find", "(II)I"⟩
abbrev cX5_alike : ByteArray := prog_1_method_16_code
def yX5_alike : MethodName := ⟨RX5, "alike", "(I)I"⟩
abbrev cX5_distance : ByteArray := prog_1_method_17_code
def yX5_distance : MethodName := ⟨RX5, "distance", "(II)I"⟩
abbrev cX5_state : ByteArray := prog_1_method_18_code
def yX5_state : MethodName := ⟨RX5, "state", "(I)I"⟩
abbrev cX5_above : ByteArray := prog_1_method_19_code
def yX5_above : MethodName := ⟨RX5, "above", "(II)I"⟩
abbrev cX5_requireNode : ByteArray := prog_1_method_20_code
def yX5_requireNode : MethodName := ⟨RX5, "requireNode", "(I)V"⟩
abbrev cX5_requireCommit : ByteArray := prog_1_method_21_code
def yX5_requireCommit : MethodName := ⟨RX5, "requireCommit", "(I)V"⟩
abbrev cX5_requirePlace : ByteArray := prog_1_method_22_code
def yX5_requirePlace : MethodName := ⟨RX5, "requirePlace", "(II)V"⟩
abbrev cX5_requireLabel : ByteArray := prog_1_method_23_code
def yX5_requireLabel : MethodName := ⟨RX5, "requireLabel", "(I)V"⟩
abbrev cX5_isIn : ByteArray := prog_1_method_24_code
def yX5_isIn : MethodName := ⟨RX5, "isIn", "(II)Z"⟩
def RX6 : String := "GroveMergeModel"
def TX6 : u_T := fun k => match k with
  | 0 => ("GroveMergeModel", "thrown", "I", false)
  | 1 => ("GroveMergeModel", "there", "[Z", true)
  | 2 => ("GroveMergeModel", "label", "[I", true)
  | 3 => ("GroveMergeModel", "parent", "[I", true)
  | 4 => ("GroveMergeModel", "place", "[I", true)
  | 5 => ("GroveMergeModel", "made", "I", false)
  | 6 => ("GroveMergeModel", "commits", "I", false)
  | 7 => ("GroveMergeModel", "one", "[I", true)
  | 8 => ("GroveMergeModel", "two", "[I", true)
  | 9 => ("GroveMergeModel", "reach", "[I", true)
  | 10 => ("GroveMergeModel", "head", "I", false)
  | 11 => ("GroveMergeModel", "taken", "I", false)
  | 12 => ("GroveMergeModel", "conflicts", "I", false)
  | 13 => ("GroveMergeModel", "conflict", "[I", true)
  | 14 => ("GroveMergeModel", "stays", "[Z", true)
  | 15 => ("GroveMergeModel", "kind", "[I", true)
  | 16 => ("GroveMergeModel", "newLabel", "[I", true)
  | 17 => ("GroveMergeModel", "newParent", "[I", true)
  | 18 => ("GroveMergeModel", "many", "I", false)
  | 19 => ("GroveMergeModel", "order", "[I", true)
  | 20 => ("GroveMergeModel", "stack", "[I", true)
  | 21 => ("GroveMergeModel", "top", "I", false)
  | 22 => ("GroveMergeModel", "alike", "[I", true)
  | 23 => ("GroveMergeModel", "post", "[I", true)
  | 24 => ("GroveMergeModel", "leaf", "[I", true)
  | 25 => ("GroveMergeModel", "trees", "[I", true)
  | _ => ("GroveMergeModel", "forests", "[I", true)
def tyX6 : Nat → FieldType := fun k => match k with
  | 0 => .int
  | 1 => .array .boolean
  | 2 => .array .int
  | 3 => .array .int
  | 4 => .array .int
  | 5 => .int
  | 6 => .int
  | 7 => .array .int
  | 8 => .array .int
  | 9 => .array .int
  | 10 => .int
  | 11 => .int
  | 12 => .int
  | 13 => .array .int
  | 14 => .array .boolean
  | 15 => .array .int
  | 16 => .array .int
  | 17 => .array .int
  | 18 => .int
  | 19 => .array .int
  | 20 => .array .int
  | 21 => .int
  | 22 => .array .int
  | 23 => .array .int
  | 24 => .array .int
  | 25 => .array .int
  | _ => .array .int
abbrev wsX60 : List Cond := u_ws RX6 TX6 27
theorem nmX6 : ∀ a, a < 27 → ∀ b, b < 27 → a ≠ b → (TX6 a).2.1 ≠ (TX6 b).2.1 := by decide +kernel
theorem tyX6_ok : ∀ k, k < 27 → parseFieldDescriptor (TX6 k).2.2.1 = some (tyX6 k) := by decide +kernel
abbrev cX6_init : ByteArray := prog_8_method_1_code
def yX6_init : MethodName := ⟨RX6, "<init>", "()V"⟩
abbrev cX6_thrown : ByteArray := prog_8_method_2_code
def yX6_thrown : MethodName := ⟨RX6, "thrown", "()I"⟩
abbrev cX6_fail : ByteArray := prog_8_method_3_code
def yX6_fail : MethodName := ⟨RX6, "fail", "(I)I"⟩
abbrev cX6_copy : ByteArray := prog_8_method_4_code
def yX6_copy : MethodName := ⟨RX6, "copy", "(II)V"⟩
abbrev cX6_has : ByteArray := prog_8_method_5_code
def yX6_has : MethodName := ⟨RX6, "has", "(II)Z"⟩
abbrev cX6_isChild : ByteArray := prog_8_method_6_code
def yX6_isChild : MethodName := ⟨RX6, "isChild", "(III)Z"⟩
abbrev cX6_children : ByteArray := prog_8_method_7_code
def yX6_children : MethodName := ⟨RX6, "children", "(II)I"⟩
abbrev cX6_childAt : ByteArray := prog_8_method_8_code
def yX6_childAt : MethodName := ⟨RX6, "childAt", "(III)I"⟩
abbrev cX6_isAt : ByteArray := prog_8_method_9_code
def yX6_isAt : MethodName := ⟨RX6, "isAt", "(III)Z"⟩
abbrev cX6_shift : ByteArray := prog_8_method_10_code
def yX6_shift : MethodName := ⟨RX6, "shift", "(IIII)V"⟩
abbrev cX6_hang : ByteArray := prog_8_method_11_code
def yX6_hang : MethodName := ⟨RX6, "hang", "(IIII)V"⟩
abbrev cX6_unhang : ByteArray := prog_8_method_12_code
def yX6_unhang : MethodName := ⟨RX6, "unhang", "(II)V"⟩
abbrev cX6_walk : ByteArray := prog_8_method_13_code
def yX6_walk : MethodName := ⟨RX6, "walk", "(I)V"⟩
abbrev cX6_insert : ByteArray := prog_8_method_14_code
def yX6_insert : MethodName := ⟨RX6, "insert", "(III)I"⟩
abbrev cX6_delete : ByteArray := prog_8_method_15_code
def yX6_delete : MethodName := ⟨RX6, "delete", "(I)I"⟩
abbrev cX6_move : ByteArray := prog_8_method_16_code
def yX6_move : MethodName := ⟨RX6, "move", "(III)V"⟩
abbrev cX6_relabel : ByteArray := prog_8_method_17_code
def yX6_relabel : MethodName := ⟨RX6, "relabel", "(II)V"⟩
abbrev cX6_commit : ByteArray := prog_8_method_18_code
def yX6_commit : MethodName := ⟨RX6, "commit", "()I"⟩
abbrev cX6_isCommit : ByteArray := prog_8_method_19_code
def yX6_isCommit : MethodName := ⟨RX6, "isCommit", "(I)Z"⟩
abbrev cX6_checkout : ByteArray := prog_8_method_20_code
def yX6_checkout : MethodName := ⟨RX6, "checkout", "(I)V"⟩
abbrev cX6_baseOf : ByteArray := prog_8_method_21_code
def yX6_baseOf : MethodName := ⟨RX6, "baseOf", "(II)I"⟩
abbrev cX6_base : ByteArray := prog_8_method_22_code
def yX6_base : MethodName := ⟨RX6, "base", "(II)I"⟩
abbrev cX6_isHeads : ByteArray := prog_8_method_23_code
def yX6_isHeads : MethodName := ⟨RX6, "isHeads", "()Z"⟩
abbrev cX6_stay : ByteArray := prog_8_method_24_code
def yX6_stay : MethodName := ⟨RX6, "stay", "(III)I"⟩
abbrev cX6_choose : ByteArray := prog_8_method_25_code
def yX6_choose : MethodName := ⟨RX6, "choose", "(IIZI)I"⟩
abbrev cX6_meet : ByteArray := prog_8_method_26_code
def yX6_meet : MethodName := ⟨RX6, "meet", "(III)V"⟩
abbrev cX6_countKinds : ByteArray := prog_8_method_27_code
def yX6_countKinds : MethodName := ⟨RX6, "countKinds", "()I"⟩
abbrev cX6_comes : ByteArray := prog_8_method_28_code
def yX6_comes : MethodName := ⟨RX6, "comes", "(I)Z"⟩
abbrev cX6_findOrphans : ByteArray := prog_8_method_29_code
def yX6_findOrphans : MethodName := ⟨RX6, "findOrphans", "()V"⟩
abbrev cX6_findRings : ByteArray := prog_8_method_30_code
def yX6_findRings : MethodName := ⟨RX6, "findRings", "()V"⟩
abbrev cX6_putChildren : ByteArray := prog_8_method_31_code
def yX6_putChildren : MethodName := ⟨RX6, "putChildren", "(II)V"⟩
abbrev cX6_build : ByteArray := prog_8_method_32_code
def yX6_build : MethodName := ⟨RX6, "build", "(I)V"⟩
abbrev cX6_merge : ByteArray := prog_8_method_33_code
def yX6_merge : MethodName := ⟨RX6, "merge", "(I)I"⟩
abbrev cX6_conflict : ByteArray := prog_8_method_34_code
def yX6_conflict : MethodName := ⟨RX6, "conflict", "(I)I"⟩
abbrev cX6_numberOf : ByteArray := prog_8_method_35_code
def yX6_numberOf : MethodName := ⟨RX6, "numberOf", "(I)I"⟩
abbrev cX6_about : ByteArray := prog_8_method_36_code
def yX6_about : MethodName := ⟨RX6, "about", "(II)I"⟩
abbrev cX6_child : ByteArray := prog_8_method_37_code
def yX6_child : MethodName := ⟨RX6, "child", "(II)I"⟩
abbrev cX6_nodes : ByteArray := prog_8_method_38_code
def yX6_nodes : MethodName := ⟨RX6, "nodes", "(Z)I"⟩
abbrev cX6_isFound : ByteArray := prog_8_method_39_code
def yX6_isFound : MethodName := ⟨RX6, "isFound", "(III)Z"⟩
abbrev cX6_found : ByteArray := prog_8_method_40_code
def yX6_found : MethodName := ⟨RX6, "found", "(I)I"⟩
abbrev cX6_count : ByteArray := prog_8_method_41_code
def yX6_count : MethodName := ⟨RX6, "count", "(I)I"⟩
abbrev cX6_find : ByteArray := prog_8_method_42_code
def yX6_find : MethodName := ⟨RX6, "find", "(II)I"⟩
abbrev cX6_areAlike : ByteArray := prog_8_method_43_code
def yX6_areAlike : MethodName := ⟨RX6, "areAlike", "(II)Z"⟩
abbrev cX6_alike : ByteArray := prog_8_method_44_code
def yX6_alike : MethodName := ⟨RX6, "alike", "(I)I"⟩
abbrev cX6_leave : ByteArray := prog_8_method_45_code
def yX6_leave : MethodName := ⟨RX6, "leave", "(II)I"⟩
abbrev cX6_least : ByteArray := prog_8_method_46_code
def yX6_least : MethodName := ⟨RX6, "least", "(II)I"⟩
abbrev cX6_compare : ByteArray := prog_8_method_47_code
def yX6_compare : MethodName := ⟨RX6, "compare", "(IIII)V"⟩
abbrev cX6_distance : ByteArray := prog_8_method_48_code
def yX6_distance : MethodName := ⟨RX6, "distance", "(II)I"⟩
abbrev cX6_state : ByteArray := prog_8_method_49_code
def yX6_state : MethodName := ⟨RX6, "state", "(I)I"⟩
abbrev cX6_above : ByteArray := prog_8_method_50_code
def yX6_above : MethodName := ⟨RX6, "above", "(II)I"⟩
def RJx145de : String := "java/io/Serializable"
def TJx145de : u_T := fun k => match k with
  | _ => ("", "", "", false)
def tyJx145de : Nat → FieldType := fun k => match k with
  | _ => .int
abbrev wsJx145de0 : List Cond := u_ws RJx145de TJx145de 0
theorem nmJx145de : ∀ a, a < 0 → ∀ b, b < 0 → a ≠ b → (TJx145de a).2.1 ≠ (TJx145de b).2.1 := by decide +kernel
theorem tyJx145de_ok : ∀ k, k < 0 → parseFieldDescriptor (TJx145de k).2.2.1 = some (tyJx145de k) := by decide +kernel
def RJ6 : String := "java/lang/Integer"
def TJ6 : u_T := fun k => match k with
  | _ => ("", "", "", false)
def tyJ6 : Nat → FieldType := fun k => match k with
  | _ => .int
abbrev wsJ60 : List Cond := u_ws RJ6 TJ6 0
theorem nmJ6 : ∀ a, a < 0 → ∀ b, b < 0 → a ≠ b → (TJ6 a).2.1 ≠ (TJ6 b).2.1 := by decide +kernel
theorem tyJ6_ok : ∀ k, k < 0 → parseFieldDescriptor (TJ6 k).2.2.1 = some (tyJ6 k) := by decide +kernel
abbrev cJ6_bitCount_0f7a4 : ByteArray := prog_14_method_49_code
def yJ6_bitCount_0f7a4 : MethodName := ⟨RJ6, "bitCount", "(I)I"⟩
def RJ9 : String := "java/lang/Math"
def TJ9 : u_T := fun k => match k with
  | _ => ("", "", "", false)
def tyJ9 : Nat → FieldType := fun k => match k with
  | _ => .int
abbrev wsJ90 : List Cond := u_ws RJ9 TJ9 0
theorem nmJ9 : ∀ a, a < 0 → ∀ b, b < 0 → a ≠ b → (TJ9 a).2.1 ≠ (TJ9 b).2.1 := by decide +kernel
theorem tyJ9_ok : ∀ k, k < 0 → parseFieldDescriptor (TJ9 k).2.2.1 = some (tyJ9 k) := by decide +kernel
abbrev cJ9_min_7cf53 : ByteArray := prog_15_method_69_code
def yJ9_min_7cf53 : MethodName := ⟨RJ9, "min", "(II)I"⟩
def RJ0 : String := "java/lang/String"
def TJ0 : u_T := fun k => match k with
  | _ => ("", "", "", false)
def tyJ0 : Nat → FieldType := fun k => match k with
  | _ => .int
abbrev wsJ00 : List Cond := u_ws RJ0 TJ0 0
theorem nmJ0 : ∀ a, a < 0 → ∀ b, b < 0 → a ≠ b → (TJ0 a).2.1 ≠ (TJ0 b).2.1 := by decide +kernel
theorem tyJ0_ok : ∀ k, k < 0 → parseFieldDescriptor (TJ0 k).2.2.1 = some (tyJ0 k) := by decide +kernel
def RJ10 : String := "java/lang/System"
def TJ10 : u_T := fun k => match k with
  | _ => ("", "", "", false)
def tyJ10 : Nat → FieldType := fun k => match k with
  | _ => .int
abbrev wsJ100 : List Cond := u_ws RJ10 TJ10 0
theorem nmJ10 : ∀ a, a < 0 → ∀ b, b < 0 → a ≠ b → (TJ10 a).2.1 ≠ (TJ10 b).2.1 := by decide +kernel
theorem tyJ10_ok : ∀ k, k < 0 → parseFieldDescriptor (TJ10 k).2.2.1 = some (tyJ10 k) := by decide +kernel
def RJ7 : String := "java/util/Arrays"
def TJ7 : u_T := fun k => match k with
  | _ => ("", "", "", false)
def tyJ7 : Nat → FieldType := fun k => match k with
  | _ => .int
abbrev wsJ70 : List Cond := u_ws RJ7 TJ7 0
theorem nmJ7 : ∀ a, a < 0 → ∀ b, b < 0 → a ≠ b → (TJ7 a).2.1 ≠ (TJ7 b).2.1 := by decide +kernel
theorem tyJ7_ok : ∀ k, k < 0 → parseFieldDescriptor (TJ7 k).2.2.1 = some (tyJ7 k) := by decide +kernel
abbrev cJ7_fill_53178 : ByteArray := prog_21_method_103_code
def yJ7_fill_53178 : MethodName := ⟨RJ7, "fill", "([II)V"⟩
def RL : String := "GroveMergeLaw"
abbrev cL_insert : ByteArray := method_3_code
def yL_insert : MethodName := ⟨RL, "insert", "(LGroveMerge;III[J)I"⟩
abbrev cL_delete : ByteArray := method_4_code
def yL_delete : MethodName := ⟨RL, "delete", "(LGroveMerge;I[J)I"⟩
abbrev cL_move : ByteArray := method_5_code
def yL_move : MethodName := ⟨RL, "move", "(LGroveMerge;III)I"⟩
abbrev cL_relabel : ByteArray := method_6_code
def yL_relabel : MethodName := ⟨RL, "relabel", "(LGroveMerge;II)I"⟩
abbrev cL_commit : ByteArray := method_7_code
def yL_commit : MethodName := ⟨RL, "commit", "(LGroveMerge;[J)I"⟩
abbrev cL_checkout : ByteArray := method_8_code
def yL_checkout : MethodName := ⟨RL, "checkout", "(LGroveMerge;I)I"⟩
abbrev cL_base : ByteArray := method_9_code
def yL_base : MethodName := ⟨RL, "base", "(LGroveMerge;II[J)I"⟩
abbrev cL_merge : ByteArray := method_10_code
def yL_merge : MethodName := ⟨RL, "merge", "(LGroveMerge;I[J)I"⟩
abbrev cL_conflict : ByteArray := method_11_code
def yL_conflict : MethodName := ⟨RL, "conflict", "(LGroveMerge;I[J)I"⟩
abbrev cL_about : ByteArray := method_12_code
def yL_about : MethodName := ⟨RL, "about", "(LGroveMerge;II[J)I"⟩
abbrev cL_child : ByteArray := method_13_code
def yL_child : MethodName := ⟨RL, "child", "(LGroveMerge;II[J)I"⟩
abbrev cL_find : ByteArray := method_14_code
def yL_find : MethodName := ⟨RL, "find", "(LGroveMerge;II[J)I"⟩
abbrev cL_alike : ByteArray := method_15_code
def yL_alike : MethodName := ⟨RL, "alike", "(LGroveMerge;I[J)I"⟩
abbrev cL_distance : ByteArray := method_16_code
def yL_distance : MethodName := ⟨RL, "distance", "(LGroveMerge;II[J)I"⟩
abbrev cL_state : ByteArray := method_17_code
def yL_state : MethodName := ⟨RL, "state", "(LGroveMerge;I[J)I"⟩
abbrev cL_above : ByteArray := method_18_code
def yL_above : MethodName := ⟨RL, "above", "(LGroveMerge;II[J)I"⟩
abbrev cL_law : ByteArray := code
def yL_law : MethodName := ⟨RL, "law", "([I)Z"⟩
def wsX0_init : List Cond := .code yX0_init cX0_init 1 none :: ([.methodLink RX0 3 objectInit, .instanceMethod objectInit, .code objectInit ⟨#[0xb1]⟩ 1 none, .classLink RX0 9 "[[I", .arrayClass .int, .fieldLink RX0 11 "GroveMerge$EditDistance" "ofParts" "[[I", .fieldLink RX0 16 "GroveMerge$EditDistance" "ofRests" "[[I", .fieldLink RX0 19 "GroveMerge$EditDistance" "endsA" "[I", .fieldLink RX0 23 "GroveMerge$EditDistance" "endsB" "[I"] ++ wsX00)
def wsX4_parentSpot : List Cond := .code yX4_parentSpot cX4_parentSpot 3 (some .int) :: ([.fieldLink RX4 18 "GroveMerge$Tree" "parent" "[I", .fieldLink RX4 9 "GroveMerge$Tree" "order" "[I", .fieldLink RX4 15 "GroveMerge$Tree" "spot" "[I"] ++ wsX40)
def wsX4_endOf : List Cond := .code yX4_endOf cX4_endOf 3 (some .int) :: ([.fieldLink RX4 36 "GroveMerge$Tree" "size" "I", .methodLink RX4 54 yX4_parentSpot, .instanceMethod yX4_parentSpot, .selects RX4 yX4_parentSpot yX4_parentSpot, .initialized RX4, .code yX4_parentSpot cX4_parentSpot 3 (some .int), .fieldLink RX4 18 "GroveMerge$Tree" "parent" "[I", .fieldLink RX4 9 "GroveMerge$Tree" "order" "[I", .fieldLink RX4 15 "GroveMerge$Tree" "spot" "[I"] ++ wsX40)
def wsX0_noteEnds : List Cond := .code yX0_noteEnds cX0_noteEnds 3 none :: ([.fieldLink RX0 30 "GroveMerge$Tree" "size" "I", .methodLink RX0 48 yX4_endOf, .instanceMethod yX4_endOf, .selects RX4 yX4_endOf yX4_endOf, .initialized RX4, .code yX4_endOf cX4_endOf 3 (some .int), .fieldLink RX4 36 "GroveMerge$Tree" "size" "I", .methodLink RX4 54 yX4_parentSpot, .instanceMethod yX4_parentSpot, .selects RX4 yX4_parentSpot yX4_parentSpot, .code yX4_parentSpot cX4_parentSpot 3 (some .int), .fieldLink RX4 18 "GroveMerge$Tree" "parent" "[I", .fieldLink RX4 9 "GroveMerge$Tree" "order" "[I", .fieldLink RX4 15 "GroveMerge$Tree" "spot" "[I"] ++ wsX40)
def wsX0_isWidest : List Cond := .code yX0_isWidest cX0_isWidest 3 (some .boolean) :: ([.methodLink RX0 52 yX4_parentSpot, .instanceMethod yX4_parentSpot, .selects RX4 yX4_parentSpot yX4_parentSpot, .initialized RX4, .code yX4_parentSpot cX4_parentSpot 3 (some .int), .fieldLink RX4 18 "GroveMerge$Tree" "parent" "[I", .fieldLink RX4 9 "GroveMerge$Tree" "order" "[I", .fieldLink RX4 15 "GroveMerge$Tree" "spot" "[I"] ++ wsX40)
def wsX0_least : List Cond := .code yX0_least cX0_least 5 (some .int) :: ([.fieldLink RX0 16 "GroveMerge$EditDistance" "ofRests" "[[I", .methodLink RX0 65 Lib.Math.min.name, .static Lib.Math.min.name, .initialized "java/lang/Math", .code Lib.Math.min.name Lib.Math.min.code 2 (some .int)] ++ wsX00)
def wsX0_compareParts : List Cond := .code yX0_compareParts cX0_compareParts 10 none :: ([.fieldLink RX0 19 "GroveMerge$EditDistance" "endsA" "[I", .fieldLink RX0 23 "GroveMerge$EditDistance" "endsB" "[I", .fieldLink RX0 16 "GroveMerge$EditDistance" "ofRests" "[[I", .fieldLink RX0 55 "GroveMerge$Tree" "label" "[I", .fieldLink RX0 58 "GroveMerge$Tree" "order" "[I", .fieldLink RX0 11 "GroveMerge$EditDistance" "ofParts" "[[I", .methodLink RX0 61 yX0_least, .instanceMethod yX0_least, .selects RX0 yX0_least yX0_least, .initialized RX0, .code yX0_least cX0_least 5 (some .int), .methodLink RX0 65 Lib.Math.min.name, .static Lib.Math.min.name, .initialized "java/lang/Math", .code Lib.Math.min.name Lib.Math.min.code 2 (some .int)] ++ wsX00 ++ wsX40)
def wsX0_compareWithAll_r1 : List Cond := [Cond.fieldLink RX0 30 "GroveMerge$Tree" "size" "I", Cond.fieldLink RX0 23 "GroveMerge$EditDistance" "endsB" "[I", Cond.methodLink RX0 36 yX0_isWidest, Cond.static yX0_isWidest, Cond.initialized RX0, Cond.code yX0_isWidest cX0_isWidest 3 (some .boolean), Cond.methodLink RX0 52 yX4_parentSpot, Cond.instanceMethod yX4_parentSpot, Cond.selects RX4 yX4_parentSpot yX4_parentSpot, Cond.initialized RX4, Cond.code yX4_parentSpot cX4_parentSpot 3 (some .int), Cond.fieldLink RX4 18 "GroveMerge$Tree" "parent" "[I", Cond.fieldLink RX4 9 "GroveMerge$Tree" "order" "[I", Cond.fieldLink RX4 15 "GroveMerge$Tree" "spot" "[I", Cond.methodLink RX0 44 yX0_compareParts, Cond.instanceMethod yX0_compareParts, Cond.selects RX0 yX0_compareParts yX0_compareParts, Cond.code yX0_compareParts cX0_compareParts 10 none, Cond.fieldLink RX0 19 "GroveMerge$EditDistance" "endsA" "[I", Cond.fieldLink RX0 16 "GroveMerge$EditDistance" "ofRests" "[[I", Cond.fieldLink RX0 55 "GroveMerge$Tree" "label" "[I", Cond.fieldLink RX0 58 "GroveMerge$Tree" "order" "[I", Cond.fieldLink RX0 11 "GroveMerge$EditDistance" "ofParts" "[[I", Cond.methodLink RX0 61 yX0_least]
def wsX0_compareWithAll_r2 : List Cond := [Cond.instanceMethod yX0_least, Cond.selects RX0 yX0_least yX0_least, Cond.code yX0_least cX0_least 5 (some .int), Cond.methodLink RX0 65 Lib.Math.min.name, Cond.static Lib.Math.min.name, Cond.initialized "java/lang/Math", Cond.code Lib.Math.min.name Lib.Math.min.code 2 (some .int)]
def wsX0_compareWithAll : List Cond := .code yX0_compareWithAll cX0_compareWithAll 5 none :: ((wsX0_compareWithAll_r1 ++ wsX0_compareWithAll_r2) ++ wsX40 ++ wsX00)
def wsX0_between_r1 : List Cond := [Cond.fieldLink RX0 19 "GroveMerge$EditDistance" "endsA" "[I", Cond.fieldLink RX0 23 "GroveMerge$EditDistance" "endsB" "[I", Cond.fieldLink RX0 30 "GroveMerge$Tree" "size" "I", Cond.fieldLink RX0 11 "GroveMerge$EditDistance" "ofParts" "[[I", Cond.methodLink RX0 26 yX0_noteEnds, Cond.static yX0_noteEnds, Cond.initialized RX0, Cond.code yX0_noteEnds cX0_noteEnds 3 none, Cond.methodLink RX0 48 yX4_endOf, Cond.instanceMethod yX4_endOf, Cond.selects RX4 yX4_endOf yX4_endOf, Cond.initialized RX4, Cond.code yX4_endOf cX4_endOf 3 (some .int), Cond.fieldLink RX4 36 "GroveMerge$Tree" "size" "I", Cond.methodLink RX4 54 yX4_parentSpot, Cond.instanceMethod yX4_parentSpot, Cond.selects RX4 yX4_parentSpot yX4_parentSpot, Cond.code yX4_parentSpot cX4_parentSpot 3 (some .int), Cond.fieldLink RX4 18 "GroveMerge$Tree" "parent" "[I", Cond.fieldLink RX4 9 "GroveMerge$Tree" "order" "[I", Cond.fieldLink RX4 15 "GroveMerge$Tree" "spot" "[I", Cond.methodLink RX0 36 yX0_isWidest, Cond.static yX0_isWidest, Cond.code yX0_isWidest cX0_isWidest 3 (some .boolean)]
def wsX0_between_r2 : List Cond := [Cond.methodLink RX0 52 yX4_parentSpot, Cond.methodLink RX0 40 yX0_compareWithAll, Cond.instanceMethod yX0_compareWithAll, Cond.selects RX0 yX0_compareWithAll yX0_compareWithAll, Cond.code yX0_compareWithAll cX0_compareWithAll 5 none, Cond.methodLink RX0 44 yX0_compareParts, Cond.instanceMethod yX0_compareParts, Cond.selects RX0 yX0_compareParts yX0_compareParts, Cond.code yX0_compareParts cX0_compareParts 10 none, Cond.fieldLink RX0 16 "GroveMerge$EditDistance" "ofRests" "[[I", Cond.fieldLink RX0 55 "GroveMerge$Tree" "label" "[I", Cond.fieldLink RX0 58 "GroveMerge$Tree" "order" "[I", Cond.methodLink RX0 61 yX0_least, Cond.instanceMethod yX0_least, Cond.selects RX0 yX0_least yX0_least, Cond.code yX0_least cX0_least 5 (some .int), Cond.methodLink RX0 65 Lib.Math.min.name, Cond.static Lib.Math.min.name, Cond.initialized "java/lang/Math", Cond.code Lib.Math.min.name Lib.Math.min.code 2 (some .int)]
def wsX0_between : List Cond := .code yX0_between cX0_between 4 (some .int) :: ((wsX0_between_r1 ++ wsX0_between_r2) ++ wsX00 ++ wsX40)
def wsJ7_fill_53178 : List Cond := .code yJ7_fill_53178 cJ7_fill_53178 4 none :: ([])
def wsX4_clear : List Cond := .code yX4_clear cX4_clear 1 none :: ([.fieldLink RX4 18 "GroveMerge$Tree" "parent" "[I", .fieldLink RX4 21 "GroveMerge$Tree" "label" "[I", .fieldLink RX4 36 "GroveMerge$Tree" "size" "I", .methodLink RX4 30 yJ7_fill_53178, .static yJ7_fill_53178, .initialized RJ7, .code yJ7_fill_53178 cJ7_fill_53178 4 none] ++ wsX40)
def wsX4_init : List Cond := .code yX4_init cX4_init 1 none :: ([.methodLink RX4 3 objectInit, .instanceMethod objectInit, .code objectInit ⟨#[0xb1]⟩ 1 none, .arrayClass .int, .fieldLink RX4 9 "GroveMerge$Tree" "order" "[I", .fieldLink RX4 15 "GroveMerge$Tree" "spot" "[I", .fieldLink RX4 18 "GroveMerge$Tree" "parent" "[I", .fieldLink RX4 21 "GroveMerge$Tree" "label" "[I", .fieldLink RX4 24 "GroveMerge$Tree" "carried" "[I", .methodLink RX4 27 yX4_clear, .instanceMethod yX4_clear, .selects RX4 yX4_clear yX4_clear, .initialized RX4, .code yX4_clear cX4_clear 1 none, .fieldLink RX4 36 "GroveMerge$Tree" "size" "I", .methodLink RX4 30 yJ7_fill_53178, .static yJ7_fill_53178, .initialized RJ7, .code yJ7_fill_53178 cJ7_fill_53178 4 none] ++ wsX40)
def wsX1_init_r1 : List Cond := [Cond.methodLink RX1 3 objectInit, Cond.instanceMethod objectInit, Cond.code objectInit ⟨#[0xb1]⟩ 1 none, Cond.classLink RX1 9 RX4, Cond.fieldLink RX1 11 "GroveMerge$History" "trees" "[LGroveMerge$Tree;", Cond.arrayClass .int, Cond.fieldLink RX1 17 "GroveMerge$History" "firstParent" "[I", Cond.fieldLink RX1 21 "GroveMerge$History" "secondParent" "[I", Cond.fieldLink RX1 24 "GroveMerge$History" "reach" "[I", Cond.instantiable RX4 6, Cond.initialized RX4, Cond.methodLink RX1 27 yX4_init, Cond.instanceMethod yX4_init, Cond.code yX4_init cX4_init 1 none, Cond.methodLink RX4 3 objectInit, Cond.fieldLink RX4 9 "GroveMerge$Tree" "order" "[I", Cond.fieldLink RX4 15 "GroveMerge$Tree" "spot" "[I", Cond.fieldLink RX4 18 "GroveMerge$Tree" "parent" "[I", Cond.fieldLink RX4 21 "GroveMerge$Tree" "label" "[I", Cond.fieldLink RX4 24 "GroveMerge$Tree" "carried" "[I", Cond.methodLink RX4 27 yX4_clear, Cond.instanceMethod yX4_clear, Cond.selects RX4 yX4_clear yX4_clear, Cond.code yX4_clear cX4_clear 1 none]
def wsX1_init_r2 : List Cond := [Cond.fieldLink RX4 36 "GroveMerge$Tree" "size" "I", Cond.methodLink RX4 30 yJ7_fill_53178, Cond.static yJ7_fill_53178, Cond.initialized RJ7, Cond.code yJ7_fill_53178 cJ7_fill_53178 4 none]
def wsX1_init : List Cond := .code yX1_init cX1_init 2 none :: ((wsX1_init_r1 ++ wsX1_init_r2) ++ wsX10 ++ wsX40)
def wsX4_copyFrom : List Cond := .code yX4_copyFrom cX4_copyFrom 2 none :: ([.fieldLink RX4 9 "GroveMerge$Tree" "order" "[I", .methodLink RX4 40 arraycopyName, .native arraycopyName, .static arraycopyName, .initialized "java/lang/System", .fieldLink RX4 15 "GroveMerge$Tree" "spot" "[I", .fieldLink RX4 18 "GroveMerge$Tree" "parent" "[I", .fieldLink RX4 21 "GroveMerge$Tree" "label" "[I", .fieldLink RX4 36 "GroveMerge$Tree" "size" "I"] ++ wsX40)
def wsX1_reachOf : List Cond := .code yX1_reachOf cX1_reachOf 2 (some .int) :: ([.fieldLink RX1 24 "GroveMerge$History" "reach" "[I"] ++ wsX10)
def wsX1_record : List Cond := .code yX1_record cX1_record 5 (some .int) :: ([.fieldLink RX1 28 "GroveMerge$History" "size" "I", .fieldLink RX1 11 "GroveMerge$History" "trees" "[LGroveMerge$Tree;", .fieldLink RX1 17 "GroveMerge$History" "firstParent" "[I", .fieldLink RX1 21 "GroveMerge$History" "secondParent" "[I", .fieldLink RX1 24 "GroveMerge$History" "reach" "[I", .methodLink RX1 32 yX4_copyFrom, .instanceMethod yX4_copyFrom, .selects RX4 yX4_copyFrom yX4_copyFrom, .initialized RX4, .code yX4_copyFrom cX4_copyFrom 2 none, .fieldLink RX4 9 "GroveMerge$Tree" "order" "[I", .methodLink RX4 40 arraycopyName, .native arraycopyName, .static arraycopyName, .initialized "java/lang/System", .fieldLink RX4 15 "GroveMerge$Tree" "spot" "[I", .fieldLink RX4 18 "GroveMerge$Tree" "parent" "[I", .fieldLink RX4 21 "GroveMerge$Tree" "label" "[I", .fieldLink RX4 36 "GroveMerge$Tree" "size" "I", .methodLink RX1 36 yX1_reachOf, .instanceMethod yX1_reachOf, .selects RX1 yX1_reachOf yX1_reachOf, .initialized RX1, .code yX1_reachOf cX1_reachOf 2 (some .int)] ++ wsX10 ++ wsX40)
def wsX5_isIn : List Cond := .code yX5_isIn cX5_isIn 2 (some .boolean) :: ([])
def wsX1_isReachedFromAnother : List Cond := .code yX1_isReachedFromAnother cX1_isReachedFromAnother 4 (some .boolean) :: ([.fieldLink RX1 28 "GroveMerge$History" "size" "I", .fieldLink RX1 24 "GroveMerge$History" "reach" "[I", .static yX5_isIn, .initialized RX5, .code yX5_isIn cX5_isIn 2 (some .boolean)] ++ wsX10)
def wsX1_baseOf : List Cond := .code yX1_baseOf cX1_baseOf 5 (some .int) :: ([.fieldLink RX1 24 "GroveMerge$History" "reach" "[I", .fieldLink RX1 28 "GroveMerge$History" "size" "I", .static yX5_isIn, .initialized RX5, .code yX5_isIn cX5_isIn 2 (some .boolean), .methodLink RX1 44 yX1_isReachedFromAnother, .instanceMethod yX1_isReachedFromAnother, .selects RX1 yX1_isReachedFromAnother yX1_isReachedFromAnother, .initialized RX1, .code yX1_isReachedFromAnother cX1_isReachedFromAnother 4 (some .boolean)] ++ wsX10)
def wsX2_init_r1 : List Cond := [Cond.methodLink RX2 3 objectInit, Cond.instanceMethod objectInit, Cond.code objectInit ⟨#[0xb1]⟩ 1 none, Cond.classLink RX2 9 RX4, Cond.instantiable RX4 6, Cond.initialized RX4, Cond.fieldLink RX2 12 "GroveMerge$Merger" "result" "LGroveMerge$Tree;", Cond.arrayClass .int, Cond.fieldLink RX2 18 "GroveMerge$Merger" "conflicts" "[I", Cond.methodLink RX2 11 yX4_init, Cond.instanceMethod yX4_init, Cond.code yX4_init cX4_init 1 none, Cond.methodLink RX4 3 objectInit, Cond.fieldLink RX4 9 "GroveMerge$Tree" "order" "[I", Cond.fieldLink RX4 15 "GroveMerge$Tree" "spot" "[I", Cond.fieldLink RX4 18 "GroveMerge$Tree" "parent" "[I", Cond.fieldLink RX4 21 "GroveMerge$Tree" "label" "[I", Cond.fieldLink RX4 24 "GroveMerge$Tree" "carried" "[I", Cond.methodLink RX4 27 yX4_clear, Cond.instanceMethod yX4_clear, Cond.selects RX4 yX4_clear yX4_clear, Cond.code yX4_clear cX4_clear 1 none, Cond.fieldLink RX4 36 "GroveMerge$Tree" "size" "I", Cond.methodLink RX4 30 yJ7_fill_53178]
def wsX2_init_r2 : List Cond := [Cond.static yJ7_fill_53178, Cond.initialized RJ7, Cond.code yJ7_fill_53178 cJ7_fill_53178 4 none]
def wsX2_init : List Cond := .code yX2_init cX2_init 1 none :: ((wsX2_init_r1 ++ wsX2_init_r2) ++ wsX40 ++ wsX20)
def wsX4_holds : List Cond := .code yX4_holds cX4_holds 2 (some .boolean) :: ([.fieldLink RX4 21 "GroveMerge$Tree" "label" "[I"] ++ wsX40)
def wsX4_hasAsIn : List Cond := .code yX4_hasAsIn cX4_hasAsIn 3 (some .boolean) :: ([.fieldLink RX4 21 "GroveMerge$Tree" "label" "[I", .fieldLink RX4 18 "GroveMerge$Tree" "parent" "[I"] ++ wsX40)
def wsX2_name : List Cond := .code yX2_name cX2_name 3 none :: ([.fieldLink RX2 18 "GroveMerge$Merger" "conflicts" "[I", .fieldLink RX2 22 "GroveMerge$Merger" "conflictCount" "I"] ++ wsX20)
def wsX2_agreed : List Cond := .code yX2_agreed cX2_agreed 3 (some .int) :: ([])
def wsX2_settle : List Cond := .code yX2_settle cX2_settle 8 none :: ([.fieldLink RX2 55 "GroveMerge$Tree" "label" "[I", .fieldLink RX2 62 "GroveMerge$Tree" "parent" "[I", .fieldLink RX2 12 "GroveMerge$Merger" "result" "LGroveMerge$Tree;", .methodLink RX2 29 yX4_holds, .instanceMethod yX4_holds, .selects RX4 yX4_holds yX4_holds, .initialized RX4, .code yX4_holds cX4_holds 2 (some .boolean), .fieldLink RX4 21 "GroveMerge$Tree" "label" "[I", .methodLink RX2 47 yX4_hasAsIn, .instanceMethod yX4_hasAsIn, .selects RX4 yX4_hasAsIn yX4_hasAsIn, .code yX4_hasAsIn cX4_hasAsIn 3 (some .boolean), .fieldLink RX4 18 "GroveMerge$Tree" "parent" "[I", .methodLink RX2 51 yX2_name, .instanceMethod yX2_name, .selects RX2 yX2_name yX2_name, .initialized RX2, .code yX2_name cX2_name 3 none, .fieldLink RX2 18 "GroveMerge$Merger" "conflicts" "[I", .fieldLink RX2 22 "GroveMerge$Merger" "conflictCount" "I", .methodLink RX2 58 yX2_agreed, .static yX2_agreed, .code yX2_agreed cX2_agreed 3 (some .int)] ++ wsX40 ++ wsX20)
def wsX2_nameThoseWithoutParent : List Cond := .code yX2_nameThoseWithoutParent cX2_nameThoseWithoutParent 2 none :: ([.fieldLink RX2 12 "GroveMerge$Merger" "result" "LGroveMerge$Tree;", .fieldLink RX2 62 "GroveMerge$Tree" "parent" "[I", .methodLink RX2 29 yX4_holds, .instanceMethod yX4_holds, .selects RX4 yX4_holds yX4_holds, .initialized RX4, .code yX4_holds cX4_holds 2 (some .boolean), .fieldLink RX4 21 "GroveMerge$Tree" "label" "[I", .methodLink RX2 51 yX2_name, .instanceMethod yX2_name, .selects RX2 yX2_name yX2_name, .initialized RX2, .code yX2_name cX2_name 3 none, .fieldLink RX2 18 "GroveMerge$Merger" "conflicts" "[I", .fieldLink RX2 22 "GroveMerge$Merger" "conflictCount" "I"] ++ wsX20 ++ wsX40)
def wsX2_comesToRoot : List Cond := .code yX2_comesToRoot cX2_comesToRoot 4 (some .boolean) :: ([.fieldLink RX2 12 "GroveMerge$Merger" "result" "LGroveMerge$Tree;", .fieldLink RX2 62 "GroveMerge$Tree" "parent" "[I"] ++ wsX20 ++ wsX40)
def wsX2_nameThoseCutOff : List Cond := .code yX2_nameThoseCutOff cX2_nameThoseCutOff 2 none :: ([.fieldLink RX2 12 "GroveMerge$Merger" "result" "LGroveMerge$Tree;", .methodLink RX2 29 yX4_holds, .instanceMethod yX4_holds, .selects RX4 yX4_holds yX4_holds, .initialized RX4, .code yX4_holds cX4_holds 2 (some .boolean), .fieldLink RX4 21 "GroveMerge$Tree" "label" "[I", .methodLink RX2 65 yX2_comesToRoot, .instanceMethod yX2_comesToRoot, .selects RX2 yX2_comesToRoot yX2_comesToRoot, .initialized RX2, .code yX2_comesToRoot cX2_comesToRoot 4 (some .boolean), .fieldLink RX2 62 "GroveMerge$Tree" "parent" "[I", .methodLink RX2 51 yX2_name, .instanceMethod yX2_name, .selects RX2 yX2_name yX2_name, .code yX2_name cX2_name 3 none, .fieldLink RX2 18 "GroveMerge$Merger" "conflicts" "[I", .fieldLink RX2 22 "GroveMerge$Merger" "conflictCount" "I"] ++ wsX20 ++ wsX40)
def wsX4_renumberFrom : List Cond := .code yX4_renumberFrom cX4_renumberFrom 3 none :: ([.fieldLink RX4 36 "GroveMerge$Tree" "size" "I", .fieldLink RX4 15 "GroveMerge$Tree" "spot" "[I", .fieldLink RX4 9 "GroveMerge$Tree" "order" "[I"] ++ wsX40)
def wsX4_putCarried : List Cond := .code yX4_putCarried cX4_putCarried 3 none :: ([.fieldLink RX4 9 "GroveMerge$Tree" "order" "[I", .fieldLink RX4 36 "GroveMerge$Tree" "size" "I", .methodLink RX4 40 arraycopyName, .native arraycopyName, .static arraycopyName, .initialized "java/lang/System", .fieldLink RX4 24 "GroveMerge$Tree" "carried" "[I", .methodLink RX4 71 yX4_renumberFrom, .instanceMethod yX4_renumberFrom, .selects RX4 yX4_renumberFrom yX4_renumberFrom, .initialized RX4, .code yX4_renumberFrom cX4_renumberFrom 3 none, .fieldLink RX4 15 "GroveMerge$Tree" "spot" "[I"] ++ wsX40)
def wsX4_putInto : List Cond := .code yX4_putInto cX4_putInto 3 none :: ([.fieldLink RX4 24 "GroveMerge$Tree" "carried" "[I", .methodLink RX4 68 yX4_putCarried, .instanceMethod yX4_putCarried, .selects RX4 yX4_putCarried yX4_putCarried, .initialized RX4, .code yX4_putCarried cX4_putCarried 3 none, .fieldLink RX4 9 "GroveMerge$Tree" "order" "[I", .fieldLink RX4 36 "GroveMerge$Tree" "size" "I", .methodLink RX4 40 arraycopyName, .native arraycopyName, .static arraycopyName, .initialized "java/lang/System", .methodLink RX4 71 yX4_renumberFrom, .instanceMethod yX4_renumberFrom, .selects RX4 yX4_renumberFrom yX4_renumberFrom, .code yX4_renumberFrom cX4_renumberFrom 3 none, .fieldLink RX4 15 "GroveMerge$Tree" "spot" "[I"] ++ wsX40)
def wsX2_isChildNowAsIn : List Cond := .code yX2_isChildNowAsIn cX2_isChildNowAsIn 4 (some .boolean) :: ([.fieldLink RX2 62 "GroveMerge$Tree" "parent" "[I", .fieldLink RX2 12 "GroveMerge$Merger" "result" "LGroveMerge$Tree;"] ++ wsX40 ++ wsX20)
def wsX2_arrangeChildren_r1 : List Cond := [Cond.fieldLink RX2 12 "GroveMerge$Merger" "result" "LGroveMerge$Tree;", Cond.fieldLink RX2 78 "GroveMerge$Tree" "order" "[I", Cond.fieldLink RX2 71 "GroveMerge$Tree" "size" "I", Cond.fieldLink RX2 85 "GroveMerge$Tree" "spot" "[I", Cond.methodLink RX2 81 yX2_isChildNowAsIn, Cond.instanceMethod yX2_isChildNowAsIn, Cond.selects RX2 yX2_isChildNowAsIn yX2_isChildNowAsIn, Cond.initialized RX2, Cond.code yX2_isChildNowAsIn cX2_isChildNowAsIn 4 (some .boolean), Cond.fieldLink RX2 62 "GroveMerge$Tree" "parent" "[I", Cond.methodLink RX2 68 yX4_putInto, Cond.instanceMethod yX4_putInto, Cond.selects RX4 yX4_putInto yX4_putInto, Cond.initialized RX4, Cond.code yX4_putInto cX4_putInto 3 none, Cond.fieldLink RX4 24 "GroveMerge$Tree" "carried" "[I", Cond.methodLink RX4 68 yX4_putCarried, Cond.instanceMethod yX4_putCarried, Cond.selects RX4 yX4_putCarried yX4_putCarried, Cond.code yX4_putCarried cX4_putCarried 3 none, Cond.fieldLink RX4 9 "GroveMerge$Tree" "order" "[I", Cond.fieldLink RX4 36 "GroveMerge$Tree" "size" "I", Cond.methodLink RX4 40 arraycopyName, Cond.native arraycopyName]
def wsX2_arrangeChildren_r2 : List Cond := [Cond.static arraycopyName, Cond.initialized "java/lang/System", Cond.methodLink RX4 71 yX4_renumberFrom, Cond.instanceMethod yX4_renumberFrom, Cond.selects RX4 yX4_renumberFrom yX4_renumberFrom, Cond.code yX4_renumberFrom cX4_renumberFrom 3 none, Cond.fieldLink RX4 15 "GroveMerge$Tree" "spot" "[I"]
def wsX2_arrangeChildren : List Cond := .code yX2_arrangeChildren cX2_arrangeChildren 8 none :: ((wsX2_arrangeChildren_r1 ++ wsX2_arrangeChildren_r2) ++ wsX20 ++ wsX40)
def wsX2_arrange_r1 : List Cond := [Cond.fieldLink RX2 12 "GroveMerge$Merger" "result" "LGroveMerge$Tree;", Cond.fieldLink RX2 71 "GroveMerge$Tree" "size" "I", Cond.methodLink RX2 68 yX4_putInto, Cond.instanceMethod yX4_putInto, Cond.selects RX4 yX4_putInto yX4_putInto, Cond.initialized RX4, Cond.code yX4_putInto cX4_putInto 3 none, Cond.fieldLink RX4 24 "GroveMerge$Tree" "carried" "[I", Cond.methodLink RX4 68 yX4_putCarried, Cond.instanceMethod yX4_putCarried, Cond.selects RX4 yX4_putCarried yX4_putCarried, Cond.code yX4_putCarried cX4_putCarried 3 none, Cond.fieldLink RX4 9 "GroveMerge$Tree" "order" "[I", Cond.fieldLink RX4 36 "GroveMerge$Tree" "size" "I", Cond.methodLink RX4 40 arraycopyName, Cond.native arraycopyName, Cond.static arraycopyName, Cond.initialized "java/lang/System", Cond.methodLink RX4 71 yX4_renumberFrom, Cond.instanceMethod yX4_renumberFrom, Cond.selects RX4 yX4_renumberFrom yX4_renumberFrom, Cond.code yX4_renumberFrom cX4_renumberFrom 3 none, Cond.fieldLink RX4 15 "GroveMerge$Tree" "spot" "[I", Cond.methodLink RX2 74 yX2_arrangeChildren]
def wsX2_arrange_r2 : List Cond := [Cond.instanceMethod yX2_arrangeChildren, Cond.selects RX2 yX2_arrangeChildren yX2_arrangeChildren, Cond.initialized RX2, Cond.code yX2_arrangeChildren cX2_arrangeChildren 8 none, Cond.fieldLink RX2 78 "GroveMerge$Tree" "order" "[I", Cond.fieldLink RX2 85 "GroveMerge$Tree" "spot" "[I", Cond.methodLink RX2 81 yX2_isChildNowAsIn, Cond.instanceMethod yX2_isChildNowAsIn, Cond.selects RX2 yX2_isChildNowAsIn yX2_isChildNowAsIn, Cond.code yX2_isChildNowAsIn cX2_isChildNowAsIn 4 (some .boolean), Cond.fieldLink RX2 62 "GroveMerge$Tree" "parent" "[I"]
def wsX2_arrange : List Cond := .code yX2_arrange cX2_arrange 4 none :: ((wsX2_arrange_r1 ++ wsX2_arrange_r2) ++ wsX20 ++ wsX40)
def wsX2_run_r1 : List Cond := [Cond.fieldLink RX2 22 "GroveMerge$Merger" "conflictCount" "I", Cond.fieldLink RX2 12 "GroveMerge$Merger" "result" "LGroveMerge$Tree;", Cond.methodLink RX2 26 yX4_clear, Cond.instanceMethod yX4_clear, Cond.selects RX4 yX4_clear yX4_clear, Cond.initialized RX4, Cond.code yX4_clear cX4_clear 1 none, Cond.fieldLink RX4 18 "GroveMerge$Tree" "parent" "[I", Cond.fieldLink RX4 21 "GroveMerge$Tree" "label" "[I", Cond.fieldLink RX4 36 "GroveMerge$Tree" "size" "I", Cond.methodLink RX4 30 yJ7_fill_53178, Cond.static yJ7_fill_53178, Cond.initialized RJ7, Cond.code yJ7_fill_53178 cJ7_fill_53178 4 none, Cond.methodLink RX2 29 yX4_holds, Cond.instanceMethod yX4_holds, Cond.selects RX4 yX4_holds yX4_holds, Cond.code yX4_holds cX4_holds 2 (some .boolean), Cond.methodLink RX2 33 yX2_settle, Cond.instanceMethod yX2_settle, Cond.selects RX2 yX2_settle yX2_settle, Cond.initialized RX2, Cond.code yX2_settle cX2_settle 8 none, Cond.fieldLink RX2 55 "GroveMerge$Tree" "label" "[I"]
def wsX2_run_r2 : List Cond := [Cond.fieldLink RX2 62 "GroveMerge$Tree" "parent" "[I", Cond.methodLink RX2 47 yX4_hasAsIn, Cond.instanceMethod yX4_hasAsIn, Cond.selects RX4 yX4_hasAsIn yX4_hasAsIn, Cond.code yX4_hasAsIn cX4_hasAsIn 3 (some .boolean), Cond.methodLink RX2 51 yX2_name, Cond.instanceMethod yX2_name, Cond.selects RX2 yX2_name yX2_name, Cond.code yX2_name cX2_name 3 none, Cond.fieldLink RX2 18 "GroveMerge$Merger" "conflicts" "[I", Cond.methodLink RX2 58 yX2_agreed, Cond.static yX2_agreed, Cond.code yX2_agreed cX2_agreed 3 (some .int), Cond.methodLink RX2 37 yX2_nameThoseWithoutParent, Cond.instanceMethod yX2_nameThoseWithoutParent, Cond.selects RX2 yX2_nameThoseWithoutParent yX2_nameThoseWithoutParent, Cond.code yX2_nameThoseWithoutParent cX2_nameThoseWithoutParent 2 none, Cond.methodLink RX2 40 yX2_nameThoseCutOff, Cond.instanceMethod yX2_nameThoseCutOff, Cond.selects RX2 yX2_nameThoseCutOff yX2_nameThoseCutOff, Cond.code yX2_nameThoseCutOff cX2_nameThoseCutOff 2 none, Cond.methodLink RX2 65 yX2_comesToRoot, Cond.instanceMethod yX2_comesToRoot, Cond.selects RX2 yX2_comesToRoot yX2_comesToRoot]
def wsX2_run_r3 : List Cond := [Cond.code yX2_comesToRoot cX2_comesToRoot 4 (some .boolean), Cond.methodLink RX2 43 yX2_arrange, Cond.instanceMethod yX2_arrange, Cond.selects RX2 yX2_arrange yX2_arrange, Cond.code yX2_arrange cX2_arrange 4 none, Cond.fieldLink RX2 71 "GroveMerge$Tree" "size" "I", Cond.methodLink RX2 68 yX4_putInto, Cond.instanceMethod yX4_putInto, Cond.selects RX4 yX4_putInto yX4_putInto, Cond.code yX4_putInto cX4_putInto 3 none, Cond.fieldLink RX4 24 "GroveMerge$Tree" "carried" "[I", Cond.methodLink RX4 68 yX4_putCarried, Cond.instanceMethod yX4_putCarried, Cond.selects RX4 yX4_putCarried yX4_putCarried, Cond.code yX4_putCarried cX4_putCarried 3 none, Cond.fieldLink RX4 9 "GroveMerge$Tree" "order" "[I", Cond.methodLink RX4 40 arraycopyName, Cond.native arraycopyName, Cond.static arraycopyName, Cond.initialized "java/lang/System", Cond.methodLink RX4 71 yX4_renumberFrom, Cond.instanceMethod yX4_renumberFrom, Cond.selects RX4 yX4_renumberFrom yX4_renumberFrom, Cond.code yX4_renumberFrom cX4_renumberFrom 3 none]
def wsX2_run_r4 : List Cond := [Cond.fieldLink RX4 15 "GroveMerge$Tree" "spot" "[I", Cond.methodLink RX2 74 yX2_arrangeChildren, Cond.instanceMethod yX2_arrangeChildren, Cond.selects RX2 yX2_arrangeChildren yX2_arrangeChildren, Cond.code yX2_arrangeChildren cX2_arrangeChildren 8 none, Cond.fieldLink RX2 78 "GroveMerge$Tree" "order" "[I", Cond.fieldLink RX2 85 "GroveMerge$Tree" "spot" "[I", Cond.methodLink RX2 81 yX2_isChildNowAsIn, Cond.instanceMethod yX2_isChildNowAsIn, Cond.selects RX2 yX2_isChildNowAsIn yX2_isChildNowAsIn, Cond.code yX2_isChildNowAsIn cX2_isChildNowAsIn 4 (some .boolean)]
def wsX2_run : List Cond := .code yX2_run cX2_run 5 (some .int) :: ((wsX2_run_r1 ++ (wsX2_run_r2 ++ (wsX2_run_r3 ++ wsX2_run_r4))) ++ wsX20 ++ wsX40)
def wsX3_childrenOf : List Cond := .code yX3_childrenOf cX3_childrenOf 5 (some .int) :: ([.fieldLink RX3 28 "GroveMerge$Tree" "size" "I", .fieldLink RX3 34 "GroveMerge$Tree" "order" "[I", .fieldLink RX3 38 "GroveMerge$Tree" "parent" "[I", .static yX5_isIn, .initialized RX5, .code yX5_isIn cX5_isIn 2 (some .boolean)] ++ wsX40)
def wsX3_below : List Cond := .code yX3_below cX3_below 5 (some .int) :: ([.fieldLink RX3 28 "GroveMerge$Tree" "size" "I", .fieldLink RX3 34 "GroveMerge$Tree" "order" "[I", .fieldLink RX3 38 "GroveMerge$Tree" "parent" "[I", .static yX5_isIn, .initialized RX5, .code yX5_isIn cX5_isIn 2 (some .boolean)] ++ wsX40)
def wsX3_behind : List Cond := .code yX3_behind cX3_behind 7 (some .int) :: ([.fieldLink RX3 28 "GroveMerge$Tree" "size" "I", .fieldLink RX3 34 "GroveMerge$Tree" "order" "[I", .fieldLink RX3 38 "GroveMerge$Tree" "parent" "[I", .static yX5_isIn, .initialized RX5, .code yX5_isIn cX5_isIn 2 (some .boolean)] ++ wsX40)
def wsX3_alongAxis : List Cond := .code yX3_alongAxis cX3_alongAxis 3 (some .int) :: ([.methodLink RX3 19 yX3_childrenOf, .static yX3_childrenOf, .initialized RX3, .code yX3_childrenOf cX3_childrenOf 5 (some .int), .fieldLink RX3 28 "GroveMerge$Tree" "size" "I", .fieldLink RX3 34 "GroveMerge$Tree" "order" "[I", .fieldLink RX3 38 "GroveMerge$Tree" "parent" "[I", .static yX5_isIn, .initialized RX5, .code yX5_isIn cX5_isIn 2 (some .boolean), .methodLink RX3 22 yX3_below, .static yX3_below, .code yX3_below cX3_below 5 (some .int), .methodLink RX3 25 yX3_behind, .static yX3_behind, .code yX3_behind cX3_behind 7 (some .int)] ++ wsX40)
def wsX3_labelled : List Cond := .code yX3_labelled cX3_labelled 5 (some .int) :: ([.fieldLink RX3 28 "GroveMerge$Tree" "size" "I", .fieldLink RX3 34 "GroveMerge$Tree" "order" "[I", .fieldLink RX3 45 "GroveMerge$Tree" "label" "[I"] ++ wsX40)
def wsX3_follow : List Cond := .code yX3_follow cX3_follow 6 (some .int) :: ([.methodLink RX3 11 yX3_alongAxis, .static yX3_alongAxis, .initialized RX3, .code yX3_alongAxis cX3_alongAxis 3 (some .int), .methodLink RX3 19 yX3_childrenOf, .static yX3_childrenOf, .code yX3_childrenOf cX3_childrenOf 5 (some .int), .fieldLink RX3 28 "GroveMerge$Tree" "size" "I", .fieldLink RX3 34 "GroveMerge$Tree" "order" "[I", .fieldLink RX3 38 "GroveMerge$Tree" "parent" "[I", .static yX5_isIn, .initialized RX5, .code yX5_isIn cX5_isIn 2 (some .boolean), .methodLink RX3 22 yX3_below, .static yX3_below, .code yX3_below cX3_below 5 (some .int), .methodLink RX3 25 yX3_behind, .static yX3_behind, .code yX3_behind cX3_behind 7 (some .int), .methodLink RX3 15 yX3_labelled, .static yX3_labelled, .code yX3_labelled cX3_labelled 5 (some .int), .fieldLink RX3 45 "GroveMerge$Tree" "label" "[I"] ++ wsX40)
def wsX4_isSameAs : List Cond := .code yX4_isSameAs cX4_isSameAs 4 (some .boolean) :: ([.fieldLink RX4 36 "GroveMerge$Tree" "size" "I", .fieldLink RX4 9 "GroveMerge$Tree" "order" "[I", .methodLink RX4 46 yX4_hasAsIn, .instanceMethod yX4_hasAsIn, .selects RX4 yX4_hasAsIn yX4_hasAsIn, .initialized RX4, .code yX4_hasAsIn cX4_hasAsIn 3 (some .boolean), .fieldLink RX4 21 "GroveMerge$Tree" "label" "[I", .fieldLink RX4 18 "GroveMerge$Tree" "parent" "[I"] ++ wsX40)
def wsX4_isWithin : List Cond := .code yX4_isWithin cX4_isWithin 3 (some .boolean) :: ([.fieldLink RX4 15 "GroveMerge$Tree" "spot" "[I", .methodLink RX4 50 yX4_endOf, .instanceMethod yX4_endOf, .selects RX4 yX4_endOf yX4_endOf, .initialized RX4, .code yX4_endOf cX4_endOf 3 (some .int), .fieldLink RX4 36 "GroveMerge$Tree" "size" "I", .methodLink RX4 54 yX4_parentSpot, .instanceMethod yX4_parentSpot, .selects RX4 yX4_parentSpot yX4_parentSpot, .code yX4_parentSpot cX4_parentSpot 3 (some .int), .fieldLink RX4 18 "GroveMerge$Tree" "parent" "[I", .fieldLink RX4 9 "GroveMerge$Tree" "order" "[I"] ++ wsX40)
def wsX4_childCount : List Cond := .code yX4_childCount cX4_childCount 4 (some .int) :: ([.fieldLink RX4 15 "GroveMerge$Tree" "spot" "[I", .fieldLink RX4 36 "GroveMerge$Tree" "size" "I", .fieldLink RX4 18 "GroveMerge$Tree" "parent" "[I", .fieldLink RX4 9 "GroveMerge$Tree" "order" "[I"] ++ wsX40)
def wsX4_slotFor : List Cond := .code yX4_slotFor cX4_slotFor 5 (some .int) :: ([.fieldLink RX4 15 "GroveMerge$Tree" "spot" "[I", .fieldLink RX4 36 "GroveMerge$Tree" "size" "I", .fieldLink RX4 18 "GroveMerge$Tree" "parent" "[I", .fieldLink RX4 9 "GroveMerge$Tree" "order" "[I", .methodLink RX4 50 yX4_endOf, .instanceMethod yX4_endOf, .selects RX4 yX4_endOf yX4_endOf, .initialized RX4, .code yX4_endOf cX4_endOf 3 (some .int), .methodLink RX4 54 yX4_parentSpot, .instanceMethod yX4_parentSpot, .selects RX4 yX4_parentSpot yX4_parentSpot, .code yX4_parentSpot cX4_parentSpot 3 (some .int)] ++ wsX40)
def wsX4_plant : List Cond := .code yX4_plant cX4_plant 3 none :: ([.fieldLink RX4 18 "GroveMerge$Tree" "parent" "[I", .fieldLink RX4 21 "GroveMerge$Tree" "label" "[I", .methodLink RX4 57 yX4_putInto, .instanceMethod yX4_putInto, .selects RX4 yX4_putInto yX4_putInto, .initialized RX4, .code yX4_putInto cX4_putInto 3 none, .fieldLink RX4 24 "GroveMerge$Tree" "carried" "[I", .methodLink RX4 68 yX4_putCarried, .instanceMethod yX4_putCarried, .selects RX4 yX4_putCarried yX4_putCarried, .code yX4_putCarried cX4_putCarried 3 none, .fieldLink RX4 9 "GroveMerge$Tree" "order" "[I", .fieldLink RX4 36 "GroveMerge$Tree" "size" "I", .methodLink RX4 40 arraycopyName, .native arraycopyName, .static arraycopyName, .initialized "java/lang/System", .methodLink RX4 71 yX4_renumberFrom, .instanceMethod yX4_renumberFrom, .selects RX4 yX4_renumberFrom yX4_renumberFrom, .code yX4_renumberFrom cX4_renumberFrom 3 none, .fieldLink RX4 15 "GroveMerge$Tree" "spot" "[I"] ++ wsX40)
def wsX4_attach_r1 : List Cond := [Cond.fieldLink RX4 18 "GroveMerge$Tree" "parent" "[I", Cond.fieldLink RX4 21 "GroveMerge$Tree" "label" "[I", Cond.methodLink RX4 61 yX4_slotFor, Cond.instanceMethod yX4_slotFor, Cond.selects RX4 yX4_slotFor yX4_slotFor, Cond.initialized RX4, Cond.code yX4_slotFor cX4_slotFor 5 (some .int), Cond.fieldLink RX4 15 "GroveMerge$Tree" "spot" "[I", Cond.fieldLink RX4 36 "GroveMerge$Tree" "size" "I", Cond.fieldLink RX4 9 "GroveMerge$Tree" "order" "[I", Cond.methodLink RX4 50 yX4_endOf, Cond.instanceMethod yX4_endOf, Cond.selects RX4 yX4_endOf yX4_endOf, Cond.code yX4_endOf cX4_endOf 3 (some .int), Cond.methodLink RX4 54 yX4_parentSpot, Cond.instanceMethod yX4_parentSpot, Cond.selects RX4 yX4_parentSpot yX4_parentSpot, Cond.code yX4_parentSpot cX4_parentSpot 3 (some .int), Cond.methodLink RX4 57 yX4_putInto, Cond.instanceMethod yX4_putInto, Cond.selects RX4 yX4_putInto yX4_putInto, Cond.code yX4_putInto cX4_putInto 3 none, Cond.fieldLink RX4 24 "GroveMerge$Tree" "carried" "[I", Cond.methodLink RX4 68 yX4_putCarried]
def wsX4_attach_r2 : List Cond := [Cond.instanceMethod yX4_putCarried, Cond.selects RX4 yX4_putCarried yX4_putCarried, Cond.code yX4_putCarried cX4_putCarried 3 none, Cond.methodLink RX4 40 arraycopyName, Cond.native arraycopyName, Cond.static arraycopyName, Cond.initialized "java/lang/System", Cond.methodLink RX4 71 yX4_renumberFrom, Cond.instanceMethod yX4_renumberFrom, Cond.selects RX4 yX4_renumberFrom yX4_renumberFrom, Cond.code yX4_renumberFrom cX4_renumberFrom 3 none]
def wsX4_attach : List Cond := .code yX4_attach cX4_attach 5 none :: ((wsX4_attach_r1 ++ wsX4_attach_r2) ++ wsX40)
def wsX4_takeOut : List Cond := .code yX4_takeOut cX4_takeOut 4 (some .int) :: ([.fieldLink RX4 15 "GroveMerge$Tree" "spot" "[I", .fieldLink RX4 9 "GroveMerge$Tree" "order" "[I", .fieldLink RX4 24 "GroveMerge$Tree" "carried" "[I", .methodLink RX4 40 arraycopyName, .native arraycopyName, .static arraycopyName, .initialized "java/lang/System", .fieldLink RX4 36 "GroveMerge$Tree" "size" "I", .methodLink RX4 50 yX4_endOf, .instanceMethod yX4_endOf, .selects RX4 yX4_endOf yX4_endOf, .initialized RX4, .code yX4_endOf cX4_endOf 3 (some .int), .methodLink RX4 54 yX4_parentSpot, .instanceMethod yX4_parentSpot, .selects RX4 yX4_parentSpot yX4_parentSpot, .code yX4_parentSpot cX4_parentSpot 3 (some .int), .fieldLink RX4 18 "GroveMerge$Tree" "parent" "[I", .methodLink RX4 71 yX4_renumberFrom, .instanceMethod yX4_renumberFrom, .selects RX4 yX4_renumberFrom yX4_renumberFrom, .code yX4_renumberFrom cX4_renumberFrom 3 none] ++ wsX40)
def wsX4_prune_r1 : List Cond := [Cond.fieldLink RX4 18 "GroveMerge$Tree" "parent" "[I", Cond.fieldLink RX4 24 "GroveMerge$Tree" "carried" "[I", Cond.fieldLink RX4 21 "GroveMerge$Tree" "label" "[I", Cond.methodLink RX4 65 yX4_takeOut, Cond.instanceMethod yX4_takeOut, Cond.selects RX4 yX4_takeOut yX4_takeOut, Cond.initialized RX4, Cond.code yX4_takeOut cX4_takeOut 4 (some .int), Cond.fieldLink RX4 15 "GroveMerge$Tree" "spot" "[I", Cond.fieldLink RX4 9 "GroveMerge$Tree" "order" "[I", Cond.methodLink RX4 40 arraycopyName, Cond.native arraycopyName, Cond.static arraycopyName, Cond.initialized "java/lang/System", Cond.fieldLink RX4 36 "GroveMerge$Tree" "size" "I", Cond.methodLink RX4 50 yX4_endOf, Cond.instanceMethod yX4_endOf, Cond.selects RX4 yX4_endOf yX4_endOf, Cond.code yX4_endOf cX4_endOf 3 (some .int), Cond.methodLink RX4 54 yX4_parentSpot, Cond.instanceMethod yX4_parentSpot, Cond.selects RX4 yX4_parentSpot yX4_parentSpot, Cond.code yX4_parentSpot cX4_parentSpot 3 (some .int), Cond.methodLink RX4 71 yX4_renumberFrom]
def wsX4_prune_r2 : List Cond := [Cond.instanceMethod yX4_renumberFrom, Cond.selects RX4 yX4_renumberFrom yX4_renumberFrom, Cond.code yX4_renumberFrom cX4_renumberFrom 3 none]
def wsX4_prune : List Cond := .code yX4_prune cX4_prune 4 (some .int) :: ((wsX4_prune_r1 ++ wsX4_prune_r2) ++ wsX40)
def wsX4_transplant_r1 : List Cond := [Cond.fieldLink RX4 18 "GroveMerge$Tree" "parent" "[I", Cond.methodLink RX4 65 yX4_takeOut, Cond.instanceMethod yX4_takeOut, Cond.selects RX4 yX4_takeOut yX4_takeOut, Cond.initialized RX4, Cond.code yX4_takeOut cX4_takeOut 4 (some .int), Cond.fieldLink RX4 15 "GroveMerge$Tree" "spot" "[I", Cond.fieldLink RX4 9 "GroveMerge$Tree" "order" "[I", Cond.fieldLink RX4 24 "GroveMerge$Tree" "carried" "[I", Cond.methodLink RX4 40 arraycopyName, Cond.native arraycopyName, Cond.static arraycopyName, Cond.initialized "java/lang/System", Cond.fieldLink RX4 36 "GroveMerge$Tree" "size" "I", Cond.methodLink RX4 50 yX4_endOf, Cond.instanceMethod yX4_endOf, Cond.selects RX4 yX4_endOf yX4_endOf, Cond.code yX4_endOf cX4_endOf 3 (some .int), Cond.methodLink RX4 54 yX4_parentSpot, Cond.instanceMethod yX4_parentSpot, Cond.selects RX4 yX4_parentSpot yX4_parentSpot, Cond.code yX4_parentSpot cX4_parentSpot 3 (some .int), Cond.methodLink RX4 71 yX4_renumberFrom, Cond.instanceMethod yX4_renumberFrom]
def wsX4_transplant_r2 : List Cond := [Cond.selects RX4 yX4_renumberFrom yX4_renumberFrom, Cond.code yX4_renumberFrom cX4_renumberFrom 3 none, Cond.methodLink RX4 61 yX4_slotFor, Cond.instanceMethod yX4_slotFor, Cond.selects RX4 yX4_slotFor yX4_slotFor, Cond.code yX4_slotFor cX4_slotFor 5 (some .int), Cond.methodLink RX4 68 yX4_putCarried, Cond.instanceMethod yX4_putCarried, Cond.selects RX4 yX4_putCarried yX4_putCarried, Cond.code yX4_putCarried cX4_putCarried 3 none]
def wsX4_transplant : List Cond := .code yX4_transplant cX4_transplant 6 none :: ((wsX4_transplant_r1 ++ wsX4_transplant_r2) ++ wsX40)
def wsX4_pick : List Cond := .code yX4_pick cX4_pick 5 (some .int) :: ([.fieldLink RX4 36 "GroveMerge$Tree" "size" "I", .fieldLink RX4 9 "GroveMerge$Tree" "order" "[I", .static yX5_isIn, .initialized RX5, .code yX5_isIn cX5_isIn 2 (some .boolean)] ++ wsX40)
def wsX4_areAlike : List Cond := .code yX4_areAlike cX4_areAlike 7 (some .boolean) :: ([.fieldLink RX4 21 "GroveMerge$Tree" "label" "[I", .fieldLink RX4 9 "GroveMerge$Tree" "order" "[I", .methodLink RX4 50 yX4_endOf, .instanceMethod yX4_endOf, .selects RX4 yX4_endOf yX4_endOf, .initialized RX4, .code yX4_endOf cX4_endOf 3 (some .int), .fieldLink RX4 36 "GroveMerge$Tree" "size" "I", .methodLink RX4 54 yX4_parentSpot, .instanceMethod yX4_parentSpot, .selects RX4 yX4_parentSpot yX4_parentSpot, .code yX4_parentSpot cX4_parentSpot 3 (some .int), .fieldLink RX4 18 "GroveMerge$Tree" "parent" "[I", .fieldLink RX4 15 "GroveMerge$Tree" "spot" "[I"] ++ wsX40)
def wsX4_firstAlike : List Cond := .code yX4_firstAlike cX4_firstAlike 3 (some .int) :: ([.fieldLink RX4 15 "GroveMerge$Tree" "spot" "[I", .fieldLink RX4 9 "GroveMerge$Tree" "order" "[I", .methodLink RX4 79 yX4_areAlike, .instanceMethod yX4_areAlike, .selects RX4 yX4_areAlike yX4_areAlike, .initialized RX4, .code yX4_areAlike cX4_areAlike 7 (some .boolean), .fieldLink RX4 21 "GroveMerge$Tree" "label" "[I", .methodLink RX4 50 yX4_endOf, .instanceMethod yX4_endOf, .selects RX4 yX4_endOf yX4_endOf, .code yX4_endOf cX4_endOf 3 (some .int), .fieldLink RX4 36 "GroveMerge$Tree" "size" "I", .methodLink RX4 54 yX4_parentSpot, .instanceMethod yX4_parentSpot, .selects RX4 yX4_parentSpot yX4_parentSpot, .code yX4_parentSpot cX4_parentSpot 3 (some .int), .fieldLink RX4 18 "GroveMerge$Tree" "parent" "[I"] ++ wsX40)
def wsX5_init_r1 : List Cond := [Cond.methodLink RX5 1 objectInit, Cond.instanceMethod objectInit, Cond.code objectInit ⟨#[0xb1]⟩ 1 none, Cond.classLink RX5 7 RX4, Cond.instantiable RX4 6, Cond.initialized RX4, Cond.fieldLink RX5 10 "GroveMerge" "working" "LGroveMerge$Tree;", Cond.classLink RX5 16 RX1, Cond.instantiable RX1 5, Cond.initialized RX1, Cond.fieldLink RX5 19 "GroveMerge" "history" "LGroveMerge$History;", Cond.classLink RX5 23 RX2, Cond.instantiable RX2 3, Cond.initialized RX2, Cond.fieldLink RX5 26 "GroveMerge" "merger" "LGroveMerge$Merger;", Cond.classLink RX5 30 RX0, Cond.instantiable RX0 4, Cond.initialized RX0, Cond.fieldLink RX5 33 "GroveMerge" "editDistance" "LGroveMerge$EditDistance;", Cond.fieldLink RX5 41 "GroveMerge" "made" "I", Cond.fieldLink RX5 49 "GroveMerge" "head" "I", Cond.fieldLink RX5 52 "GroveMerge" "takenIn" "I", Cond.methodLink RX5 9 yX4_init, Cond.instanceMethod yX4_init]
def wsX5_init_r2 : List Cond := [Cond.code yX4_init cX4_init 1 none, Cond.methodLink RX4 3 objectInit, Cond.arrayClass .int, Cond.fieldLink RX4 9 "GroveMerge$Tree" "order" "[I", Cond.fieldLink RX4 15 "GroveMerge$Tree" "spot" "[I", Cond.fieldLink RX4 18 "GroveMerge$Tree" "parent" "[I", Cond.fieldLink RX4 21 "GroveMerge$Tree" "label" "[I", Cond.fieldLink RX4 24 "GroveMerge$Tree" "carried" "[I", Cond.methodLink RX4 27 yX4_clear, Cond.instanceMethod yX4_clear, Cond.selects RX4 yX4_clear yX4_clear, Cond.code yX4_clear cX4_clear 1 none, Cond.fieldLink RX4 36 "GroveMerge$Tree" "size" "I", Cond.methodLink RX4 30 yJ7_fill_53178, Cond.static yJ7_fill_53178, Cond.initialized RJ7, Cond.code yJ7_fill_53178 cJ7_fill_53178 4 none, Cond.methodLink RX5 18 yX1_init, Cond.instanceMethod yX1_init, Cond.code yX1_init cX1_init 2 none, Cond.methodLink RX1 3 objectInit, Cond.classLink RX1 9 RX4, Cond.fieldLink RX1 11 "GroveMerge$History" "trees" "[LGroveMerge$Tree;", Cond.fieldLink RX1 17 "GroveMerge$History" "firstParent" "[I"]
def wsX5_init_r3 : List Cond := [Cond.fieldLink RX1 21 "GroveMerge$History" "secondParent" "[I", Cond.fieldLink RX1 24 "GroveMerge$History" "reach" "[I", Cond.methodLink RX1 27 yX4_init, Cond.instanceMethod yX2_init, Cond.code yX2_init cX2_init 1 none, Cond.methodLink RX2 3 objectInit, Cond.classLink RX2 9 RX4, Cond.fieldLink RX2 12 "GroveMerge$Merger" "result" "LGroveMerge$Tree;", Cond.fieldLink RX2 18 "GroveMerge$Merger" "conflicts" "[I", Cond.methodLink RX2 11 yX4_init, Cond.instanceMethod yX0_init, Cond.code yX0_init cX0_init 1 none, Cond.methodLink RX0 3 objectInit, Cond.classLink RX0 9 "[[I", Cond.fieldLink RX0 11 "GroveMerge$EditDistance" "ofParts" "[[I", Cond.fieldLink RX0 16 "GroveMerge$EditDistance" "ofRests" "[[I", Cond.fieldLink RX0 19 "GroveMerge$EditDistance" "endsA" "[I", Cond.fieldLink RX0 23 "GroveMerge$EditDistance" "endsB" "[I", Cond.methodLink RX5 37 yX4_plant, Cond.instanceMethod yX4_plant, Cond.selects RX4 yX4_plant yX4_plant, Cond.code yX4_plant cX4_plant 3 none, Cond.methodLink RX4 57 yX4_putInto, Cond.instanceMethod yX4_putInto]
def wsX5_init_r4 : List Cond := [Cond.selects RX4 yX4_putInto yX4_putInto, Cond.code yX4_putInto cX4_putInto 3 none, Cond.methodLink RX4 68 yX4_putCarried, Cond.instanceMethod yX4_putCarried, Cond.selects RX4 yX4_putCarried yX4_putCarried, Cond.code yX4_putCarried cX4_putCarried 3 none, Cond.methodLink RX4 40 arraycopyName, Cond.native arraycopyName, Cond.static arraycopyName, Cond.initialized "java/lang/System", Cond.methodLink RX4 71 yX4_renumberFrom, Cond.instanceMethod yX4_renumberFrom, Cond.selects RX4 yX4_renumberFrom yX4_renumberFrom, Cond.code yX4_renumberFrom cX4_renumberFrom 3 none, Cond.methodLink RX5 45 yX1_record, Cond.instanceMethod yX1_record, Cond.selects RX1 yX1_record yX1_record, Cond.code yX1_record cX1_record 5 (some .int), Cond.fieldLink RX1 28 "GroveMerge$History" "size" "I", Cond.methodLink RX1 32 yX4_copyFrom, Cond.instanceMethod yX4_copyFrom, Cond.selects RX4 yX4_copyFrom yX4_copyFrom, Cond.code yX4_copyFrom cX4_copyFrom 2 none, Cond.methodLink RX1 36 yX1_reachOf]
def wsX5_init_r5 : List Cond := [Cond.instanceMethod yX1_reachOf, Cond.selects RX1 yX1_reachOf yX1_reachOf, Cond.code yX1_reachOf cX1_reachOf 2 (some .int)]
def wsX5_init : List Cond := .code yX5_init cX5_init 1 none :: ((wsX5_init_r1 ++ (wsX5_init_r2 ++ (wsX5_init_r3 ++ (wsX5_init_r4 ++ wsX5_init_r5)))) ++ wsX40 ++ wsX50 ++ wsX10 ++ wsX20 ++ wsX00)
def wsX5_requireNode : List Cond := .code yX5_requireNode cX5_requireNode 2 none :: ([.classLink RX5 144 "java/util/NoSuchElementException", .initialized "java/util/NoSuchElementException", .fieldLink RX5 10 "GroveMerge" "working" "LGroveMerge$Tree;", .methodLink RX5 198 yX4_holds, .instanceMethod yX4_holds, .selects RX4 yX4_holds yX4_holds, .initialized RX4, .code yX4_holds cX4_holds 2 (some .boolean), .fieldLink RX4 21 "GroveMerge$Tree" "label" "[I"] ++ wsX50 ++ wsX40 ++ (vx_atS RX5 148 "java/util/NoSuchElementException" ["java/lang/RuntimeException", "java/lang/Exception"]).filter goodWord)
def wsX5_requirePlace : List Cond := .code yX5_requirePlace cX5_requirePlace 2 none :: ([.classLink RX5 155 "java/lang/IndexOutOfBoundsException", .initialized "java/lang/IndexOutOfBoundsException"] ++ (vx_atS RX5 159 "java/lang/IndexOutOfBoundsException" ["java/lang/RuntimeException", "java/lang/Exception"]).filter goodWord)
def wsX5_requireLabel : List Cond := .code yX5_requireLabel cX5_requireLabel 1 none :: ([.classLink RX5 80 "java/lang/IllegalArgumentException", .initialized "java/lang/IllegalArgumentException"] ++ (vx_atS RX5 84 "java/lang/IllegalArgumentException" ["java/lang/RuntimeException", "java/lang/Exception"]).filter goodWord)
def wsX5_insert_r1 : List Cond := [Cond.classLink RX5 69 "java/lang/UnsupportedOperationException", Cond.initialized "java/lang/UnsupportedOperationException", Cond.fieldLink RX5 10 "GroveMerge" "working" "LGroveMerge$Tree;", Cond.fieldLink RX5 41 "GroveMerge" "made" "I", Cond.methodLink RX5 55 yX5_requireNode, Cond.instanceMethod yX5_requireNode, Cond.selects RX5 yX5_requireNode yX5_requireNode, Cond.initialized RX5, Cond.code yX5_requireNode cX5_requireNode 2 none, Cond.classLink RX5 144 "java/util/NoSuchElementException", Cond.initialized "java/util/NoSuchElementException", Cond.methodLink RX5 198 yX4_holds, Cond.instanceMethod yX4_holds, Cond.selects RX4 yX4_holds yX4_holds, Cond.initialized RX4, Cond.code yX4_holds cX4_holds 2 (some .boolean), Cond.fieldLink RX4 21 "GroveMerge$Tree" "label" "[I", Cond.methodLink RX5 59 yX4_childCount, Cond.instanceMethod yX4_childCount, Cond.selects RX4 yX4_childCount yX4_childCount, Cond.code yX4_childCount cX4_childCount 4 (some .int), Cond.fieldLink RX4 15 "GroveMerge$Tree" "spot" "[I", Cond.fieldLink RX4 36 "GroveMerge$Tree" "size" "I", Cond.fieldLink RX4 18 "GroveMerge$Tree" "parent" "[I"]
def wsX5_insert_r2 : List Cond := [Cond.fieldLink RX4 9 "GroveMerge$Tree" "order" "[I", Cond.methodLink RX5 63 yX5_requirePlace, Cond.static yX5_requirePlace, Cond.code yX5_requirePlace cX5_requirePlace 2 none, Cond.classLink RX5 155 "java/lang/IndexOutOfBoundsException", Cond.initialized "java/lang/IndexOutOfBoundsException", Cond.methodLink RX5 66 yX5_requireLabel, Cond.static yX5_requireLabel, Cond.code yX5_requireLabel cX5_requireLabel 1 none, Cond.classLink RX5 80 "java/lang/IllegalArgumentException", Cond.initialized "java/lang/IllegalArgumentException", Cond.methodLink RX5 76 yX4_attach, Cond.instanceMethod yX4_attach, Cond.selects RX4 yX4_attach yX4_attach, Cond.code yX4_attach cX4_attach 5 none, Cond.methodLink RX4 61 yX4_slotFor, Cond.instanceMethod yX4_slotFor, Cond.selects RX4 yX4_slotFor yX4_slotFor, Cond.code yX4_slotFor cX4_slotFor 5 (some .int), Cond.methodLink RX4 50 yX4_endOf, Cond.instanceMethod yX4_endOf, Cond.selects RX4 yX4_endOf yX4_endOf, Cond.code yX4_endOf cX4_endOf 3 (some .int), Cond.methodLink RX4 54 yX4_parentSpot]
def wsX5_insert_r3 : List Cond := [Cond.instanceMethod yX4_parentSpot, Cond.selects RX4 yX4_parentSpot yX4_parentSpot, Cond.code yX4_parentSpot cX4_parentSpot 3 (some .int), Cond.methodLink RX4 57 yX4_putInto, Cond.instanceMethod yX4_putInto, Cond.selects RX4 yX4_putInto yX4_putInto, Cond.code yX4_putInto cX4_putInto 3 none, Cond.fieldLink RX4 24 "GroveMerge$Tree" "carried" "[I", Cond.methodLink RX4 68 yX4_putCarried, Cond.instanceMethod yX4_putCarried, Cond.selects RX4 yX4_putCarried yX4_putCarried, Cond.code yX4_putCarried cX4_putCarried 3 none, Cond.methodLink RX4 40 arraycopyName, Cond.native arraycopyName, Cond.static arraycopyName, Cond.initialized "java/lang/System", Cond.methodLink RX4 71 yX4_renumberFrom, Cond.instanceMethod yX4_renumberFrom, Cond.selects RX4 yX4_renumberFrom yX4_renumberFrom, Cond.code yX4_renumberFrom cX4_renumberFrom 3 none]
def wsX5_insert : List Cond := .code yX5_insert cX5_insert 5 (some .int) :: ((wsX5_insert_r1 ++ (wsX5_insert_r2 ++ wsX5_insert_r3)) ++ wsX50 ++ wsX40 ++ (vx_atS RX5 73 "java/lang/UnsupportedOperationException" ["java/lang/RuntimeException", "java/lang/Exception"]).filter goodWord ++ (vx_atS RX5 148 "java/util/NoSuchElementException" ["java/lang/RuntimeException", "java/lang/Exception"]).filter goodWord ++ (vx_atS RX5 159 "java/lang/IndexOutOfBoundsException" ["java/lang/RuntimeException", "java/lang/Exception"]).filter goodWord ++ (vx_atS RX5 84 "java/lang/IllegalArgumentException" ["java/lang/RuntimeException", "java/lang/Exception"]).filter goodWord)
def wsX5_delete_r1 : List Cond := [Cond.classLink RX5 80 "java/lang/IllegalArgumentException", Cond.initialized "java/lang/IllegalArgumentException", Cond.fieldLink RX5 10 "GroveMerge" "working" "LGroveMerge$Tree;", Cond.methodLink RX5 55 yX5_requireNode, Cond.instanceMethod yX5_requireNode, Cond.selects RX5 yX5_requireNode yX5_requireNode, Cond.initialized RX5, Cond.code yX5_requireNode cX5_requireNode 2 none, Cond.classLink RX5 144 "java/util/NoSuchElementException", Cond.initialized "java/util/NoSuchElementException", Cond.methodLink RX5 198 yX4_holds, Cond.instanceMethod yX4_holds, Cond.selects RX4 yX4_holds yX4_holds, Cond.initialized RX4, Cond.code yX4_holds cX4_holds 2 (some .boolean), Cond.fieldLink RX4 21 "GroveMerge$Tree" "label" "[I", Cond.methodLink RX5 85 yX4_prune, Cond.instanceMethod yX4_prune, Cond.selects RX4 yX4_prune yX4_prune, Cond.code yX4_prune cX4_prune 4 (some .int), Cond.fieldLink RX4 18 "GroveMerge$Tree" "parent" "[I", Cond.fieldLink RX4 24 "GroveMerge$Tree" "carried" "[I", Cond.methodLink RX4 65 yX4_takeOut, Cond.instanceMethod yX4_takeOut]
def wsX5_delete_r2 : List Cond := [Cond.selects RX4 yX4_takeOut yX4_takeOut, Cond.code yX4_takeOut cX4_takeOut 4 (some .int), Cond.fieldLink RX4 15 "GroveMerge$Tree" "spot" "[I", Cond.fieldLink RX4 9 "GroveMerge$Tree" "order" "[I", Cond.methodLink RX4 40 arraycopyName, Cond.native arraycopyName, Cond.static arraycopyName, Cond.initialized "java/lang/System", Cond.fieldLink RX4 36 "GroveMerge$Tree" "size" "I", Cond.methodLink RX4 50 yX4_endOf, Cond.instanceMethod yX4_endOf, Cond.selects RX4 yX4_endOf yX4_endOf, Cond.code yX4_endOf cX4_endOf 3 (some .int), Cond.methodLink RX4 54 yX4_parentSpot, Cond.instanceMethod yX4_parentSpot, Cond.selects RX4 yX4_parentSpot yX4_parentSpot, Cond.code yX4_parentSpot cX4_parentSpot 3 (some .int), Cond.methodLink RX4 71 yX4_renumberFrom, Cond.instanceMethod yX4_renumberFrom, Cond.selects RX4 yX4_renumberFrom yX4_renumberFrom, Cond.code yX4_renumberFrom cX4_renumberFrom 3 none]
def wsX5_delete : List Cond := .code yX5_delete cX5_delete 2 (some .int) :: ((wsX5_delete_r1 ++ wsX5_delete_r2) ++ wsX50 ++ wsX40 ++ (vx_atS RX5 84 "java/lang/IllegalArgumentException" ["java/lang/RuntimeException", "java/lang/Exception"]).filter goodWord ++ (vx_atS RX5 148 "java/util/NoSuchElementException" ["java/lang/RuntimeException", "java/lang/Exception"]).filter goodWord)
def wsX5_move_r1 : List Cond := [Cond.classLink RX5 80 "java/lang/IllegalArgumentException", Cond.initialized "java/lang/IllegalArgumentException", Cond.fieldLink RX5 10 "GroveMerge" "working" "LGroveMerge$Tree;", Cond.fieldLink RX5 94 "GroveMerge$Tree" "parent" "[I", Cond.methodLink RX5 55 yX5_requireNode, Cond.instanceMethod yX5_requireNode, Cond.selects RX5 yX5_requireNode yX5_requireNode, Cond.initialized RX5, Cond.code yX5_requireNode cX5_requireNode 2 none, Cond.classLink RX5 144 "java/util/NoSuchElementException", Cond.initialized "java/util/NoSuchElementException", Cond.methodLink RX5 198 yX4_holds, Cond.instanceMethod yX4_holds, Cond.selects RX4 yX4_holds yX4_holds, Cond.initialized RX4, Cond.code yX4_holds cX4_holds 2 (some .boolean), Cond.fieldLink RX4 21 "GroveMerge$Tree" "label" "[I", Cond.methodLink RX5 88 yX4_isWithin, Cond.instanceMethod yX4_isWithin, Cond.selects RX4 yX4_isWithin yX4_isWithin, Cond.code yX4_isWithin cX4_isWithin 3 (some .boolean), Cond.fieldLink RX4 15 "GroveMerge$Tree" "spot" "[I", Cond.methodLink RX4 50 yX4_endOf, Cond.instanceMethod yX4_endOf]
def wsX5_move_r2 : List Cond := [Cond.selects RX4 yX4_endOf yX4_endOf, Cond.code yX4_endOf cX4_endOf 3 (some .int), Cond.fieldLink RX4 36 "GroveMerge$Tree" "size" "I", Cond.methodLink RX4 54 yX4_parentSpot, Cond.instanceMethod yX4_parentSpot, Cond.selects RX4 yX4_parentSpot yX4_parentSpot, Cond.code yX4_parentSpot cX4_parentSpot 3 (some .int), Cond.fieldLink RX4 18 "GroveMerge$Tree" "parent" "[I", Cond.fieldLink RX4 9 "GroveMerge$Tree" "order" "[I", Cond.methodLink RX5 59 yX4_childCount, Cond.instanceMethod yX4_childCount, Cond.selects RX4 yX4_childCount yX4_childCount, Cond.code yX4_childCount cX4_childCount 4 (some .int), Cond.methodLink RX5 63 yX5_requirePlace, Cond.static yX5_requirePlace, Cond.code yX5_requirePlace cX5_requirePlace 2 none, Cond.classLink RX5 155 "java/lang/IndexOutOfBoundsException", Cond.initialized "java/lang/IndexOutOfBoundsException", Cond.methodLink RX5 98 yX4_transplant, Cond.instanceMethod yX4_transplant, Cond.selects RX4 yX4_transplant yX4_transplant, Cond.code yX4_transplant cX4_transplant 6 none, Cond.methodLink RX4 65 yX4_takeOut, Cond.instanceMethod yX4_takeOut]
def wsX5_move_r3 : List Cond := [Cond.selects RX4 yX4_takeOut yX4_takeOut, Cond.code yX4_takeOut cX4_takeOut 4 (some .int), Cond.fieldLink RX4 24 "GroveMerge$Tree" "carried" "[I", Cond.methodLink RX4 40 arraycopyName, Cond.native arraycopyName, Cond.static arraycopyName, Cond.initialized "java/lang/System", Cond.methodLink RX4 71 yX4_renumberFrom, Cond.instanceMethod yX4_renumberFrom, Cond.selects RX4 yX4_renumberFrom yX4_renumberFrom, Cond.code yX4_renumberFrom cX4_renumberFrom 3 none, Cond.methodLink RX4 61 yX4_slotFor, Cond.instanceMethod yX4_slotFor, Cond.selects RX4 yX4_slotFor yX4_slotFor, Cond.code yX4_slotFor cX4_slotFor 5 (some .int), Cond.methodLink RX4 68 yX4_putCarried, Cond.instanceMethod yX4_putCarried, Cond.selects RX4 yX4_putCarried yX4_putCarried, Cond.code yX4_putCarried cX4_putCarried 3 none]
def wsX5_move : List Cond := .code yX5_move cX5_move 4 none :: ((wsX5_move_r1 ++ (wsX5_move_r2 ++ wsX5_move_r3)) ++ wsX50 ++ wsX40 ++ (vx_atS RX5 84 "java/lang/IllegalArgumentException" ["java/lang/RuntimeException", "java/lang/Exception"]).filter goodWord ++ (vx_atS RX5 148 "java/util/NoSuchElementException" ["java/lang/RuntimeException", "java/lang/Exception"]).filter goodWord ++ (vx_atS RX5 159 "java/lang/IndexOutOfBoundsException" ["java/lang/RuntimeException", "java/lang/Exception"]).filter goodWord)
def wsX5_relabel : List Cond := .code yX5_relabel cX5_relabel 3 none :: ([.fieldLink RX5 10 "GroveMerge" "working" "LGroveMerge$Tree;", .fieldLink RX5 102 "GroveMerge$Tree" "label" "[I", .methodLink RX5 55 yX5_requireNode, .instanceMethod yX5_requireNode, .selects RX5 yX5_requireNode yX5_requireNode, .initialized RX5, .code yX5_requireNode cX5_requireNode 2 none, .classLink RX5 144 "java/util/NoSuchElementException", .initialized "java/util/NoSuchElementException", .methodLink RX5 198 yX4_holds, .instanceMethod yX4_holds, .selects RX4 yX4_holds yX4_holds, .initialized RX4, .code yX4_holds cX4_holds 2 (some .boolean), .fieldLink RX4 21 "GroveMerge$Tree" "label" "[I", .methodLink RX5 66 yX5_requireLabel, .static yX5_requireLabel, .code yX5_requireLabel cX5_requireLabel 1 none, .classLink RX5 80 "java/lang/IllegalArgumentException", .initialized "java/lang/IllegalArgumentException"] ++ wsX50 ++ wsX40 ++ (vx_atS RX5 148 "java/util/NoSuchElementException" ["java/lang/RuntimeException", "java/lang/Exception"]).filter goodWord ++ (vx_atS RX5 84 "java/lang/IllegalArgumentException" ["java/lang/RuntimeException", "java/lang/Exception"]).filter goodWord)
def wsX5_commit_r1 : List Cond := [Cond.classLink RX5 69 "java/lang/UnsupportedOperationException", Cond.initialized "java/lang/UnsupportedOperationException", Cond.fieldLink RX5 19 "GroveMerge" "history" "LGroveMerge$History;", Cond.fieldLink RX5 105 "GroveMerge$History" "size" "I", Cond.fieldLink RX5 10 "GroveMerge" "working" "LGroveMerge$Tree;", Cond.fieldLink RX5 49 "GroveMerge" "head" "I", Cond.fieldLink RX5 52 "GroveMerge" "takenIn" "I", Cond.methodLink RX5 45 yX1_record, Cond.instanceMethod yX1_record, Cond.selects RX1 yX1_record yX1_record, Cond.initialized RX1, Cond.code yX1_record cX1_record 5 (some .int), Cond.fieldLink RX1 28 "GroveMerge$History" "size" "I", Cond.fieldLink RX1 11 "GroveMerge$History" "trees" "[LGroveMerge$Tree;", Cond.fieldLink RX1 17 "GroveMerge$History" "firstParent" "[I", Cond.fieldLink RX1 21 "GroveMerge$History" "secondParent" "[I", Cond.fieldLink RX1 24 "GroveMerge$History" "reach" "[I", Cond.methodLink RX1 32 yX4_copyFrom, Cond.instanceMethod yX4_copyFrom, Cond.selects RX4 yX4_copyFrom yX4_copyFrom, Cond.initialized RX4, Cond.code yX4_copyFrom cX4_copyFrom 2 none, Cond.fieldLink RX4 9 "GroveMerge$Tree" "order" "[I", Cond.methodLink RX4 40 arraycopyName]
def wsX5_commit_r2 : List Cond := [Cond.native arraycopyName, Cond.static arraycopyName, Cond.initialized "java/lang/System", Cond.fieldLink RX4 15 "GroveMerge$Tree" "spot" "[I", Cond.fieldLink RX4 18 "GroveMerge$Tree" "parent" "[I", Cond.fieldLink RX4 21 "GroveMerge$Tree" "label" "[I", Cond.fieldLink RX4 36 "GroveMerge$Tree" "size" "I", Cond.methodLink RX1 36 yX1_reachOf, Cond.instanceMethod yX1_reachOf, Cond.selects RX1 yX1_reachOf yX1_reachOf, Cond.code yX1_reachOf cX1_reachOf 2 (some .int)]
def wsX5_commit : List Cond := .code yX5_commit cX5_commit 1 (some .int) :: ((wsX5_commit_r1 ++ wsX5_commit_r2) ++ wsX50 ++ wsX10 ++ wsX40 ++ (vx_atS RX5 73 "java/lang/UnsupportedOperationException" ["java/lang/RuntimeException", "java/lang/Exception"]).filter goodWord)
def wsX5_requireCommit : List Cond := .code yX5_requireCommit cX5_requireCommit 2 none :: ([.classLink RX5 144 "java/util/NoSuchElementException", .initialized "java/util/NoSuchElementException", .fieldLink RX5 19 "GroveMerge" "history" "LGroveMerge$History;", .fieldLink RX5 105 "GroveMerge$History" "size" "I"] ++ wsX50 ++ wsX10 ++ (vx_atS RX5 148 "java/util/NoSuchElementException" ["java/lang/RuntimeException", "java/lang/Exception"]).filter goodWord)
def wsX5_checkout_r1 : List Cond := [Cond.fieldLink RX5 10 "GroveMerge" "working" "LGroveMerge$Tree;", Cond.fieldLink RX5 19 "GroveMerge" "history" "LGroveMerge$History;", Cond.fieldLink RX5 113 "GroveMerge$History" "trees" "[LGroveMerge$Tree;", Cond.fieldLink RX5 49 "GroveMerge" "head" "I", Cond.fieldLink RX5 52 "GroveMerge" "takenIn" "I", Cond.methodLink RX5 110 yX5_requireCommit, Cond.instanceMethod yX5_requireCommit, Cond.selects RX5 yX5_requireCommit yX5_requireCommit, Cond.initialized RX5, Cond.code yX5_requireCommit cX5_requireCommit 2 none, Cond.classLink RX5 144 "java/util/NoSuchElementException", Cond.initialized "java/util/NoSuchElementException", Cond.fieldLink RX5 105 "GroveMerge$History" "size" "I", Cond.methodLink RX5 117 yX4_copyFrom, Cond.instanceMethod yX4_copyFrom, Cond.selects RX4 yX4_copyFrom yX4_copyFrom, Cond.initialized RX4, Cond.code yX4_copyFrom cX4_copyFrom 2 none, Cond.fieldLink RX4 9 "GroveMerge$Tree" "order" "[I", Cond.methodLink RX4 40 arraycopyName, Cond.native arraycopyName, Cond.static arraycopyName, Cond.initialized "java/lang/System", Cond.fieldLink RX4 15 "GroveMerge$Tree" "spot" "[I"]
def wsX5_checkout_r2 : List Cond := [Cond.fieldLink RX4 18 "GroveMerge$Tree" "parent" "[I", Cond.fieldLink RX4 21 "GroveMerge$Tree" "label" "[I", Cond.fieldLink RX4 36 "GroveMerge$Tree" "size" "I"]
def wsX5_checkout : List Cond := .code yX5_checkout cX5_checkout 2 none :: ((wsX5_checkout_r1 ++ wsX5_checkout_r2) ++ wsX50 ++ wsX10 ++ wsX40 ++ (vx_atS RX5 148 "java/util/NoSuchElementException" ["java/lang/RuntimeException", "java/lang/Exception"]).filter goodWord)
def wsX5_base : List Cond := .code yX5_base cX5_base 3 (some .int) :: ([.fieldLink RX5 19 "GroveMerge" "history" "LGroveMerge$History;", .methodLink RX5 110 yX5_requireCommit, .instanceMethod yX5_requireCommit, .selects RX5 yX5_requireCommit yX5_requireCommit, .initialized RX5, .code yX5_requireCommit cX5_requireCommit 2 none, .classLink RX5 144 "java/util/NoSuchElementException", .initialized "java/util/NoSuchElementException", .fieldLink RX5 105 "GroveMerge$History" "size" "I", .methodLink RX5 121 yX1_baseOf, .instanceMethod yX1_baseOf, .selects RX1 yX1_baseOf yX1_baseOf, .initialized RX1, .code yX1_baseOf cX1_baseOf 5 (some .int), .fieldLink RX1 24 "GroveMerge$History" "reach" "[I", .fieldLink RX1 28 "GroveMerge$History" "size" "I", .static yX5_isIn, .code yX5_isIn cX5_isIn 2 (some .boolean), .methodLink RX1 44 yX1_isReachedFromAnother, .instanceMethod yX1_isReachedFromAnother, .selects RX1 yX1_isReachedFromAnother yX1_isReachedFromAnother, .code yX1_isReachedFromAnother cX1_isReachedFromAnother 4 (some .boolean)] ++ wsX50 ++ wsX10 ++ (vx_atS RX5 148 "java/util/NoSuchElementException" ["java/lang/RuntimeException", "java/lang/Exception"]).filter goodWord)
def wsX5_merge_r1 : List Cond := [Cond.classLink RX5 129 "java/lang/IllegalStateException", Cond.initialized "java/lang/IllegalStateException", Cond.fieldLink RX5 19 "GroveMerge" "history" "LGroveMerge$History;", Cond.fieldLink RX5 113 "GroveMerge$History" "trees" "[LGroveMerge$Tree;", Cond.fieldLink RX5 49 "GroveMerge" "head" "I", Cond.fieldLink RX5 52 "GroveMerge" "takenIn" "I", Cond.fieldLink RX5 10 "GroveMerge" "working" "LGroveMerge$Tree;", Cond.fieldLink RX5 26 "GroveMerge" "merger" "LGroveMerge$Merger;", Cond.fieldLink RX5 138 "GroveMerge$Merger" "result" "LGroveMerge$Tree;", Cond.methodLink RX5 110 yX5_requireCommit, Cond.instanceMethod yX5_requireCommit, Cond.selects RX5 yX5_requireCommit yX5_requireCommit, Cond.initialized RX5, Cond.code yX5_requireCommit cX5_requireCommit 2 none, Cond.classLink RX5 144 "java/util/NoSuchElementException", Cond.initialized "java/util/NoSuchElementException", Cond.fieldLink RX5 105 "GroveMerge$History" "size" "I", Cond.methodLink RX5 125 yX4_isSameAs, Cond.instanceMethod yX4_isSameAs, Cond.selects RX4 yX4_isSameAs yX4_isSameAs, Cond.initialized RX4, Cond.code yX4_isSameAs cX4_isSameAs 4 (some .boolean), Cond.fieldLink RX4 36 "GroveMerge$Tree" "size" "I", Cond.fieldLink RX4 9 "GroveMerge$Tree" "order" "[I"]
def wsX5_merge_r2 : List Cond := [Cond.methodLink RX4 46 yX4_hasAsIn, Cond.instanceMethod yX4_hasAsIn, Cond.selects RX4 yX4_hasAsIn yX4_hasAsIn, Cond.code yX4_hasAsIn cX4_hasAsIn 3 (some .boolean), Cond.fieldLink RX4 21 "GroveMerge$Tree" "label" "[I", Cond.fieldLink RX4 18 "GroveMerge$Tree" "parent" "[I", Cond.methodLink RX5 121 yX1_baseOf, Cond.instanceMethod yX1_baseOf, Cond.selects RX1 yX1_baseOf yX1_baseOf, Cond.initialized RX1, Cond.code yX1_baseOf cX1_baseOf 5 (some .int), Cond.fieldLink RX1 24 "GroveMerge$History" "reach" "[I", Cond.fieldLink RX1 28 "GroveMerge$History" "size" "I", Cond.static yX5_isIn, Cond.code yX5_isIn cX5_isIn 2 (some .boolean), Cond.methodLink RX1 44 yX1_isReachedFromAnother, Cond.instanceMethod yX1_isReachedFromAnother, Cond.selects RX1 yX1_isReachedFromAnother yX1_isReachedFromAnother, Cond.code yX1_isReachedFromAnother cX1_isReachedFromAnother 4 (some .boolean), Cond.methodLink RX5 134 yX2_run, Cond.instanceMethod yX2_run, Cond.selects RX2 yX2_run yX2_run, Cond.initialized RX2, Cond.code yX2_run cX2_run 5 (some .int)]
def wsX5_merge_r3 : List Cond := [Cond.fieldLink RX2 22 "GroveMerge$Merger" "conflictCount" "I", Cond.fieldLink RX2 12 "GroveMerge$Merger" "result" "LGroveMerge$Tree;", Cond.methodLink RX2 26 yX4_clear, Cond.instanceMethod yX4_clear, Cond.selects RX4 yX4_clear yX4_clear, Cond.code yX4_clear cX4_clear 1 none, Cond.methodLink RX4 30 yJ7_fill_53178, Cond.static yJ7_fill_53178, Cond.initialized RJ7, Cond.code yJ7_fill_53178 cJ7_fill_53178 4 none, Cond.methodLink RX2 29 yX4_holds, Cond.instanceMethod yX4_holds, Cond.selects RX4 yX4_holds yX4_holds, Cond.code yX4_holds cX4_holds 2 (some .boolean), Cond.methodLink RX2 33 yX2_settle, Cond.instanceMethod yX2_settle, Cond.selects RX2 yX2_settle yX2_settle, Cond.code yX2_settle cX2_settle 8 none, Cond.fieldLink RX2 55 "GroveMerge$Tree" "label" "[I", Cond.fieldLink RX2 62 "GroveMerge$Tree" "parent" "[I", Cond.methodLink RX2 47 yX4_hasAsIn, Cond.methodLink RX2 51 yX2_name, Cond.instanceMethod yX2_name, Cond.selects RX2 yX2_name yX2_name]
def wsX5_merge_r4 : List Cond := [Cond.code yX2_name cX2_name 3 none, Cond.fieldLink RX2 18 "GroveMerge$Merger" "conflicts" "[I", Cond.methodLink RX2 58 yX2_agreed, Cond.static yX2_agreed, Cond.code yX2_agreed cX2_agreed 3 (some .int), Cond.methodLink RX2 37 yX2_nameThoseWithoutParent, Cond.instanceMethod yX2_nameThoseWithoutParent, Cond.selects RX2 yX2_nameThoseWithoutParent yX2_nameThoseWithoutParent, Cond.code yX2_nameThoseWithoutParent cX2_nameThoseWithoutParent 2 none, Cond.methodLink RX2 40 yX2_nameThoseCutOff, Cond.instanceMethod yX2_nameThoseCutOff, Cond.selects RX2 yX2_nameThoseCutOff yX2_nameThoseCutOff, Cond.code yX2_nameThoseCutOff cX2_nameThoseCutOff 2 none, Cond.methodLink RX2 65 yX2_comesToRoot, Cond.instanceMethod yX2_comesToRoot, Cond.selects RX2 yX2_comesToRoot yX2_comesToRoot, Cond.code yX2_comesToRoot cX2_comesToRoot 4 (some .boolean), Cond.methodLink RX2 43 yX2_arrange, Cond.instanceMethod yX2_arrange, Cond.selects RX2 yX2_arrange yX2_arrange, Cond.code yX2_arrange cX2_arrange 4 none, Cond.fieldLink RX2 71 "GroveMerge$Tree" "size" "I", Cond.methodLink RX2 68 yX4_putInto, Cond.instanceMethod yX4_putInto]
def wsX5_merge_r5 : List Cond := [Cond.selects RX4 yX4_putInto yX4_putInto, Cond.code yX4_putInto cX4_putInto 3 none, Cond.fieldLink RX4 24 "GroveMerge$Tree" "carried" "[I", Cond.methodLink RX4 68 yX4_putCarried, Cond.instanceMethod yX4_putCarried, Cond.selects RX4 yX4_putCarried yX4_putCarried, Cond.code yX4_putCarried cX4_putCarried 3 none, Cond.methodLink RX4 40 arraycopyName, Cond.native arraycopyName, Cond.static arraycopyName, Cond.initialized "java/lang/System", Cond.methodLink RX4 71 yX4_renumberFrom, Cond.instanceMethod yX4_renumberFrom, Cond.selects RX4 yX4_renumberFrom yX4_renumberFrom, Cond.code yX4_renumberFrom cX4_renumberFrom 3 none, Cond.fieldLink RX4 15 "GroveMerge$Tree" "spot" "[I", Cond.methodLink RX2 74 yX2_arrangeChildren, Cond.instanceMethod yX2_arrangeChildren, Cond.selects RX2 yX2_arrangeChildren yX2_arrangeChildren, Cond.code yX2_arrangeChildren cX2_arrangeChildren 8 none, Cond.fieldLink RX2 78 "GroveMerge$Tree" "order" "[I", Cond.fieldLink RX2 85 "GroveMerge$Tree" "spot" "[I", Cond.methodLink RX2 81 yX2_isChildNowAsIn, Cond.instanceMethod yX2_isChildNowAsIn]
def wsX5_merge_r6 : List Cond := [Cond.selects RX2 yX2_isChildNowAsIn yX2_isChildNowAsIn, Cond.code yX2_isChildNowAsIn cX2_isChildNowAsIn 4 (some .boolean), Cond.methodLink RX5 117 yX4_copyFrom, Cond.instanceMethod yX4_copyFrom, Cond.selects RX4 yX4_copyFrom yX4_copyFrom, Cond.code yX4_copyFrom cX4_copyFrom 2 none]
def wsX5_merge : List Cond := .code yX5_merge cX5_merge 4 (some .int) :: ((wsX5_merge_r1 ++ (wsX5_merge_r2 ++ (wsX5_merge_r3 ++ (wsX5_merge_r4 ++ (wsX5_merge_r5 ++ wsX5_merge_r6))))) ++ wsX50 ++ wsX10 ++ wsX20 ++ wsX40 ++ (vx_atS RX5 133 "java/lang/IllegalStateException" ["java/lang/RuntimeException", "java/lang/Exception"]).filter goodWord ++ (vx_atS RX5 148 "java/util/NoSuchElementException" ["java/lang/RuntimeException", "java/lang/Exception"]).filter goodWord)
def wsX5_conflict : List Cond := .code yX5_conflict cX5_conflict 2 (some .int) :: ([.classLink RX5 144 "java/util/NoSuchElementException", .initialized "java/util/NoSuchElementException", .fieldLink RX5 26 "GroveMerge" "merger" "LGroveMerge$Merger;", .fieldLink RX5 141 "GroveMerge$Merger" "conflictCount" "I", .fieldLink RX5 149 "GroveMerge$Merger" "conflicts" "[I"] ++ wsX50 ++ wsX20 ++ (vx_atS RX5 148 "java/util/NoSuchElementException" ["java/lang/RuntimeException", "java/lang/Exception"]).filter goodWord)
def wsX5_about_r1 : List Cond := [Cond.classLink RX5 155 "java/lang/IndexOutOfBoundsException", Cond.initialized "java/lang/IndexOutOfBoundsException", Cond.fieldLink RX5 10 "GroveMerge" "working" "LGroveMerge$Tree;", Cond.fieldLink RX5 102 "GroveMerge$Tree" "label" "[I", Cond.fieldLink RX5 94 "GroveMerge$Tree" "parent" "[I", Cond.fieldLink RX5 152 "GroveMerge$Tree" "spot" "[I", Cond.methodLink RX5 55 yX5_requireNode, Cond.instanceMethod yX5_requireNode, Cond.selects RX5 yX5_requireNode yX5_requireNode, Cond.initialized RX5, Cond.code yX5_requireNode cX5_requireNode 2 none, Cond.classLink RX5 144 "java/util/NoSuchElementException", Cond.initialized "java/util/NoSuchElementException", Cond.methodLink RX5 198 yX4_holds, Cond.instanceMethod yX4_holds, Cond.selects RX4 yX4_holds yX4_holds, Cond.initialized RX4, Cond.code yX4_holds cX4_holds 2 (some .boolean), Cond.fieldLink RX4 21 "GroveMerge$Tree" "label" "[I", Cond.methodLink RX5 59 yX4_childCount, Cond.instanceMethod yX4_childCount, Cond.selects RX4 yX4_childCount yX4_childCount, Cond.code yX4_childCount cX4_childCount 4 (some .int), Cond.fieldLink RX4 15 "GroveMerge$Tree" "spot" "[I"]
def wsX5_about_r2 : List Cond := [Cond.fieldLink RX4 36 "GroveMerge$Tree" "size" "I", Cond.fieldLink RX4 18 "GroveMerge$Tree" "parent" "[I", Cond.fieldLink RX4 9 "GroveMerge$Tree" "order" "[I"]
def wsX5_about : List Cond := .code yX5_about cX5_about 3 (some .int) :: ((wsX5_about_r1 ++ wsX5_about_r2) ++ wsX50 ++ wsX40 ++ (vx_atS RX5 159 "java/lang/IndexOutOfBoundsException" ["java/lang/RuntimeException", "java/lang/Exception"]).filter goodWord ++ (vx_atS RX5 148 "java/util/NoSuchElementException" ["java/lang/RuntimeException", "java/lang/Exception"]).filter goodWord)
def wsX5_child_r1 : List Cond := [Cond.fieldLink RX5 10 "GroveMerge" "working" "LGroveMerge$Tree;", Cond.fieldLink RX5 160 "GroveMerge$Tree" "order" "[I", Cond.methodLink RX5 55 yX5_requireNode, Cond.instanceMethod yX5_requireNode, Cond.selects RX5 yX5_requireNode yX5_requireNode, Cond.initialized RX5, Cond.code yX5_requireNode cX5_requireNode 2 none, Cond.classLink RX5 144 "java/util/NoSuchElementException", Cond.initialized "java/util/NoSuchElementException", Cond.methodLink RX5 198 yX4_holds, Cond.instanceMethod yX4_holds, Cond.selects RX4 yX4_holds yX4_holds, Cond.initialized RX4, Cond.code yX4_holds cX4_holds 2 (some .boolean), Cond.fieldLink RX4 21 "GroveMerge$Tree" "label" "[I", Cond.methodLink RX5 59 yX4_childCount, Cond.instanceMethod yX4_childCount, Cond.selects RX4 yX4_childCount yX4_childCount, Cond.code yX4_childCount cX4_childCount 4 (some .int), Cond.fieldLink RX4 15 "GroveMerge$Tree" "spot" "[I", Cond.fieldLink RX4 36 "GroveMerge$Tree" "size" "I", Cond.fieldLink RX4 18 "GroveMerge$Tree" "parent" "[I", Cond.fieldLink RX4 9 "GroveMerge$Tree" "order" "[I", Cond.methodLink RX5 63 yX5_requirePlace]
def wsX5_child_r2 : List Cond := [Cond.static yX5_requirePlace, Cond.code yX5_requirePlace cX5_requirePlace 2 none, Cond.classLink RX5 155 "java/lang/IndexOutOfBoundsException", Cond.initialized "java/lang/IndexOutOfBoundsException", Cond.methodLink RX5 163 yX4_slotFor, Cond.instanceMethod yX4_slotFor, Cond.selects RX4 yX4_slotFor yX4_slotFor, Cond.code yX4_slotFor cX4_slotFor 5 (some .int), Cond.methodLink RX4 50 yX4_endOf, Cond.instanceMethod yX4_endOf, Cond.selects RX4 yX4_endOf yX4_endOf, Cond.code yX4_endOf cX4_endOf 3 (some .int), Cond.methodLink RX4 54 yX4_parentSpot, Cond.instanceMethod yX4_parentSpot, Cond.selects RX4 yX4_parentSpot yX4_parentSpot, Cond.code yX4_parentSpot cX4_parentSpot 3 (some .int)]
def wsX5_child : List Cond := .code yX5_child cX5_child 3 (some .int) :: ((wsX5_child_r1 ++ wsX5_child_r2) ++ wsX50 ++ wsX40 ++ (vx_atS RX5 148 "java/util/NoSuchElementException" ["java/lang/RuntimeException", "java/lang/Exception"]).filter goodWord ++ (vx_atS RX5 159 "java/lang/IndexOutOfBoundsException" ["java/lang/RuntimeException", "java/lang/Exception"]).filter goodWord)
def wsX5_nodes : List Cond := .code yX5_nodes cX5_nodes 2 (some .int) :: ([.fieldLink RX5 41 "GroveMerge" "made" "I", .fieldLink RX5 10 "GroveMerge" "working" "LGroveMerge$Tree;", .fieldLink RX5 166 "GroveMerge$Tree" "size" "I"] ++ wsX50 ++ wsX40)
def wsJ6_bitCount_0f7a4 : List Cond := .code yJ6_bitCount_0f7a4 cJ6_bitCount_0f7a4 1 (some .int) :: ([.constant RJ6 265 (1431655765), .constant RJ6 266 (858993459), .constant RJ6 267 (252645135)])
def wsX5_count_r1 : List Cond := [Cond.fieldLink RX5 10 "GroveMerge" "working" "LGroveMerge$Tree;", Cond.methodLink RX5 167 yX3_follow, Cond.static yX3_follow, Cond.initialized RX3, Cond.code yX3_follow cX3_follow 6 (some .int), Cond.methodLink RX3 11 yX3_alongAxis, Cond.static yX3_alongAxis, Cond.code yX3_alongAxis cX3_alongAxis 3 (some .int), Cond.methodLink RX3 19 yX3_childrenOf, Cond.static yX3_childrenOf, Cond.code yX3_childrenOf cX3_childrenOf 5 (some .int), Cond.fieldLink RX3 28 "GroveMerge$Tree" "size" "I", Cond.fieldLink RX3 34 "GroveMerge$Tree" "order" "[I", Cond.fieldLink RX3 38 "GroveMerge$Tree" "parent" "[I", Cond.static yX5_isIn, Cond.initialized RX5, Cond.code yX5_isIn cX5_isIn 2 (some .boolean), Cond.methodLink RX3 22 yX3_below, Cond.static yX3_below, Cond.code yX3_below cX3_below 5 (some .int), Cond.methodLink RX3 25 yX3_behind, Cond.static yX3_behind, Cond.code yX3_behind cX3_behind 7 (some .int), Cond.methodLink RX3 15 yX3_labelled]
def wsX5_count_r2 : List Cond := [Cond.static yX3_labelled, Cond.code yX3_labelled cX3_labelled 5 (some .int), Cond.fieldLink RX3 45 "GroveMerge$Tree" "label" "[I", Cond.methodLink RX5 173 yJ6_bitCount_0f7a4, Cond.static yJ6_bitCount_0f7a4, Cond.initialized RJ6, Cond.code yJ6_bitCount_0f7a4 cJ6_bitCount_0f7a4 1 (some .int), Cond.constant RJ6 265 (1431655765), Cond.constant RJ6 266 (858993459), Cond.constant RJ6 267 (252645135)]
def wsX5_count : List Cond := .code yX5_count cX5_count 2 (some .int) :: ((wsX5_count_r1 ++ wsX5_count_r2) ++ wsX50 ++ wsX40)
def wsX5_find_r1 : List Cond := [Cond.classLink RX5 144 "java/util/NoSuchElementException", Cond.initialized "java/util/NoSuchElementException", Cond.fieldLink RX5 10 "GroveMerge" "working" "LGroveMerge$Tree;", Cond.methodLink RX5 167 yX3_follow, Cond.static yX3_follow, Cond.initialized RX3, Cond.code yX3_follow cX3_follow 6 (some .int), Cond.methodLink RX3 11 yX3_alongAxis, Cond.static yX3_alongAxis, Cond.code yX3_alongAxis cX3_alongAxis 3 (some .int), Cond.methodLink RX3 19 yX3_childrenOf, Cond.static yX3_childrenOf, Cond.code yX3_childrenOf cX3_childrenOf 5 (some .int), Cond.fieldLink RX3 28 "GroveMerge$Tree" "size" "I", Cond.fieldLink RX3 34 "GroveMerge$Tree" "order" "[I", Cond.fieldLink RX3 38 "GroveMerge$Tree" "parent" "[I", Cond.static yX5_isIn, Cond.initialized RX5, Cond.code yX5_isIn cX5_isIn 2 (some .boolean), Cond.methodLink RX3 22 yX3_below, Cond.static yX3_below, Cond.code yX3_below cX3_below 5 (some .int), Cond.methodLink RX3 25 yX3_behind, Cond.static yX3_behind]
def wsX5_find_r2 : List Cond := [Cond.code yX3_behind cX3_behind 7 (some .int), Cond.methodLink RX3 15 yX3_labelled, Cond.static yX3_labelled, Cond.code yX3_labelled cX3_labelled 5 (some .int), Cond.fieldLink RX3 45 "GroveMerge$Tree" "label" "[I", Cond.methodLink RX5 173 yJ6_bitCount_0f7a4, Cond.static yJ6_bitCount_0f7a4, Cond.initialized RJ6, Cond.code yJ6_bitCount_0f7a4 cJ6_bitCount_0f7a4 1 (some .int), Cond.constant RJ6 265 (1431655765), Cond.constant RJ6 266 (858993459), Cond.constant RJ6 267 (252645135), Cond.methodLink RX5 180 yX4_pick, Cond.instanceMethod yX4_pick, Cond.selects RX4 yX4_pick yX4_pick, Cond.initialized RX4, Cond.code yX4_pick cX4_pick 5 (some .int), Cond.fieldLink RX4 36 "GroveMerge$Tree" "size" "I", Cond.fieldLink RX4 9 "GroveMerge$Tree" "order" "[I"]
def wsX5_find : List Cond := .code yX5_find cX5_find 4 (some .int) :: ((wsX5_find_r1 ++ wsX5_find_r2) ++ wsX50 ++ wsX40 ++ (vx_atS RX5 148 "java/util/NoSuchElementException" ["java/lang/RuntimeException", "java/lang/Exception"]).filter goodWord)
def wsX5_alike_r1 : List Cond := [Cond.fieldLink RX5 10 "GroveMerge" "working" "LGroveMerge$Tree;", Cond.methodLink RX5 55 yX5_requireNode, Cond.instanceMethod yX5_requireNode, Cond.selects RX5 yX5_requireNode yX5_requireNode, Cond.initialized RX5, Cond.code yX5_requireNode cX5_requireNode 2 none, Cond.classLink RX5 144 "java/util/NoSuchElementException", Cond.initialized "java/util/NoSuchElementException", Cond.methodLink RX5 198 yX4_holds, Cond.instanceMethod yX4_holds, Cond.selects RX4 yX4_holds yX4_holds, Cond.initialized RX4, Cond.code yX4_holds cX4_holds 2 (some .boolean), Cond.fieldLink RX4 21 "GroveMerge$Tree" "label" "[I", Cond.methodLink RX5 183 yX4_firstAlike, Cond.instanceMethod yX4_firstAlike, Cond.selects RX4 yX4_firstAlike yX4_firstAlike, Cond.code yX4_firstAlike cX4_firstAlike 3 (some .int), Cond.fieldLink RX4 15 "GroveMerge$Tree" "spot" "[I", Cond.fieldLink RX4 9 "GroveMerge$Tree" "order" "[I", Cond.methodLink RX4 79 yX4_areAlike, Cond.instanceMethod yX4_areAlike, Cond.selects RX4 yX4_areAlike yX4_areAlike, Cond.code yX4_areAlike cX4_areAlike 7 (some .boolean)]
def wsX5_alike_r2 : List Cond := [Cond.methodLink RX4 50 yX4_endOf, Cond.instanceMethod yX4_endOf, Cond.selects RX4 yX4_endOf yX4_endOf, Cond.code yX4_endOf cX4_endOf 3 (some .int), Cond.fieldLink RX4 36 "GroveMerge$Tree" "size" "I", Cond.methodLink RX4 54 yX4_parentSpot, Cond.instanceMethod yX4_parentSpot, Cond.selects RX4 yX4_parentSpot yX4_parentSpot, Cond.code yX4_parentSpot cX4_parentSpot 3 (some .int), Cond.fieldLink RX4 18 "GroveMerge$Tree" "parent" "[I"]
def wsX5_alike : List Cond := .code yX5_alike cX5_alike 2 (some .int) :: ((wsX5_alike_r1 ++ wsX5_alike_r2) ++ wsX50 ++ wsX40 ++ (vx_atS RX5 148 "java/util/NoSuchElementException" ["java/lang/RuntimeException", "java/lang/Exception"]).filter goodWord)
def wsX5_distance_r1 : List Cond := [Cond.fieldLink RX5 33 "GroveMerge" "editDistance" "LGroveMerge$EditDistance;", Cond.fieldLink RX5 19 "GroveMerge" "history" "LGroveMerge$History;", Cond.fieldLink RX5 113 "GroveMerge$History" "trees" "[LGroveMerge$Tree;", Cond.methodLink RX5 110 yX5_requireCommit, Cond.instanceMethod yX5_requireCommit, Cond.selects RX5 yX5_requireCommit yX5_requireCommit, Cond.initialized RX5, Cond.code yX5_requireCommit cX5_requireCommit 2 none, Cond.classLink RX5 144 "java/util/NoSuchElementException", Cond.initialized "java/util/NoSuchElementException", Cond.fieldLink RX5 105 "GroveMerge$History" "size" "I", Cond.methodLink RX5 186 yX0_between, Cond.instanceMethod yX0_between, Cond.selects RX0 yX0_between yX0_between, Cond.initialized RX0, Cond.code yX0_between cX0_between 4 (some .int), Cond.fieldLink RX0 19 "GroveMerge$EditDistance" "endsA" "[I", Cond.fieldLink RX0 23 "GroveMerge$EditDistance" "endsB" "[I", Cond.fieldLink RX0 30 "GroveMerge$Tree" "size" "I", Cond.fieldLink RX0 11 "GroveMerge$EditDistance" "ofParts" "[[I", Cond.methodLink RX0 26 yX0_noteEnds, Cond.static yX0_noteEnds, Cond.code yX0_noteEnds cX0_noteEnds 3 none, Cond.methodLink RX0 48 yX4_endOf]
def wsX5_distance_r2 : List Cond := [Cond.instanceMethod yX4_endOf, Cond.selects RX4 yX4_endOf yX4_endOf, Cond.initialized RX4, Cond.code yX4_endOf cX4_endOf 3 (some .int), Cond.fieldLink RX4 36 "GroveMerge$Tree" "size" "I", Cond.methodLink RX4 54 yX4_parentSpot, Cond.instanceMethod yX4_parentSpot, Cond.selects RX4 yX4_parentSpot yX4_parentSpot, Cond.code yX4_parentSpot cX4_parentSpot 3 (some .int), Cond.fieldLink RX4 18 "GroveMerge$Tree" "parent" "[I", Cond.fieldLink RX4 9 "GroveMerge$Tree" "order" "[I", Cond.fieldLink RX4 15 "GroveMerge$Tree" "spot" "[I", Cond.methodLink RX0 36 yX0_isWidest, Cond.static yX0_isWidest, Cond.code yX0_isWidest cX0_isWidest 3 (some .boolean), Cond.methodLink RX0 52 yX4_parentSpot, Cond.methodLink RX0 40 yX0_compareWithAll, Cond.instanceMethod yX0_compareWithAll, Cond.selects RX0 yX0_compareWithAll yX0_compareWithAll, Cond.code yX0_compareWithAll cX0_compareWithAll 5 none, Cond.methodLink RX0 44 yX0_compareParts, Cond.instanceMethod yX0_compareParts, Cond.selects RX0 yX0_compareParts yX0_compareParts, Cond.code yX0_compareParts cX0_compareParts 10 none]
def wsX5_distance_r3 : List Cond := [Cond.fieldLink RX0 16 "GroveMerge$EditDistance" "ofRests" "[[I", Cond.fieldLink RX0 55 "GroveMerge$Tree" "label" "[I", Cond.fieldLink RX0 58 "GroveMerge$Tree" "order" "[I", Cond.methodLink RX0 61 yX0_least, Cond.instanceMethod yX0_least, Cond.selects RX0 yX0_least yX0_least, Cond.code yX0_least cX0_least 5 (some .int), Cond.methodLink RX0 65 Lib.Math.min.name, Cond.static Lib.Math.min.name, Cond.initialized "java/lang/Math", Cond.code Lib.Math.min.name Lib.Math.min.code 2 (some .int)]
def wsX5_distance : List Cond := .code yX5_distance cX5_distance 3 (some .int) :: ((wsX5_distance_r1 ++ (wsX5_distance_r2 ++ wsX5_distance_r3)) ++ wsX50 ++ wsX10 ++ wsX00 ++ wsX40 ++ (vx_atS RX5 148 "java/util/NoSuchElementException" ["java/lang/RuntimeException", "java/lang/Exception"]).filter goodWord)
def wsX5_state : List Cond := .code yX5_state cX5_state 2 (some .int) :: ([.classLink RX5 80 "java/lang/IllegalArgumentException", .initialized "java/lang/IllegalArgumentException", .fieldLink RX5 19 "GroveMerge" "history" "LGroveMerge$History;", .fieldLink RX5 105 "GroveMerge$History" "size" "I", .fieldLink RX5 49 "GroveMerge" "head" "I", .fieldLink RX5 52 "GroveMerge" "takenIn" "I"] ++ wsX50 ++ wsX10 ++ (vx_atS RX5 84 "java/lang/IllegalArgumentException" ["java/lang/RuntimeException", "java/lang/Exception"]).filter goodWord)
def wsX5_above : List Cond := .code yX5_above cX5_above 3 (some .int) :: ([.fieldLink RX5 19 "GroveMerge" "history" "LGroveMerge$History;", .fieldLink RX5 192 "GroveMerge$History" "firstParent" "[I", .fieldLink RX5 195 "GroveMerge$History" "secondParent" "[I", .methodLink RX5 110 yX5_requireCommit, .instanceMethod yX5_requireCommit, .selects RX5 yX5_requireCommit yX5_requireCommit, .initialized RX5, .code yX5_requireCommit cX5_requireCommit 2 none, .classLink RX5 144 "java/util/NoSuchElementException", .initialized "java/util/NoSuchElementException", .fieldLink RX5 105 "GroveMerge$History" "size" "I", .methodLink RX5 63 yX5_requirePlace, .static yX5_requirePlace, .code yX5_requirePlace cX5_requirePlace 2 none, .classLink RX5 155 "java/lang/IndexOutOfBoundsException", .initialized "java/lang/IndexOutOfBoundsException"] ++ wsX50 ++ wsX10 ++ (vx_atS RX5 148 "java/util/NoSuchElementException" ["java/lang/RuntimeException", "java/lang/Exception"]).filter goodWord ++ (vx_atS RX5 159 "java/lang/IndexOutOfBoundsException" ["java/lang/RuntimeException", "java/lang/Exception"]).filter goodWord)
def wsX6_copy : List Cond := .code yX6_copy cX6_copy 4 none :: ([.fieldLink RX6 7 "GroveMergeModel" "there" "[Z", .fieldLink RX6 13 "GroveMergeModel" "label" "[I", .fieldLink RX6 17 "GroveMergeModel" "parent" "[I", .fieldLink RX6 20 "GroveMergeModel" "place" "[I"] ++ wsX60)
def wsX6_init_r1 : List Cond := [Cond.methodLink RX6 1 objectInit, Cond.instanceMethod objectInit, Cond.code objectInit ⟨#[0xb1]⟩ 1 none, Cond.arrayClass .boolean, Cond.fieldLink RX6 7 "GroveMergeModel" "there" "[Z", Cond.arrayClass .int, Cond.fieldLink RX6 13 "GroveMergeModel" "label" "[I", Cond.fieldLink RX6 17 "GroveMergeModel" "parent" "[I", Cond.fieldLink RX6 20 "GroveMergeModel" "place" "[I", Cond.fieldLink RX6 23 "GroveMergeModel" "made" "I", Cond.fieldLink RX6 27 "GroveMergeModel" "commits" "I", Cond.fieldLink RX6 30 "GroveMergeModel" "one" "[I", Cond.fieldLink RX6 33 "GroveMergeModel" "two" "[I", Cond.fieldLink RX6 36 "GroveMergeModel" "reach" "[I", Cond.fieldLink RX6 39 "GroveMergeModel" "taken" "I", Cond.fieldLink RX6 42 "GroveMergeModel" "conflict" "[I", Cond.fieldLink RX6 45 "GroveMergeModel" "stays" "[Z", Cond.fieldLink RX6 48 "GroveMergeModel" "kind" "[I", Cond.fieldLink RX6 51 "GroveMergeModel" "newLabel" "[I", Cond.fieldLink RX6 54 "GroveMergeModel" "newParent" "[I", Cond.fieldLink RX6 57 "GroveMergeModel" "order" "[I", Cond.fieldLink RX6 60 "GroveMergeModel" "stack" "[I", Cond.fieldLink RX6 63 "GroveMergeModel" "alike" "[I", Cond.fieldLink RX6 66 "GroveMergeModel" "post" "[I"]
def wsX6_init_r2 : List Cond := [Cond.fieldLink RX6 69 "GroveMergeModel" "leaf" "[I", Cond.fieldLink RX6 72 "GroveMergeModel" "trees" "[I", Cond.fieldLink RX6 75 "GroveMergeModel" "forests" "[I", Cond.methodLink RX6 78 yX6_copy, Cond.instanceMethod yX6_copy, Cond.selects RX6 yX6_copy yX6_copy, Cond.initialized RX6, Cond.code yX6_copy cX6_copy 4 none]
def wsX6_init : List Cond := .code yX6_init cX6_init 1 none :: ((wsX6_init_r1 ++ wsX6_init_r2) ++ wsX60)
def wsX6_thrown : List Cond := .code yX6_thrown cX6_thrown 1 (some .int) :: ([.fieldLink RX6 82 "GroveMergeModel" "thrown" "I"] ++ wsX60)
def wsX6_fail : List Cond := .code yX6_fail cX6_fail 2 (some .int) :: ([.fieldLink RX6 82 "GroveMergeModel" "thrown" "I"] ++ wsX60)
def wsX6_has : List Cond := .code yX6_has cX6_has 3 (some .boolean) :: ([.fieldLink RX6 7 "GroveMergeModel" "there" "[Z"] ++ wsX60)
def wsX6_isChild : List Cond := .code yX6_isChild cX6_isChild 4 (some .boolean) :: ([.fieldLink RX6 7 "GroveMergeModel" "there" "[Z", .fieldLink RX6 17 "GroveMergeModel" "parent" "[I"] ++ wsX60)
def wsX6_children : List Cond := .code yX6_children cX6_children 5 (some .int) :: ([.methodLink RX6 85 yX6_isChild, .instanceMethod yX6_isChild, .selects RX6 yX6_isChild yX6_isChild, .initialized RX6, .code yX6_isChild cX6_isChild 4 (some .boolean), .fieldLink RX6 7 "GroveMergeModel" "there" "[Z", .fieldLink RX6 17 "GroveMergeModel" "parent" "[I"] ++ wsX60)
def wsX6_childAt : List Cond := .code yX6_childAt cX6_childAt 6 (some .int) :: ([.fieldLink RX6 20 "GroveMergeModel" "place" "[I", .methodLink RX6 85 yX6_isChild, .instanceMethod yX6_isChild, .selects RX6 yX6_isChild yX6_isChild, .initialized RX6, .code yX6_isChild cX6_isChild 4 (some .boolean), .fieldLink RX6 7 "GroveMergeModel" "there" "[Z", .fieldLink RX6 17 "GroveMergeModel" "parent" "[I"] ++ wsX60)
def wsX6_isAt : List Cond := .code yX6_isAt cX6_isAt 5 (some .boolean) :: ([.fieldLink RX6 17 "GroveMergeModel" "parent" "[I"] ++ wsX60)
def wsX6_shift : List Cond := .code yX6_shift cX6_shift 6 none :: ([.fieldLink RX6 20 "GroveMergeModel" "place" "[I", .methodLink RX6 85 yX6_isChild, .instanceMethod yX6_isChild, .selects RX6 yX6_isChild yX6_isChild, .initialized RX6, .code yX6_isChild cX6_isChild 4 (some .boolean), .fieldLink RX6 7 "GroveMergeModel" "there" "[Z", .fieldLink RX6 17 "GroveMergeModel" "parent" "[I"] ++ wsX60)
def wsX6_hang : List Cond := .code yX6_hang cX6_hang 5 none :: ([.fieldLink RX6 7 "GroveMergeModel" "there" "[Z", .fieldLink RX6 17 "GroveMergeModel" "parent" "[I", .fieldLink RX6 20 "GroveMergeModel" "place" "[I", .methodLink RX6 89 yX6_shift, .instanceMethod yX6_shift, .selects RX6 yX6_shift yX6_shift, .initialized RX6, .code yX6_shift cX6_shift 6 none, .methodLink RX6 85 yX6_isChild, .instanceMethod yX6_isChild, .selects RX6 yX6_isChild yX6_isChild, .code yX6_isChild cX6_isChild 4 (some .boolean)] ++ wsX60)
def wsX6_unhang : List Cond := .code yX6_unhang cX6_unhang 3 none :: ([.fieldLink RX6 7 "GroveMergeModel" "there" "[Z", .fieldLink RX6 17 "GroveMergeModel" "parent" "[I", .fieldLink RX6 20 "GroveMergeModel" "place" "[I", .methodLink RX6 89 yX6_shift, .instanceMethod yX6_shift, .selects RX6 yX6_shift yX6_shift, .initialized RX6, .code yX6_shift cX6_shift 6 none, .methodLink RX6 85 yX6_isChild, .instanceMethod yX6_isChild, .selects RX6 yX6_isChild yX6_isChild, .code yX6_isChild cX6_isChild 4 (some .boolean)] ++ wsX60)
def wsX6_walk : List Cond := .code yX6_walk cX6_walk 4 none :: ([.fieldLink RX6 93 "GroveMergeModel" "many" "I", .fieldLink RX6 60 "GroveMergeModel" "stack" "[I", .fieldLink RX6 96 "GroveMergeModel" "top" "I", .fieldLink RX6 57 "GroveMergeModel" "order" "[I", .methodLink RX6 99 yX6_children, .instanceMethod yX6_children, .selects RX6 yX6_children yX6_children, .initialized RX6, .code yX6_children cX6_children 5 (some .int), .methodLink RX6 85 yX6_isChild, .instanceMethod yX6_isChild, .selects RX6 yX6_isChild yX6_isChild, .code yX6_isChild cX6_isChild 4 (some .boolean), .fieldLink RX6 7 "GroveMergeModel" "there" "[Z", .fieldLink RX6 17 "GroveMergeModel" "parent" "[I", .methodLink RX6 103 yX6_childAt, .instanceMethod yX6_childAt, .selects RX6 yX6_childAt yX6_childAt, .code yX6_childAt cX6_childAt 6 (some .int), .fieldLink RX6 20 "GroveMergeModel" "place" "[I"] ++ wsX60)
def wsX6_insert_r1 : List Cond := [Cond.fieldLink RX6 23 "GroveMergeModel" "made" "I", Cond.fieldLink RX6 82 "GroveMergeModel" "thrown" "I", Cond.fieldLink RX6 13 "GroveMergeModel" "label" "[I", Cond.methodLink RX6 107 yX6_has, Cond.instanceMethod yX6_has, Cond.selects RX6 yX6_has yX6_has, Cond.initialized RX6, Cond.code yX6_has cX6_has 3 (some .boolean), Cond.fieldLink RX6 7 "GroveMergeModel" "there" "[Z", Cond.methodLink RX6 99 yX6_children, Cond.instanceMethod yX6_children, Cond.selects RX6 yX6_children yX6_children, Cond.code yX6_children cX6_children 5 (some .int), Cond.methodLink RX6 85 yX6_isChild, Cond.instanceMethod yX6_isChild, Cond.selects RX6 yX6_isChild yX6_isChild, Cond.code yX6_isChild cX6_isChild 4 (some .boolean), Cond.fieldLink RX6 17 "GroveMergeModel" "parent" "[I", Cond.methodLink RX6 111 yX6_hang, Cond.instanceMethod yX6_hang, Cond.selects RX6 yX6_hang yX6_hang, Cond.code yX6_hang cX6_hang 5 none, Cond.fieldLink RX6 20 "GroveMergeModel" "place" "[I", Cond.methodLink RX6 89 yX6_shift]
def wsX6_insert_r2 : List Cond := [Cond.instanceMethod yX6_shift, Cond.selects RX6 yX6_shift yX6_shift, Cond.code yX6_shift cX6_shift 6 none]
def wsX6_insert : List Cond := .code yX6_insert cX6_insert 4 (some .int) :: ((wsX6_insert_r1 ++ wsX6_insert_r2) ++ wsX60)
def wsX6_delete_r1 : List Cond := [Cond.fieldLink RX6 82 "GroveMergeModel" "thrown" "I", Cond.fieldLink RX6 93 "GroveMergeModel" "many" "I", Cond.fieldLink RX6 57 "GroveMergeModel" "order" "[I", Cond.fieldLink RX6 7 "GroveMergeModel" "there" "[Z", Cond.methodLink RX6 107 yX6_has, Cond.instanceMethod yX6_has, Cond.selects RX6 yX6_has yX6_has, Cond.initialized RX6, Cond.code yX6_has cX6_has 3 (some .boolean), Cond.methodLink RX6 114 yX6_walk, Cond.instanceMethod yX6_walk, Cond.selects RX6 yX6_walk yX6_walk, Cond.code yX6_walk cX6_walk 4 none, Cond.fieldLink RX6 60 "GroveMergeModel" "stack" "[I", Cond.fieldLink RX6 96 "GroveMergeModel" "top" "I", Cond.methodLink RX6 99 yX6_children, Cond.instanceMethod yX6_children, Cond.selects RX6 yX6_children yX6_children, Cond.code yX6_children cX6_children 5 (some .int), Cond.methodLink RX6 85 yX6_isChild, Cond.instanceMethod yX6_isChild, Cond.selects RX6 yX6_isChild yX6_isChild, Cond.code yX6_isChild cX6_isChild 4 (some .boolean), Cond.fieldLink RX6 17 "GroveMergeModel" "parent" "[I"]
def wsX6_delete_r2 : List Cond := [Cond.methodLink RX6 103 yX6_childAt, Cond.instanceMethod yX6_childAt, Cond.selects RX6 yX6_childAt yX6_childAt, Cond.code yX6_childAt cX6_childAt 6 (some .int), Cond.fieldLink RX6 20 "GroveMergeModel" "place" "[I", Cond.methodLink RX6 118 yX6_unhang, Cond.instanceMethod yX6_unhang, Cond.selects RX6 yX6_unhang yX6_unhang, Cond.code yX6_unhang cX6_unhang 3 none, Cond.methodLink RX6 89 yX6_shift, Cond.instanceMethod yX6_shift, Cond.selects RX6 yX6_shift yX6_shift, Cond.code yX6_shift cX6_shift 6 none, Cond.methodLink RX6 121 yX6_isAt, Cond.instanceMethod yX6_isAt, Cond.selects RX6 yX6_isAt yX6_isAt, Cond.code yX6_isAt cX6_isAt 5 (some .boolean)]
def wsX6_delete : List Cond := .code yX6_delete cX6_delete 5 (some .int) :: ((wsX6_delete_r1 ++ wsX6_delete_r2) ++ wsX60)
def wsX6_move_r1 : List Cond := [Cond.fieldLink RX6 82 "GroveMergeModel" "thrown" "I", Cond.fieldLink RX6 17 "GroveMergeModel" "parent" "[I", Cond.methodLink RX6 107 yX6_has, Cond.instanceMethod yX6_has, Cond.selects RX6 yX6_has yX6_has, Cond.initialized RX6, Cond.code yX6_has cX6_has 3 (some .boolean), Cond.fieldLink RX6 7 "GroveMergeModel" "there" "[Z", Cond.methodLink RX6 121 yX6_isAt, Cond.instanceMethod yX6_isAt, Cond.selects RX6 yX6_isAt yX6_isAt, Cond.code yX6_isAt cX6_isAt 5 (some .boolean), Cond.methodLink RX6 99 yX6_children, Cond.instanceMethod yX6_children, Cond.selects RX6 yX6_children yX6_children, Cond.code yX6_children cX6_children 5 (some .int), Cond.methodLink RX6 85 yX6_isChild, Cond.instanceMethod yX6_isChild, Cond.selects RX6 yX6_isChild yX6_isChild, Cond.code yX6_isChild cX6_isChild 4 (some .boolean), Cond.methodLink RX6 118 yX6_unhang, Cond.instanceMethod yX6_unhang, Cond.selects RX6 yX6_unhang yX6_unhang, Cond.code yX6_unhang cX6_unhang 3 none]
def wsX6_move_r2 : List Cond := [Cond.fieldLink RX6 20 "GroveMergeModel" "place" "[I", Cond.methodLink RX6 89 yX6_shift, Cond.instanceMethod yX6_shift, Cond.selects RX6 yX6_shift yX6_shift, Cond.code yX6_shift cX6_shift 6 none, Cond.methodLink RX6 111 yX6_hang, Cond.instanceMethod yX6_hang, Cond.selects RX6 yX6_hang yX6_hang, Cond.code yX6_hang cX6_hang 5 none]
def wsX6_move : List Cond := .code yX6_move cX6_move 5 none :: ((wsX6_move_r1 ++ wsX6_move_r2) ++ wsX60)
def wsX6_relabel : List Cond := .code yX6_relabel cX6_relabel 3 none :: ([.fieldLink RX6 82 "GroveMergeModel" "thrown" "I", .fieldLink RX6 13 "GroveMergeModel" "label" "[I", .methodLink RX6 107 yX6_has, .instanceMethod yX6_has, .selects RX6 yX6_has yX6_has, .initialized RX6, .code yX6_has cX6_has 3 (some .boolean), .fieldLink RX6 7 "GroveMergeModel" "there" "[Z"] ++ wsX60)
def wsX6_commit : List Cond := .code yX6_commit cX6_commit 1 (some .int) :: ([.fieldLink RX6 27 "GroveMergeModel" "commits" "I", .fieldLink RX6 82 "GroveMergeModel" "thrown" "I", .fieldLink RX6 30 "GroveMergeModel" "one" "[I", .fieldLink RX6 124 "GroveMergeModel" "head" "I", .fieldLink RX6 33 "GroveMergeModel" "two" "[I", .fieldLink RX6 39 "GroveMergeModel" "taken" "I", .fieldLink RX6 36 "GroveMergeModel" "reach" "[I", .methodLink RX6 78 yX6_copy, .instanceMethod yX6_copy, .selects RX6 yX6_copy yX6_copy, .initialized RX6, .code yX6_copy cX6_copy 4 none, .fieldLink RX6 7 "GroveMergeModel" "there" "[Z", .fieldLink RX6 13 "GroveMergeModel" "label" "[I", .fieldLink RX6 17 "GroveMergeModel" "parent" "[I", .fieldLink RX6 20 "GroveMergeModel" "place" "[I"] ++ wsX60)
def wsX6_isCommit : List Cond := .code yX6_isCommit cX6_isCommit 2 (some .boolean) :: ([.fieldLink RX6 27 "GroveMergeModel" "commits" "I"] ++ wsX60)
def wsX6_checkout : List Cond := .code yX6_checkout cX6_checkout 2 none :: ([.fieldLink RX6 82 "GroveMergeModel" "thrown" "I", .fieldLink RX6 124 "GroveMergeModel" "head" "I", .fieldLink RX6 39 "GroveMergeModel" "taken" "I", .methodLink RX6 127 yX6_isCommit, .instanceMethod yX6_isCommit, .selects RX6 yX6_isCommit yX6_isCommit, .initialized RX6, .code yX6_isCommit cX6_isCommit 2 (some .boolean), .fieldLink RX6 27 "GroveMergeModel" "commits" "I", .methodLink RX6 78 yX6_copy, .instanceMethod yX6_copy, .selects RX6 yX6_copy yX6_copy, .code yX6_copy cX6_copy 4 none, .fieldLink RX6 7 "GroveMergeModel" "there" "[Z", .fieldLink RX6 13 "GroveMergeModel" "label" "[I", .fieldLink RX6 17 "GroveMergeModel" "parent" "[I", .fieldLink RX6 20 "GroveMergeModel" "place" "[I"] ++ wsX60)
def wsX6_baseOf : List Cond := .code yX6_baseOf cX6_baseOf 7 (some .int) :: ([.fieldLink RX6 36 "GroveMergeModel" "reach" "[I", .fieldLink RX6 27 "GroveMergeModel" "commits" "I"] ++ wsX60)
def wsX6_base : List Cond := .code yX6_base cX6_base 3 (some .int) :: ([.fieldLink RX6 82 "GroveMergeModel" "thrown" "I", .methodLink RX6 127 yX6_isCommit, .instanceMethod yX6_isCommit, .selects RX6 yX6_isCommit yX6_isCommit, .initialized RX6, .code yX6_isCommit cX6_isCommit 2 (some .boolean), .fieldLink RX6 27 "GroveMergeModel" "commits" "I", .methodLink RX6 131 yX6_baseOf, .instanceMethod yX6_baseOf, .selects RX6 yX6_baseOf yX6_baseOf, .code yX6_baseOf cX6_baseOf 7 (some .int), .fieldLink RX6 36 "GroveMergeModel" "reach" "[I"] ++ wsX60)
def wsX6_isHeads : List Cond := .code yX6_isHeads cX6_isHeads 5 (some .boolean) :: ([.fieldLink RX6 124 "GroveMergeModel" "head" "I", .fieldLink RX6 7 "GroveMergeModel" "there" "[Z", .fieldLink RX6 13 "GroveMergeModel" "label" "[I", .fieldLink RX6 17 "GroveMergeModel" "parent" "[I", .fieldLink RX6 20 "GroveMergeModel" "place" "[I"] ++ wsX60)
def wsX6_stay : List Cond := .code yX6_stay cX6_stay 5 (some .int) :: ([.fieldLink RX6 7 "GroveMergeModel" "there" "[Z", .fieldLink RX6 13 "GroveMergeModel" "label" "[I", .fieldLink RX6 17 "GroveMergeModel" "parent" "[I"] ++ wsX60)
def wsX6_choose : List Cond := .code yX6_choose cX6_choose 4 (some .int) :: ([])
def wsX6_meet : List Cond := .code yX6_meet cX6_meet 10 none :: ([.fieldLink RX6 124 "GroveMergeModel" "head" "I", .fieldLink RX6 45 "GroveMergeModel" "stays" "[Z", .fieldLink RX6 48 "GroveMergeModel" "kind" "[I", .fieldLink RX6 7 "GroveMergeModel" "there" "[Z", .fieldLink RX6 51 "GroveMergeModel" "newLabel" "[I", .fieldLink RX6 13 "GroveMergeModel" "label" "[I", .fieldLink RX6 54 "GroveMergeModel" "newParent" "[I", .fieldLink RX6 17 "GroveMergeModel" "parent" "[I", .methodLink RX6 134 yX6_stay, .instanceMethod yX6_stay, .selects RX6 yX6_stay yX6_stay, .initialized RX6, .code yX6_stay cX6_stay 5 (some .int), .methodLink RX6 137 yX6_choose, .static yX6_choose, .code yX6_choose cX6_choose 4 (some .int)] ++ wsX60)
def wsX6_countKinds : List Cond := .code yX6_countKinds cX6_countKinds 3 (some .int) :: ([.fieldLink RX6 48 "GroveMergeModel" "kind" "[I"] ++ wsX60)
def wsX6_comes : List Cond := .code yX6_comes cX6_comes 4 (some .boolean) :: ([.fieldLink RX6 54 "GroveMergeModel" "newParent" "[I"] ++ wsX60)
def wsX6_findOrphans : List Cond := .code yX6_findOrphans cX6_findOrphans 2 none :: ([.fieldLink RX6 48 "GroveMergeModel" "kind" "[I", .fieldLink RX6 45 "GroveMergeModel" "stays" "[Z", .fieldLink RX6 54 "GroveMergeModel" "newParent" "[I"] ++ wsX60)
def wsX6_findRings : List Cond := .code yX6_findRings cX6_findRings 2 none :: ([.fieldLink RX6 48 "GroveMergeModel" "kind" "[I", .fieldLink RX6 45 "GroveMergeModel" "stays" "[Z", .methodLink RX6 141 yX6_comes, .instanceMethod yX6_comes, .selects RX6 yX6_comes yX6_comes, .initialized RX6, .code yX6_comes cX6_comes 4 (some .boolean), .fieldLink RX6 54 "GroveMergeModel" "newParent" "[I"] ++ wsX60)
def wsX6_putChildren_r1 : List Cond := [Cond.fieldLink RX6 124 "GroveMergeModel" "head" "I", Cond.fieldLink RX6 45 "GroveMergeModel" "stays" "[Z", Cond.fieldLink RX6 54 "GroveMergeModel" "newParent" "[I", Cond.fieldLink RX6 7 "GroveMergeModel" "there" "[Z", Cond.fieldLink RX6 20 "GroveMergeModel" "place" "[I", Cond.methodLink RX6 99 yX6_children, Cond.instanceMethod yX6_children, Cond.selects RX6 yX6_children yX6_children, Cond.initialized RX6, Cond.code yX6_children cX6_children 5 (some .int), Cond.methodLink RX6 85 yX6_isChild, Cond.instanceMethod yX6_isChild, Cond.selects RX6 yX6_isChild yX6_isChild, Cond.code yX6_isChild cX6_isChild 4 (some .boolean), Cond.fieldLink RX6 17 "GroveMergeModel" "parent" "[I", Cond.methodLink RX6 103 yX6_childAt, Cond.instanceMethod yX6_childAt, Cond.selects RX6 yX6_childAt yX6_childAt, Cond.code yX6_childAt cX6_childAt 6 (some .int), Cond.methodLink RX6 111 yX6_hang, Cond.instanceMethod yX6_hang, Cond.selects RX6 yX6_hang yX6_hang, Cond.code yX6_hang cX6_hang 5 none, Cond.methodLink RX6 89 yX6_shift]
def wsX6_putChildren_r2 : List Cond := [Cond.instanceMethod yX6_shift, Cond.selects RX6 yX6_shift yX6_shift, Cond.code yX6_shift cX6_shift 6 none]
def wsX6_putChildren : List Cond := .code yX6_putChildren cX6_putChildren 8 none :: ((wsX6_putChildren_r1 ++ wsX6_putChildren_r2) ++ wsX60)
def wsX6_build_r1 : List Cond := [Cond.fieldLink RX6 7 "GroveMergeModel" "there" "[Z", Cond.fieldLink RX6 13 "GroveMergeModel" "label" "[I", Cond.fieldLink RX6 45 "GroveMergeModel" "stays" "[Z", Cond.fieldLink RX6 51 "GroveMergeModel" "newLabel" "[I", Cond.fieldLink RX6 17 "GroveMergeModel" "parent" "[I", Cond.fieldLink RX6 20 "GroveMergeModel" "place" "[I", Cond.methodLink RX6 144 yX6_putChildren, Cond.instanceMethod yX6_putChildren, Cond.selects RX6 yX6_putChildren yX6_putChildren, Cond.initialized RX6, Cond.code yX6_putChildren cX6_putChildren 8 none, Cond.fieldLink RX6 124 "GroveMergeModel" "head" "I", Cond.fieldLink RX6 54 "GroveMergeModel" "newParent" "[I", Cond.methodLink RX6 99 yX6_children, Cond.instanceMethod yX6_children, Cond.selects RX6 yX6_children yX6_children, Cond.code yX6_children cX6_children 5 (some .int), Cond.methodLink RX6 85 yX6_isChild, Cond.instanceMethod yX6_isChild, Cond.selects RX6 yX6_isChild yX6_isChild, Cond.code yX6_isChild cX6_isChild 4 (some .boolean), Cond.methodLink RX6 103 yX6_childAt, Cond.instanceMethod yX6_childAt, Cond.selects RX6 yX6_childAt yX6_childAt]
def wsX6_build_r2 : List Cond := [Cond.code yX6_childAt cX6_childAt 6 (some .int), Cond.methodLink RX6 111 yX6_hang, Cond.instanceMethod yX6_hang, Cond.selects RX6 yX6_hang yX6_hang, Cond.code yX6_hang cX6_hang 5 none, Cond.methodLink RX6 89 yX6_shift, Cond.instanceMethod yX6_shift, Cond.selects RX6 yX6_shift yX6_shift, Cond.code yX6_shift cX6_shift 6 none, Cond.methodLink RX6 78 yX6_copy, Cond.instanceMethod yX6_copy, Cond.selects RX6 yX6_copy yX6_copy, Cond.code yX6_copy cX6_copy 4 none]
def wsX6_build : List Cond := .code yX6_build cX6_build 3 none :: ((wsX6_build_r1 ++ wsX6_build_r2) ++ wsX60)
def wsX6_merge_r1 : List Cond := [Cond.fieldLink RX6 39 "GroveMergeModel" "taken" "I", Cond.fieldLink RX6 82 "GroveMergeModel" "thrown" "I", Cond.fieldLink RX6 124 "GroveMergeModel" "head" "I", Cond.fieldLink RX6 165 "GroveMergeModel" "conflicts" "I", Cond.fieldLink RX6 48 "GroveMergeModel" "kind" "[I", Cond.fieldLink RX6 42 "GroveMergeModel" "conflict" "[I", Cond.methodLink RX6 127 yX6_isCommit, Cond.instanceMethod yX6_isCommit, Cond.selects RX6 yX6_isCommit yX6_isCommit, Cond.initialized RX6, Cond.code yX6_isCommit cX6_isCommit 2 (some .boolean), Cond.fieldLink RX6 27 "GroveMergeModel" "commits" "I", Cond.methodLink RX6 147 yX6_isHeads, Cond.instanceMethod yX6_isHeads, Cond.selects RX6 yX6_isHeads yX6_isHeads, Cond.code yX6_isHeads cX6_isHeads 5 (some .boolean), Cond.fieldLink RX6 7 "GroveMergeModel" "there" "[Z", Cond.fieldLink RX6 13 "GroveMergeModel" "label" "[I", Cond.fieldLink RX6 17 "GroveMergeModel" "parent" "[I", Cond.fieldLink RX6 20 "GroveMergeModel" "place" "[I", Cond.methodLink RX6 131 yX6_baseOf, Cond.instanceMethod yX6_baseOf, Cond.selects RX6 yX6_baseOf yX6_baseOf, Cond.code yX6_baseOf cX6_baseOf 7 (some .int)]
def wsX6_merge_r2 : List Cond := [Cond.fieldLink RX6 36 "GroveMergeModel" "reach" "[I", Cond.methodLink RX6 151 yX6_meet, Cond.instanceMethod yX6_meet, Cond.selects RX6 yX6_meet yX6_meet, Cond.code yX6_meet cX6_meet 10 none, Cond.fieldLink RX6 45 "GroveMergeModel" "stays" "[Z", Cond.fieldLink RX6 51 "GroveMergeModel" "newLabel" "[I", Cond.fieldLink RX6 54 "GroveMergeModel" "newParent" "[I", Cond.methodLink RX6 134 yX6_stay, Cond.instanceMethod yX6_stay, Cond.selects RX6 yX6_stay yX6_stay, Cond.code yX6_stay cX6_stay 5 (some .int), Cond.methodLink RX6 137 yX6_choose, Cond.static yX6_choose, Cond.code yX6_choose cX6_choose 4 (some .int), Cond.methodLink RX6 155 yX6_countKinds, Cond.instanceMethod yX6_countKinds, Cond.selects RX6 yX6_countKinds yX6_countKinds, Cond.code yX6_countKinds cX6_countKinds 3 (some .int), Cond.methodLink RX6 159 yX6_findOrphans, Cond.instanceMethod yX6_findOrphans, Cond.selects RX6 yX6_findOrphans yX6_findOrphans, Cond.code yX6_findOrphans cX6_findOrphans 2 none, Cond.methodLink RX6 162 yX6_findRings]
def wsX6_merge_r3 : List Cond := [Cond.instanceMethod yX6_findRings, Cond.selects RX6 yX6_findRings yX6_findRings, Cond.code yX6_findRings cX6_findRings 2 none, Cond.methodLink RX6 141 yX6_comes, Cond.instanceMethod yX6_comes, Cond.selects RX6 yX6_comes yX6_comes, Cond.code yX6_comes cX6_comes 4 (some .boolean), Cond.methodLink RX6 168 yX6_build, Cond.instanceMethod yX6_build, Cond.selects RX6 yX6_build yX6_build, Cond.code yX6_build cX6_build 3 none, Cond.methodLink RX6 144 yX6_putChildren, Cond.instanceMethod yX6_putChildren, Cond.selects RX6 yX6_putChildren yX6_putChildren, Cond.code yX6_putChildren cX6_putChildren 8 none, Cond.methodLink RX6 99 yX6_children, Cond.instanceMethod yX6_children, Cond.selects RX6 yX6_children yX6_children, Cond.code yX6_children cX6_children 5 (some .int), Cond.methodLink RX6 85 yX6_isChild, Cond.instanceMethod yX6_isChild, Cond.selects RX6 yX6_isChild yX6_isChild, Cond.code yX6_isChild cX6_isChild 4 (some .boolean), Cond.methodLink RX6 103 yX6_childAt]
def wsX6_merge_r4 : List Cond := [Cond.instanceMethod yX6_childAt, Cond.selects RX6 yX6_childAt yX6_childAt, Cond.code yX6_childAt cX6_childAt 6 (some .int), Cond.methodLink RX6 111 yX6_hang, Cond.instanceMethod yX6_hang, Cond.selects RX6 yX6_hang yX6_hang, Cond.code yX6_hang cX6_hang 5 none, Cond.methodLink RX6 89 yX6_shift, Cond.instanceMethod yX6_shift, Cond.selects RX6 yX6_shift yX6_shift, Cond.code yX6_shift cX6_shift 6 none, Cond.methodLink RX6 78 yX6_copy, Cond.instanceMethod yX6_copy, Cond.selects RX6 yX6_copy yX6_copy, Cond.code yX6_copy cX6_copy 4 none]
def wsX6_merge : List Cond := .code yX6_merge cX6_merge 4 (some .int) :: ((wsX6_merge_r1 ++ (wsX6_merge_r2 ++ (wsX6_merge_r3 ++ wsX6_merge_r4))) ++ wsX60)
def wsX6_conflict : List Cond := .code yX6_conflict cX6_conflict 2 (some .int) :: ([.fieldLink RX6 165 "GroveMergeModel" "conflicts" "I", .fieldLink RX6 82 "GroveMergeModel" "thrown" "I", .fieldLink RX6 42 "GroveMergeModel" "conflict" "[I"] ++ wsX60)
def wsX6_numberOf : List Cond := .code yX6_numberOf cX6_numberOf 3 (some .int) :: ([.fieldLink RX6 57 "GroveMergeModel" "order" "[I", .methodLink RX6 114 yX6_walk, .instanceMethod yX6_walk, .selects RX6 yX6_walk yX6_walk, .initialized RX6, .code yX6_walk cX6_walk 4 none, .fieldLink RX6 93 "GroveMergeModel" "many" "I", .fieldLink RX6 60 "GroveMergeModel" "stack" "[I", .fieldLink RX6 96 "GroveMergeModel" "top" "I", .methodLink RX6 99 yX6_children, .instanceMethod yX6_children, .selects RX6 yX6_children yX6_children, .code yX6_children cX6_children 5 (some .int), .methodLink RX6 85 yX6_isChild, .instanceMethod yX6_isChild, .selects RX6 yX6_isChild yX6_isChild, .code yX6_isChild cX6_isChild 4 (some .boolean), .fieldLink RX6 7 "GroveMergeModel" "there" "[Z", .fieldLink RX6 17 "GroveMergeModel" "parent" "[I", .methodLink RX6 103 yX6_childAt, .instanceMethod yX6_childAt, .selects RX6 yX6_childAt yX6_childAt, .code yX6_childAt cX6_childAt 6 (some .int), .fieldLink RX6 20 "GroveMergeModel" "place" "[I"] ++ wsX60)
def wsX6_about_r1 : List Cond := [Cond.fieldLink RX6 82 "GroveMergeModel" "thrown" "I", Cond.fieldLink RX6 13 "GroveMergeModel" "label" "[I", Cond.fieldLink RX6 17 "GroveMergeModel" "parent" "[I", Cond.methodLink RX6 107 yX6_has, Cond.instanceMethod yX6_has, Cond.selects RX6 yX6_has yX6_has, Cond.initialized RX6, Cond.code yX6_has cX6_has 3 (some .boolean), Cond.fieldLink RX6 7 "GroveMergeModel" "there" "[Z", Cond.methodLink RX6 99 yX6_children, Cond.instanceMethod yX6_children, Cond.selects RX6 yX6_children yX6_children, Cond.code yX6_children cX6_children 5 (some .int), Cond.methodLink RX6 85 yX6_isChild, Cond.instanceMethod yX6_isChild, Cond.selects RX6 yX6_isChild yX6_isChild, Cond.code yX6_isChild cX6_isChild 4 (some .boolean), Cond.methodLink RX6 171 yX6_numberOf, Cond.instanceMethod yX6_numberOf, Cond.selects RX6 yX6_numberOf yX6_numberOf, Cond.code yX6_numberOf cX6_numberOf 3 (some .int), Cond.fieldLink RX6 57 "GroveMergeModel" "order" "[I", Cond.methodLink RX6 114 yX6_walk, Cond.instanceMethod yX6_walk]
def wsX6_about_r2 : List Cond := [Cond.selects RX6 yX6_walk yX6_walk, Cond.code yX6_walk cX6_walk 4 none, Cond.fieldLink RX6 93 "GroveMergeModel" "many" "I", Cond.fieldLink RX6 60 "GroveMergeModel" "stack" "[I", Cond.fieldLink RX6 96 "GroveMergeModel" "top" "I", Cond.methodLink RX6 103 yX6_childAt, Cond.instanceMethod yX6_childAt, Cond.selects RX6 yX6_childAt yX6_childAt, Cond.code yX6_childAt cX6_childAt 6 (some .int), Cond.fieldLink RX6 20 "GroveMergeModel" "place" "[I"]
def wsX6_about : List Cond := .code yX6_about cX6_about 3 (some .int) :: ((wsX6_about_r1 ++ wsX6_about_r2) ++ wsX60)
def wsX6_child : List Cond := .code yX6_child cX6_child 3 (some .int) :: ([.fieldLink RX6 82 "GroveMergeModel" "thrown" "I", .methodLink RX6 107 yX6_has, .instanceMethod yX6_has, .selects RX6 yX6_has yX6_has, .initialized RX6, .code yX6_has cX6_has 3 (some .boolean), .fieldLink RX6 7 "GroveMergeModel" "there" "[Z", .methodLink RX6 99 yX6_children, .instanceMethod yX6_children, .selects RX6 yX6_children yX6_children, .code yX6_children cX6_children 5 (some .int), .methodLink RX6 85 yX6_isChild, .instanceMethod yX6_isChild, .selects RX6 yX6_isChild yX6_isChild, .code yX6_isChild cX6_isChild 4 (some .boolean), .fieldLink RX6 17 "GroveMergeModel" "parent" "[I", .methodLink RX6 103 yX6_childAt, .instanceMethod yX6_childAt, .selects RX6 yX6_childAt yX6_childAt, .code yX6_childAt cX6_childAt 6 (some .int), .fieldLink RX6 20 "GroveMergeModel" "place" "[I"] ++ wsX60)
def wsX6_nodes_r1 : List Cond := [Cond.fieldLink RX6 82 "GroveMergeModel" "thrown" "I", Cond.fieldLink RX6 23 "GroveMergeModel" "made" "I", Cond.fieldLink RX6 93 "GroveMergeModel" "many" "I", Cond.methodLink RX6 114 yX6_walk, Cond.instanceMethod yX6_walk, Cond.selects RX6 yX6_walk yX6_walk, Cond.initialized RX6, Cond.code yX6_walk cX6_walk 4 none, Cond.fieldLink RX6 60 "GroveMergeModel" "stack" "[I", Cond.fieldLink RX6 96 "GroveMergeModel" "top" "I", Cond.fieldLink RX6 57 "GroveMergeModel" "order" "[I", Cond.methodLink RX6 99 yX6_children, Cond.instanceMethod yX6_children, Cond.selects RX6 yX6_children yX6_children, Cond.code yX6_children cX6_children 5 (some .int), Cond.methodLink RX6 85 yX6_isChild, Cond.instanceMethod yX6_isChild, Cond.selects RX6 yX6_isChild yX6_isChild, Cond.code yX6_isChild cX6_isChild 4 (some .boolean), Cond.fieldLink RX6 7 "GroveMergeModel" "there" "[Z", Cond.fieldLink RX6 17 "GroveMergeModel" "parent" "[I", Cond.methodLink RX6 103 yX6_childAt, Cond.instanceMethod yX6_childAt, Cond.selects RX6 yX6_childAt yX6_childAt]
def wsX6_nodes_r2 : List Cond := [Cond.code yX6_childAt cX6_childAt 6 (some .int), Cond.fieldLink RX6 20 "GroveMergeModel" "place" "[I"]
def wsX6_nodes : List Cond := .code yX6_nodes cX6_nodes 2 (some .int) :: ((wsX6_nodes_r1 ++ wsX6_nodes_r2) ++ wsX60)
def wsX6_isFound : List Cond := .code yX6_isFound cX6_isFound 8 (some .boolean) :: ([.fieldLink RX6 17 "GroveMergeModel" "parent" "[I", .fieldLink RX6 20 "GroveMergeModel" "place" "[I", .methodLink RX6 121 yX6_isAt, .instanceMethod yX6_isAt, .selects RX6 yX6_isAt yX6_isAt, .initialized RX6, .code yX6_isAt cX6_isAt 5 (some .boolean)] ++ wsX60)
def wsX6_found : List Cond := .code yX6_found cX6_found 9 (some .int) :: ([.fieldLink RX6 7 "GroveMergeModel" "there" "[Z", .fieldLink RX6 13 "GroveMergeModel" "label" "[I", .methodLink RX6 175 yX6_isFound, .instanceMethod yX6_isFound, .selects RX6 yX6_isFound yX6_isFound, .initialized RX6, .code yX6_isFound cX6_isFound 8 (some .boolean), .fieldLink RX6 17 "GroveMergeModel" "parent" "[I", .fieldLink RX6 20 "GroveMergeModel" "place" "[I", .methodLink RX6 121 yX6_isAt, .instanceMethod yX6_isAt, .selects RX6 yX6_isAt yX6_isAt, .code yX6_isAt cX6_isAt 5 (some .boolean)] ++ wsX60)
def wsX6_count : List Cond := .code yX6_count cX6_count 5 (some .int) :: ([.fieldLink RX6 82 "GroveMergeModel" "thrown" "I", .methodLink RX6 178 yX6_found, .instanceMethod yX6_found, .selects RX6 yX6_found yX6_found, .initialized RX6, .code yX6_found cX6_found 9 (some .int), .fieldLink RX6 7 "GroveMergeModel" "there" "[Z", .fieldLink RX6 13 "GroveMergeModel" "label" "[I", .methodLink RX6 175 yX6_isFound, .instanceMethod yX6_isFound, .selects RX6 yX6_isFound yX6_isFound, .code yX6_isFound cX6_isFound 8 (some .boolean), .fieldLink RX6 17 "GroveMergeModel" "parent" "[I", .fieldLink RX6 20 "GroveMergeModel" "place" "[I", .methodLink RX6 121 yX6_isAt, .instanceMethod yX6_isAt, .selects RX6 yX6_isAt yX6_isAt, .code yX6_isAt cX6_isAt 5 (some .boolean)] ++ wsX60)
def wsX6_find_r1 : List Cond := [Cond.fieldLink RX6 82 "GroveMergeModel" "thrown" "I", Cond.fieldLink RX6 93 "GroveMergeModel" "many" "I", Cond.fieldLink RX6 57 "GroveMergeModel" "order" "[I", Cond.methodLink RX6 178 yX6_found, Cond.instanceMethod yX6_found, Cond.selects RX6 yX6_found yX6_found, Cond.initialized RX6, Cond.code yX6_found cX6_found 9 (some .int), Cond.fieldLink RX6 7 "GroveMergeModel" "there" "[Z", Cond.fieldLink RX6 13 "GroveMergeModel" "label" "[I", Cond.methodLink RX6 175 yX6_isFound, Cond.instanceMethod yX6_isFound, Cond.selects RX6 yX6_isFound yX6_isFound, Cond.code yX6_isFound cX6_isFound 8 (some .boolean), Cond.fieldLink RX6 17 "GroveMergeModel" "parent" "[I", Cond.fieldLink RX6 20 "GroveMergeModel" "place" "[I", Cond.methodLink RX6 121 yX6_isAt, Cond.instanceMethod yX6_isAt, Cond.selects RX6 yX6_isAt yX6_isAt, Cond.code yX6_isAt cX6_isAt 5 (some .boolean), Cond.methodLink RX6 114 yX6_walk, Cond.instanceMethod yX6_walk, Cond.selects RX6 yX6_walk yX6_walk, Cond.code yX6_walk cX6_walk 4 none]
def wsX6_find_r2 : List Cond := [Cond.fieldLink RX6 60 "GroveMergeModel" "stack" "[I", Cond.fieldLink RX6 96 "GroveMergeModel" "top" "I", Cond.methodLink RX6 99 yX6_children, Cond.instanceMethod yX6_children, Cond.selects RX6 yX6_children yX6_children, Cond.code yX6_children cX6_children 5 (some .int), Cond.methodLink RX6 85 yX6_isChild, Cond.instanceMethod yX6_isChild, Cond.selects RX6 yX6_isChild yX6_isChild, Cond.code yX6_isChild cX6_isChild 4 (some .boolean), Cond.methodLink RX6 103 yX6_childAt, Cond.instanceMethod yX6_childAt, Cond.selects RX6 yX6_childAt yX6_childAt, Cond.code yX6_childAt cX6_childAt 6 (some .int), Cond.methodLink RX6 181 yX6_fail, Cond.instanceMethod yX6_fail, Cond.selects RX6 yX6_fail yX6_fail, Cond.code yX6_fail cX6_fail 2 (some .int)]
def wsX6_find : List Cond := .code yX6_find cX6_find 6 (some .int) :: ((wsX6_find_r1 ++ wsX6_find_r2) ++ wsX60)
def wsX6_areAlike : List Cond := .code yX6_areAlike cX6_areAlike 6 (some .boolean) :: ([.fieldLink RX6 13 "GroveMergeModel" "label" "[I", .fieldLink RX6 63 "GroveMergeModel" "alike" "[I", .methodLink RX6 99 yX6_children, .instanceMethod yX6_children, .selects RX6 yX6_children yX6_children, .initialized RX6, .code yX6_children cX6_children 5 (some .int), .methodLink RX6 85 yX6_isChild, .instanceMethod yX6_isChild, .selects RX6 yX6_isChild yX6_isChild, .code yX6_isChild cX6_isChild 4 (some .boolean), .fieldLink RX6 7 "GroveMergeModel" "there" "[Z", .fieldLink RX6 17 "GroveMergeModel" "parent" "[I", .methodLink RX6 103 yX6_childAt, .instanceMethod yX6_childAt, .selects RX6 yX6_childAt yX6_childAt, .code yX6_childAt cX6_childAt 6 (some .int), .fieldLink RX6 20 "GroveMergeModel" "place" "[I"] ++ wsX60)
def wsX6_alike_r1 : List Cond := [Cond.fieldLink RX6 82 "GroveMergeModel" "thrown" "I", Cond.fieldLink RX6 93 "GroveMergeModel" "many" "I", Cond.fieldLink RX6 57 "GroveMergeModel" "order" "[I", Cond.fieldLink RX6 63 "GroveMergeModel" "alike" "[I", Cond.methodLink RX6 107 yX6_has, Cond.instanceMethod yX6_has, Cond.selects RX6 yX6_has yX6_has, Cond.initialized RX6, Cond.code yX6_has cX6_has 3 (some .boolean), Cond.fieldLink RX6 7 "GroveMergeModel" "there" "[Z", Cond.methodLink RX6 114 yX6_walk, Cond.instanceMethod yX6_walk, Cond.selects RX6 yX6_walk yX6_walk, Cond.code yX6_walk cX6_walk 4 none, Cond.fieldLink RX6 60 "GroveMergeModel" "stack" "[I", Cond.fieldLink RX6 96 "GroveMergeModel" "top" "I", Cond.methodLink RX6 99 yX6_children, Cond.instanceMethod yX6_children, Cond.selects RX6 yX6_children yX6_children, Cond.code yX6_children cX6_children 5 (some .int), Cond.methodLink RX6 85 yX6_isChild, Cond.instanceMethod yX6_isChild, Cond.selects RX6 yX6_isChild yX6_isChild, Cond.code yX6_isChild cX6_isChild 4 (some .boolean)]
def wsX6_alike_r2 : List Cond := [Cond.fieldLink RX6 17 "GroveMergeModel" "parent" "[I", Cond.methodLink RX6 103 yX6_childAt, Cond.instanceMethod yX6_childAt, Cond.selects RX6 yX6_childAt yX6_childAt, Cond.code yX6_childAt cX6_childAt 6 (some .int), Cond.fieldLink RX6 20 "GroveMergeModel" "place" "[I", Cond.methodLink RX6 184 yX6_areAlike, Cond.instanceMethod yX6_areAlike, Cond.selects RX6 yX6_areAlike yX6_areAlike, Cond.code yX6_areAlike cX6_areAlike 6 (some .boolean), Cond.fieldLink RX6 13 "GroveMergeModel" "label" "[I"]
def wsX6_alike : List Cond := .code yX6_alike cX6_alike 5 (some .int) :: ((wsX6_alike_r1 ++ wsX6_alike_r2) ++ wsX60)
def wsX6_leave_r1 : List Cond := [Cond.fieldLink RX6 96 "GroveMergeModel" "top" "I", Cond.fieldLink RX6 93 "GroveMergeModel" "many" "I", Cond.fieldLink RX6 57 "GroveMergeModel" "order" "[I", Cond.fieldLink RX6 60 "GroveMergeModel" "stack" "[I", Cond.fieldLink RX6 66 "GroveMergeModel" "post" "[I", Cond.fieldLink RX6 69 "GroveMergeModel" "leaf" "[I", Cond.methodLink RX6 114 yX6_walk, Cond.instanceMethod yX6_walk, Cond.selects RX6 yX6_walk yX6_walk, Cond.initialized RX6, Cond.code yX6_walk cX6_walk 4 none, Cond.methodLink RX6 99 yX6_children, Cond.instanceMethod yX6_children, Cond.selects RX6 yX6_children yX6_children, Cond.code yX6_children cX6_children 5 (some .int), Cond.methodLink RX6 85 yX6_isChild, Cond.instanceMethod yX6_isChild, Cond.selects RX6 yX6_isChild yX6_isChild, Cond.code yX6_isChild cX6_isChild 4 (some .boolean), Cond.fieldLink RX6 7 "GroveMergeModel" "there" "[Z", Cond.fieldLink RX6 17 "GroveMergeModel" "parent" "[I", Cond.methodLink RX6 103 yX6_childAt, Cond.instanceMethod yX6_childAt, Cond.selects RX6 yX6_childAt yX6_childAt]
def wsX6_leave_r2 : List Cond := [Cond.code yX6_childAt cX6_childAt 6 (some .int), Cond.fieldLink RX6 20 "GroveMergeModel" "place" "[I", Cond.methodLink RX6 121 yX6_isAt, Cond.instanceMethod yX6_isAt, Cond.selects RX6 yX6_isAt yX6_isAt, Cond.code yX6_isAt cX6_isAt 5 (some .boolean)]
def wsX6_leave : List Cond := .code yX6_leave cX6_leave 7 (some .int) :: ((wsX6_leave_r1 ++ wsX6_leave_r2) ++ wsX60)
def wsX6_least : List Cond := .code yX6_least cX6_least 2 (some .int) :: ([])
def wsX6_compare : List Cond := .code yX6_compare cX6_compare 12 none :: ([.fieldLink RX6 69 "GroveMergeModel" "leaf" "[I", .fieldLink RX6 75 "GroveMergeModel" "forests" "[I", .fieldLink RX6 13 "GroveMergeModel" "label" "[I", .fieldLink RX6 66 "GroveMergeModel" "post" "[I", .fieldLink RX6 72 "GroveMergeModel" "trees" "[I", .methodLink RX6 187 yX6_least, .static yX6_least, .initialized RX6, .code yX6_least cX6_least 2 (some .int)] ++ wsX60)
def wsX6_distance_r1 : List Cond := [Cond.fieldLink RX6 82 "GroveMergeModel" "thrown" "I", Cond.fieldLink RX6 72 "GroveMergeModel" "trees" "[I", Cond.methodLink RX6 127 yX6_isCommit, Cond.instanceMethod yX6_isCommit, Cond.selects RX6 yX6_isCommit yX6_isCommit, Cond.initialized RX6, Cond.code yX6_isCommit cX6_isCommit 2 (some .boolean), Cond.fieldLink RX6 27 "GroveMergeModel" "commits" "I", Cond.methodLink RX6 190 yX6_leave, Cond.instanceMethod yX6_leave, Cond.selects RX6 yX6_leave yX6_leave, Cond.code yX6_leave cX6_leave 7 (some .int), Cond.fieldLink RX6 96 "GroveMergeModel" "top" "I", Cond.fieldLink RX6 93 "GroveMergeModel" "many" "I", Cond.fieldLink RX6 57 "GroveMergeModel" "order" "[I", Cond.fieldLink RX6 60 "GroveMergeModel" "stack" "[I", Cond.fieldLink RX6 66 "GroveMergeModel" "post" "[I", Cond.fieldLink RX6 69 "GroveMergeModel" "leaf" "[I", Cond.methodLink RX6 114 yX6_walk, Cond.instanceMethod yX6_walk, Cond.selects RX6 yX6_walk yX6_walk, Cond.code yX6_walk cX6_walk 4 none, Cond.methodLink RX6 99 yX6_children, Cond.instanceMethod yX6_children]
def wsX6_distance_r2 : List Cond := [Cond.selects RX6 yX6_children yX6_children, Cond.code yX6_children cX6_children 5 (some .int), Cond.methodLink RX6 85 yX6_isChild, Cond.instanceMethod yX6_isChild, Cond.selects RX6 yX6_isChild yX6_isChild, Cond.code yX6_isChild cX6_isChild 4 (some .boolean), Cond.fieldLink RX6 7 "GroveMergeModel" "there" "[Z", Cond.fieldLink RX6 17 "GroveMergeModel" "parent" "[I", Cond.methodLink RX6 103 yX6_childAt, Cond.instanceMethod yX6_childAt, Cond.selects RX6 yX6_childAt yX6_childAt, Cond.code yX6_childAt cX6_childAt 6 (some .int), Cond.fieldLink RX6 20 "GroveMergeModel" "place" "[I", Cond.methodLink RX6 121 yX6_isAt, Cond.instanceMethod yX6_isAt, Cond.selects RX6 yX6_isAt yX6_isAt, Cond.code yX6_isAt cX6_isAt 5 (some .boolean), Cond.methodLink RX6 193 yX6_compare, Cond.instanceMethod yX6_compare, Cond.selects RX6 yX6_compare yX6_compare, Cond.code yX6_compare cX6_compare 12 none, Cond.fieldLink RX6 75 "GroveMergeModel" "forests" "[I", Cond.fieldLink RX6 13 "GroveMergeModel" "label" "[I", Cond.methodLink RX6 187 yX6_least]
def wsX6_distance_r3 : List Cond := [Cond.static yX6_least, Cond.code yX6_least cX6_least 2 (some .int)]
def wsX6_distance : List Cond := .code yX6_distance cX6_distance 7 (some .int) :: ((wsX6_distance_r1 ++ (wsX6_distance_r2 ++ wsX6_distance_r3)) ++ wsX60)
def wsX6_state : List Cond := .code yX6_state cX6_state 2 (some .int) :: ([.fieldLink RX6 82 "GroveMergeModel" "thrown" "I", .fieldLink RX6 27 "GroveMergeModel" "commits" "I", .fieldLink RX6 124 "GroveMergeModel" "head" "I", .fieldLink RX6 39 "GroveMergeModel" "taken" "I"] ++ wsX60)
def wsX6_above : List Cond := .code yX6_above cX6_above 3 (some .int) :: ([.fieldLink RX6 82 "GroveMergeModel" "thrown" "I", .fieldLink RX6 30 "GroveMergeModel" "one" "[I", .fieldLink RX6 33 "GroveMergeModel" "two" "[I", .methodLink RX6 127 yX6_isCommit, .instanceMethod yX6_isCommit, .selects RX6 yX6_isCommit yX6_isCommit, .initialized RX6, .code yX6_isCommit cX6_isCommit 2 (some .boolean), .fieldLink RX6 27 "GroveMergeModel" "commits" "I"] ++ wsX60)
def wsJ9_min_7cf53 : List Cond := .code yJ9_min_7cf53 cJ9_min_7cf53 2 (some .int) :: ([])
abbrev vwCl : List vw_C := [(RX0, TX0, 4), (RX1, TX1, 5), (RX2, TX2, 3), (RX4, TX4, 6), (RX5, TX5, 7), (RX6, TX6, 27)]
end
section
/-! THE ABSTRACT MACHINE. Objects are pairs (kind, number); a store gives each object's ints by their slots; what refers to what is fixed (ab_fr, ab_el). -/
abbrev ab_Ob : Type := Nat × Nat
abbrev ab_V : Type := Int32 ⊕ ab_Ob
abbrev ab_S : Type := Nat → Nat → Nat → Int32
/-- how a method ends: with an int or nothing, or by the exception of a number -/
abbrev ab_O : Type := Option Int32 ⊕ Nat
abbrev ab_Po : Type := ab_O → ab_S → Prop
abbrev ab_TR : Type := List ab_V → ab_S → ab_Po → Prop
abbrev ab_Gt : Type := Nat → List (Option ab_V) → List ab_V → ab_S → Nat → Prop
/-- a callee: the receiver's class number, how many arguments, 0 void or 1 int, cells, what it does -/
abbrev ab_call : Type := Nat × Nat × Nat × Nat × ab_TR
def ab_ex : Nat → String
  | 0 => "java/util/NoSuchElementException"
  | 1 => "java/lang/IndexOutOfBoundsException"
  | 2 => "java/lang/IllegalArgumentException"
  | 3 => "java/lang/UnsupportedOperationException"
  | _ => "java/lang/IllegalStateException"
/-- kinds: 0 GroveMerge, 1 History, 2 Merger, 3 EditDistance, 4 Tree (0 working, 1 to 12 commits, 13 result), 5 to 9 their rows, 10 trees, 11 to 13 rows of History, 14 conflicts, 15 to 18 ofParts, ofRests, 19 endsA, endsB, 21 the model, 22 to 40 its rows, 41 the law's out -/
def ab_nb : Nat → Nat
  | 4 => 14 | 5 => 14 | 6 => 14 | 7 => 14 | 8 => 14 | 9 => 14
  | 16 => 24 | 18 => 25 | 19 => 2 | 20 => 0
  | k => if k < 42 then 1 else 0
/-- the arrays: their element's kind (0 int, 1 boolean, 2 Tree, 3 int[], 4 long), their length -/
def ab_ar : Nat → Option (Nat × Nat)
  | 5 => some (0, 24) | 6 => some (0, 24) | 7 => some (0, 24) | 8 => some (0, 24) | 9 => some (0, 24)
  | 10 => some (2, 12) | 11 => some (0, 12) | 12 => some (0, 12) | 13 => some (0, 12) | 14 => some (0, 24)
  | 15 => some (3, 24) | 16 => some (0, 24) | 17 => some (3, 25) | 18 => some (0, 25) | 19 => some (0, 24)
  | 22 => some (1, 336) | 23 => some (0, 336) | 24 => some (0, 336) | 25 => some (0, 336)
  | 26 => some (0, 12) | 27 => some (0, 12) | 28 => some (0, 12) | 29 => some (0, 24) | 30 => some (1, 24)
  | 31 => some (0, 24) | 32 => some (0, 24) | 33 => some (0, 24) | 34 => some (0, 24) | 35 => some (0, 24) | 36 => some (0, 24)
  | 37 => some (0, 48) | 38 => some (0, 48) | 39 => some (0, 576) | 40 => some (0, 625) | 41 => some (4, 1)
  | _ => none
/-- what the places of an array of references hold -/
def ab_el : Nat → Nat → ab_Ob
  | 10, j => (4, j + 1)
  | 15, j => (16, j)
  | _, j => (18, j)
def ab_ci : Nat → Nat
  | 0 => 4 | 1 => 1 | 2 => 2 | 3 => 0 | 4 => 3 | _ => 5
def ab_nf : Nat → Nat
  | 0 => 7 | 1 => 5 | 2 => 3 | 3 => 4 | 4 => 6 | 21 => 27 | _ => 0
/-- the fields that refer -/
def ab_fr : Nat → Nat → Nat → Option ab_Ob
  | 0, 0, _ => some (4, 0) | 0, 1, _ => some (1, 0) | 0, 2, _ => some (2, 0) | 0, 3, _ => some (3, 0)
  | 1, 0, _ => some (10, 0) | 1, 1, _ => some (11, 0) | 1, 2, _ => some (12, 0) | 1, 4, _ => some (13, 0)
  | 2, 0, _ => some (4, 13) | 2, 1, _ => some (14, 0)
  | 3, 0, _ => some (15, 0) | 3, 1, _ => some (17, 0) | 3, 2, _ => some (19, 0) | 3, 3, _ => some (19, 1)
  | 4, 0, i => some (5, i) | 4, 1, i => some (6, i) | 4, 2, i => some (7, i) | 4, 3, i => some (8, i) | 4, 5, i => some (9, i)
  | 21, 1, _ => some (22, 0) | 21, 2, _ => some (23, 0) | 21, 3, _ => some (24, 0) | 21, 4, _ => some (25, 0)
  | 21, 7, _ => some (26, 0) | 21, 8, _ => some (27, 0) | 21, 9, _ => some (28, 0) | 21, 13, _ => some (29, 0)
  | 21, 14, _ => some (30, 0) | 21, 15, _ => some (31, 0) | 21, 16, _ => some (32, 0) | 21, 17, _ => some (33, 0)
  | 21, 19, _ => some (34, 0) | 21, 20, _ => some (35, 0) | 21, 22, _ => some (36, 0) | 21, 23, _ => some (37, 0)
  | 21, 24, _ => some (38, 0) | 21, 25, _ => some (39, 0) | 21, 26, _ => some (40, 0)
  | _, _, _ => none
def ab_fv (κ f i : Nat) (S : ab_S) : ab_V := match ab_fr κ f i with
  | some o => .inr o
  | none => .inl (S κ i f)
def ab_sr (S : ab_S) (κ i : Nat) (f : Nat → Int32) : ab_S := fun a b => if a = κ ∧ b = i then f else S a b
def ab_su (S : ab_S) (κ i j : Nat) (v : Int32) : ab_S := ab_sr S κ i (upd (S κ i) j v)
/-- what a caller goes on with -/
def ab_back (Q : ab_Po) (G : ab_Gt) (pc : Nat) (L : List (Option ab_V)) (rest : List ab_V) (k : Nat) : ab_Po := fun o S' => match o with
  | .inl none => G pc L rest S' k
  | .inl (some r) => G pc L (.inl r :: rest) S' k
  | .inr E => Q (.inr E) S'
/-- a method: its bytes; its fields (index, kind, field) that are read, that are written; its callees by their indices, virtual, static, of the nest; Math.min; arraycopy; the throws; int constants; 0 void, 1 int, 2 boolean; how many cells it may make -/
abbrev ab_M : Type := ByteArray × List (Nat × Nat × Nat) × List (Nat × Nat × Nat) × (Nat → Option ab_call) × (Nat → Option ab_call) × (Nat → Option ab_call) × List Nat × List Nat × (Nat → Option Nat) × List (Nat × Int32) × Nat × Nat
abbrev ab_cc (M : ab_M) : ByteArray := M.1
abbrev ab_fl (M : ab_M) : List (Nat × Nat × Nat) := M.2.1
abbrev ab_pl (M : ab_M) : List (Nat × Nat × Nat) := M.2.2.1
abbrev ab_cv (M : ab_M) : (Nat → Option ab_call) := M.2.2.2.1
abbrev ab_cs (M : ab_M) : (Nat → Option ab_call) := M.2.2.2.2.1
abbrev ab_cn (M : ab_M) : (Nat → Option ab_call) := M.2.2.2.2.2.1
abbrev ab_mn (M : ab_M) : List Nat := M.2.2.2.2.2.2.1
abbrev ab_ac (M : ab_M) : List Nat := M.2.2.2.2.2.2.2.1
abbrev ab_th (M : ab_M) : (Nat → Option Nat) := M.2.2.2.2.2.2.2.2.1
abbrev ab_kn (M : ab_M) : List (Nat × Int32) := M.2.2.2.2.2.2.2.2.2.1
abbrev ab_rk (M : ab_M) : Nat := M.2.2.2.2.2.2.2.2.2.2.1
abbrev ab_K (M : ab_M) : Nat := M.2.2.2.2.2.2.2.2.2.2.2
def ab_c_iload_n (M : ab_M) (Q : ab_Po) (G : ab_Gt) : Prop := ∀ (pc : Nat) (L : List (Option ab_V)) (st : List ab_V) (S : ab_S) (k : Nat) (n : Fin 4) (x : Int32), decode (ab_cc M) pc = .ok (.iload_n n, 1) → L[(n : Nat)]? = some (some (.inl x)) → G (pc + 1) L (.inl x :: st) S k → G pc L st S k
def ab_c_iload (M : ab_M) (Q : ab_Po) (G : ab_Gt) : Prop := ∀ (pc : Nat) (L : List (Option ab_V)) (st : List ab_V) (S : ab_S) (k : Nat) (n : Nat) (x : Int32), decode (ab_cc M) pc = .ok (.iload n, 2) → L[n]? = some (some (.inl x)) → G (pc + 2) L (.inl x :: st) S k → G pc L st S k
def ab_c_aload_n (M : ab_M) (Q : ab_Po) (G : ab_Gt) : Prop := ∀ (pc : Nat) (L : List (Option ab_V)) (st : List ab_V) (S : ab_S) (k : Nat) (n : Fin 4) (o : ab_Ob), decode (ab_cc M) pc = .ok (.aload_n n, 1) → L[(n : Nat)]? = some (some (.inr o)) → G (pc + 1) L (.inr o :: st) S k → G pc L st S k
def ab_c_aload (M : ab_M) (Q : ab_Po) (G : ab_Gt) : Prop := ∀ (pc : Nat) (L : List (Option ab_V)) (st : List ab_V) (S : ab_S) (k : Nat) (n : Nat) (o : ab_Ob), decode (ab_cc M) pc = .ok (.aload n, 2) → L[n]? = some (some (.inr o)) → G (pc + 2) L (.inr o :: st) S k → G pc L st S k
def ab_c_istore_n (M : ab_M) (Q : ab_Po) (G : ab_Gt) : Prop := ∀ (pc : Nat) (L : List (Option ab_V)) (st : List ab_V) (S : ab_S) (k : Nat) (n : Fin 4) (x : Int32), decode (ab_cc M) pc = .ok (.istore_n n, 1) → (n : Nat) < L.length → G (pc + 1) (L.set (n : Nat) (some (.inl x))) st S k → G pc L (.inl x :: st) S k
def ab_c_istore (M : ab_M) (Q : ab_Po) (G : ab_Gt) : Prop := ∀ (pc : Nat) (L : List (Option ab_V)) (st : List ab_V) (S : ab_S) (k : Nat) (n : Nat) (x : Int32), decode (ab_cc M) pc = .ok (.istore n, 2) → n < L.length → G (pc + 2) (L.set n (some (.inl x))) st S k → G pc L (.inl x :: st) S k
def ab_c_astore_n (M : ab_M) (Q : ab_Po) (G : ab_Gt) : Prop := ∀ (pc : Nat) (L : List (Option ab_V)) (st : List ab_V) (S : ab_S) (k : Nat) (n : Fin 4) (o : ab_Ob), decode (ab_cc M) pc = .ok (.astore_n n, 1) → (n : Nat) < L.length → G (pc + 1) (L.set (n : Nat) (some (.inr o))) st S k → G pc L (.inr o :: st) S k
def ab_c_astore (M : ab_M) (Q : ab_Po) (G : ab_Gt) : Prop := ∀ (pc : Nat) (L : List (Option ab_V)) (st : List ab_V) (S : ab_S) (k : Nat) (n : Nat) (o : ab_Ob), decode (ab_cc M) pc = .ok (.astore n, 2) → n < L.length → G (pc + 2) (L.set n (some (.inr o))) st S k → G pc L (.inr o :: st) S k
def ab_c_iinc (M : ab_M) (Q : ab_Po) (G : ab_Gt) : Prop := ∀ (pc : Nat) (L : List (Option ab_V)) (st : List ab_V) (S : ab_S) (k : Nat) (i : Nat) (n : Int) (x v : Int32), decode (ab_cc M) pc = .ok (.iinc i n, 3) → L[i]? = some (some (.inl x)) → x + Int32.ofInt n = v → G (pc + 3) (L.set i (some (.inl v))) st S k → G pc L st S k
def ab_c_iconst (M : ab_M) (Q : ab_Po) (G : ab_Gt) : Prop := ∀ (pc : Nat) (L : List (Option ab_V)) (st : List ab_V) (S : ab_S) (k : Nat) (n : Int) (v : Int32), decode (ab_cc M) pc = .ok (.iconst n, 1) → Int32.ofInt n = v → G (pc + 1) L (.inl v :: st) S k → G pc L st S k
def ab_c_bipush (M : ab_M) (Q : ab_Po) (G : ab_Gt) : Prop := ∀ (pc : Nat) (L : List (Option ab_V)) (st : List ab_V) (S : ab_S) (k : Nat) (n : Int) (v : Int32), decode (ab_cc M) pc = .ok (.bipush n, 2) → (Int8.ofInt n).toInt32 = v → G (pc + 2) L (.inl v :: st) S k → G pc L st S k
def ab_c_sipush (M : ab_M) (Q : ab_Po) (G : ab_Gt) : Prop := ∀ (pc : Nat) (L : List (Option ab_V)) (st : List ab_V) (S : ab_S) (k : Nat) (n : Int) (v : Int32), decode (ab_cc M) pc = .ok (.sipush n, 3) → (Int16.ofInt n).toInt32 = v → G (pc + 3) L (.inl v :: st) S k → G pc L st S k
def ab_c_ldc_w (M : ab_M) (Q : ab_Po) (G : ab_Gt) : Prop := ∀ (pc : Nat) (L : List (Option ab_V)) (st : List ab_V) (S : ab_S) (k : Nat) (i : Nat) (v : Int32), decode (ab_cc M) pc = .ok (.ldc_w i, 3) → (i, v) ∈ ab_kn M → G (pc + 3) L (.inl v :: st) S k → G pc L st S k
def ab_c_iadd (M : ab_M) (Q : ab_Po) (G : ab_Gt) : Prop := ∀ (pc : Nat) (L : List (Option ab_V)) (st : List ab_V) (S : ab_S) (k : Nat) (x y : Int32), decode (ab_cc M) pc = .ok (.iadd, 1) → G (pc + 1) L (.inl (x + y) :: st) S k → G pc L (.inl y :: .inl x :: st) S k
def ab_c_isub (M : ab_M) (Q : ab_Po) (G : ab_Gt) : Prop := ∀ (pc : Nat) (L : List (Option ab_V)) (st : List ab_V) (S : ab_S) (k : Nat) (x y : Int32), decode (ab_cc M) pc = .ok (.isub, 1) → G (pc + 1) L (.inl (x - y) :: st) S k → G pc L (.inl y :: .inl x :: st) S k
def ab_c_imul (M : ab_M) (Q : ab_Po) (G : ab_Gt) : Prop := ∀ (pc : Nat) (L : List (Option ab_V)) (st : List ab_V) (S : ab_S) (k : Nat) (x y : Int32), decode (ab_cc M) pc = .ok (.imul, 1) → G (pc + 1) L (.inl (x * y) :: st) S k → G pc L (.inl y :: .inl x :: st) S k
def ab_c_iand (M : ab_M) (Q : ab_Po) (G : ab_Gt) : Prop := ∀ (pc : Nat) (L : List (Option ab_V)) (st : List ab_V) (S : ab_S) (k : Nat) (x y : Int32), decode (ab_cc M) pc = .ok (.iand, 1) → G (pc + 1) L (.inl (x &&& y) :: st) S k → G pc L (.inl y :: .inl x :: st) S k
def ab_c_ior (M : ab_M) (Q : ab_Po) (G : ab_Gt) : Prop := ∀ (pc : Nat) (L : List (Option ab_V)) (st : List ab_V) (S : ab_S) (k : Nat) (x y : Int32), decode (ab_cc M) pc = .ok (.ior, 1) → G (pc + 1) L (.inl (x ||| y) :: st) S k → G pc L (.inl y :: .inl x :: st) S k
def ab_c_ishl (M : ab_M) (Q : ab_Po) (G : ab_Gt) : Prop := ∀ (pc : Nat) (L : List (Option ab_V)) (st : List ab_V) (S : ab_S) (k : Nat) (x y : Int32), decode (ab_cc M) pc = .ok (.ishl, 1) → G (pc + 1) L (.inl (x <<< (y &&& 31)) :: st) S k → G pc L (.inl y :: .inl x :: st) S k
def ab_c_ishr (M : ab_M) (Q : ab_Po) (G : ab_Gt) : Prop := ∀ (pc : Nat) (L : List (Option ab_V)) (st : List ab_V) (S : ab_S) (k : Nat) (x y : Int32), decode (ab_cc M) pc = .ok (.ishr, 1) → G (pc + 1) L (.inl (x >>> (y &&& 31)) :: st) S k → G pc L (.inl y :: .inl x :: st) S k
def ab_c_iushr (M : ab_M) (Q : ab_Po) (G : ab_Gt) : Prop := ∀ (pc : Nat) (L : List (Option ab_V)) (st : List ab_V) (S : ab_S) (k : Nat) (x y : Int32), decode (ab_cc M) pc = .ok (.iushr, 1) → G (pc + 1) L (.inl ((x.toUInt32 >>> (y.toUInt32 &&& Int32.toUInt32 31)).toInt32) :: st) S k → G pc L (.inl y :: .inl x :: st) S k
def ab_c_dup (M : ab_M) (Q : ab_Po) (G : ab_Gt) : Prop := ∀ (pc : Nat) (L : List (Option ab_V)) (st : List ab_V) (S : ab_S) (k : Nat) (v : ab_V), decode (ab_cc M) pc = .ok (.dup, 1) → G (pc + 1) L (v :: v :: st) S k → G pc L (v :: st) S k
def ab_c_pop (M : ab_M) (Q : ab_Po) (G : ab_Gt) : Prop := ∀ (pc : Nat) (L : List (Option ab_V)) (st : List ab_V) (S : ab_S) (k : Nat) (v : ab_V), decode (ab_cc M) pc = .ok (.pop, 1) → G (pc + 1) L st S k → G pc L (v :: st) S k
def ab_c_if_eq (M : ab_M) (Q : ab_Po) (G : ab_Gt) : Prop := ∀ (pc : Nat) (L : List (Option ab_V)) (st : List ab_V) (S : ab_S) (k : Nat) (off : Int) (tgt : Nat) (x : Int32), decode (ab_cc M) pc = .ok (.ifCond .eq off, 3) → (pc : Int) + off = (tgt : Int) → (x = 0 → G tgt L st S k) → (¬ x = 0 → G (pc + 3) L st S k) → G pc L (.inl x :: st) S k
def ab_c_icmp_eq (M : ab_M) (Q : ab_Po) (G : ab_Gt) : Prop := ∀ (pc : Nat) (L : List (Option ab_V)) (st : List ab_V) (S : ab_S) (k : Nat) (off : Int) (tgt : Nat) (x y : Int32), decode (ab_cc M) pc = .ok (.if_icmp .eq off, 3) → (pc : Int) + off = (tgt : Int) → (x = y → G tgt L st S k) → (¬ x = y → G (pc + 3) L st S k) → G pc L (.inl y :: .inl x :: st) S k
def ab_c_if_ne (M : ab_M) (Q : ab_Po) (G : ab_Gt) : Prop := ∀ (pc : Nat) (L : List (Option ab_V)) (st : List ab_V) (S : ab_S) (k : Nat) (off : Int) (tgt : Nat) (x : Int32), decode (ab_cc M) pc = .ok (.ifCond .ne off, 3) → (pc : Int) + off = (tgt : Int) → (¬ x = 0 → G tgt L st S k) → (x = 0 → G (pc + 3) L st S k) → G pc L (.inl x :: st) S k
def ab_c_icmp_ne (M : ab_M) (Q : ab_Po) (G : ab_Gt) : Prop := ∀ (pc : Nat) (L : List (Option ab_V)) (st : List ab_V) (S : ab_S) (k : Nat) (off : Int) (tgt : Nat) (x y : Int32), decode (ab_cc M) pc = .ok (.if_icmp .ne off, 3) → (pc : Int) + off = (tgt : Int) → (¬ x = y → G tgt L st S k) → (x = y → G (pc + 3) L st S k) → G pc L (.inl y :: .inl x :: st) S k
def ab_c_if_lt (M : ab_M) (Q : ab_Po) (G : ab_Gt) : Prop := ∀ (pc : Nat) (L : List (Option ab_V)) (st : List ab_V) (S : ab_S) (k : Nat) (off : Int) (tgt : Nat) (x : Int32), decode (ab_cc M) pc = .ok (.ifCond .lt off, 3) → (pc : Int) + off = (tgt : Int) → (x < 0 → G tgt L st S k) → (¬ x < 0 → G (pc + 3) L st S k) → G pc L (.inl x :: st) S k
def ab_c_icmp_lt (M : ab_M) (Q : ab_Po) (G : ab_Gt) : Prop := ∀ (pc : Nat) (L : List (Option ab_V)) (st : List ab_V) (S : ab_S) (k : Nat) (off : Int) (tgt : Nat) (x y : Int32), decode (ab_cc M) pc = .ok (.if_icmp .lt off, 3) → (pc : Int) + off = (tgt : Int) → (x < y → G tgt L st S k) → (¬ x < y → G (pc + 3) L st S k) → G pc L (.inl y :: .inl x :: st) S k
def ab_c_if_ge (M : ab_M) (Q : ab_Po) (G : ab_Gt) : Prop := ∀ (pc : Nat) (L : List (Option ab_V)) (st : List ab_V) (S : ab_S) (k : Nat) (off : Int) (tgt : Nat) (x : Int32), decode (ab_cc M) pc = .ok (.ifCond .ge off, 3) → (pc : Int) + off = (tgt : Int) → (0 ≤ x → G tgt L st S k) → (¬ 0 ≤ x → G (pc + 3) L st S k) → G pc L (.inl x :: st) S k
def ab_c_icmp_ge (M : ab_M) (Q : ab_Po) (G : ab_Gt) : Prop := ∀ (pc : Nat) (L : List (Option ab_V)) (st : List ab_V) (S : ab_S) (k : Nat) (off : Int) (tgt : Nat) (x y : Int32), decode (ab_cc M) pc = .ok (.if_icmp .ge off, 3) → (pc : Int) + off = (tgt : Int) → (y ≤ x → G tgt L st S k) → (¬ y ≤ x → G (pc + 3) L st S k) → G pc L (.inl y :: .inl x :: st) S k
def ab_c_if_gt (M : ab_M) (Q : ab_Po) (G : ab_Gt) : Prop := ∀ (pc : Nat) (L : List (Option ab_V)) (st : List ab_V) (S : ab_S) (k : Nat) (off : Int) (tgt : Nat) (x : Int32), decode (ab_cc M) pc = .ok (.ifCond .gt off, 3) → (pc : Int) + off = (tgt : Int) → (0 < x → G tgt L st S k) → (¬ 0 < x → G (pc + 3) L st S k) → G pc L (.inl x :: st) S k
def ab_c_icmp_gt (M : ab_M) (Q : ab_Po) (G : ab_Gt) : Prop := ∀ (pc : Nat) (L : List (Option ab_V)) (st : List ab_V) (S : ab_S) (k : Nat) (off : Int) (tgt : Nat) (x y : Int32), decode (ab_cc M) pc = .ok (.if_icmp .gt off, 3) → (pc : Int) + off = (tgt : Int) → (y < x → G tgt L st S k) → (¬ y < x → G (pc + 3) L st S k) → G pc L (.inl y :: .inl x :: st) S k
def ab_c_if_le (M : ab_M) (Q : ab_Po) (G : ab_Gt) : Prop := ∀ (pc : Nat) (L : List (Option ab_V)) (st : List ab_V) (S : ab_S) (k : Nat) (off : Int) (tgt : Nat) (x : Int32), decode (ab_cc M) pc = .ok (.ifCond .le off, 3) → (pc : Int) + off = (tgt : Int) → (x ≤ 0 → G tgt L st S k) → (¬ x ≤ 0 → G (pc + 3) L st S k) → G pc L (.inl x :: st) S k
def ab_c_icmp_le (M : ab_M) (Q : ab_Po) (G : ab_Gt) : Prop := ∀ (pc : Nat) (L : List (Option ab_V)) (st : List ab_V) (S : ab_S) (k : Nat) (off : Int) (tgt : Nat) (x y : Int32), decode (ab_cc M) pc = .ok (.if_icmp .le off, 3) → (pc : Int) + off = (tgt : Int) → (x ≤ y → G tgt L st S k) → (¬ x ≤ y → G (pc + 3) L st S k) → G pc L (.inl y :: .inl x :: st) S k
def ab_c_goto (M : ab_M) (Q : ab_Po) (G : ab_Gt) : Prop := ∀ (pc : Nat) (L : List (Option ab_V)) (st : List ab_V) (S : ab_S) (k : Nat) (off : Int) (tgt : Nat), decode (ab_cc M) pc = .ok (.goto off, 3) → (pc : Int) + off = (tgt : Int) → G tgt L st S k → G pc L st S k
def ab_c_swO (M : ab_M) (Q : ab_Po) (G : ab_Gt) : Prop := ∀ (pc : Nat) (L : List (Option ab_V)) (st : List ab_V) (S : ab_S) (k : Nat) (dflt lo hi : Int) (offs : Array Int) (len : Nat) (x : Int32) (tgt : Nat), decode (ab_cc M) pc = .ok (.tableswitch dflt lo hi offs, len) → (x.toInt < lo ∨ hi < x.toInt) → (pc : Int) + dflt = (tgt : Int) → G tgt L st S k → G pc L (.inl x :: st) S k
def ab_c_swI (M : ab_M) (Q : ab_Po) (G : ab_Gt) : Prop := ∀ (pc : Nat) (L : List (Option ab_V)) (st : List ab_V) (S : ab_S) (k : Nat) (dflt lo hi : Int) (offs : Array Int) (len : Nat) (x : Int32) (off : Int) (tgt : Nat), decode (ab_cc M) pc = .ok (.tableswitch dflt lo hi offs, len) → ¬ x.toInt < lo → ¬ hi < x.toInt → offs[(x.toInt - lo).toNat]? = some off → (pc : Int) + off = (tgt : Int) → G tgt L st S k → G pc L (.inl x :: st) S k
def ab_c_ireturn (M : ab_M) (Q : ab_Po) (G : ab_Gt) : Prop := ∀ (pc : Nat) (L : List (Option ab_V)) (S : ab_S) (k : Nat) (x : Int32), decode (ab_cc M) pc = .ok (.ireturn, 1) → (ab_rk M = 1 ∨ (ab_rk M = 2 ∧ (x = 0 ∨ x = 1))) → k ≤ ab_K M → Q (.inl (some x)) S → G pc L [.inl x] S k
def ab_c_return_ (M : ab_M) (Q : ab_Po) (G : ab_Gt) : Prop := ∀ (pc : Nat) (L : List (Option ab_V)) (S : ab_S) (k : Nat), decode (ab_cc M) pc = .ok (.return_, 1) → ab_rk M = 0 → k ≤ ab_K M → Q (.inl none) S → G pc L [] S k
def ab_c_getfield (M : ab_M) (Q : ab_Po) (G : ab_Gt) : Prop := ∀ (pc : Nat) (L : List (Option ab_V)) (st : List ab_V) (S : ab_S) (k : Nat) (idx κ f i : Nat), decode (ab_cc M) pc = .ok (.getfield idx, 3) → (idx, κ, f) ∈ ab_fl M → G (pc + 3) L (ab_fv κ f i S :: st) S k → G pc L (.inr (κ, i) :: st) S k
def ab_c_putfield (M : ab_M) (Q : ab_Po) (G : ab_Gt) : Prop := ∀ (pc : Nat) (L : List (Option ab_V)) (st : List ab_V) (S : ab_S) (k : Nat) (idx κ f i : Nat) (x : Int32), decode (ab_cc M) pc = .ok (.putfield idx, 3) → (idx, κ, f) ∈ ab_pl M → G (pc + 3) L st (ab_su S κ i f x) k → G pc L (.inl x :: .inr (κ, i) :: st) S k
def ab_c_iaload (M : ab_M) (Q : ab_Po) (G : ab_Gt) : Prop := ∀ (pc : Nat) (L : List (Option ab_V)) (st : List ab_V) (S : ab_S) (k : Nat) (κ i n : Nat) (j : Int32), decode (ab_cc M) pc = .ok (.iaload, 1) → ab_ar κ = some (0, n) → vp_in j n → G (pc + 1) L (.inl (S κ i j.toNatClampNeg) :: st) S k → G pc L (.inl j :: .inr (κ, i) :: st) S k
def ab_c_baload (M : ab_M) (Q : ab_Po) (G : ab_Gt) : Prop := ∀ (pc : Nat) (L : List (Option ab_V)) (st : List ab_V) (S : ab_S) (k : Nat) (κ i n : Nat) (j : Int32), decode (ab_cc M) pc = .ok (.baload, 1) → ab_ar κ = some (1, n) → vp_in j n → G (pc + 1) L (.inl (S κ i j.toNatClampNeg) :: st) S k → G pc L (.inl j :: .inr (κ, i) :: st) S k
def ab_c_iastore (M : ab_M) (Q : ab_Po) (G : ab_Gt) : Prop := ∀ (pc : Nat) (L : List (Option ab_V)) (st : List ab_V) (S : ab_S) (k : Nat) (κ i n : Nat) (j x : Int32), decode (ab_cc M) pc = .ok (.iastore, 1) → ab_ar κ = some (0, n) → vp_in j n → G (pc + 1) L st (ab_su S κ i j.toNatClampNeg x) k → G pc L (.inl x :: .inl j :: .inr (κ, i) :: st) S k
def ab_c_bastore (M : ab_M) (Q : ab_Po) (G : ab_Gt) : Prop := ∀ (pc : Nat) (L : List (Option ab_V)) (st : List ab_V) (S : ab_S) (k : Nat) (κ i n : Nat) (j x : Int32), decode (ab_cc M) pc = .ok (.bastore, 1) → ab_ar κ = some (1, n) → vp_in j n → G (pc + 1) L st (ab_su S κ i j.toNatClampNeg (vp_nar .boolean x)) k → G pc L (.inl x :: .inl j :: .inr (κ, i) :: st) S k
def ab_c_aaload2 (M : ab_M) (Q : ab_Po) (G : ab_Gt) : Prop := ∀ (pc : Nat) (L : List (Option ab_V)) (st : List ab_V) (S : ab_S) (k : Nat) (κ i n : Nat) (j : Int32), decode (ab_cc M) pc = .ok (.aaload, 1) → ab_ar κ = some (2, n) → vp_in j n → G (pc + 1) L (.inr (ab_el κ j.toNatClampNeg) :: st) S k → G pc L (.inl j :: .inr (κ, i) :: st) S k
def ab_c_aaload3 (M : ab_M) (Q : ab_Po) (G : ab_Gt) : Prop := ∀ (pc : Nat) (L : List (Option ab_V)) (st : List ab_V) (S : ab_S) (k : Nat) (κ i n : Nat) (j : Int32), decode (ab_cc M) pc = .ok (.aaload, 1) → ab_ar κ = some (3, n) → vp_in j n → G (pc + 1) L (.inr (ab_el κ j.toNatClampNeg) :: st) S k → G pc L (.inl j :: .inr (κ, i) :: st) S k
def ab_c_alen (M : ab_M) (Q : ab_Po) (G : ab_Gt) : Prop := ∀ (pc : Nat) (L : List (Option ab_V)) (st : List ab_V) (S : ab_S) (k : Nat) (κ i n : Nat) (v : Int32), decode (ab_cc M) pc = .ok (.arraylength, 1) → ab_ar κ = some (0, n) → Int32.ofNat n = v → G (pc + 1) L (.inl v :: st) S k → G pc L (.inr (κ, i) :: st) S k
def ab_c_invv (M : ab_M) (Q : ab_Po) (G : ab_Gt) : Prop := ∀ (pc : Nat) (L : List (Option ab_V)) (as rest : List ab_V) (S : ab_S) (k idx rc n ri kc : Nat) (τ : ab_TR) (o : ab_Ob), decode (ab_cc M) pc = .ok (.invokevirtual idx, 3) → ab_cv M idx = some (rc, n, ri, kc, τ) → as.length = n → ab_ar o.1 = none → ab_ci o.1 = rc → rest.length ≤ 8 → k + kc ≤ ab_K M → τ (.inr o :: as) S (ab_back Q G (pc + 3) L rest (k + kc)) → G pc L (as.reverse ++ .inr o :: rest) S k
def ab_c_invs (M : ab_M) (Q : ab_Po) (G : ab_Gt) : Prop := ∀ (pc : Nat) (L : List (Option ab_V)) (as rest : List ab_V) (S : ab_S) (k idx rc n ri kc : Nat) (τ : ab_TR), decode (ab_cc M) pc = .ok (.invokestatic idx, 3) → ab_cs M idx = some (rc, n, ri, kc, τ) → as.length = n → rest.length ≤ 8 → k + kc ≤ ab_K M → τ as S (ab_back Q G (pc + 3) L rest (k + kc)) → G pc L (as.reverse ++ rest) S k
def ab_c_invn (M : ab_M) (Q : ab_Po) (G : ab_Gt) : Prop := ∀ (pc : Nat) (L : List (Option ab_V)) (as rest : List ab_V) (S : ab_S) (k idx rc n ri kc : Nat) (τ : ab_TR), decode (ab_cc M) pc = .ok (.invokestatic idx, 3) → ab_cn M idx = some (rc, n, ri, kc, τ) → as.length = n → rest.length ≤ 8 → k + kc ≤ ab_K M → τ as S (ab_back (fun _ _ => False) G (pc + 3) L rest (k + kc)) → G pc L (as.reverse ++ rest) S k
def ab_c_min (M : ab_M) (Q : ab_Po) (G : ab_Gt) : Prop := ∀ (pc : Nat) (L : List (Option ab_V)) (st : List ab_V) (S : ab_S) (k : Nat) (idx : Nat) (x y : Int32), decode (ab_cc M) pc = .ok (.invokestatic idx, 3) → idx ∈ ab_mn M → st.length ≤ 8 → k ≤ ab_K M → G (pc + 3) L (.inl (if y < x then y else x) :: st) S k → G pc L (.inl y :: .inl x :: st) S k
def ab_c_acopy (M : ab_M) (Q : ab_Po) (G : ab_Gt) : Prop := ∀ (pc : Nat) (L : List (Option ab_V)) (st : List ab_V) (S : ab_S) (k : Nat) (idx κs is κd id ns nd : Nat) (sp dp n : Int32), decode (ab_cc M) pc = .ok (.invokestatic idx, 3) → idx ∈ ab_ac M → ab_ar κs = some (0, ns) → ab_ar κd = some (0, nd) → ¬ sp < 0 → ¬ dp < 0 → ¬ n < 0 → sp.toNatClampNeg + n.toNatClampNeg ≤ ns → dp.toNatClampNeg + n.toNatClampNeg ≤ nd → st.length ≤ 8 → G (pc + 3) L st (ab_sr S κd id (va_cpy (S κs is) (S κd id) sp.toNatClampNeg dp.toNatClampNeg n.toNatClampNeg)) k → G pc L (.inl n :: .inl dp :: .inr (κd, id) :: .inl sp :: .inr (κs, is) :: st) S k
def ab_c_throw (M : ab_M) (Q : ab_Po) (G : ab_Gt) : Prop := ∀ (pc : Nat) (L : List (Option ab_V)) (st : List ab_V) (S : ab_S) (k : Nat) (E : Nat), ab_th M pc = some E → st.length ≤ 8 → k + 1 ≤ ab_K M → Q (.inr E) S → G pc L st S k
/-- a predicate of the machine's states from which each instruction goes on -/
def ab_Cl (M : ab_M) (Q : ab_Po) (G : ab_Gt) : Prop := ab_c_iload_n M Q G ∧ ab_c_iload M Q G ∧ ab_c_aload_n M Q G ∧ ab_c_aload M Q G ∧ ab_c_istore_n M Q G ∧ ab_c_istore M Q G ∧ ab_c_astore_n M Q G ∧ ab_c_astore M Q G ∧ ab_c_iinc M Q G ∧ ab_c_iconst M Q G ∧ ab_c_bipush M Q G ∧ ab_c_sipush M Q G ∧ ab_c_ldc_w M Q G ∧ ab_c_iadd M Q G ∧ ab_c_isub M Q G ∧ ab_c_imul M Q G ∧ ab_c_iand M Q G ∧ ab_c_ior M Q G ∧ ab_c_ishl M Q G ∧ ab_c_ishr M Q G ∧ ab_c_iushr M Q G ∧ ab_c_dup M Q G ∧ ab_c_pop M Q G ∧ ab_c_if_eq M Q G ∧ ab_c_icmp_eq M Q G ∧ ab_c_if_ne M Q G ∧ ab_c_icmp_ne M Q G ∧ ab_c_if_lt M Q G ∧ ab_c_icmp_lt M Q G ∧ ab_c_if_ge M Q G ∧ ab_c_icmp_ge M Q G ∧ ab_c_if_gt M Q G ∧ ab_c_icmp_gt M Q G ∧ ab_c_if_le M Q G ∧ ab_c_icmp_le M Q G ∧ ab_c_goto M Q G ∧ ab_c_swO M Q G ∧ ab_c_swI M Q G ∧ ab_c_ireturn M Q G ∧ ab_c_return_ M Q G ∧ ab_c_getfield M Q G ∧ ab_c_putfield M Q G ∧ ab_c_iaload M Q G ∧ ab_c_baload M Q G ∧ ab_c_iastore M Q G ∧ ab_c_bastore M Q G ∧ ab_c_aaload2 M Q G ∧ ab_c_aaload3 M Q G ∧ ab_c_alen M Q G ∧ ab_c_invv M Q G ∧ ab_c_invs M Q G ∧ ab_c_invn M Q G ∧ ab_c_min M Q G ∧ ab_c_acopy M Q G ∧ ab_c_throw M Q G
theorem ab_iload_n' {M : ab_M} {Q : ab_Po} {G : ab_Gt} (hG : ab_Cl M Q G) : ab_c_iload_n M Q G := hG.1
theorem ab_iload' {M : ab_M} {Q : ab_Po} {G : ab_Gt} (hG : ab_Cl M Q G) : ab_c_iload M Q G := hG.2.1
theorem ab_aload_n' {M : ab_M} {Q : ab_Po} {G : ab_Gt} (hG : ab_Cl M Q G) : ab_c_aload_n M Q G := hG.2.2.1
theorem ab_aload' {M : ab_M} {Q : ab_Po} {G : ab_Gt} (hG : ab_Cl M Q G) : ab_c_aload M Q G := hG.2.2.2.1
theorem ab_istore_n' {M : ab_M} {Q : ab_Po} {G : ab_Gt} (hG : ab_Cl M Q G) : ab_c_istore_n M Q G := hG.2.2.2.2.1
theorem ab_istore' {M : ab_M} {Q : ab_Po} {G : ab_Gt} (hG : ab_Cl M Q G) : ab_c_istore M Q G := hG.2.2.2.2.2.1
theorem ab_astore_n' {M : ab_M} {Q : ab_Po} {G : ab_Gt} (hG : ab_Cl M Q G) : ab_c_astore_n M Q G := hG.2.2.2.2.2.2.1
theorem ab_astore' {M : ab_M} {Q : ab_Po} {G : ab_Gt} (hG : ab_Cl M Q G) : ab_c_astore M Q G := hG.2.2.2.2.2.2.2.1
theorem ab_iinc' {M : ab_M} {Q : ab_Po} {G : ab_Gt} (hG : ab_Cl M Q G) : ab_c_iinc M Q G := hG.2.2.2.2.2.2.2.2.1
theorem ab_iconst' {M : ab_M} {Q : ab_Po} {G : ab_Gt} (hG : ab_Cl M Q G) : ab_c_iconst M Q G := hG.2.2.2.2.2.2.2.2.2.1
theorem ab_bipush' {M : ab_M} {Q : ab_Po} {G : ab_Gt} (hG : ab_Cl M Q G) : ab_c_bipush M Q G := hG.2.2.2.2.2.2.2.2.2.2.1
theorem ab_sipush' {M : ab_M} {Q : ab_Po} {G : ab_Gt} (hG : ab_Cl M Q G) : ab_c_sipush M Q G := hG.2.2.2.2.2.2.2.2.2.2.2.1
theorem ab_ldc_w' {M : ab_M} {Q : ab_Po} {G : ab_Gt} (hG : ab_Cl M Q G) : ab_c_ldc_w M Q G := hG.2.2.2.2.2.2.2.2.2.2.2.2.1
theorem ab_iadd' {M : ab_M} {Q : ab_Po} {G : ab_Gt} (hG : ab_Cl M Q G) : ab_c_iadd M Q G := hG.2.2.2.2.2.2.2.2.2.2.2.2.2.1
theorem ab_isub' {M : ab_M} {Q : ab_Po} {G : ab_Gt} (hG : ab_Cl M Q G) : ab_c_isub M Q G := hG.2.2.2.2.2.2.2.2.2.2.2.2.2.2.1
theorem ab_imul' {M : ab_M} {Q : ab_Po} {G : ab_Gt} (hG : ab_Cl M Q G) : ab_c_imul M Q G := hG.2.2.2.2.2.2.2.2.2.2.2.2.2.2.2.1
theorem ab_iand' {M : ab_M} {Q : ab_Po} {G : ab_Gt} (hG : ab_Cl M Q G) : ab_c_iand M Q G := hG.2.2.2.2.2.2.2.2.2.2.2.2.2.2.2.2.1
theorem ab_ior' {M : ab_M} {Q : ab_Po} {G : ab_Gt} (hG : ab_Cl M Q G) : ab_c_ior M Q G := hG.2.2.2.2.2.2.2.2.2.2.2.2.2.2.2.2.2.1
theorem ab_ishl' {M : ab_M} {Q : ab_Po} {G : ab_Gt} (hG : ab_Cl M Q G) : ab_c_ishl M Q G := hG.2.2.2.2.2.2.2.2.2.2.2.2.2.2.2.2.2.2.1
theorem ab_ishr' {M : ab_M} {Q : ab_Po} {G : ab_Gt} (hG : ab_Cl M Q G) : ab_c_ishr M Q G := hG.2.2.2.2.2.2.2.2.2.2.2.2.2.2.2.2.2.2.2.1
theorem ab_iushr' {M : ab_M} {Q : ab_Po} {G : ab_Gt} (hG : ab_Cl M Q G) : ab_c_iushr M Q G := hG.2.2.2.2.2.2.2.2.2.2.2.2.2.2.2.2.2.2.2.2.1
theorem ab_dup' {M : ab_M} {Q : ab_Po} {G : ab_Gt} (hG : ab_Cl M Q G) : ab_c_dup M Q G := hG.2.2.2.2.2.2.2.2.2.2.2.2.2.2.2.2.2.2.2.2.2.1
theorem ab_pop' {M : ab_M} {Q : ab_Po} {G : ab_Gt} (hG : ab_Cl M Q G) : ab_c_pop M Q G := hG.2.2.2.2.2.2.2.2.2.2.2.2.2.2.2.2.2.2.2.2.2.2.1
theorem ab_if_eq' {M : ab_M} {Q : ab_Po} {G : ab_Gt} (hG : ab_Cl M Q G) : ab_c_if_eq M Q G := hG.2.2.2.2.2.2.2.2.2.2.2.2.2.2.2.2.2.2.2.2.2.2.2.1
theorem ab_icmp_eq' {M : ab_M} {Q : ab_Po} {G : ab_Gt} (hG : ab_Cl M Q G) : ab_c_icmp_eq M Q G := hG.2.2.2.2.2.2.2.2.2.2.2.2.2.2.2.2.2.2.2.2.2.2.2.2.1
theorem ab_if_ne' {M : ab_M} {Q : ab_Po} {G : ab_Gt} (hG : ab_Cl M Q G) : ab_c_if_ne M Q G := hG.2.2.2.2.2.2.2.2.2.2.2.2.2.2.2.2.2.2.2.2.2.2.2.2.2.1
theorem ab_icmp_ne' {M : ab_M} {Q : ab_Po} {G : ab_Gt} (hG : ab_Cl M Q G) : ab_c_icmp_ne M Q G := hG.2.2.2.2.2.2.2.2.2.2.2.2.2.2.2.2.2.2.2.2.2.2.2.2.2.2.1
theorem ab_if_lt' {M : ab_M} {Q : ab_Po} {G : ab_Gt} (hG : ab_Cl M Q G) : ab_c_if_lt M Q G := hG.2.2.2.2.2.2.2.2.2.2.2.2.2.2.2.2.2.2.2.2.2.2.2.2.2.2.2.1
theorem ab_icmp_lt' {M : ab_M} {Q : ab_Po} {G : ab_Gt} (hG : ab_Cl M Q G) : ab_c_icmp_lt M Q G := hG.2.2.2.2.2.2.2.2.2.2.2.2.2.2.2.2.2.2.2.2.2.2.2.2.2.2.2.2.1
theorem ab_if_ge' {M : ab_M} {Q : ab_Po} {G : ab_Gt} (hG : ab_Cl M Q G) : ab_c_if_ge M Q G := hG.2.2.2.2.2.2.2.2.2.2.2.2.2.2.2.2.2.2.2.2.2.2.2.2.2.2.2.2.2.1
theorem ab_icmp_ge' {M : ab_M} {Q : ab_Po} {G : ab_Gt} (hG : ab_Cl M Q G) : ab_c_icmp_ge M Q G := hG.2.2.2.2.2.2.2.2.2.2.2.2.2.2.2.2.2.2.2.2.2.2.2.2.2.2.2.2.2.2.1
theorem ab_if_gt' {M : ab_M} {Q : ab_Po} {G : ab_Gt} (hG : ab_Cl M Q G) : ab_c_if_gt M Q G := hG.2.2.2.2.2.2.2.2.2.2.2.2.2.2.2.2.2.2.2.2.2.2.2.2.2.2.2.2.2.2.2.1
theorem ab_icmp_gt' {M : ab_M} {Q : ab_Po} {G : ab_Gt} (hG : ab_Cl M Q G) : ab_c_icmp_gt M Q G := hG.2.2.2.2.2.2.2.2.2.2.2.2.2.2.2.2.2.2.2.2.2.2.2.2.2.2.2.2.2.2.2.2.1
theorem ab_if_le' {M : ab_M} {Q : ab_Po} {G : ab_Gt} (hG : ab_Cl M Q G) : ab_c_if_le M Q G := hG.2.2.2.2.2.2.2.2.2.2.2.2.2.2.2.2.2.2.2.2.2.2.2.2.2.2.2.2.2.2.2.2.2.1
theorem ab_icmp_le' {M : ab_M} {Q : ab_Po} {G : ab_Gt} (hG : ab_Cl M Q G) : ab_c_icmp_le M Q G := hG.2.2.2.2.2.2.2.2.2.2.2.2.2.2.2.2.2.2.2.2.2.2.2.2.2.2.2.2.2.2.2.2.2.2.1
theorem ab_goto' {M : ab_M} {Q : ab_Po} {G : ab_Gt} (hG : ab_Cl M Q G) : ab_c_goto M Q G := hG.2.2.2.2.2.2.2.2.2.2.2.2.2.2.2.2.2.2.2.2.2.2.2.2.2.2.2.2.2.2.2.2.2.2.2.1
theorem ab_swO' {M : ab_M} {Q : ab_Po} {G : ab_Gt} (hG : ab_Cl M Q G) : ab_c_swO M Q G := hG.2.2.2.2.2.2.2.2.2.2.2.2.2.2.2.2.2.2.2.2.2.2.2.2.2.2.2.2.2.2.2.2.2.2.2.2.1
theorem ab_swI' {M : ab_M} {Q : ab_Po} {G : ab_Gt} (hG : ab_Cl M Q G) : ab_c_swI M Q G := hG.2.2.2.2.2.2.2.2.2.2.2.2.2.2.2.2.2.2.2.2.2.2.2.2.2.2.2.2.2.2.2.2.2.2.2.2.2.1
theorem ab_ireturn' {M : ab_M} {Q : ab_Po} {G : ab_Gt} (hG : ab_Cl M Q G) : ab_c_ireturn M Q G := hG.2.2.2.2.2.2.2.2.2.2.2.2.2.2.2.2.2.2.2.2.2.2.2.2.2.2.2.2.2.2.2.2.2.2.2.2.2.2.1
theorem ab_return_' {M : ab_M} {Q : ab_Po} {G : ab_Gt} (hG : ab_Cl M Q G) : ab_c_return_ M Q G := hG.2.2.2.2.2.2.2.2.2.2.2.2.2.2.2.2.2.2.2.2.2.2.2.2.2.2.2.2.2.2.2.2.2.2.2.2.2.2.2.1
theorem ab_getfield' {M : ab_M} {Q : ab_Po} {G : ab_Gt} (hG : ab_Cl M Q G) : ab_c_getfield M Q G := hG.2.2.2.2.2.2.2.2.2.2.2.2.2.2.2.2.2.2.2.2.2.2.2.2.2.2.2.2.2.2.2.2.2.2.2.2.2.2.2.2.1
theorem ab_putfield' {M : ab_M} {Q : ab_Po} {G : ab_Gt} (hG : ab_Cl M Q G) : ab_c_putfield M Q G := hG.2.2.2.2.2.2.2.2.2.2.2.2.2.2.2.2.2.2.2.2.2.2.2.2.2.2.2.2.2.2.2.2.2.2.2.2.2.2.2.2.2.1
theorem ab_iaload' {M : ab_M} {Q : ab_Po} {G : ab_Gt} (hG : ab_Cl M Q G) : ab_c_iaload M Q G := hG.2.2.2.2.2.2.2.2.2.2.2.2.2.2.2.2.2.2.2.2.2.2.2.2.2.2.2.2.2.2.2.2.2.2.2.2.2.2.2.2.2.2.1
theorem ab_baload' {M : ab_M} {Q : ab_Po} {G : ab_Gt} (hG : ab_Cl M Q G) : ab_c_baload M Q G := hG.2.2.2.2.2.2.2.2.2.2.2.2.2.2.2.2.2.2.2.2.2.2.2.2.2.2.2.2.2.2.2.2.2.2.2.2.2.2.2.2.2.2.2.1
theorem ab_iastore' {M : ab_M} {Q : ab_Po} {G : ab_Gt} (hG : ab_Cl M Q G) : ab_c_iastore M Q G := hG.2.2.2.2.2.2.2.2.2.2.2.2.2.2.2.2.2.2.2.2.2.2.2.2.2.2.2.2.2.2.2.2.2.2.2.2.2.2.2.2.2.2.2.2.1
theorem ab_bastore' {M : ab_M} {Q : ab_Po} {G : ab_Gt} (hG : ab_Cl M Q G) : ab_c_bastore M Q G := hG.2.2.2.2.2.2.2.2.2.2.2.2.2.2.2.2.2.2.2.2.2.2.2.2.2.2.2.2.2.2.2.2.2.2.2.2.2.2.2.2.2.2.2.2.2.1
theorem ab_aaload2' {M : ab_M} {Q : ab_Po} {G : ab_Gt} (hG : ab_Cl M Q G) : ab_c_aaload2 M Q G := hG.2.2.2.2.2.2.2.2.2.2.2.2.2.2.2.2.2.2.2.2.2.2.2.2.2.2.2.2.2.2.2.2.2.2.2.2.2.2.2.2.2.2.2.2.2.2.1
theorem ab_aaload3' {M : ab_M} {Q : ab_Po} {G : ab_Gt} (hG : ab_Cl M Q G) : ab_c_aaload3 M Q G := hG.2.2.2.2.2.2.2.2.2.2.2.2.2.2.2.2.2.2.2.2.2.2.2.2.2.2.2.2.2.2.2.2.2.2.2.2.2.2.2.2.2.2.2.2.2.2.2.1
theorem ab_alen' {M : ab_M} {Q : ab_Po} {G : ab_Gt} (hG : ab_Cl M Q G) : ab_c_alen M Q G := hG.2.2.2.2.2.2.2.2.2.2.2.2.2.2.2.2.2.2.2.2.2.2.2.2.2.2.2.2.2.2.2.2.2.2.2.2.2.2.2.2.2.2.2.2.2.2.2.2.1
theorem ab_invv' {M : ab_M} {Q : ab_Po} {G : ab_Gt} (hG : ab_Cl M Q G) : ab_c_invv M Q G := hG.2.2.2.2.2.2.2.2.2.2.2.2.2.2.2.2.2.2.2.2.2.2.2.2.2.2.2.2.2.2.2.2.2.2.2.2.2.2.2.2.2.2.2.2.2.2.2.2.2.1
theorem ab_invs' {M : ab_M} {Q : ab_Po} {G : ab_Gt} (hG : ab_Cl M Q G) : ab_c_invs M Q G := hG.2.2.2.2.2.2.2.2.2.2.2.2.2.2.2.2.2.2.2.2.2.2.2.2.2.2.2.2.2.2.2.2.2.2.2.2.2.2.2.2.2.2.2.2.2.2.2.2.2.2.1
theorem ab_invn' {M : ab_M} {Q : ab_Po} {G : ab_Gt} (hG : ab_Cl M Q G) : ab_c_invn M Q G := hG.2.2.2.2.2.2.2.2.2.2.2.2.2.2.2.2.2.2.2.2.2.2.2.2.2.2.2.2.2.2.2.2.2.2.2.2.2.2.2.2.2.2.2.2.2.2.2.2.2.2.2.1
theorem ab_min' {M : ab_M} {Q : ab_Po} {G : ab_Gt} (hG : ab_Cl M Q G) : ab_c_min M Q G := hG.2.2.2.2.2.2.2.2.2.2.2.2.2.2.2.2.2.2.2.2.2.2.2.2.2.2.2.2.2.2.2.2.2.2.2.2.2.2.2.2.2.2.2.2.2.2.2.2.2.2.2.2.1
theorem ab_acopy' {M : ab_M} {Q : ab_Po} {G : ab_Gt} (hG : ab_Cl M Q G) : ab_c_acopy M Q G := hG.2.2.2.2.2.2.2.2.2.2.2.2.2.2.2.2.2.2.2.2.2.2.2.2.2.2.2.2.2.2.2.2.2.2.2.2.2.2.2.2.2.2.2.2.2.2.2.2.2.2.2.2.2.1
theorem ab_throw' {M : ab_M} {Q : ab_Po} {G : ab_Gt} (hG : ab_Cl M Q G) : ab_c_throw M Q G := hG.2.2.2.2.2.2.2.2.2.2.2.2.2.2.2.2.2.2.2.2.2.2.2.2.2.2.2.2.2.2.2.2.2.2.2.2.2.2.2.2.2.2.2.2.2.2.2.2.2.2.2.2.2.2
/-- what a method does: from its entry every such predicate holds -/
def ab_Sem (M : ab_M) (nL : Nat) : ab_TR := fun vs S Q => vs.length ≤ nL ∧ ∀ G : ab_Gt, ab_Cl M Q G → G 0 (vs.map some ++ List.replicate (nL - vs.length) none) [] S 0
end
section
/-! The abstract machine's world in the heap. -/
def ab_val (ad : ab_Ob → Nat) : ab_V → Value
  | .inl x => .int x
  | .inr o => .ref (ad o)
def ab_okv : ab_V → Prop
  | .inl _ => True
  | .inr o => o.2 < ab_nb o.1
def ab_oks (st : List ab_V) : Prop := ∀ v ∈ st, ab_okv v
def ab_okl (L : List (Option ab_V)) : Prop := ∀ v, some v ∈ L → ab_okv v
def ab_ids : List ab_Ob := (List.range 42).flatMap fun κ => (List.range (ab_nb κ)).map fun i => (κ, i)
def ab_enc (ad : ab_Ob → Nat) (cy : Nat → ClassId) (S : ab_S) (q : ab_Ob) : va_E := match ab_ar q.1 with
  | some (0, n) => .inl (cy 0, n, .inl (S q.1 q.2))
  | some (1, n) => .inl (cy 1, n, .inl (S q.1 q.2))
  | some (2, n) => .inl (cy 2, n, .inr (.inr (.inr (.inr (fun j => some (ad (ab_el q.1 j)))))))
  | some (3, n) => .inl (cy 3, n, .inr (.inr (.inr (.inr (fun j => some (ad (ab_el q.1 j)))))))
  | some (_, n) => .inl (cy 4, n, .inr (.inl (fun _ => (S q.1 q.2 0).toInt64)))
  | none => .inr (ab_ci q.1, (List.range (ab_nf q.1)).map fun f => ab_val ad (ab_fv q.1 f q.2 S))
def ab_wl (ad : ab_Ob → Nat) (cy : Nat → ClassId) (S : ab_S) : va_W := ab_ids.map fun q => (ad q, ab_enc ad cy S q)
def ab_A (base : Nat) : Nat → Prop := fun q => base ≤ q
def ab_tys (cy : Nat → ClassId) : List (ClassId × FieldType) := [(cy 0, .int), (cy 1, .boolean), (cy 2, .object "GroveMerge$Tree"), (cy 3, .array .int), (cy 4, .long)]
def ab_strs : List (Nat × String) := [(71, "all nodes were made"), (82, "the root can't be deleted"), (92, "a node can't be moved into its own part"), (108, "all commits were made"), (131, "the working tree is not the head's, or a commit is taken in"), (146, "no such conflict"), (157, "no such part"), (178, "the path finds no such node"), (190, "no such part of the state"), (202, "no such node in the working tree"), (204, "no such commit"), (206, "no such place"), (208, "no such label")]
def ab_nest : List (String × Nat) := [(RX1, 40), (RX3, 41), (RX4, 75)]
/-- words of the throws that a list doesn't keep -/
def ab_nd : List MethodName := [Bundle.initS "java/lang/RuntimeException", Bundle.initS "java/lang/Exception", Bundle.initS Bundle.tN]
def ab_nw : List Cond := ab_nd.map Cond.declares ++ (List.range 5).map fun E => Cond.castable (ab_ex E) (ab_ex E)
def ab_Kn (D : va_G) (ad : ab_Ob → Nat) (base : Nat) (cy : Nat → ClassId) (sa : Nat → Nat) (U : State) : Prop :=
  va_K D vwCl (ab_tys cy) U ∧ va_D (ab_A base) (ab_wl ad cy (fun _ _ _ => 0)) ∧ (∀ t ∈ ab_nest, va_Nw (.methodLinkNest t.1 t.2 yX5_isIn "GroveMerge") U) ∧ (∀ t ∈ ab_strs, vk_R RX5 t.1 t.2 (sa t.1) U) ∧
  vx_Zq Bundle.tN "UNASSIGNED_STACK" Bundle.steD (ab_A base) U U.heap ∧ vx_Zq Bundle.tN "SUPPRESSED_SENTINEL" Bundle.listD (ab_A base) U U.heap ∧ (∀ w ∈ ab_nd, va_Nw (.declares w) U) ∧ ∀ E, E < 5 → va_Nw (.castable (ab_ex E) (ab_ex E)) U
def ab_lv (ad : ab_Ob → Nat) (L : List (Option ab_V)) : List (Nat × Value) := L.zipIdx.filterMap fun x => x.1.map fun v => (x.2, ab_val ad v)
theorem ab_cat (ad : ab_Ob → Nat) (v : ab_V) : (ab_val ad v).category = 1 := by cases v <;> rfl
theorem ab_cats (ad : ab_Ob → Nat) (st : List ab_V) : ((st.map (ab_val ad)).map fun v => v.category).sum = st.length := by
  induction st with
  | nil => rfl
  | cons v st ih => simp only [List.map_cons, List.sum_cons, List.length_cons, ab_cat, ih]; omega
theorem ab_lv_mem {ad : ab_Ob → Nat} {L : List (Option ab_V)} {i : Nat} {w : Value} : (i, w) ∈ ab_lv ad L ↔ ∃ v, L[i]? = some (some v) ∧ w = ab_val ad v := by
  unfold ab_lv
  rw [List.mem_filterMap]
  constructor
  · rintro ⟨⟨o, j⟩, hm, he⟩
    rw [List.mem_zipIdx_iff_getElem?] at hm
    cases o with
    | none => simp at he
    | some v =>
      simp at he
      obtain ⟨rfl, rfl⟩ := he
      exact ⟨v, hm, rfl⟩
  · rintro ⟨v, hv, rfl⟩
    exact ⟨(some v, i), List.mem_zipIdx_iff_getElem?.mpr hv, rfl⟩
theorem ab_lv_at {ad : ab_Ob → Nat} {ls : Array Slot} {nL : Nat} {L : List (Option ab_V)} (h : lv_has ls nL (ab_lv ad L)) {i : Nat} {v : ab_V} (hv : L[i]? = some (some v)) : ls[i]? = some (.val (ab_val ad v)) := h.2.2 (i, ab_val ad v) (ab_lv_mem.mpr ⟨v, hv, rfl⟩)
theorem ab_lv_set {ad : ab_Ob → Nat} {ls : Array Slot} {nL i : Nat} {v : ab_V} {L : List (Option ab_V)} (h : lv_has ls nL ((i, ab_val ad v) :: (ab_lv ad L).filter (fun q => !(q.1 == i) && !(q.1 + 1 == i && q.2.category == 2)))) : lv_has ls nL (ab_lv ad (L.set i (some v))) := by
  refine ⟨h.1, h.2.1, fun q hq => h.2.2 q ?_⟩
  obtain ⟨j, w⟩ := q
  obtain ⟨u, hu, rfl⟩ := ab_lv_mem.mp hq
  by_cases hj : j = i
  · subst hj
    rw [List.getElem?_set_self'] at hu
    cases hL : L[j]? with
    | none => rw [hL] at hu; simp at hu
    | some z =>
      rw [hL] at hu
      simp at hu
      subst hu
      exact List.mem_cons_self
  · rw [List.getElem?_set_ne (fun e => hj e.symm)] at hu
    refine List.mem_cons_of_mem _ (List.mem_filter.mpr ⟨ab_lv_mem.mpr ⟨u, hu, rfl⟩, ?_⟩)
    simp [hj, ab_cat]
theorem ab_okl_set {L : List (Option ab_V)} {i : Nat} {v : ab_V} (h : ab_okl L) (hv : ab_okv v) : ab_okl (L.set i (some v)) := by
  intro w hw
  rcases List.mem_or_eq_of_mem_set hw with h1 | h1
  · exact h w h1
  · cases h1; exact hv
theorem ab_okl_at {L : List (Option ab_V)} {i : Nat} {v : ab_V} (h : ab_okl L) (hv : L[i]? = some (some v)) : ab_okv v := h v (List.mem_of_getElem? hv)
theorem ab_oks_cons {st : List ab_V} {v : ab_V} (h : ab_oks st) (hv : ab_okv v) : ab_oks (v :: st) := fun w hw => (List.mem_cons.mp hw).elim (fun e => e ▸ hv) (h w)
theorem ab_oks_tl {st : List ab_V} {v : ab_V} (h : ab_oks (v :: st)) : ab_oks st := fun w hw => h w (List.mem_cons_of_mem _ hw)
theorem ab_oks_hd {st : List ab_V} {v : ab_V} (h : ab_oks (v :: st)) : ab_okv v := h v List.mem_cons_self
theorem ab_lv_args (ad : ab_Ob → Nat) : ∀ (vs : List ab_V) (j i : Nat) (v : ab_V), vs[i]? = some v → (j + i, ab_val ad v) ∈ lv_args j (vs.map (ab_val ad))
  | [], j, i, v, h => by simp at h
  | u :: vs, j, 0, v, h => by
    simp at h
    subst h
    exact List.mem_cons_self
  | u :: vs, j, i + 1, v, h => by
    simp at h
    have := ab_lv_args ad vs (j + 1) i v h
    simp only [List.map_cons, lv_args, ab_cat]
    rw [show j + (i + 1) = j + 1 + i by omega]
    exact List.mem_cons_of_mem _ this
theorem ab_sl (ad : ab_Ob → Nat) (vs : List ab_V) : (lg_sl (vs.map (ab_val ad))).length = vs.length := by
  induction vs with
  | nil => rfl
  | cons v vs ih =>
    unfold lg_sl at ih ⊢
    simp only [List.map_cons, List.flatMap_cons, ab_cat, List.length_append, List.length_cons]
    rw [ih]
    simp
    omega
theorem ab_entry {ad : ab_Ob → Nat} {ls : Array Slot} {nL : Nat} {vs : List ab_V} (h : lv_has ls nL (lv_args 0 (vs.map (ab_val ad)))) (n : Nat) : lv_has ls nL (ab_lv ad (vs.map some ++ List.replicate n none)) := by
  refine ⟨h.1, h.2.1, fun q hq => h.2.2 q ?_⟩
  obtain ⟨j, w⟩ := q
  obtain ⟨u, hu, rfl⟩ := ab_lv_mem.mp hq
  have hj : vs[j]? = some u := by
    rw [List.getElem?_append] at hu
    split at hu
    · simpa using hu
    · rw [List.getElem?_replicate] at hu
      split at hu <;> simp at hu
  have := ab_lv_args ad vs 0 j u hj
  rwa [Nat.zero_add] at this
theorem ab_okl_entry {vs : List ab_V} (h : ab_oks vs) (n : Nat) : ab_okl (vs.map some ++ List.replicate n none) := by
  intro v hv
  rcases List.mem_append.mp hv with h1 | h1
  · obtain ⟨u, hu, e⟩ := List.mem_map.mp h1
    cases e
    exact h _ hu
  · have := List.eq_of_mem_replicate h1
    cases this
/-! the list of the world's cells -/
theorem ab_nb_lt {κ i : Nat} (h : i < ab_nb κ) : κ < 42 := by
  apply Decidable.byContradiction
  intro hk
  have : ab_nb κ = 0 := by
    unfold ab_nb
    split <;> first | omega | (rw [if_neg hk])
  omega
theorem ab_mem {κ i : Nat} (h : i < ab_nb κ) : (κ, i) ∈ ab_ids := List.mem_flatMap.mpr ⟨κ, List.mem_range.mpr (ab_nb_lt h), List.mem_map.mpr ⟨i, List.mem_range.mpr h, rfl⟩⟩
theorem ab_nodup : ab_ids.Nodup := by decide +kernel
theorem ab_pos {κ i : Nat} (h : i < ab_nb κ) : ∃ n : Nat, ab_ids[n]? = some (κ, i) := List.getElem?_of_mem (ab_mem h)
theorem ab_wl_at {ad : ab_Ob → Nat} {cy : Nat → ClassId} {S : ab_S} {n : Nat} {q : ab_Ob} (h : ab_ids[n]? = some q) : (ab_wl ad cy S)[n]? = some (ad q, ab_enc ad cy S q) := by
  unfold ab_wl
  rw [List.getElem?_map, h]
  rfl
theorem ab_enc_congr {ad : ab_Ob → Nat} {cy : Nat → ClassId} {S S' : ab_S} {q : ab_Ob} (h : S' q.1 q.2 = S q.1 q.2) : ab_enc ad cy S' q = ab_enc ad cy S q := by
  unfold ab_enc ab_fv
  rw [h]
theorem ab_sr_ne {S : ab_S} {κ i : Nat} {f : Nat → Int32} {a b : Nat} (h : (a, b) ≠ (κ, i)) : ab_sr S κ i f a b = S a b := by
  unfold ab_sr
  rw [if_neg]
  rintro ⟨rfl, rfl⟩
  exact h rfl
theorem ab_sr_self {S : ab_S} {κ i : Nat} {f : Nat → Int32} : ab_sr S κ i f κ i = f := if_pos ⟨rfl, rfl⟩
theorem ab_set {ad : ab_Ob → Nat} {cy : Nat → ClassId} {S : ab_S} {n κ i : Nat} {f : Nat → Int32} {e : va_E} (hn : ab_ids[n]? = some (κ, i)) (he : ab_enc ad cy (ab_sr S κ i f) (κ, i) = e) : (ab_wl ad cy S).set n (ad (κ, i), e) = ab_wl ad cy (ab_sr S κ i f) := by
  apply List.ext_getElem?
  intro j
  by_cases hj : j = n
  · subst hj
    rw [ab_wl_at hn, List.getElem?_set_self', ab_wl_at hn, he]
    rfl
  · rw [List.getElem?_set_ne (fun e => hj e.symm)]
    unfold ab_wl
    rw [List.getElem?_map, List.getElem?_map]
    cases hq : ab_ids[j]? with
    | none => rfl
    | some q =>
      have hne : q ≠ (κ, i) := by
        intro e
        subst e
        have h1 := (List.getElem?_eq_some_iff.mp hq)
        have h2 := (List.getElem?_eq_some_iff.mp hn)
        obtain ⟨l1, e1⟩ := h1
        obtain ⟨l2, e2⟩ := h2
        rcases Nat.lt_or_gt_of_ne hj with h | h
        · exact List.pairwise_iff_getElem.mp ab_nodup j n l1 l2 h (e1.trans e2.symm)
        · exact List.pairwise_iff_getElem.mp ab_nodup n j l2 l1 h (e2.trans e1.symm)
      show some (ad q, _) = some (ad q, _)
      rw [ab_enc_congr (S := S) (S' := ab_sr S κ i f) (q := q) (ab_sr_ne (by rw [Prod.eta]; exact hne))]
theorem ab_D {ad : ab_Ob → Nat} {cy : Nat → ClassId} {A : Nat → Prop} {S S' : ab_S} (h : va_D A (ab_wl ad cy S)) : va_D A (ab_wl ad cy S') := by
  have key : ∀ (k : Nat) (q : Nat × va_E), (ab_wl ad cy S')[k]? = some q → ∃ e, (ab_wl ad cy S)[k]? = some (q.1, e) := by
    intro k q hk
    unfold ab_wl at hk ⊢
    rw [List.getElem?_map] at hk ⊢
    cases hq : ab_ids[k]? with
    | none => rw [hq] at hk; cases hk
    | some o =>
      rw [hq] at hk
      cases hk
      exact ⟨_, rfl⟩
  refine ⟨fun i j p q hi hj e => ?_, fun k q hk => ?_⟩
  · obtain ⟨e1, h1⟩ := key i p hi
    obtain ⟨e2, h2⟩ := key j q hj
    exact h.1 i j _ _ h1 h2 e
  · obtain ⟨e1, h1⟩ := key k q hk
    exact h.2 k (q.1, e1) h1
/-! the classes -/
def ab_cl (κ : Nat) : vw_C := vwCl.getD (ab_ci κ) (RX0, TX0, 0)
theorem ab_ci_lt (κ : Nat) : ab_ci κ < 6 := by
  unfold ab_ci
  split <;> omega
theorem ab_cl_at (κ : Nat) : vwCl[ab_ci κ]? = some ((ab_cl κ).1, (ab_cl κ).2.1, (ab_cl κ).2.2) := by
  have h := ab_ci_lt κ
  unfold ab_cl
  rw [List.getD_eq_getElem?_getD]
  have hl : ab_ci κ < vwCl.length := h
  rw [List.getElem?_eq_getElem hl]
  rfl
theorem ab_cl_ok (κ : Nat) : ∃ ty0 : Nat → FieldType, (∀ k, k < (ab_cl κ).2.2 → parseFieldDescriptor ((ab_cl κ).2.1 k).2.2.1 = some (ty0 k)) ∧ ∀ a, a < (ab_cl κ).2.2 → ∀ b, b < (ab_cl κ).2.2 → a ≠ b → ((ab_cl κ).2.1 a).2.1 ≠ ((ab_cl κ).2.1 b).2.1 := by
  have h := ab_ci_lt κ
  unfold ab_cl
  generalize ab_ci κ = n at h
  match n, h with
  | 0, _ => exact ⟨tyX0, tyX0_ok, nmX0⟩
  | 1, _ => exact ⟨tyX1, tyX1_ok, nmX1⟩
  | 2, _ => exact ⟨tyX2, tyX2_ok, nmX2⟩
  | 3, _ => exact ⟨tyX4, tyX4_ok, nmX4⟩
  | 4, _ => exact ⟨tyX5, tyX5_ok, nmX5⟩
  | 5, _ => exact ⟨tyX6, tyX6_ok, nmX6⟩
theorem ab_enc_obj {ad : ab_Ob → Nat} {cy : Nat → ClassId} {S : ab_S} {κ i : Nat} (h : ab_ar κ = none) : ab_enc ad cy S (κ, i) = .inr (ab_ci κ, (List.range (ab_nf κ)).map fun f => ab_val ad (ab_fv κ f i S)) := by
  simp only [ab_enc, h]
theorem ab_enc_int {ad : ab_Ob → Nat} {cy : Nat → ClassId} {S : ab_S} {κ i n : Nat} (h : ab_ar κ = some (0, n)) : ab_enc ad cy S (κ, i) = .inl (cy 0, n, .inl (S κ i)) := by
  simp only [ab_enc, h]
theorem ab_enc_bool {ad : ab_Ob → Nat} {cy : Nat → ClassId} {S : ab_S} {κ i n : Nat} (h : ab_ar κ = some (1, n)) : ab_enc ad cy S (κ, i) = .inl (cy 1, n, .inl (S κ i)) := by
  simp only [ab_enc, h]
theorem ab_enc_ref2 {ad : ab_Ob → Nat} {cy : Nat → ClassId} {S : ab_S} {κ i n : Nat} (h : ab_ar κ = some (2, n)) : ab_enc ad cy S (κ, i) = .inl (cy 2, n, .inr (.inr (.inr (.inr (fun j => some (ad (ab_el κ j))))))) := by
  simp only [ab_enc, h]
theorem ab_enc_ref3 {ad : ab_Ob → Nat} {cy : Nat → ClassId} {S : ab_S} {κ i n : Nat} (h : ab_ar κ = some (3, n)) : ab_enc ad cy S (κ, i) = .inl (cy 3, n, .inr (.inr (.inr (.inr (fun j => some (ad (ab_el κ j))))))) := by
  simp only [ab_enc, h]
theorem ab_fr_nb : ∀ κ, κ < 42 → ∀ f, f < 27 → ∀ i, i < 14 → i < ab_nb κ → (ab_fr κ f i).all (fun o => decide (o.2 < ab_nb o.1)) = true := by decide +kernel
theorem ab_nb_le (κ : Nat) (h : ab_ar κ = none) : ab_nb κ ≤ 14 := by
  unfold ab_ar at h
  unfold ab_nb
  split <;> simp_all
  split <;> omega
theorem ab_fv_ok {κ f i : Nat} {S : ab_S} (ha : ab_ar κ = none) (hf : f < ab_nf κ) (hi : i < ab_nb κ) : ab_okv (ab_fv κ f i S) := by
  have h27 : ab_nf κ ≤ 27 := by unfold ab_nf; split <;> omega
  have h := ab_fr_nb κ (ab_nb_lt hi) f (by omega) i (Nat.lt_of_lt_of_le hi (ab_nb_le κ ha)) hi
  unfold ab_fv
  cases he : ab_fr κ f i with
  | none => trivial
  | some o => rw [he] at h; exact (of_decide_eq_true h : o.2 < ab_nb o.1)
theorem ab_el_ok {κ n j t : Nat} (h : ab_ar κ = some (t, n)) (ht : t = 2 ∨ t = 3) (hj : j < n) : (ab_el κ j).2 < ab_nb (ab_el κ j).1 := by
  unfold ab_ar at h
  split at h <;> cases h <;> first | omega | (simp [ab_el, ab_nb]; omega) | (simp [ab_el, ab_nb])
/-! the world's words from one state to another -/
theorem ab_Kn.same {D : va_G} {ad : ab_Ob → Nat} {base : Nat} {cy : Nat → ClassId} {sa : Nat → Nat} {u U : State} (hv : U.vm = u.vm) (hh : U.heap = u.heap) (h : ab_Kn D ad base cy sa u) : ab_Kn D ad base cy sa U := by
  obtain ⟨h1, h2, h3, h4, h5, h6, h7, h8⟩ := h
  have al : u.vm.Alike U.vm := by rw [hv]; exact Vm.Alike.refl _
  refine ⟨va_K.moved al h1, h2, fun t ht => va_Nw.same rfl hv.symm (h3 t ht), fun t ht => vk_R.same hv (h4 t ht), ?_, ?_, fun w hw => va_Nw.same rfl hv.symm (h7 w hw), fun E hE => va_Nw.same rfl hv.symm (h8 E hE)⟩
  · rw [hh]; exact vx_Zq.moved al h5
  · rw [hh]; exact vx_Zq.moved al h6
theorem ab_Kn.warm {D : va_G} {ad : ab_Ob → Nat} {base : Nat} {cy : Nat → ClassId} {sa : Nat → Nat} {s U : State} (hW : s.WarmedH U.vm) (hk : ∀ q : Nat, q < s.heap.size → ¬ ab_A base q → U.heap[q]? = s.heap[q]?) (h : ab_Kn D ad base cy sa s) : ab_Kn D ad base cy sa U := by
  obtain ⟨h1, h2, h3, h4, h5, h6, h7, h8⟩ := h
  refine ⟨va_K.moved hW.alike h1, h2, fun t ht => va_Nw.warmM hW (h3 t ht), fun t ht => vk_R.warm hW (h4 t ht), ?_, ?_, fun w hw => va_Nw.warmD hW (h7 w hw), fun E hE => va_Nw.warmC hW (h8 E hE)⟩
  · exact vx_Zq.moved hW.alike (h5.kept hk)
  · exact vx_Zq.moved hW.alike (h6.kept hk)
theorem ab_Kn.nw {D : va_G} {ad : ab_Ob → Nat} {base : Nat} {cy : Nat → ClassId} {sa : Nat → Nat} {s : State} {args : Array Value} (h : ab_Kn D ad base cy sa s) : ∀ w ∈ ab_nw, w.before args s = true := by
  obtain ⟨-, -, -, -, -, -, h7, h8⟩ := h
  intro w hw
  rcases List.mem_append.mp hw with h | h
  · obtain ⟨y, hy, rfl⟩ := List.mem_map.mp h
    exact va_Nw.use rfl (h7 y hy)
  · obtain ⟨E, hE, rfl⟩ := List.mem_map.mp h
    exact va_Nw.use rfl (h8 E (List.mem_range.mp hE))
end
section
/-! Each row of the abstract machine, over the kit's rows. -/
section ABS
variable {p : Program} {l : Launch} {e : Env} {R : Room} {s : State} {m : MethodId} {args : Array Value} {below : List Frame} {meth : Method} {c : Code}
variable {D : va_G} {ad : ab_Ob → Nat} {base : Nat} {cy : Nat → ClassId} {sa : Nat → Nat} {own : String} {Ts : List Cond} {M : ab_M} {Q : ab_Po} {nL : Nat} {Qf : State → Prop}
/-- the abstract state stands in the machine, and from there the machine comes to Qf -/
def ab_G (p : Program) (l : Launch) (e : Env) (R : Room) (s : State) (m : MethodId) (args : Array Value) (below : List Frame) (meth : Method) (c : Code) (D : va_G) (ad : ab_Ob → Nat) (base : Nat) (cy : Nat → ClassId) (nL : Nat) (Qf : State → Prop) : ab_Gt := fun pc L st S k =>
  ∀ (H : Heap) (locs : List Loc) (ls : Array Slot), L.length = nL → ab_oks st → ab_okl L → va_P D vwCl (ab_wl ad cy S) H → va_S (ab_A base) s.heap H locs → lv_has ls nL (ab_lv ad L) → W p l e R s m args below meth c H locs k (6 * k) Qf (F0 m pc ls (st.map (ab_val ad)))
theorem so_iload_n (hx : p.tables.exec = Jvm.exec) (hb : c.code = ab_cc M) : ab_c_iload_n M Q (ab_G p l e R s m args below meth c D ad base cy nL Qf) := by
  intro pc L st S k n x hd hL hk H locs ls hn ho hol hP hS hl
  exact lv_iload_n hx hb hd rfl (ab_lv_at hl hL) (hk H locs ls hn (ab_oks_cons ho trivial) hol hP hS hl)
theorem so_iload (hx : p.tables.exec = Jvm.exec) (hb : c.code = ab_cc M) : ab_c_iload M Q (ab_G p l e R s m args below meth c D ad base cy nL Qf) := by
  intro pc L st S k n x hd hL hk H locs ls hn ho hol hP hS hl
  exact lv_iload hx hb hd (ab_lv_at hl hL) (hk H locs ls hn (ab_oks_cons ho trivial) hol hP hS hl)
theorem so_aload_n (hx : p.tables.exec = Jvm.exec) (hb : c.code = ab_cc M) : ab_c_aload_n M Q (ab_G p l e R s m args below meth c D ad base cy nL Qf) := by
  intro pc L st S k n o hd hL hk H locs ls hn ho hol hP hS hl
  exact lv_aload_n hx hb hd rfl (ab_lv_at hl hL) (hk H locs ls hn (ab_oks_cons ho (ab_okl_at hol hL)) hol hP hS hl)
theorem so_aload (hx : p.tables.exec = Jvm.exec) (hb : c.code = ab_cc M) : ab_c_aload M Q (ab_G p l e R s m args below meth c D ad base cy nL Qf) := by
  intro pc L st S k n o hd hL hk H locs ls hn ho hol hP hS hl
  exact lv_aload hx hb hd (ab_lv_at hl hL) (hk H locs ls hn (ab_oks_cons ho (ab_okl_at hol hL)) hol hP hS hl)
theorem so_istore_n (hx : p.tables.exec = Jvm.exec) (hb : c.code = ab_cc M) : ab_c_istore_n M Q (ab_G p l e R s m args below meth c D ad base cy nL Qf) := by
  intro pc L st S k n x hd hlt hk H locs ls hn ho hol hP hS hl
  exact lv_istore_n hx hb hd rfl hl (by omega) rfl (fun ls' hl' => hk H locs ls' (by rw [List.length_set]; exact hn) (ab_oks_tl ho) (ab_okl_set hol (ab_oks_hd ho)) hP hS (ab_lv_set (v := .inl x) hl'))
theorem so_istore (hx : p.tables.exec = Jvm.exec) (hb : c.code = ab_cc M) : ab_c_istore M Q (ab_G p l e R s m args below meth c D ad base cy nL Qf) := by
  intro pc L st S k n x hd hlt hk H locs ls hn ho hol hP hS hl
  exact lv_istore hx hb hd hl (by omega) rfl (fun ls' hl' => hk H locs ls' (by rw [List.length_set]; exact hn) (ab_oks_tl ho) (ab_okl_set hol (ab_oks_hd ho)) hP hS (ab_lv_set (v := .inl x) hl'))
theorem so_astore_n (hx : p.tables.exec = Jvm.exec) (hb : c.code = ab_cc M) : ab_c_astore_n M Q (ab_G p l e R s m args below meth c D ad base cy nL Qf) := by
  intro pc L st S k n o hd hlt hk H locs ls hn ho hol hP hS hl
  exact lv_astore_n hx hb hd rfl hl (by omega) rfl (fun ls' hl' => hk H locs ls' (by rw [List.length_set]; exact hn) (ab_oks_tl ho) (ab_okl_set hol (ab_oks_hd ho)) hP hS (ab_lv_set (v := .inr o) hl'))
theorem so_astore (hx : p.tables.exec = Jvm.exec) (hb : c.code = ab_cc M) : ab_c_astore M Q (ab_G p l e R s m args below meth c D ad base cy nL Qf) := by
  intro pc L st S k n o hd hlt hk H locs ls hn ho hol hP hS hl
  exact lv_astore hx hb hd hl (by omega) rfl (fun ls' hl' => hk H locs ls' (by rw [List.length_set]; exact hn) (ab_oks_tl ho) (ab_okl_set hol (ab_oks_hd ho)) hP hS (ab_lv_set (v := .inr o) hl'))
theorem so_iinc (hx : p.tables.exec = Jvm.exec) (hb : c.code = ab_cc M) : ab_c_iinc M Q (ab_G p l e R s m args below meth c D ad base cy nL Qf) := by
  intro pc L st S k i n x v hd hL hv hk H locs ls hn ho hol hP hS hl
  have hmem : (i, ab_val ad (.inl x)) ∈ ab_lv ad L := ab_lv_mem.mpr ⟨_, hL, rfl⟩
  obtain ⟨kk, hkk⟩ := List.getElem?_of_mem hmem
  have hlt : i < L.length := (List.getElem?_eq_some_iff.mp hL).1
  exact lv_iinc hx hb hd hl hkk hv (by omega) rfl (fun ls' hl' => hk H locs ls' (by rw [List.length_set]; exact hn) ho (ab_okl_set hol trivial) hP hS (ab_lv_set (v := .inl v) hl'))
theorem so_iconst (hx : p.tables.exec = Jvm.exec) (hb : c.code = ab_cc M) : ab_c_iconst M Q (ab_G p l e R s m args below meth c D ad base cy nL Qf) := by
  intro pc L st S k n v hd hv hk H locs ls hn ho hol hP hS hl
  exact lv_iconst hx hb hd hv (hk H locs ls hn (ab_oks_cons ho trivial) hol hP hS hl)
theorem so_bipush (hx : p.tables.exec = Jvm.exec) (hb : c.code = ab_cc M) : ab_c_bipush M Q (ab_G p l e R s m args below meth c D ad base cy nL Qf) := by
  intro pc L st S k n v hd hv hk H locs ls hn ho hol hP hS hl
  exact lv_bipush hx hb hd hv (hk H locs ls hn (ab_oks_cons ho trivial) hol hP hS hl)
theorem so_sipush (hx : p.tables.exec = Jvm.exec) (hb : c.code = ab_cc M) : ab_c_sipush M Q (ab_G p l e R s m args below meth c D ad base cy nL Qf) := by
  intro pc L st S k n v hd hv hk H locs ls hn ho hol hP hS hl
  exact lv_sipush hx hb hd hv (hk H locs ls hn (ab_oks_cons ho trivial) hol hP hS hl)
theorem so_ldc_w (hx : p.tables.exec = Jvm.exec) (hb : c.code = ab_cc M) (hown : s.vm.findClass own = some m.cls) (hkn : ∀ t ∈ ab_kn M, (Jvm.Cond.constant own t.1 t.2).before args s = true) : ab_c_ldc_w M Q (ab_G p l e R s m args below meth c D ad base cy nL Qf) := by
  intro pc L st S k i v hd hv hk H locs ls hn ho hol hP hS hl
  exact lv_ldcw hx hb hown (hkn _ hv) hd (hk H locs ls hn (ab_oks_cons ho trivial) hol hP hS hl)
theorem so_iadd (hx : p.tables.exec = Jvm.exec) (hb : c.code = ab_cc M) : ab_c_iadd M Q (ab_G p l e R s m args below meth c D ad base cy nL Qf) := by
  intro pc L st S k x y hd hk H locs ls hn ho hol hP hS hl
  exact lv_iadd hx hb hd (hk H locs ls hn (ab_oks_cons (ab_oks_tl (ab_oks_tl ho)) trivial) hol hP hS hl)
theorem so_isub (hx : p.tables.exec = Jvm.exec) (hb : c.code = ab_cc M) : ab_c_isub M Q (ab_G p l e R s m args below meth c D ad base cy nL Qf) := by
  intro pc L st S k x y hd hk H locs ls hn ho hol hP hS hl
  exact lv_isub hx hb hd (hk H locs ls hn (ab_oks_cons (ab_oks_tl (ab_oks_tl ho)) trivial) hol hP hS hl)
theorem so_imul (hx : p.tables.exec = Jvm.exec) (hb : c.code = ab_cc M) : ab_c_imul M Q (ab_G p l e R s m args below meth c D ad base cy nL Qf) := by
  intro pc L st S k x y hd hk H locs ls hn ho hol hP hS hl
  exact lv_imul hx hb hd (hk H locs ls hn (ab_oks_cons (ab_oks_tl (ab_oks_tl ho)) trivial) hol hP hS hl)
theorem so_iand (hx : p.tables.exec = Jvm.exec) (hb : c.code = ab_cc M) : ab_c_iand M Q (ab_G p l e R s m args below meth c D ad base cy nL Qf) := by
  intro pc L st S k x y hd hk H locs ls hn ho hol hP hS hl
  exact lv_iand hx hb hd (hk H locs ls hn (ab_oks_cons (ab_oks_tl (ab_oks_tl ho)) trivial) hol hP hS hl)
theorem so_ior (hx : p.tables.exec = Jvm.exec) (hb : c.code = ab_cc M) : ab_c_ior M Q (ab_G p l e R s m args below meth c D ad base cy nL Qf) := by
  intro pc L st S k x y hd hk H locs ls hn ho hol hP hS hl
  exact lv_ior hx hb hd (hk H locs ls hn (ab_oks_cons (ab_oks_tl (ab_oks_tl ho)) trivial) hol hP hS hl)
theorem so_ishl (hx : p.tables.exec = Jvm.exec) (hb : c.code = ab_cc M) : ab_c_ishl M Q (ab_G p l e R s m args below meth c D ad base cy nL Qf) := by
  intro pc L st S k x y hd hk H locs ls hn ho hol hP hS hl
  exact lv_ishl hx hb hd (hk H locs ls hn (ab_oks_cons (ab_oks_tl (ab_oks_tl ho)) trivial) hol hP hS hl)
theorem so_ishr (hx : p.tables.exec = Jvm.exec) (hb : c.code = ab_cc M) : ab_c_ishr M Q (ab_G p l e R s m args below meth c D ad base cy nL Qf) := by
  intro pc L st S k x y hd hk H locs ls hn ho hol hP hS hl
  exact lv_ishr hx hb hd (hk H locs ls hn (ab_oks_cons (ab_oks_tl (ab_oks_tl ho)) trivial) hol hP hS hl)
theorem so_iushr (hx : p.tables.exec = Jvm.exec) (hb : c.code = ab_cc M) : ab_c_iushr M Q (ab_G p l e R s m args below meth c D ad base cy nL Qf) := by
  intro pc L st S k x y hd hk H locs ls hn ho hol hP hS hl
  exact lv_iushr hx hb hd rfl (hk H locs ls hn (ab_oks_cons (ab_oks_tl (ab_oks_tl ho)) trivial) hol hP hS hl)
theorem so_dup (hx : p.tables.exec = Jvm.exec) (hb : c.code = ab_cc M) : ab_c_dup M Q (ab_G p l e R s m args below meth c D ad base cy nL Qf) := by
  intro pc L st S k v hd hk H locs ls hn ho hol hP hS hl
  exact lv_dup hx hb hd (ab_cat ad v) (hk H locs ls hn (ab_oks_cons ho (ab_oks_hd ho)) hol hP hS hl)
theorem so_pop (hx : p.tables.exec = Jvm.exec) (hb : c.code = ab_cc M) : ab_c_pop M Q (ab_G p l e R s m args below meth c D ad base cy nL Qf) := by
  intro pc L st S k v hd hk H locs ls hn ho hol hP hS hl
  exact lv_pop hx hb hd (ab_cat ad v) (hk H locs ls hn (ab_oks_tl ho) hol hP hS hl)
theorem so_if_eq (hx : p.tables.exec = Jvm.exec) (hb : c.code = ab_cc M) : ab_c_if_eq M Q (ab_G p l e R s m args below meth c D ad base cy nL Qf) := by
  intro pc L st S k off tgt x hd ht h1 h2 H locs ls hn ho hol hP hS hl
  exact lv_if_eq hx hb hd ht (fun q => h1 q H locs ls hn (ab_oks_tl ho) hol hP hS hl) (fun q => h2 q H locs ls hn (ab_oks_tl ho) hol hP hS hl)
theorem so_icmp_eq (hx : p.tables.exec = Jvm.exec) (hb : c.code = ab_cc M) : ab_c_icmp_eq M Q (ab_G p l e R s m args below meth c D ad base cy nL Qf) := by
  intro pc L st S k off tgt x y hd ht h1 h2 H locs ls hn ho hol hP hS hl
  exact lv_icmp_eq hx hb hd ht (fun q => h1 q H locs ls hn (ab_oks_tl (ab_oks_tl ho)) hol hP hS hl) (fun q => h2 q H locs ls hn (ab_oks_tl (ab_oks_tl ho)) hol hP hS hl)
theorem so_if_ne (hx : p.tables.exec = Jvm.exec) (hb : c.code = ab_cc M) : ab_c_if_ne M Q (ab_G p l e R s m args below meth c D ad base cy nL Qf) := by
  intro pc L st S k off tgt x hd ht h1 h2 H locs ls hn ho hol hP hS hl
  exact lv_if_ne hx hb hd ht (fun q => h1 q H locs ls hn (ab_oks_tl ho) hol hP hS hl) (fun q => h2 q H locs ls hn (ab_oks_tl ho) hol hP hS hl)
theorem so_icmp_ne (hx : p.tables.exec = Jvm.exec) (hb : c.code = ab_cc M) : ab_c_icmp_ne M Q (ab_G p l e R s m args below meth c D ad base cy nL Qf) := by
  intro pc L st S k off tgt x y hd ht h1 h2 H locs ls hn ho hol hP hS hl
  exact lv_icmp_ne hx hb hd ht (fun q => h1 q H locs ls hn (ab_oks_tl (ab_oks_tl ho)) hol hP hS hl) (fun q => h2 q H locs ls hn (ab_oks_tl (ab_oks_tl ho)) hol hP hS hl)
theorem so_if_lt (hx : p.tables.exec = Jvm.exec) (hb : c.code = ab_cc M) : ab_c_if_lt M Q (ab_G p l e R s m args below meth c D ad base cy nL Qf) := by
  intro pc L st S k off tgt x hd ht h1 h2 H locs ls hn ho hol hP hS hl
  exact lv_if_lt hx hb hd ht (fun q => h1 q H locs ls hn (ab_oks_tl ho) hol hP hS hl) (fun q => h2 q H locs ls hn (ab_oks_tl ho) hol hP hS hl)
theorem so_icmp_lt (hx : p.tables.exec = Jvm.exec) (hb : c.code = ab_cc M) : ab_c_icmp_lt M Q (ab_G p l e R s m args below meth c D ad base cy nL Qf) := by
  intro pc L st S k off tgt x y hd ht h1 h2 H locs ls hn ho hol hP hS hl
  exact lv_icmp_lt hx hb hd ht (fun q => h1 q H locs ls hn (ab_oks_tl (ab_oks_tl ho)) hol hP hS hl) (fun q => h2 q H locs ls hn (ab_oks_tl (ab_oks_tl ho)) hol hP hS hl)
theorem so_if_ge (hx : p.tables.exec = Jvm.exec) (hb : c.code = ab_cc M) : ab_c_if_ge M Q (ab_G p l e R s m args below meth c D ad base cy nL Qf) := by
  intro pc L st S k off tgt x hd ht h1 h2 H locs ls hn ho hol hP hS hl
  exact lv_if_ge hx hb hd ht (fun q => h1 q H locs ls hn (ab_oks_tl ho) hol hP hS hl) (fun q => h2 q H locs ls hn (ab_oks_tl ho) hol hP hS hl)
theorem so_icmp_ge (hx : p.tables.exec = Jvm.exec) (hb : c.code = ab_cc M) : ab_c_icmp_ge M Q (ab_G p l e R s m args below meth c D ad base cy nL Qf) := by
  intro pc L st S k off tgt x y hd ht h1 h2 H locs ls hn ho hol hP hS hl
  exact lv_icmp_ge hx hb hd ht (fun q => h1 q H locs ls hn (ab_oks_tl (ab_oks_tl ho)) hol hP hS hl) (fun q => h2 q H locs ls hn (ab_oks_tl (ab_oks_tl ho)) hol hP hS hl)
theorem so_if_gt (hx : p.tables.exec = Jvm.exec) (hb : c.code = ab_cc M) : ab_c_if_gt M Q (ab_G p l e R s m args below meth c D ad base cy nL Qf) := by
  intro pc L st S k off tgt x hd ht h1 h2 H locs ls hn ho hol hP hS hl
  exact lv_if_gt hx hb hd ht (fun q => h1 q H locs ls hn (ab_oks_tl ho) hol hP hS hl) (fun q => h2 q H locs ls hn (ab_oks_tl ho) hol hP hS hl)
theorem so_icmp_gt (hx : p.tables.exec = Jvm.exec) (hb : c.code = ab_cc M) : ab_c_icmp_gt M Q (ab_G p l e R s m args below meth c D ad base cy nL Qf) := by
  intro pc L st S k off tgt x y hd ht h1 h2 H locs ls hn ho hol hP hS hl
  exact lv_icmp_gt hx hb hd ht (fun q => h1 q H locs ls hn (ab_oks_tl (ab_oks_tl ho)) hol hP hS hl) (fun q => h2 q H locs ls hn (ab_oks_tl (ab_oks_tl ho)) hol hP hS hl)
theorem so_if_le (hx : p.tables.exec = Jvm.exec) (hb : c.code = ab_cc M) : ab_c_if_le M Q (ab_G p l e R s m args below meth c D ad base cy nL Qf) := by
  intro pc L st S k off tgt x hd ht h1 h2 H locs ls hn ho hol hP hS hl
  exact lv_if_le hx hb hd ht (fun q => h1 q H locs ls hn (ab_oks_tl ho) hol hP hS hl) (fun q => h2 q H locs ls hn (ab_oks_tl ho) hol hP hS hl)
theorem so_icmp_le (hx : p.tables.exec = Jvm.exec) (hb : c.code = ab_cc M) : ab_c_icmp_le M Q (ab_G p l e R s m args below meth c D ad base cy nL Qf) := by
  intro pc L st S k off tgt x y hd ht h1 h2 H locs ls hn ho hol hP hS hl
  exact lv_icmp_le hx hb hd ht (fun q => h1 q H locs ls hn (ab_oks_tl (ab_oks_tl ho)) hol hP hS hl) (fun q => h2 q H locs ls hn (ab_oks_tl (ab_oks_tl ho)) hol hP hS hl)
theorem so_goto (hx : p.tables.exec = Jvm.exec) (hb : c.code = ab_cc M) : ab_c_goto M Q (ab_G p l e R s m args below meth c D ad base cy nL Qf) := by
  intro pc L st S k off tgt hd ht hk H locs ls hn ho hol hP hS hl
  exact lv_goto hx hb hd ht (hk H locs ls hn ho hol hP hS hl)
theorem so_swO (hx : p.tables.exec = Jvm.exec) (hb : c.code = ab_cc M) : ab_c_swO M Q (ab_G p l e R s m args below meth c D ad base cy nL Qf) := by
  intro pc L st S k dflt lo hi offs len x tgt hd h ht hk H locs ls hn ho hol hP hS hl
  exact lv_tableOut hx hb hd h ht (hk H locs ls hn (ab_oks_tl ho) hol hP hS hl)
theorem so_swI (hx : p.tables.exec = Jvm.exec) (hb : c.code = ab_cc M) : ab_c_swI M Q (ab_G p l e R s m args below meth c D ad base cy nL Qf) := by
  intro pc L st S k dflt lo hi offs len x off tgt hd h1 h2 ho1 ht hk H locs ls hn ho hol hP hS hl
  exact lv_tableIn hx hb hd h1 h2 ho1 ht (hk H locs ls hn (ab_oks_tl ho) hol hP hS hl)
/-- a field of the pool: its index, its object's kind, its number there -/
def ab_flok (own : String) (Ts : List Cond) (t : Nat × Nat × Nat) : Prop := ab_ar t.2.1 = none ∧ t.2.2 < ab_nf t.2.1 ∧ (ab_cl t.2.1).2.2 = ab_nf t.2.1 ∧
  Cond.fieldLink own t.1 ((ab_cl t.2.1).2.1 t.2.2).1 ((ab_cl t.2.1).2.1 t.2.2).2.1 ((ab_cl t.2.1).2.1 t.2.2).2.2.1 ∈ Ts ∧ ∀ w ∈ u_ws (ab_cl t.2.1).1 (ab_cl t.2.1).2.1 (ab_cl t.2.1).2.2, w ∈ Ts
def ab_plok (own : String) (Ts : List Cond) (t : Nat × Nat × Nat) : Prop := ab_flok own Ts t ∧ (∀ i, i < 14 → ab_fr t.2.1 t.2.2 i = none) ∧ ((ab_cl t.2.1).2.1 t.2.2).2.2.2 = false ∧ ((ab_cl t.2.1).2.1 t.2.2).2.2.1 = "I"
theorem ab_nf_at {ad : ab_Ob → Nat} {κ i f : Nat} {S : ab_S} (hf : f < ab_nf κ) : ((List.range (ab_nf κ)).map fun f => ab_val ad (ab_fv κ f i S))[f]? = some (ab_val ad (ab_fv κ f i S)) := by
  rw [List.getElem?_map, List.getElem?_range hf]
  rfl
theorem so_getfield (hx : p.tables.exec = Jvm.exec) (hb : c.code = ab_cc M) (hown : s.vm.findClass own = some m.cls) (hts : ∀ w ∈ Ts, w.before args s = true) (hK : va_K D vwCl (ab_tys cy) s) (hfl : ∀ t ∈ ab_fl M, ab_flok own Ts t) : ab_c_getfield M Q (ab_G p l e R s m args below meth c D ad base cy nL Qf) := by
  intro pc L st S k idx κ f i hd hm hk H locs ls hn ho hol hP hS hl
  obtain ⟨ha, hf, hN, hlk, hin⟩ := hfl _ hm
  have hi : i < ab_nb κ := ab_oks_hd ho
  obtain ⟨n, hn0⟩ := ab_pos hi
  have he : (ab_wl ad cy S)[n]? = some (ad (κ, i), .inr (ab_ci κ, (List.range (ab_nf κ)).map fun f => ab_val ad (ab_fv κ f i S))) := by rw [ab_wl_at hn0, ab_enc_obj ha]
  exact va_get hx hb hts hin hown hK hP n he (ab_cl_at κ) f (by rw [hN]; exact hf) (hts _ hlk) (fun x h => h) (ab_nf_at hf) hd (hk H locs ls hn (ab_oks_cons (ab_oks_tl ho) (ab_fv_ok ha hf hi)) hol hP hS hl)
theorem ab_put_enc {ad : ab_Ob → Nat} {cy : Nat → ClassId} {S : ab_S} {κ i f : Nat} {x : Int32} (ha : ab_ar κ = none) (hf : f < ab_nf κ) (hi : i < 14) (hr : ∀ i, i < 14 → ab_fr κ f i = none) : ab_enc ad cy (ab_sr S κ i (upd (S κ i) f x)) (κ, i) = .inr (ab_ci κ, ((List.range (ab_nf κ)).map fun f => ab_val ad (ab_fv κ f i S)).set f (.int x)) := by
  rw [ab_enc_obj ha]
  congr 2
  apply List.ext_getElem?
  intro j
  by_cases hj : j = f
  · subst hj
    rw [List.getElem?_set_self', List.getElem?_map, List.getElem?_map, List.getElem?_range hf]
    show some (ab_val ad (ab_fv κ j i _)) = some (Value.int x)
    unfold ab_fv
    rw [hr i hi, ab_sr_self]
    simp [upd, ab_val]
  · rw [List.getElem?_set_ne (fun e => hj e.symm), List.getElem?_map, List.getElem?_map]
    by_cases hjn : j < ab_nf κ
    · rw [List.getElem?_range hjn]
      show some _ = some _
      unfold ab_fv
      rw [ab_sr_self]
      simp [upd, hj]
    · rw [List.getElem?_eq_none (by simp; omega)]
      rfl
theorem so_putfield (hx : p.tables.exec = Jvm.exec) (hb : c.code = ab_cc M) (hown : s.vm.findClass own = some m.cls) (hts : ∀ w ∈ Ts, w.before args s = true) (hK : va_K D vwCl (ab_tys cy) s) (hD : va_D (ab_A base) (ab_wl ad cy (fun _ _ _ => 0))) (hpl : ∀ t ∈ ab_pl M, ab_plok own Ts t) : ab_c_putfield M Q (ab_G p l e R s m args below meth c D ad base cy nL Qf) := by
  intro pc L st S k idx κ f i x hd hm hk H locs ls hn ho hol hP hS hl
  obtain ⟨⟨ha, hf, hN, hlk, hin⟩, hr, hfin, hI⟩ := hpl _ hm
  have hi : i < ab_nb κ := ab_oks_hd (ab_oks_tl ho)
  have hi14 : i < 14 := Nat.lt_of_lt_of_le hi (ab_nb_le κ ha)
  obtain ⟨n, hn0⟩ := ab_pos hi
  obtain ⟨ty0, hty, hnm⟩ := ab_cl_ok κ
  have he : (ab_wl ad cy S)[n]? = some (ad (κ, i), .inr (ab_ci κ, (List.range (ab_nf κ)).map fun f => ab_val ad (ab_fv κ f i S))) := by rw [ab_wl_at hn0, ab_enc_obj ha]
  refine va_put (ty := .int) (v := .int x) hx hb hts hin ty0 hty hnm hown hK hP (ab_D hD) hS n he (ab_cl_at κ) f (by rw [hN]; exact hf) (hts _ hlk) (fun x h => h) hfin (by rw [hI]; decide +kernel) rfl rfl (by simp; exact hf) hd (fun H1 locs1 hP1 hD1 hS1 => ?_)
  rw [ab_set hn0 (ab_put_enc ha hf hi14 hr)] at hP1
  exact hk H1 locs1 ls hn (ab_oks_tl (ab_oks_tl ho)) hol hP1 hS1 hl
theorem so_iaload (hx : p.tables.exec = Jvm.exec) (hb : c.code = ab_cc M) (hK : va_K D vwCl (ab_tys cy) s) : ab_c_iaload M Q (ab_G p l e R s m args below meth c D ad base cy nL Qf) := by
  intro pc L st S k κ i n j hd ha hin hk H locs ls hn ho hol hP hS hl
  have hi : i < ab_nb κ := ab_oks_hd (ab_oks_tl ho)
  obtain ⟨q, hq⟩ := ab_pos hi
  exact va_iald hx hb hK hP q 0 (by rw [ab_wl_at hq, ab_enc_int ha]) rfl hin hd (hk H locs ls hn (ab_oks_cons (ab_oks_tl (ab_oks_tl ho)) trivial) hol hP hS hl)
theorem so_baload (hx : p.tables.exec = Jvm.exec) (hb : c.code = ab_cc M) (hK : va_K D vwCl (ab_tys cy) s) : ab_c_baload M Q (ab_G p l e R s m args below meth c D ad base cy nL Qf) := by
  intro pc L st S k κ i n j hd ha hin hk H locs ls hn ho hol hP hS hl
  have hi : i < ab_nb κ := ab_oks_hd (ab_oks_tl ho)
  obtain ⟨q, hq⟩ := ab_pos hi
  exact va_zald hx hb hK hP q 1 (by rw [ab_wl_at hq, ab_enc_bool ha]) rfl hin hd (hk H locs ls hn (ab_oks_cons (ab_oks_tl (ab_oks_tl ho)) trivial) hol hP hS hl)
theorem so_iastore (hx : p.tables.exec = Jvm.exec) (hb : c.code = ab_cc M) (hK : va_K D vwCl (ab_tys cy) s) (hD : va_D (ab_A base) (ab_wl ad cy (fun _ _ _ => 0))) : ab_c_iastore M Q (ab_G p l e R s m args below meth c D ad base cy nL Qf) := by
  intro pc L st S k κ i n j x hd ha hin hk H locs ls hn ho hol hP hS hl
  have hi : i < ab_nb κ := ab_oks_hd (ab_oks_tl (ab_oks_tl ho))
  obtain ⟨q, hq⟩ := ab_pos hi
  refine va_iast hx hb hK hP (ab_D hD) hS q 0 (by rw [ab_wl_at hq, ab_enc_int ha]) rfl hin hd (fun H1 locs1 hP1 hD1 hS1 => ?_)
  rw [ab_set (f := upd (S κ i) j.toNatClampNeg x) hq (by rw [ab_enc_int ha, ab_sr_self])] at hP1
  exact hk H1 locs1 ls hn (ab_oks_tl (ab_oks_tl (ab_oks_tl ho))) hol hP1 hS1 hl
theorem so_bastore (hx : p.tables.exec = Jvm.exec) (hb : c.code = ab_cc M) (hK : va_K D vwCl (ab_tys cy) s) (hD : va_D (ab_A base) (ab_wl ad cy (fun _ _ _ => 0))) : ab_c_bastore M Q (ab_G p l e R s m args below meth c D ad base cy nL Qf) := by
  intro pc L st S k κ i n j x hd ha hin hk H locs ls hn ho hol hP hS hl
  have hi : i < ab_nb κ := ab_oks_hd (ab_oks_tl (ab_oks_tl ho))
  obtain ⟨q, hq⟩ := ab_pos hi
  refine va_zast hx hb hK hP (ab_D hD) hS q 1 (by rw [ab_wl_at hq, ab_enc_bool ha]) rfl hin hd (fun H1 locs1 hP1 hD1 hS1 => ?_)
  rw [ab_set (f := upd (S κ i) j.toNatClampNeg (vp_nar .boolean x)) hq (by rw [ab_enc_bool ha, ab_sr_self])] at hP1
  exact hk H1 locs1 ls hn (ab_oks_tl (ab_oks_tl (ab_oks_tl ho))) hol hP1 hS1 hl
theorem so_aaload2 (hx : p.tables.exec = Jvm.exec) (hb : c.code = ab_cc M) (hK : va_K D vwCl (ab_tys cy) s) : ab_c_aaload2 M Q (ab_G p l e R s m args below meth c D ad base cy nL Qf) := by
  intro pc L st S k κ i n j hd ha hin hk H locs ls hn ho hol hP hS hl
  have hi : i < ab_nb κ := ab_oks_hd (ab_oks_tl ho)
  obtain ⟨q, hq⟩ := ab_pos hi
  have hlt : j.toNatClampNeg < n := Nat.not_le.mp fun q => hin (Or.inr q)
  exact va_aldq (f := fun j => some (ad (ab_el κ j))) hx hb hK hP q 2 (by rw [ab_wl_at hq, ab_enc_ref2 ha]) rfl hin hd (hk H locs ls hn (ab_oks_cons (ab_oks_tl (ab_oks_tl ho)) (ab_el_ok ha (Or.inl rfl) hlt)) hol hP hS hl)
theorem so_aaload3 (hx : p.tables.exec = Jvm.exec) (hb : c.code = ab_cc M) (hK : va_K D vwCl (ab_tys cy) s) : ab_c_aaload3 M Q (ab_G p l e R s m args below meth c D ad base cy nL Qf) := by
  intro pc L st S k κ i n j hd ha hin hk H locs ls hn ho hol hP hS hl
  have hi : i < ab_nb κ := ab_oks_hd (ab_oks_tl ho)
  obtain ⟨q, hq⟩ := ab_pos hi
  have hlt : j.toNatClampNeg < n := Nat.not_le.mp fun q => hin (Or.inr q)
  have hc := hP q _ (ab_wl_at hq)
  rw [ab_enc_ref3 ha] at hc
  exact W.aald (v := .ref (ad (ab_el κ j.toNatClampNeg))) (ty := .array .int) hx hb hc ((hK.2 3 _ rfl).1 n (fun j => va_rf (some (ad (ab_el κ j))))) rfl (fun q => by cases q) (by show ¬ (j < 0 ∨ (arrV _ _ _).slots.size ≤ _); rw [arrV_size]; exact hin) (by show (arrV _ _ _).slots[_]? = _; rw [arrV_read _ _ hlt]; rfl) rfl rfl hd (hk H locs ls hn (ab_oks_cons (ab_oks_tl (ab_oks_tl ho)) (ab_el_ok ha (Or.inr rfl) hlt)) hol hP hS hl)
theorem so_alen (hx : p.tables.exec = Jvm.exec) (hb : c.code = ab_cc M) (hK : va_K D vwCl (ab_tys cy) s) : ab_c_alen M Q (ab_G p l e R s m args below meth c D ad base cy nL Qf) := by
  intro pc L st S k κ i n v hd ha hv hk H locs ls hn ho hol hP hS hl
  have hi : i < ab_nb κ := ab_oks_hd ho
  obtain ⟨q, hq⟩ := ab_pos hi
  exact va_alen hx hb hK hP q 0 (x := (n, .inl (S κ i))) (by rw [ab_wl_at hq, ab_enc_int ha]) rfl hv hd (hk H locs ls hn (ab_oks_cons (ab_oks_tl ho) trivial) hol hP hS hl)
theorem so_min (hx : p.tables.exec = Jvm.exec) (hb : c.code = ab_cc M) (hml : c.maxLocals = nL) (hown : s.vm.findClass own = some m.cls) (hts : ∀ w ∈ Ts, w.before args s = true) (hmn : ∀ idx ∈ ab_mn M, (Cond.methodLink own idx Lib.Math.min.name ∈ Ts ∧ Cond.static Lib.Math.min.name ∈ Ts ∧ Cond.initialized "java/lang/Math" ∈ Ts ∧ Cond.code Lib.Math.min.name Lib.Math.min.code 2 (some .int) ∈ Ts) ∧ 1 ≤ R.frames ∧ 21 ≤ R.locals) (hRK : ab_K M ≤ R.cells ∧ 6 * ab_K M ≤ R.slots) : ab_c_min M Q (ab_G p l e R s m args below meth c D ad base cy nL Qf) := by
  intro pc L st S k idx x y hd hm h8 hkK hk H locs ls hn ho hol hP hS hl
  obtain ⟨⟨w1, w2, w3, w4⟩, r1, r2⟩ := hmn idx hm
  exact va_mmin hx hb (hml.trans hl.1.symm) hown (hts _ w1) (hts _ w2) (hts _ w3) (hts _ w4) r1 (by rw [ab_cats]; omega) (by omega) (by omega) hd (hk H locs ls hn (ab_oks_cons (ab_oks_tl (ab_oks_tl ho)) trivial) hol hP hS hl)
theorem so_acopy (hx : p.tables.exec = Jvm.exec) (hb : c.code = ab_cc M) (hml : c.maxLocals = nL) (hown : s.vm.findClass own = some m.cls) (hts : ∀ w ∈ Ts, w.before args s = true) (hK : va_K D vwCl (ab_tys cy) s) (hD : va_D (ab_A base) (ab_wl ad cy (fun _ _ _ => 0))) (hac : ∀ idx ∈ ab_ac M, (Cond.methodLink own idx arraycopyName ∈ Ts ∧ Cond.native arraycopyName ∈ Ts ∧ Cond.static arraycopyName ∈ Ts ∧ Cond.initialized "java/lang/System" ∈ Ts) ∧ 1 ≤ R.frames ∧ 8 + (nativeFrameWords "java/lang/System" "arraycopy" 5 + 11) ≤ R.locals) : ab_c_acopy M Q (ab_G p l e R s m args below meth c D ad base cy nL Qf) := by
  intro pc L st S k idx κs is κd id ns nd sp dp n hd hm hs hd2 h1 h2 h3 h4 h5 h8 hk H locs ls hn ho hol hP hS hl
  obtain ⟨⟨w1, w2, w3, w4⟩, r1, r2⟩ := hac idx hm
  have o3 := ab_oks_tl (ab_oks_tl ho)
  have hid : id < ab_nb κd := ab_oks_hd o3
  have o5 := ab_oks_tl (ab_oks_tl o3)
  have his : is < ab_nb κs := ab_oks_hd o5
  obtain ⟨qs, hqs⟩ := ab_pos his
  obtain ⟨qd, hqd⟩ := ab_pos hid
  refine va_copyi (ty := .int) hx hb (hml.trans hl.1.symm) hown (hts _ w1) (hts _ w2) (hts _ w3) (hts _ w4) hK hP (ab_D hD) hS qs qd 0 0 (by rw [ab_wl_at hqs, ab_enc_int hs]) (by rw [ab_wl_at hqd, ab_enc_int hd2]) rfl rfl rfl h1 h2 h3 h4 h5 (fun i hi => rfl) r1 (by rw [ab_cats]; omega) hd (fun H1 locs1 hP1 hD1 hS1 => ?_)
  rw [ab_set (f := va_cpy (S κs is) (S κd id) sp.toNatClampNeg dp.toNatClampNeg n.toNatClampNeg) hqd (by rw [ab_enc_int hd2, ab_sr_self])] at hP1
  exact hk H1 locs1 ls hn (ab_oks_tl o5) hol hP1 hS1 hl
end ABS
end
section
/-! A method's contract out of what the abstract machine says of it. -/
def ab_B (D : va_G) (ad : ab_Ob → Nat) (cy : Nat → ClassId) (S' : ab_S) (t : State) : Prop := va_P D vwCl (ab_wl ad cy S') t.heap
def ab_Qc (ri : Nat) (D : va_G) (ad : ab_Ob → Nat) (base : Nat) (cy : Nat → ClassId) (Q : ab_Po) : Array Value → State → Outcome → State → Prop := match ri with
  | 0 => va_Qv (fun S' => Q (.inl none) S') (ab_B D ad cy) (ab_A base)
  | _ => va_Qi (fun r S' => Q (.inl (some r)) S') (ab_B D ad cy) (ab_A base)
def ab_Xc (D : va_G) (ad : ab_Ob → Nat) (base : Nat) (cy : Nat → ClassId) (Q : ab_Po) : String → State → State → Prop := vx_X (fun u : ab_S × Nat => Q (.inr u.2) u.1) (fun E u t => E = ab_ex u.2 ∧ ab_B D ad cy u.1 t) (ab_A base)
def ab_Pc (D : va_G) (ad : ab_Ob → Nat) (base : Nat) (cy : Nat → ClassId) (sa : Nat → Nat) (vs : List ab_V) (S : ab_S) : Array Value → State → Prop := va_Pc (vs.map (ab_val ad)) (fun U => ab_oks vs ∧ base ≤ U.heap.size ∧ va_P D vwCl (ab_wl ad cy S) U.heap ∧ ab_Kn D ad base cy sa U)
/-- the method y does what τ says, and makes no more than its room has -/
def ab_Sound (l : Launch) (y : MethodName) (ws : List Cond) (rm : Room) (ri : Nat) (τ : ab_TR) : Prop := ∀ (D : va_G) (ad : ab_Ob → Nat) (base : Nat) (cy : Nat → ClassId) (sa : Nat → Nat) (vs : List ab_V) (S : ab_S) (Q : ab_Po), τ vs S Q →
  vx_Met l y ws rm (ab_Pc D ad base cy sa vs S) (ab_Qc ri D ad base cy Q) (ab_Xc D ad base cy Q) rm.cells rm.slots (ab_A base)
theorem ab_blind (D : va_G) (ad : ab_Ob → Nat) (base : Nat) (cy : Nat → ClassId) (sa : Nat → Nat) (vs : List ab_V) (S : ab_S) : FrameBlind (ab_Pc D ad base cy sa vs S) := by
  intro a U g mk q
  obtain ⟨h1, h2, h3, h4, h5⟩ := q
  exact ⟨h1, h2, h3, h4, ab_Kn.same (u := U) (U := U.calling g mk a) rfl rfl h5⟩
def ab_sok (n kc : Nat) (own : String) (Ts : List Cond) (R : Room) (y : MethodName) (bytes : ByteArray) (maxL : Nat) (ret : Option FieldType) (ws ws' : List Cond) (rm : Room) : Prop :=
  ws = Cond.code y bytes maxL ret :: ws' ∧ rm.cells = kc ∧ rm.slots = 6 * kc ∧ (y.cls ≠ "java/lang/invoke/MethodHandle" ∧ y.cls ≠ "java/lang/invoke/VarHandle" ∧ (parseMethodDescriptor y.desc).map (fun d => d.parameters.length) = some n) ∧ (rm.frames + 1 ≤ R.frames ∧ 8 + (maxL + 11) + rm.locals ≤ R.locals)
def ab_vok (l : Launch) (own : String) (Ts : List Cond) (R : Room) (idx rc n ri kc : Nat) (τ : ab_TR) : Prop := ∃ (y : MethodName) (bytes : ByteArray) (maxL : Nat) (ret : Option FieldType) (ws ws' : List Cond) (rm : Room), ab_Sound l y ws rm ri τ ∧ GoodIn Ts (wsV own idx y.cls y ws) ∧ (vwCl.getD rc (RX0, TX0, 0)).1 = y.cls ∧ ab_sok n kc own Ts R y bytes maxL ret ws ws' rm
def ab_tok (l : Launch) (own : String) (Ts : List Cond) (R : Room) (idx n ri kc : Nat) (τ : ab_TR) : Prop := ∃ (y : MethodName) (bytes : ByteArray) (maxL : Nat) (ret : Option FieldType) (ws ws' : List Cond) (rm : Room), ab_Sound l y ws rm ri τ ∧ GoodIn Ts (va_wsS own idx y ws) ∧ ab_sok n kc own Ts R y bytes maxL ret ws ws' rm
def ab_nok (l : Launch) (own : String) (Ts : List Cond) (R : Room) (idx n ri kc : Nat) (τ : ab_TR) : Prop := (own, idx) ∈ ab_nest ∧ ∃ (bytes : ByteArray) (maxL : Nat) (ret : Option FieldType) (ws ws' : List Cond) (rm : Room), ab_Sound l yX5_isIn ws rm ri τ ∧ GoodIn Ts ws ∧ Cond.initialized yX5_isIn.cls ∈ Ts ∧ Cond.static yX5_isIn ∈ Ts ∧ ab_sok n kc own Ts R yX5_isIn bytes maxL ret ws ws' rm
def ab_thok (own : String) (Ts : List Cond) (R : Room) (cc : ByteArray) (pc E : Nat) : Prop := ∃ (ik is ic : Nat) (text : String) (names : List String), own = RX5 ∧ (is, text) ∈ ab_strs ∧ Bundle.fit (ab_ex E) = true ∧ (∀ n ∈ names, Bundle.fit n = true) ∧ Cond.classLink own ik (ab_ex E) ∈ Ts ∧ Cond.initialized (ab_ex E) ∈ Ts ∧ (∀ w ∈ (vx_atS own ic (ab_ex E) names).filter goodWord, w ∈ Ts) ∧ (∀ w ∈ (vx_atS own ic (ab_ex E) names).filter (fun w => !goodWord w), w ∈ ab_nw) ∧
  (∀ w ∈ Cond.classLink own ik (ab_ex E) :: Cond.initialized (ab_ex E) :: vx_atS own ic (ab_ex E) names, vx_ot w = true) ∧ decode cc pc = .ok (.new ik, 3) ∧ decode cc (pc + 3) = .ok (.dup, 1) ∧ decode cc (pc + 4) = .ok (.ldc is, 2) ∧ decode cc (pc + 6) = .ok (.invokespecial ic, 3) ∧ decode cc (pc + 9) = .ok (.athrow, 1) ∧
  names.length + 3 < R.frames ∧ 8 + (13 * (names.length + 1) + 43) ≤ R.locals
theorem ab_oks_rev {as : List ab_V} {st : List ab_V} (h : ab_oks (as.reverse ++ st)) : ab_oks as ∧ ab_oks st := ⟨fun v hv => h v (List.mem_append_left _ (List.mem_reverse.mpr hv)), fun v hv => h v (List.mem_append_right _ hv)⟩
section ABC
variable {p : Program} {l : Launch} {e : Env} {R : Room} {s : State} {m : MethodId} {args : Array Value} {below : List Frame} {meth : Method} {c : Code}
variable {D : va_G} {ad : ab_Ob → Nat} {base : Nat} {cy : Nat → ClassId} {sa : Nat → Nat} {own : String} {Ts : List Cond} {M : ab_M} {Q : ab_Po} {nL ri0 : Nat}
/-- the end that a method owes -/
abbrev ab_End (below : List Frame) (args : Array Value) (s : State) (ri0 : Nat) (D : va_G) (ad : ab_Ob → Nat) (base : Nat) (cy : Nat → ClassId) (Q : ab_Po) (K : Nat) : State → Prop := vx_MQ below (ab_Qc ri0 D ad base cy Q) (ab_Xc D ad base cy Q) args s K (6 * K) (ab_A base)
abbrev ab_GE (p : Program) (l : Launch) (e : Env) (R : Room) (s : State) (m : MethodId) (args : Array Value) (below : List Frame) (meth : Method) (c : Code) (D : va_G) (ad : ab_Ob → Nat) (base : Nat) (cy : Nat → ClassId) (nL ri0 : Nat) (Q : ab_Po) (K : Nat) : ab_Gt := ab_G p l e R s m args below meth c D ad base cy nL (ab_End below args s ri0 D ad base cy Q K)
/-- an exception of a callee goes on to the caller -/
theorem ab_kx {K : Nat} (hout : ∀ x ∈ c.exceptionTable.toList, False) (hlocks : meth.locks = false) {E : String} {ce : Cell} {q9 : Addr} {u : ab_S × Nat} {t : State} {H1 : Heap} {locs1 : List Loc} {pc k kc : Nat} {ls : Array Slot} {rest : List Value} (ht : t.heap = H1) (hq : Q (.inr u.2) u.1) (hB : E = ab_ex u.2 ∧ ab_B D ad cy u.1 t) (hS : va_S (ab_A base) s.heap H1 locs1) (hce : H1[q9]? = some ce) (hcv : ce.vm = .none) (hcl : s.vm.findClass E = some ce.cls) (hK : k + kc ≤ K) :
    vx_W p l e R s m args below meth c H1 locs1 (k + kc) (6 * k + 6 * kc) (ab_End below args s ri0 D ad base cy Q K) (F0 m pc ls rest) q9 := by
  refine vx_out (fun x hx => (hout x hx).elim) hlocks hce hcv hcl ?_ (fun z hz => hS.2.2 z hz) hK (by omega)
  intro t' ht' _
  refine ⟨u, hq, ⟨hB.1, ?_⟩, hS.F ht'⟩
  show va_P D vwCl _ t'.heap
  rw [ht', ← ht]
  exact hB.2
theorem so_invv (hx : p.tables.exec = Jvm.exec) (hb : c.code = ab_cc M) (hml : c.maxLocals = nL) (hown : s.vm.findClass own = some m.cls) (hts : ∀ w ∈ Ts, w.before args s = true) (hKn : ab_Kn D ad base cy sa s) (hbs : base ≤ s.heap.size) (hout : ∀ x ∈ c.exceptionTable.toList, False) (hlocks : meth.locks = false) (hRK : ab_K M ≤ R.cells ∧ 6 * ab_K M ≤ R.slots)
    (hcv : ∀ idx rc n ri kc τ, ab_cv M idx = some (rc, n, ri, kc, τ) → ab_vok l own Ts R idx rc n ri kc τ) : ab_c_invv M Q (ab_GE p l e R s m args below meth c D ad base cy nL ri0 Q (ab_K M)) := by
  intro pc L as rest S k idx rc n ri kc τ o hd hc hlen ha hrc h8 hkK hτ H locs ls hn ho hol hP hS hl
  obtain ⟨y, bytes, maxL, ret, ws, ws', rm, hso, hG, hcls, hw, hcel, hslo, hnm, hRm⟩ := hcv idx rc n ri kc τ hc
  obtain ⟨oa, ob⟩ := ab_oks_rev ho
  have hoo := ab_oks_hd ob
  have hM := hso D ad base cy sa (.inr o :: as) S _ hτ
  obtain ⟨q, hq⟩ := ab_pos (κ := o.1) (i := o.2) hoo
  have he : (ab_wl ad cy S)[q]? = some (ad o, .inr (ab_ci o.1, (List.range (ab_nf o.1)).map fun f => ab_val ad (ab_fv o.1 f o.2 S))) := by rw [ab_wl_at hq, ab_enc_obj ha]
  have hrv := va_recv hKn.1 hP (ab_cl_at o.1) he
  have hcl : (ab_cl o.1).1 = y.cls := by unfold ab_cl; rw [hrc]; exact hcls
  rw [show ((ab_cl o.1).1, (ab_cl o.1).2.1, (ab_cl o.1).2.2).1 = y.cls from hcl] at hrv
  have hst : (as.reverse ++ .inr o :: rest).map (ab_val ad) = (as.map (ab_val ad)).reverse ++ .ref (ad o) :: rest.map (ab_val ad) := by simp [ab_val]
  rw [hst]
  have hrun := vx_runV (H := H) (locs := locs) (cells := k) (slots := 6 * k) (below := below) (e := e) (meth := meth) (As := as.map (ab_val ad)) (rest := rest.map (ab_val ad)) (g := F0 m pc ls ((as.map (ab_val ad)).reverse ++ .ref (ad o) :: rest.map (ab_val ad))) ⟨hx, hb, hml, hown, hts⟩ hM (cwV n hts hG hw rfl rfl ⟨rfl, hnm⟩ hRm)
    ⟨ab_blind _ _ _ _ _ _ _, hrv, fun U hU hW => ⟨rfl, ab_oks_cons oa hoo, by rw [hU]; exact Nat.le_trans hbs hS.1, by rw [hU]; exact hP, ab_Kn.warm hW (by rw [hU]; exact hS.2.1) hKn⟩⟩
    rfl (by rw [List.length_map]; exact hlen) hl.1 rfl (lv_room (by rw [ab_cats]; exact h8)) hd (by rw [hcel, hslo]; omega)
  rw [hcel, hslo] at hrun
  match ri, hrun with
  | 0, hrun =>
    refine vx_callv (a := #[]) (S := ab_S) (SX := ab_S × Nat) hrun hS (fun q _ h => h) (fun q h => h) (fun q _ h => h) (fun E ce q9 u t H1 locs1 ht _ hpx hB _ _ hS1 hce hcv1 hcl1 => ab_kx hout hlocks ht hpx hB hS1 hce hcv1 hcl1 hkK) (fun u t H1 locs1 ht _ hp hB _ _ hS1 => ?_)
    have h1 := hp H1 locs1 ls hn (ab_oks_tl ob) hol (by rw [← ht]; exact hB) hS1 hl
    rw [Nat.mul_add] at h1
    exact h1
  | ri + 1, hrun =>
    refine vx_calli (a := #[]) (S := ab_S) (SX := ab_S × Nat) hrun hS (fun q _ h => h) (fun q h => h) (fun q _ h => h) (fun E ce q9 u t H1 locs1 ht _ hpx hB _ _ hS1 hce hcv1 hcl1 => ab_kx hout hlocks ht hpx hB hS1 hce hcv1 hcl1 hkK) (fun r u t H1 locs1 ht _ hp hB _ _ hS1 => ?_)
    have h1 := hp H1 locs1 ls hn (ab_oks_cons (ab_oks_tl ob) trivial) hol (by rw [← ht]; exact hB) hS1 hl
    rw [Nat.mul_add] at h1
    exact h1
theorem so_invs (hx : p.tables.exec = Jvm.exec) (hb : c.code = ab_cc M) (hml : c.maxLocals = nL) (hown : s.vm.findClass own = some m.cls) (hts : ∀ w ∈ Ts, w.before args s = true) (hKn : ab_Kn D ad base cy sa s) (hbs : base ≤ s.heap.size) (hout : ∀ x ∈ c.exceptionTable.toList, False) (hlocks : meth.locks = false) (hRK : ab_K M ≤ R.cells ∧ 6 * ab_K M ≤ R.slots)
    (hcs : ∀ idx rc n ri kc τ, ab_cs M idx = some (rc, n, ri, kc, τ) → ab_tok l own Ts R idx n ri kc τ) : ab_c_invs M Q (ab_GE p l e R s m args below meth c D ad base cy nL ri0 Q (ab_K M)) := by
  intro pc L as rest S k idx rc n ri kc τ hd hc hlen h8 hkK hτ H locs ls hn ho hol hP hS hl
  obtain ⟨y, bytes, maxL, ret, ws, ws', rm, hso, hG, hw, hcel, hslo, hnm, hRm⟩ := hcs idx rc n ri kc τ hc
  obtain ⟨oa, ob⟩ := ab_oks_rev ho
  have hM := hso D ad base cy sa as S _ hτ
  have hst : (as.reverse ++ rest).map (ab_val ad) = (as.map (ab_val ad)).reverse ++ rest.map (ab_val ad) := by simp
  rw [hst]
  have hrun := vx_runS (H := H) (locs := locs) (cells := k) (slots := 6 * k) (below := below) (e := e) (meth := meth) (As := as.map (ab_val ad)) (rest := rest.map (ab_val ad)) (g := F0 m pc ls ((as.map (ab_val ad)).reverse ++ rest.map (ab_val ad))) ⟨hx, hb, hml, hown, hts⟩ hM (va_cwS n hts hG hw rfl rfl hnm hRm)
    ⟨ab_blind _ _ _ _ _ _ _, fun U hU hW => ⟨rfl, oa, by rw [hU]; exact Nat.le_trans hbs hS.1, by rw [hU]; exact hP, ab_Kn.warm hW (by rw [hU]; exact hS.2.1) hKn⟩⟩
    rfl (by rw [List.length_map]; exact hlen) hl.1 rfl (lv_room (by rw [ab_cats]; exact h8)) hd (by rw [hcel, hslo]; omega)
  rw [hcel, hslo] at hrun
  match ri, hrun with
  | 0, hrun =>
    refine vx_callv (a := #[]) (S := ab_S) (SX := ab_S × Nat) hrun hS (fun q _ h => h) (fun q h => h) (fun q _ h => h) (fun E ce q9 u t H1 locs1 ht _ hpx hB _ _ hS1 hce hcv1 hcl1 => ab_kx hout hlocks ht hpx hB hS1 hce hcv1 hcl1 hkK) (fun u t H1 locs1 ht _ hp hB _ _ hS1 => ?_)
    have h1 := hp H1 locs1 ls hn ob hol (by rw [← ht]; exact hB) hS1 hl
    rw [Nat.mul_add] at h1
    exact h1
  | ri + 1, hrun =>
    refine vx_calli (a := #[]) (S := ab_S) (SX := ab_S × Nat) hrun hS (fun q _ h => h) (fun q h => h) (fun q _ h => h) (fun E ce q9 u t H1 locs1 ht _ hpx hB _ _ hS1 hce hcv1 hcl1 => ab_kx hout hlocks ht hpx hB hS1 hce hcv1 hcl1 hkK) (fun r u t H1 locs1 ht _ hp hB _ _ hS1 => ?_)
    have h1 := hp H1 locs1 ls hn (ab_oks_cons ob trivial) hol (by rw [← ht]; exact hB) hS1 hl
    rw [Nat.mul_add] at h1
    exact h1
theorem ab_ofx {y : MethodName} {ws : List Cond} {rm : Room} {Pc : Array Value → State → Prop} {Qc : Array Value → State → Outcome → State → Prop} {XC : String → State → State → Prop} {mc ms : Nat} {free : Addr → Prop} (hM : vx_Met l y ws rm Pc Qc XC mc ms free) (hX : ∀ E st t, ¬ XC E st t) : Met l y ws rm Pc Qc mc ms free := by
  intro p e ha hc hk s m args below hf happ hP hK
  obtain ⟨n, o, h1, h2, h3, hQ⟩ := hM p e ha hc hk s m args below hf happ hP hK
  refine ⟨n, o, h1, h2, h3, ?_⟩
  rcases hQ with h | ⟨q, ho, E, ce, L, hx, -⟩
  · exact h
  · exact (hX _ _ _ hx).elim
theorem so_invn (hx : p.tables.exec = Jvm.exec) (hb : c.code = ab_cc M) (hml : c.maxLocals = nL) (hown : s.vm.findClass own = some m.cls) (hts : ∀ w ∈ Ts, w.before args s = true) (hKn : ab_Kn D ad base cy sa s) (hbs : base ≤ s.heap.size) (hRK : ab_K M ≤ R.cells ∧ 6 * ab_K M ≤ R.slots)
    (hcn : ∀ idx rc n ri kc τ, ab_cn M idx = some (rc, n, ri, kc, τ) → ab_nok l own Ts R idx n ri kc τ) : ab_c_invn M Q (ab_GE p l e R s m args below meth c D ad base cy nL ri0 Q (ab_K M)) := by
  intro pc L as rest S k idx rc n ri kc τ hd hc hlen h8 hkK hτ H locs ls hn ho hol hP hS hl
  obtain ⟨hnst, bytes, maxL, ret, ws, ws', rm, hso, hG, hini, hsta, hw, hcel, hslo, hnm, hRm⟩ := hcn idx rc n ri kc τ hc
  obtain ⟨oa, ob⟩ := ab_oks_rev ho
  have hM := ab_ofx (hso D ad base cy sa as S _ hτ) (fun E st t h => by obtain ⟨u, hu, -⟩ := h; exact hu)
  have hst : (as.reverse ++ rest).map (ab_val ad) = (as.map (ab_val ad)).reverse ++ rest.map (ab_val ad) := by simp
  rw [hst]
  have hrun := va_runSN (H := H) (locs := locs) (cells := k) (slots := 6 * k) (below := below) (e := e) (meth := meth) (As := as.map (ab_val ad)) (rest := rest.map (ab_val ad)) (g := F0 m pc ls ((as.map (ab_val ad)).reverse ++ rest.map (ab_val ad))) ⟨hx, hb, hml, hown, hts⟩ hM ⟨va_cnB n hts hG hw rfl rfl (hKn.2.2.1 _ hnst) (hts _ hini) hnm hRm, hts _ hsta, trivial⟩
    ⟨ab_blind _ _ _ _ _ _ _, fun U hU hW => ⟨rfl, oa, by rw [hU]; exact Nat.le_trans hbs hS.1, by rw [hU]; exact hP, ab_Kn.warm hW (by rw [hU]; exact hS.2.1) hKn⟩⟩
    rfl (by rw [List.length_map]; exact hlen) hl.1 rfl (lv_room (by rw [ab_cats]; exact h8)) hd (by rw [hcel, hslo]; omega)
  rw [hcel, hslo] at hrun
  match ri, hrun with
  | 0, hrun =>
    refine va_callv (a := #[]) (S := ab_S) hrun hS (fun q _ h => h) (fun q h => h) (fun u t H1 locs1 ht _ hp hB _ _ hS1 => ?_)
    have h1 := hp H1 locs1 ls hn ob hol (by rw [← ht]; exact hB) hS1 hl
    rw [Nat.mul_add] at h1
    exact h1
  | ri + 1, hrun =>
    refine va_calli (a := #[]) (S := ab_S) hrun hS (fun q _ h => h) (fun q h => h) (fun r u t H1 locs1 ht _ hp hB _ _ hS1 => ?_)
    have h1 := hp H1 locs1 ls hn (ab_oks_cons ob trivial) hol (by rw [← ht]; exact hB) hS1 hl
    rw [Nat.mul_add] at h1
    exact h1
/-- what a method returns by its number -/
def ab_rt : Nat → Option FieldType
  | 0 => none
  | 1 => some .int
  | _ => some .boolean
theorem so_ireturn (hx : p.tables.exec = Jvm.exec) (hb : c.code = ab_cc M) (hr : meth.sig.returnType = ab_rt (ab_rk M)) (hri : ab_rk M ≠ 0 → ri0 = 1) (hlocks : meth.locks = false) : ab_c_ireturn M Q (ab_GE p l e R s m args below meth c D ad base cy nL ri0 Q (ab_K M)) := by
  intro pc L S k x hd hrk hk hq H locs ls hn ho hol hP hS hl
  refine vx_ret (W.widen (n := 6 * ab_K M) hk (by omega) ?_)
  have h1 : ri0 = 1 := hri (by omega)
  subst h1
  obtain ⟨ty, hty, hnr⟩ : ∃ ty, ab_rt (ab_rk M) = some ty ∧ narrow ty (.int x) = .int x := by
    rcases hrk with h | ⟨h, h0⟩
    · exact ⟨.int, by rw [h]; rfl, rfl⟩
    · refine ⟨.boolean, by rw [h]; rfl, ?_⟩
      rcases h0 with rfl | rfl <;> decide +kernel
  refine W.zret hx hb (hr.trans hty) hnr ?_ (fun q hq => hS.2.2 q hq) hd hlocks
  intro t ht hW
  refine ⟨⟨x, S, rfl, hq, ?_⟩, hS.F ht⟩
  show va_P D vwCl _ t.heap
  rw [ht]
  exact hP
theorem so_return_ (hx : p.tables.exec = Jvm.exec) (hb : c.code = ab_cc M) (hr : meth.sig.returnType = ab_rt (ab_rk M)) (hri : ab_rk M = 0 → ri0 = 0) (hlocks : meth.locks = false) : ab_c_return_ M Q (ab_GE p l e R s m args below meth c D ad base cy nL ri0 Q (ab_K M)) := by
  intro pc L S k hd hrk hk hq H locs ls hn ho hol hP hS hl
  refine vx_ret (W.widen (n := 6 * ab_K M) hk (by omega) ?_)
  have h1 : ri0 = 0 := hri hrk
  subst h1
  refine W.vret hx hb (by rw [hr, hrk]; rfl) ?_ (fun q hq => hS.2.2 q hq) hd hlocks
  intro t ht hW
  refine ⟨⟨S, rfl, hq, ?_⟩, hS.F ht⟩
  show va_P D vwCl _ t.heap
  rw [ht]
  exact hP
theorem so_throw (hx : p.tables.exec = Jvm.exec) (hb : c.code = ab_cc M) (hml : c.maxLocals = nL) (hlt : ab_th M = (fun _ => none) ∨ l.stackTraces = false) (hown : s.vm.findClass own = some m.cls) (hts : ∀ w ∈ Ts, w.before args s = true) (hKn : ab_Kn D ad base cy sa s) (hout : ∀ x ∈ c.exceptionTable.toList, False) (hlocks : meth.locks = false) (hRK : ab_K M ≤ R.cells ∧ 6 * ab_K M ≤ R.slots)
    (hth : ∀ pc E, ab_th M pc = some E → ab_thok own Ts R (ab_cc M) pc E) : ab_c_throw M Q (ab_GE p l e R s m args below meth c D ad base cy nL ri0 Q (ab_K M)) := by
  intro pc L st S k E hE h8 hk hq H locs ls hn ho hol hP hS hl
  have hlt : l.stackTraces = false := by
    rcases hlt with h | h
    · rw [h] at hE; cases hE
    · exact h
  obtain ⟨ik, is, ic, text, names, hO, hstr, hf1, hf2, w1, w2, w3, w4, hg, d0, d3, d4, d6, d9, r1, r2⟩ := hth pc E hE
  subst hO
  have hnw := hKn.nw (args := args)
  obtain ⟨-, -, -, hstrs, hU, hN, -⟩ := hKn
  refine vx_throwS (XC := ab_Xc D ad base cy Q) hx hb hlt hown hf1 hf2 (hts _ w1) (hts _ w2) (hstrs _ hstr) (vx_hat (fun w h => hts w (w3 w h)) w4 hnw) hg hU hN hS (hl.1.trans hml.symm) d0 d3 d4 d6 d9 (fun x hx => (hout x hx).elim) r1 (by rw [ab_cats]; omega) (by omega) (by omega) hlocks ?_ (fun z hz => hS.2.2 z hz) hk (by omega)
  intro t hal hsz hkeep
  refine ⟨(S, E), hq, ⟨rfl, ?_⟩, Nat.le_trans hS.1 hsz, fun q h1 h2 => (hkeep q (Nat.lt_of_lt_of_le h1 hS.1)).trans (hS.2.1 q h1 h2)⟩
  exact hP.kept (fun kk q hq => hkeep q.1 (hP kk q hq).lt)
end ABC
end
section
/-! The rows together; a method's contract. -/
/-- what is to be looked up of a method once: its fields, its callees, its throws -/
def ab_Ok (l : Launch) (own : String) (Ts : List Cond) (R : Room) (ri0 : Nat) (M : ab_M) : Prop :=
  ((ab_rk M ≠ 0 → ri0 = 1) ∧ (ab_rk M = 0 → ri0 = 0)) ∧ (ab_th M = (fun _ => none) ∨ l.stackTraces = false) ∧ (∀ t ∈ ab_fl M, ab_flok own Ts t) ∧ (∀ t ∈ ab_pl M, ab_plok own Ts t) ∧ (∀ t ∈ ab_kn M, Jvm.Cond.constant own t.1 t.2 ∈ Ts) ∧
  (∀ idx rc n ri kc τ, ab_cv M idx = some (rc, n, ri, kc, τ) → ab_vok l own Ts R idx rc n ri kc τ) ∧ (∀ idx rc n ri kc τ, ab_cs M idx = some (rc, n, ri, kc, τ) → ab_tok l own Ts R idx n ri kc τ) ∧ (∀ idx rc n ri kc τ, ab_cn M idx = some (rc, n, ri, kc, τ) → ab_nok l own Ts R idx n ri kc τ) ∧
  (∀ idx ∈ ab_mn M, (Cond.methodLink own idx Lib.Math.min.name ∈ Ts ∧ Cond.static Lib.Math.min.name ∈ Ts ∧ Cond.initialized "java/lang/Math" ∈ Ts ∧ Cond.code Lib.Math.min.name Lib.Math.min.code 2 (some .int) ∈ Ts) ∧ 1 ≤ R.frames ∧ 21 ≤ R.locals) ∧
  (∀ idx ∈ ab_ac M, (Cond.methodLink own idx arraycopyName ∈ Ts ∧ Cond.native arraycopyName ∈ Ts ∧ Cond.static arraycopyName ∈ Ts ∧ Cond.initialized "java/lang/System" ∈ Ts) ∧ 1 ≤ R.frames ∧ 8 + (nativeFrameWords "java/lang/System" "arraycopy" 5 + 11) ≤ R.locals) ∧
  (∀ pc E, ab_th M pc = some E → ab_thok own Ts R (ab_cc M) pc E) ∧ ab_K M ≤ R.cells ∧ 6 * ab_K M ≤ R.slots
theorem ab_closed {p : Program} {l : Launch} {e : Env} {R : Room} {s : State} {m : MethodId} {args : Array Value} {below : List Frame} {meth : Method} {c : Code} {D : va_G} {ad : ab_Ob → Nat} {base : Nat} {cy : Nat → ClassId} {sa : Nat → Nat} {own : String} {Ts : List Cond} {M : ab_M} {Q : ab_Po} {nL ri0 : Nat}
    (hok : ab_Ok l own Ts R ri0 M) (hx : p.tables.exec = Jvm.exec) (hb : c.code = ab_cc M) (hml : c.maxLocals = nL) (hr : meth.sig.returnType = ab_rt (ab_rk M)) (hown : s.vm.findClass own = some m.cls) (hts : ∀ w ∈ Ts, w.before args s = true) (hKn : ab_Kn D ad base cy sa s) (hbs : base ≤ s.heap.size) (hout : ∀ x ∈ c.exceptionTable.toList, False) (hlocks : meth.locks = false) :
    ab_Cl M Q (ab_GE p l e R s m args below meth c D ad base cy nL ri0 Q (ab_K M)) := by
  obtain ⟨hri, hlt, hfl, hpl, hkn, hcv, hcs, hcn, hmn, hac, hth, hRK⟩ := hok
  exact ⟨so_iload_n hx hb, so_iload hx hb, so_aload_n hx hb, so_aload hx hb, so_istore_n hx hb, so_istore hx hb, so_astore_n hx hb, so_astore hx hb, so_iinc hx hb, so_iconst hx hb, so_bipush hx hb, so_sipush hx hb, so_ldc_w hx hb hown (fun t ht => hts _ (hkn t ht)), so_iadd hx hb, so_isub hx hb, so_imul hx hb, so_iand hx hb, so_ior hx hb, so_ishl hx hb, so_ishr hx hb, so_iushr hx hb, so_dup hx hb, so_pop hx hb, so_if_eq hx hb, so_icmp_eq hx hb, so_if_ne hx hb, so_icmp_ne hx hb, so_if_lt hx hb, so_icmp_lt hx hb, so_if_ge hx hb, so_icmp_ge hx hb, so_if_gt hx hb, so_icmp_gt hx hb, so_if_le hx hb, so_icmp_le hx hb, so_goto hx hb, so_swO hx hb, so_swI hx hb, so_ireturn hx hb hr hri.1 hlocks, so_return_ hx hb hr hri.2 hlocks, so_getfield hx hb hown hts hKn.1 hfl, so_putfield hx hb hown hts hKn.1 hKn.2.1 hpl, so_iaload hx hb hKn.1, so_baload hx hb hKn.1, so_iastore hx hb hKn.1 hKn.2.1, so_bastore hx hb hKn.1 hKn.2.1, so_aaload2 hx hb hKn.1, so_aaload3 hx hb hKn.1, so_alen hx hb hKn.1, so_invv hx hb hml hown hts hKn hbs hout hlocks hRK hcv, so_invs hx hb hml hown hts hKn hbs hout hlocks hRK hcs, so_invn hx hb hml hown hts hKn hbs hRK hcn, so_min hx hb hml hown hts hmn hRK, so_acopy hx hb hml hown hts hKn.1 hKn.2.1 hac, so_throw hx hb hml hlt hown hts hKn hout hlocks hRK hth⟩
theorem ab_sound {l : Launch} {y : MethodName} {ws ws' : List Cond} {rm : Room} {maxL ri0 : Nat} {M : ab_M} (hy : plainName y.cls = true) (hw : ws = Cond.code y (ab_cc M) maxL (ab_rt (ab_rk M)) :: ws') (hrc : rm.cells = ab_K M) (hrs : rm.slots = 6 * ab_K M)
    (hok : ab_Ok l y.cls ws rm ri0 M) : ab_Sound l y ws rm ri0 (ab_Sem M maxL) := by
  intro D ad base cy sa vs S Q hs
  obtain ⟨hlen, hsem⟩ := hs
  rw [hrc, hrs]
  refine vx_ofW hy hw ?_
  intro p e s m args below meth c s₁ B hml hout hv
  obtain ⟨rfl, hoks, hbs, hP, hKn⟩ := hv
  have hts := atoms_spec (ws := ws) B.pre
  have hown : s.vm.findClass y.cls = some m.cls := findClass_of_methodNamed B.named
  have hcl : ab_Cl M Q (ab_GE p l e (headSpec ws rm).room s m _ below meth c D ad base cy maxL ri0 Q (ab_K M)) := ab_closed hok B.exec B.bytes hml B.returns hown hts hKn hbs hout B.notSynchronized
  have h := hsem _ hcl
  have hl := lv_entry (vs.map (ab_val ad)) (n := maxL) (by rw [ab_sl]; exact hlen)
  rw [lg_entry_eq]
  exact h s.heap [] _ (by simp; omega) (fun _ h => by cases h) (ab_okl_entry hoks _) hP va_S.rf (ab_entry hl _)
end
