theorem dX6_child_38 : decode cX6_child 38 = .ok (.aload_n 0, 1) := by decide +kernel
theorem dX6_child_39 : decode cX6_child 39 = .ok (.getfield 82, 3) := by decide +kernel
theorem dX6_child_42 : decode cX6_child 42 = .ok (.ifCond .ne 14, 3) := by decide +kernel
theorem dX6_child_45 : decode cX6_child 45 = .ok (.aload_n 0, 1) := by decide +kernel
theorem dX6_child_46 : decode cX6_child 46 = .ok (.bipush 12, 2) := by decide +kernel
theorem dX6_child_48 : decode cX6_child 48 = .ok (.iload_n 1, 1) := by decide +kernel
theorem dX6_child_49 : decode cX6_child 49 = .ok (.iload_n 2, 1) := by decide +kernel
theorem dX6_child_50 : decode cX6_child 50 = .ok (.invokevirtual 103, 3) := by decide +kernel
theorem dX6_child_53 : decode cX6_child 53 = .ok (.goto 4, 3) := by decide +kernel
theorem dX6_child_56 : decode cX6_child 56 = .ok (.iconst 0, 1) := by decide +kernel
theorem dX6_child_57 : decode cX6_child 57 = .ok (.ireturn, 1) := by decide +kernel
set_option maxRecDepth 20000 in
theorem ggX6_nodes_X6_walk : GoodIn wsX6_nodes wsX6_walk := goodIn_r _ [8, 3, 9, 10, 11, 12, 13, 14, 7, 15, 16, 17, 18, 19, 20, 21, 22, 23, 24, 25, 26, 27, 28, 29, 30, 31, 32, 33, 34, 35, 36, 37, 38, 39, 40, 41, 42, 43, 44, 45, 46, 47, 48, 49, 50, 51, 52, 53] (by decide +kernel) (by decide +kernel)
set_option maxRecDepth 20000 in
theorem gX6_nodes_X6_walk : GoodIn wsX6_nodes (wsV RX6 114 RX6 yX6_walk wsX6_walk) := goodIn_app (goodIn_of _ (by decide +kernel)) ggX6_nodes_X6_walk
theorem dX6_nodes_0 : decode cX6_nodes 0 = .ok (.aload_n 0, 1) := by decide +kernel
theorem dX6_nodes_1 : decode cX6_nodes 1 = .ok (.iconst 0, 1) := by decide +kernel
theorem dX6_nodes_2 : decode cX6_nodes 2 = .ok (.putfield 82, 3) := by decide +kernel
theorem dX6_nodes_5 : decode cX6_nodes 5 = .ok (.aload_n 0, 1) := by decide +kernel
theorem dX6_nodes_6 : decode cX6_nodes 6 = .ok (.bipush 12, 2) := by decide +kernel
theorem dX6_nodes_8 : decode cX6_nodes 8 = .ok (.invokevirtual 114, 3) := by decide +kernel
theorem dX6_nodes_11 : decode cX6_nodes 11 = .ok (.iload_n 1, 1) := by decide +kernel
theorem dX6_nodes_12 : decode cX6_nodes 12 = .ok (.ifCond .eq 10, 3) := by decide +kernel
theorem dX6_nodes_15 : decode cX6_nodes 15 = .ok (.aload_n 0, 1) := by decide +kernel
theorem dX6_nodes_16 : decode cX6_nodes 16 = .ok (.getfield 23, 3) := by decide +kernel
theorem dX6_nodes_19 : decode cX6_nodes 19 = .ok (.goto 7, 3) := by decide +kernel
theorem dX6_nodes_22 : decode cX6_nodes 22 = .ok (.aload_n 0, 1) := by decide +kernel
theorem dX6_nodes_23 : decode cX6_nodes 23 = .ok (.getfield 93, 3) := by decide +kernel
theorem dX6_nodes_26 : decode cX6_nodes 26 = .ok (.ireturn, 1) := by decide +kernel
set_option maxRecDepth 20000 in
theorem ggX6_isFound_X6_isAt : GoodIn wsX6_isFound wsX6_isAt := goodIn_r _ [7, 1, 8, 9, 10, 11, 12, 13, 14, 15, 16, 17, 18, 19, 20, 21, 22, 23, 24, 25, 26, 27, 28, 29, 30, 31, 32, 33, 34] (by decide +kernel) (by decide +kernel)
set_option maxRecDepth 20000 in
theorem gX6_isFound_X6_isAt : GoodIn wsX6_isFound (wsV RX6 121 RX6 yX6_isAt wsX6_isAt) := goodIn_app (goodIn_of _ (by decide +kernel)) ggX6_isFound_X6_isAt
theorem dX6_isFound_0 : decode cX6_isFound 0 = .ok (.aload_n 0, 1) := by decide +kernel
theorem dX6_isFound_1 : decode cX6_isFound 1 = .ok (.getfield 17, 3) := by decide +kernel
theorem dX6_isFound_4 : decode cX6_isFound 4 = .ok (.sipush 288, 3) := by decide +kernel
theorem dX6_isFound_7 : decode cX6_isFound 7 = .ok (.iload_n 1, 1) := by decide +kernel
theorem dX6_isFound_8 : decode cX6_isFound 8 = .ok (.iadd, 1) := by decide +kernel
theorem dX6_isFound_9 : decode cX6_isFound 9 = .ok (.iaload, 1) := by decide +kernel
theorem dX6_isFound_10 : decode cX6_isFound 10 = .ok (.istore 4, 2) := by decide +kernel
theorem dX6_isFound_12 : decode cX6_isFound 12 = .ok (.iload 4, 2) := by decide +kernel
theorem dX6_isFound_14 : decode cX6_isFound 14 = .ok (.ifCond .ge 5, 3) := by decide +kernel
theorem dX6_isFound_17 : decode cX6_isFound 17 = .ok (.iconst 0, 1) := by decide +kernel
theorem dX6_isFound_18 : decode cX6_isFound 18 = .ok (.ireturn, 1) := by decide +kernel
theorem dX6_isFound_19 : decode cX6_isFound 19 = .ok (.iload_n 2, 1) := by decide +kernel
theorem dX6_isFound_20 : decode cX6_isFound 20 = .ok (.iconst 1, 1) := by decide +kernel
theorem dX6_isFound_21 : decode cX6_isFound 21 = .ok (.if_icmp .ne 19, 3) := by decide +kernel
theorem dX6_isFound_24 : decode cX6_isFound 24 = .ok (.iload_n 3, 1) := by decide +kernel
theorem dX6_isFound_25 : decode cX6_isFound 25 = .ok (.iload 4, 2) := by decide +kernel
theorem dX6_isFound_27 : decode cX6_isFound 27 = .ok (.ishr, 1) := by decide +kernel
theorem dX6_isFound_28 : decode cX6_isFound 28 = .ok (.iconst 1, 1) := by decide +kernel
theorem dX6_isFound_29 : decode cX6_isFound 29 = .ok (.iand, 1) := by decide +kernel
theorem dX6_isFound_30 : decode cX6_isFound 30 = .ok (.iconst 1, 1) := by decide +kernel
theorem dX6_isFound_31 : decode cX6_isFound 31 = .ok (.if_icmp .ne 7, 3) := by decide +kernel
theorem dX6_isFound_34 : decode cX6_isFound 34 = .ok (.iconst 1, 1) := by decide +kernel
theorem dX6_isFound_35 : decode cX6_isFound 35 = .ok (.goto 4, 3) := by decide +kernel
theorem dX6_isFound_38 : decode cX6_isFound 38 = .ok (.iconst 0, 1) := by decide +kernel
theorem dX6_isFound_39 : decode cX6_isFound 39 = .ok (.ireturn, 1) := by decide +kernel
theorem dX6_isFound_40 : decode cX6_isFound 40 = .ok (.iconst 0, 1) := by decide +kernel
theorem dX6_isFound_41 : decode cX6_isFound 41 = .ok (.istore 5, 2) := by decide +kernel
theorem dX6_isFound_43 : decode cX6_isFound 43 = .ok (.iconst 0, 1) := by decide +kernel
theorem dX6_isFound_44 : decode cX6_isFound 44 = .ok (.istore 6, 2) := by decide +kernel
theorem dX6_isFound_46 : decode cX6_isFound 46 = .ok (.iload 6, 2) := by decide +kernel
theorem dX6_isFound_48 : decode cX6_isFound 48 = .ok (.bipush 24, 2) := by decide +kernel
theorem dX6_isFound_50 : decode cX6_isFound 50 = .ok (.if_icmp .ge 109, 3) := by decide +kernel
theorem dX6_isFound_53 : decode cX6_isFound 53 = .ok (.iload_n 3, 1) := by decide +kernel
theorem dX6_isFound_54 : decode cX6_isFound 54 = .ok (.iload 6, 2) := by decide +kernel
theorem dX6_isFound_56 : decode cX6_isFound 56 = .ok (.ishr, 1) := by decide +kernel
theorem dX6_isFound_57 : decode cX6_isFound 57 = .ok (.iconst 1, 1) := by decide +kernel
theorem dX6_isFound_58 : decode cX6_isFound 58 = .ok (.iand, 1) := by decide +kernel
theorem dX6_isFound_59 : decode cX6_isFound 59 = .ok (.iconst 1, 1) := by decide +kernel
theorem dX6_isFound_60 : decode cX6_isFound 60 = .ok (.if_icmp .ne 7, 3) := by decide +kernel
theorem dX6_isFound_63 : decode cX6_isFound 63 = .ok (.iconst 1, 1) := by decide +kernel
theorem dX6_isFound_64 : decode cX6_isFound 64 = .ok (.goto 4, 3) := by decide +kernel
theorem dX6_isFound_67 : decode cX6_isFound 67 = .ok (.iconst 0, 1) := by decide +kernel
theorem dX6_isFound_68 : decode cX6_isFound 68 = .ok (.istore 7, 2) := by decide +kernel
theorem dX6_isFound_70 : decode cX6_isFound 70 = .ok (.iload 5, 2) := by decide +kernel
theorem dX6_isFound_72 : decode cX6_isFound 72 = .ok (.ifCond .ne 74, 3) := by decide +kernel
theorem dX6_isFound_75 : decode cX6_isFound 75 = .ok (.iload 7, 2) := by decide +kernel
theorem dX6_isFound_77 : decode cX6_isFound 77 = .ok (.ifCond .eq 73, 3) := by decide +kernel
theorem dX6_isFound_80 : decode cX6_isFound 80 = .ok (.iload_n 2, 1) := by decide +kernel
theorem dX6_isFound_81 : decode cX6_isFound 81 = .ok (.iconst 2, 1) := by decide +kernel
theorem dX6_isFound_82 : decode cX6_isFound 82 = .ok (.if_icmp .ne 24, 3) := by decide +kernel
theorem dX6_isFound_85 : decode cX6_isFound 85 = .ok (.iload 6, 2) := by decide +kernel
theorem dX6_isFound_87 : decode cX6_isFound 87 = .ok (.iload_n 1, 1) := by decide +kernel
theorem dX6_isFound_88 : decode cX6_isFound 88 = .ok (.if_icmp .eq 62, 3) := by decide +kernel
theorem dX6_isFound_91 : decode cX6_isFound 91 = .ok (.aload_n 0, 1) := by decide +kernel
theorem dX6_isFound_92 : decode cX6_isFound 92 = .ok (.bipush 12, 2) := by decide +kernel
theorem dX6_isFound_94 : decode cX6_isFound 94 = .ok (.iload_n 1, 1) := by decide +kernel
theorem dX6_isFound_95 : decode cX6_isFound 95 = .ok (.iload 6, 2) := by decide +kernel
theorem dX6_isFound_97 : decode cX6_isFound 97 = .ok (.invokevirtual 121, 3) := by decide +kernel
theorem dX6_isFound_100 : decode cX6_isFound 100 = .ok (.ifCond .eq 50, 3) := by decide +kernel
theorem dX6_isFound_103 : decode cX6_isFound 103 = .ok (.goto 43, 3) := by decide +kernel
theorem dX6_isFound_106 : decode cX6_isFound 106 = .ok (.aload_n 0, 1) := by decide +kernel
theorem dX6_isFound_107 : decode cX6_isFound 107 = .ok (.getfield 17, 3) := by decide +kernel
theorem dX6_isFound_110 : decode cX6_isFound 110 = .ok (.sipush 288, 3) := by decide +kernel
theorem dX6_isFound_113 : decode cX6_isFound 113 = .ok (.iload 6, 2) := by decide +kernel
theorem dX6_isFound_115 : decode cX6_isFound 115 = .ok (.iadd, 1) := by decide +kernel
theorem dX6_isFound_116 : decode cX6_isFound 116 = .ok (.iaload, 1) := by decide +kernel
theorem dX6_isFound_117 : decode cX6_isFound 117 = .ok (.iload 4, 2) := by decide +kernel
theorem dX6_isFound_119 : decode cX6_isFound 119 = .ok (.if_icmp .ne 31, 3) := by decide +kernel
theorem dX6_isFound_122 : decode cX6_isFound 122 = .ok (.aload_n 0, 1) := by decide +kernel
theorem dX6_isFound_123 : decode cX6_isFound 123 = .ok (.getfield 20, 3) := by decide +kernel
theorem dX6_isFound_126 : decode cX6_isFound 126 = .ok (.sipush 288, 3) := by decide +kernel
theorem dX6_isFound_129 : decode cX6_isFound 129 = .ok (.iload 6, 2) := by decide +kernel
theorem dX6_isFound_131 : decode cX6_isFound 131 = .ok (.iadd, 1) := by decide +kernel
theorem dX6_isFound_132 : decode cX6_isFound 132 = .ok (.iaload, 1) := by decide +kernel
theorem dX6_isFound_133 : decode cX6_isFound 133 = .ok (.aload_n 0, 1) := by decide +kernel
theorem dX6_isFound_134 : decode cX6_isFound 134 = .ok (.getfield 20, 3) := by decide +kernel
theorem dX6_isFound_137 : decode cX6_isFound 137 = .ok (.sipush 288, 3) := by decide +kernel
theorem dX6_isFound_140 : decode cX6_isFound 140 = .ok (.iload_n 1, 1) := by decide +kernel
theorem dX6_isFound_141 : decode cX6_isFound 141 = .ok (.iadd, 1) := by decide +kernel
theorem dX6_isFound_142 : decode cX6_isFound 142 = .ok (.iaload, 1) := by decide +kernel
theorem dX6_isFound_143 : decode cX6_isFound 143 = .ok (.if_icmp .ge 7, 3) := by decide +kernel
theorem dX6_isFound_146 : decode cX6_isFound 146 = .ok (.iconst 1, 1) := by decide +kernel
theorem dX6_isFound_147 : decode cX6_isFound 147 = .ok (.goto 4, 3) := by decide +kernel
theorem dX6_isFound_150 : decode cX6_isFound 150 = .ok (.iconst 0, 1) := by decide +kernel
theorem dX6_isFound_151 : decode cX6_isFound 151 = .ok (.istore 5, 2) := by decide +kernel
theorem dX6_isFound_153 : decode cX6_isFound 153 = .ok (.iinc 6 1, 3) := by decide +kernel
theorem dX6_isFound_156 : decode cX6_isFound 156 = .ok (.goto (-110), 3) := by decide +kernel
theorem dX6_isFound_159 : decode cX6_isFound 159 = .ok (.iload 5, 2) := by decide +kernel
theorem dX6_isFound_161 : decode cX6_isFound 161 = .ok (.ireturn, 1) := by decide +kernel
set_option maxRecDepth 20000 in
theorem ggX6_found_X6_isFound : GoodIn wsX6_found wsX6_isFound := goodIn_r _ [7, 8, 9, 10, 11, 12, 6, 13, 14, 15, 16, 17, 18, 19, 20, 21, 22, 23, 24, 25, 26, 27, 28, 29, 30, 31, 32, 33, 34, 35, 36, 37, 38, 39, 40] (by decide +kernel) (by decide +kernel)
set_option maxRecDepth 20000 in
theorem gX6_found_X6_isFound : GoodIn wsX6_found (wsV RX6 175 RX6 yX6_isFound wsX6_isFound) := goodIn_app (goodIn_of _ (by decide +kernel)) ggX6_found_X6_isFound
theorem dX6_found_0 : decode cX6_found 0 = .ok (.iconst 1, 1) := by decide +kernel
theorem dX6_found_1 : decode cX6_found 1 = .ok (.istore_n 2, 1) := by decide +kernel
theorem dX6_found_2 : decode cX6_found 2 = .ok (.iconst 0, 1) := by decide +kernel
theorem dX6_found_3 : decode cX6_found 3 = .ok (.istore_n 3, 1) := by decide +kernel
theorem dX6_found_4 : decode cX6_found 4 = .ok (.iload_n 3, 1) := by decide +kernel
theorem dX6_found_5 : decode cX6_found 5 = .ok (.bipush 6, 2) := by decide +kernel
theorem dX6_found_7 : decode cX6_found 7 = .ok (.if_icmp .ge 136, 3) := by decide +kernel
theorem dX6_found_10 : decode cX6_found 10 = .ok (.iload_n 1, 1) := by decide +kernel
theorem dX6_found_11 : decode cX6_found 11 = .ok (.iconst 5, 1) := by decide +kernel
theorem dX6_found_12 : decode cX6_found 12 = .ok (.iload_n 3, 1) := by decide +kernel
theorem dX6_found_13 : decode cX6_found 13 = .ok (.imul, 1) := by decide +kernel
theorem dX6_found_14 : decode cX6_found 14 = .ok (.ishr, 1) := by decide +kernel
theorem dX6_found_15 : decode cX6_found 15 = .ok (.iconst 3, 1) := by decide +kernel
theorem dX6_found_16 : decode cX6_found 16 = .ok (.iand, 1) := by decide +kernel
theorem dX6_found_17 : decode cX6_found 17 = .ok (.ifCond .eq 126, 3) := by decide +kernel
theorem dX6_found_20 : decode cX6_found 20 = .ok (.iload_n 1, 1) := by decide +kernel
theorem dX6_found_21 : decode cX6_found 21 = .ok (.iconst 5, 1) := by decide +kernel
theorem dX6_found_22 : decode cX6_found 22 = .ok (.iload_n 3, 1) := by decide +kernel
theorem dX6_found_23 : decode cX6_found 23 = .ok (.imul, 1) := by decide +kernel
theorem dX6_found_24 : decode cX6_found 24 = .ok (.ishr, 1) := by decide +kernel
theorem dX6_found_25 : decode cX6_found 25 = .ok (.iconst 3, 1) := by decide +kernel
theorem dX6_found_26 : decode cX6_found 26 = .ok (.iand, 1) := by decide +kernel
theorem dX6_found_27 : decode cX6_found 27 = .ok (.istore 4, 2) := by decide +kernel
theorem dX6_found_29 : decode cX6_found 29 = .ok (.iload_n 1, 1) := by decide +kernel
theorem dX6_found_30 : decode cX6_found 30 = .ok (.iconst 5, 1) := by decide +kernel
theorem dX6_found_31 : decode cX6_found 31 = .ok (.iload_n 3, 1) := by decide +kernel
theorem dX6_found_32 : decode cX6_found 32 = .ok (.imul, 1) := by decide +kernel
theorem dX6_found_33 : decode cX6_found 33 = .ok (.iconst 2, 1) := by decide +kernel
theorem dX6_found_34 : decode cX6_found 34 = .ok (.iadd, 1) := by decide +kernel
theorem dX6_found_35 : decode cX6_found 35 = .ok (.ishr, 1) := by decide +kernel
theorem dX6_found_36 : decode cX6_found 36 = .ok (.bipush 7, 2) := by decide +kernel
theorem dX6_found_38 : decode cX6_found 38 = .ok (.iand, 1) := by decide +kernel
theorem dX6_found_39 : decode cX6_found 39 = .ok (.istore 5, 2) := by decide +kernel
theorem dX6_found_41 : decode cX6_found 41 = .ok (.iconst 0, 1) := by decide +kernel
theorem dX6_found_42 : decode cX6_found 42 = .ok (.istore 6, 2) := by decide +kernel
theorem dX6_found_44 : decode cX6_found 44 = .ok (.iconst 0, 1) := by decide +kernel
theorem dX6_found_45 : decode cX6_found 45 = .ok (.istore 7, 2) := by decide +kernel
theorem dX6_found_47 : decode cX6_found 47 = .ok (.iload 7, 2) := by decide +kernel
theorem dX6_found_49 : decode cX6_found 49 = .ok (.bipush 24, 2) := by decide +kernel
theorem dX6_found_51 : decode cX6_found 51 = .ok (.if_icmp .ge 83, 3) := by decide +kernel
theorem dX6_found_54 : decode cX6_found 54 = .ok (.aload_n 0, 1) := by decide +kernel
theorem dX6_found_55 : decode cX6_found 55 = .ok (.getfield 7, 3) := by decide +kernel
theorem dX6_found_58 : decode cX6_found 58 = .ok (.sipush 288, 3) := by decide +kernel
theorem dX6_found_61 : decode cX6_found 61 = .ok (.iload 7, 2) := by decide +kernel
theorem dX6_found_63 : decode cX6_found 63 = .ok (.iadd, 1) := by decide +kernel
theorem dX6_found_64 : decode cX6_found 64 = .ok (.baload, 1) := by decide +kernel
theorem dX6_found_65 : decode cX6_found 65 = .ok (.ifCond .eq 29, 3) := by decide +kernel
theorem dX6_found_68 : decode cX6_found 68 = .ok (.iload 5, 2) := by decide +kernel
theorem dX6_found_70 : decode cX6_found 70 = .ok (.iconst 5, 1) := by decide +kernel
theorem dX6_found_71 : decode cX6_found 71 = .ok (.if_icmp .gt 19, 3) := by decide +kernel
theorem dX6_found_74 : decode cX6_found 74 = .ok (.aload_n 0, 1) := by decide +kernel
theorem dX6_found_75 : decode cX6_found 75 = .ok (.getfield 13, 3) := by decide +kernel
theorem dX6_found_78 : decode cX6_found 78 = .ok (.sipush 288, 3) := by decide +kernel
theorem dX6_found_81 : decode cX6_found 81 = .ok (.iload 7, 2) := by decide +kernel
theorem dX6_found_83 : decode cX6_found 83 = .ok (.iadd, 1) := by decide +kernel
theorem dX6_found_84 : decode cX6_found 84 = .ok (.iaload, 1) := by decide +kernel
theorem dX6_found_85 : decode cX6_found 85 = .ok (.iload 5, 2) := by decide +kernel
theorem dX6_found_87 : decode cX6_found 87 = .ok (.if_icmp .ne 7, 3) := by decide +kernel
theorem dX6_found_90 : decode cX6_found 90 = .ok (.iconst 1, 1) := by decide +kernel
theorem dX6_found_91 : decode cX6_found 91 = .ok (.goto 4, 3) := by decide +kernel
theorem dX6_found_94 : decode cX6_found 94 = .ok (.iconst 0, 1) := by decide +kernel
theorem dX6_found_95 : decode cX6_found 95 = .ok (.istore 8, 2) := by decide +kernel
theorem dX6_found_97 : decode cX6_found 97 = .ok (.iload 8, 2) := by decide +kernel
theorem dX6_found_99 : decode cX6_found 99 = .ok (.ifCond .eq 25, 3) := by decide +kernel
theorem dX6_found_102 : decode cX6_found 102 = .ok (.aload_n 0, 1) := by decide +kernel
theorem dX6_found_103 : decode cX6_found 103 = .ok (.iload 7, 2) := by decide +kernel
theorem dX6_found_105 : decode cX6_found 105 = .ok (.iload 4, 2) := by decide +kernel
theorem dX6_found_107 : decode cX6_found 107 = .ok (.iload_n 2, 1) := by decide +kernel
theorem dX6_found_108 : decode cX6_found 108 = .ok (.invokevirtual 175, 3) := by decide +kernel
theorem dX6_found_111 : decode cX6_found 111 = .ok (.ifCond .eq 13, 3) := by decide +kernel
theorem dX6_found_114 : decode cX6_found 114 = .ok (.iload 6, 2) := by decide +kernel
theorem dX6_found_116 : decode cX6_found 116 = .ok (.iconst 1, 1) := by decide +kernel
theorem dX6_found_117 : decode cX6_found 117 = .ok (.iload 7, 2) := by decide +kernel
theorem dX6_found_119 : decode cX6_found 119 = .ok (.ishl, 1) := by decide +kernel
theorem dX6_found_120 : decode cX6_found 120 = .ok (.ior, 1) := by decide +kernel
theorem dX6_found_121 : decode cX6_found 121 = .ok (.goto 5, 3) := by decide +kernel
theorem dX6_found_124 : decode cX6_found 124 = .ok (.iload 6, 2) := by decide +kernel
theorem dX6_found_126 : decode cX6_found 126 = .ok (.istore 6, 2) := by decide +kernel
theorem dX6_found_128 : decode cX6_found 128 = .ok (.iinc 7 1, 3) := by decide +kernel
theorem dX6_found_131 : decode cX6_found 131 = .ok (.goto (-84), 3) := by decide +kernel
theorem dX6_found_134 : decode cX6_found 134 = .ok (.iload 6, 2) := by decide +kernel
theorem dX6_found_136 : decode cX6_found 136 = .ok (.istore_n 2, 1) := by decide +kernel
theorem dX6_found_137 : decode cX6_found 137 = .ok (.iinc 3 1, 3) := by decide +kernel
theorem dX6_found_140 : decode cX6_found 140 = .ok (.goto (-136), 3) := by decide +kernel
theorem dX6_found_143 : decode cX6_found 143 = .ok (.iload_n 2, 1) := by decide +kernel
theorem dX6_found_144 : decode cX6_found 144 = .ok (.ireturn, 1) := by decide +kernel
set_option maxRecDepth 20000 in
theorem ggX6_count_X6_found : GoodIn wsX6_count wsX6_found := goodIn_r _ [6, 7, 8, 9, 10, 11, 5, 12, 13, 14, 15, 16, 17, 18, 19, 20, 21, 22, 23, 24, 25, 26, 27, 28, 29, 30, 31, 32, 33, 34, 35, 36, 37, 38, 39, 40, 41, 42, 43, 44, 45] (by decide +kernel) (by decide +kernel)
set_option maxRecDepth 20000 in
theorem gX6_count_X6_found : GoodIn wsX6_count (wsV RX6 178 RX6 yX6_found wsX6_found) := goodIn_app (goodIn_of _ (by decide +kernel)) ggX6_count_X6_found
theorem dX6_count_0 : decode cX6_count 0 = .ok (.aload_n 0, 1) := by decide +kernel
theorem dX6_count_1 : decode cX6_count 1 = .ok (.iconst 0, 1) := by decide +kernel
theorem dX6_count_2 : decode cX6_count 2 = .ok (.putfield 82, 3) := by decide +kernel
theorem dX6_count_5 : decode cX6_count 5 = .ok (.aload_n 0, 1) := by decide +kernel
theorem dX6_count_6 : decode cX6_count 6 = .ok (.iload_n 1, 1) := by decide +kernel
theorem dX6_count_7 : decode cX6_count 7 = .ok (.invokevirtual 178, 3) := by decide +kernel
theorem dX6_count_10 : decode cX6_count 10 = .ok (.istore_n 2, 1) := by decide +kernel
theorem dX6_count_11 : decode cX6_count 11 = .ok (.iconst 0, 1) := by decide +kernel
theorem dX6_count_12 : decode cX6_count 12 = .ok (.istore_n 3, 1) := by decide +kernel
theorem dX6_count_13 : decode cX6_count 13 = .ok (.iconst 0, 1) := by decide +kernel
theorem dX6_count_14 : decode cX6_count 14 = .ok (.istore 4, 2) := by decide +kernel
theorem dX6_count_16 : decode cX6_count 16 = .ok (.iload 4, 2) := by decide +kernel
theorem dX6_count_18 : decode cX6_count 18 = .ok (.bipush 24, 2) := by decide +kernel
theorem dX6_count_20 : decode cX6_count 20 = .ok (.if_icmp .ge 18, 3) := by decide +kernel
theorem dX6_count_23 : decode cX6_count 23 = .ok (.iload_n 3, 1) := by decide +kernel
theorem dX6_count_24 : decode cX6_count 24 = .ok (.iload_n 2, 1) := by decide +kernel
theorem dX6_count_25 : decode cX6_count 25 = .ok (.iload 4, 2) := by decide +kernel
theorem dX6_count_27 : decode cX6_count 27 = .ok (.ishr, 1) := by decide +kernel
theorem dX6_count_28 : decode cX6_count 28 = .ok (.iconst 1, 1) := by decide +kernel
theorem dX6_count_29 : decode cX6_count 29 = .ok (.iand, 1) := by decide +kernel
theorem dX6_count_30 : decode cX6_count 30 = .ok (.iadd, 1) := by decide +kernel
theorem dX6_count_31 : decode cX6_count 31 = .ok (.istore_n 3, 1) := by decide +kernel
theorem dX6_count_32 : decode cX6_count 32 = .ok (.iinc 4 1, 3) := by decide +kernel
theorem dX6_count_35 : decode cX6_count 35 = .ok (.goto (-19), 3) := by decide +kernel
theorem dX6_count_38 : decode cX6_count 38 = .ok (.iload_n 3, 1) := by decide +kernel
theorem dX6_count_39 : decode cX6_count 39 = .ok (.ireturn, 1) := by decide +kernel
set_option maxRecDepth 20000 in
theorem ggX6_find_X6_found : GoodIn wsX6_find wsX6_found := goodIn_r _ [8, 9, 10, 11, 12, 13, 7, 14, 15, 16, 17, 18, 19, 20, 43, 44, 45, 46, 47, 48, 49, 50, 51, 52, 53, 54, 55, 56, 57, 58, 59, 60, 61, 62, 63, 64, 65, 66, 67, 68, 69] (by decide +kernel) (by decide +kernel)
set_option maxRecDepth 20000 in
theorem gX6_find_X6_found : GoodIn wsX6_find (wsV RX6 178 RX6 yX6_found wsX6_found) := goodIn_app (goodIn_of _ (by decide +kernel)) ggX6_find_X6_found
set_option maxRecDepth 20000 in
theorem ggX6_find_X6_walk : GoodIn wsX6_find wsX6_walk := goodIn_r _ [24, 2, 25, 26, 3, 27, 28, 29, 7, 30, 31, 32, 33, 34, 9, 15, 35, 36, 37, 38, 16, 43, 44, 45, 46, 47, 48, 49, 50, 51, 52, 53, 54, 55, 56, 57, 58, 59, 60, 61, 62, 63, 64, 65, 66, 67, 68, 69] (by decide +kernel) (by decide +kernel)
set_option maxRecDepth 20000 in
theorem gX6_find_X6_walk : GoodIn wsX6_find (wsV RX6 114 RX6 yX6_walk wsX6_walk) := goodIn_app (goodIn_of _ (by decide +kernel)) ggX6_find_X6_walk
set_option maxRecDepth 20000 in
theorem ggX6_find_X6_fail : GoodIn wsX6_find wsX6_fail := goodIn_r _ [42, 1, 43, 44, 45, 46, 47, 48, 49, 50, 51, 52, 53, 54, 55, 56, 57, 58, 59, 60, 61, 62, 63, 64, 65, 66, 67, 68, 69] (by decide +kernel) (by decide +kernel)
set_option maxRecDepth 20000 in
theorem gX6_find_X6_fail : GoodIn wsX6_find (wsV RX6 181 RX6 yX6_fail wsX6_fail) := goodIn_app (goodIn_of _ (by decide +kernel)) ggX6_find_X6_fail
theorem dX6_find_0 : decode cX6_find 0 = .ok (.aload_n 0, 1) := by decide +kernel
theorem dX6_find_1 : decode cX6_find 1 = .ok (.iconst 0, 1) := by decide +kernel
theorem dX6_find_2 : decode cX6_find 2 = .ok (.putfield 82, 3) := by decide +kernel
theorem dX6_find_5 : decode cX6_find 5 = .ok (.aload_n 0, 1) := by decide +kernel
theorem dX6_find_6 : decode cX6_find 6 = .ok (.iload_n 1, 1) := by decide +kernel
theorem dX6_find_7 : decode cX6_find 7 = .ok (.invokevirtual 178, 3) := by decide +kernel
theorem dX6_find_10 : decode cX6_find 10 = .ok (.istore_n 3, 1) := by decide +kernel
theorem dX6_find_11 : decode cX6_find 11 = .ok (.aload_n 0, 1) := by decide +kernel
theorem dX6_find_12 : decode cX6_find 12 = .ok (.bipush 12, 2) := by decide +kernel
theorem dX6_find_14 : decode cX6_find 14 = .ok (.invokevirtual 114, 3) := by decide +kernel
theorem dX6_find_17 : decode cX6_find 17 = .ok (.iconst 0, 1) := by decide +kernel
theorem dX6_find_18 : decode cX6_find 18 = .ok (.istore 4, 2) := by decide +kernel
theorem dX6_find_20 : decode cX6_find 20 = .ok (.iconst 0, 1) := by decide +kernel
theorem dX6_find_21 : decode cX6_find 21 = .ok (.istore 5, 2) := by decide +kernel
theorem dX6_find_23 : decode cX6_find 23 = .ok (.iload 5, 2) := by decide +kernel
theorem dX6_find_25 : decode cX6_find 25 = .ok (.aload_n 0, 1) := by decide +kernel
theorem dX6_find_26 : decode cX6_find 26 = .ok (.getfield 93, 3) := by decide +kernel
theorem dX6_find_29 : decode cX6_find 29 = .ok (.if_icmp .ge 41, 3) := by decide +kernel
theorem dX6_find_32 : decode cX6_find 32 = .ok (.iload_n 3, 1) := by decide +kernel
theorem dX6_find_33 : decode cX6_find 33 = .ok (.aload_n 0, 1) := by decide +kernel
theorem dX6_find_34 : decode cX6_find 34 = .ok (.getfield 57, 3) := by decide +kernel
theorem dX6_find_37 : decode cX6_find 37 = .ok (.iload 5, 2) := by decide +kernel
theorem dX6_find_39 : decode cX6_find 39 = .ok (.iaload, 1) := by decide +kernel
theorem dX6_find_40 : decode cX6_find 40 = .ok (.ishr, 1) := by decide +kernel
theorem dX6_find_41 : decode cX6_find 41 = .ok (.iconst 1, 1) := by decide +kernel
theorem dX6_find_42 : decode cX6_find 42 = .ok (.iand, 1) := by decide +kernel
theorem dX6_find_43 : decode cX6_find 43 = .ok (.iconst 1, 1) := by decide +kernel
theorem dX6_find_44 : decode cX6_find 44 = .ok (.if_icmp .ne 20, 3) := by decide +kernel
theorem dX6_find_47 : decode cX6_find 47 = .ok (.iload 4, 2) := by decide +kernel
theorem dX6_find_49 : decode cX6_find 49 = .ok (.iload_n 2, 1) := by decide +kernel
theorem dX6_find_50 : decode cX6_find 50 = .ok (.if_icmp .ne 11, 3) := by decide +kernel
theorem dX6_find_53 : decode cX6_find 53 = .ok (.aload_n 0, 1) := by decide +kernel
theorem dX6_find_54 : decode cX6_find 54 = .ok (.getfield 57, 3) := by decide +kernel
theorem dX6_find_57 : decode cX6_find 57 = .ok (.iload 5, 2) := by decide +kernel
theorem dX6_find_59 : decode cX6_find 59 = .ok (.iaload, 1) := by decide +kernel
theorem dX6_find_60 : decode cX6_find 60 = .ok (.ireturn, 1) := by decide +kernel
theorem dX6_find_61 : decode cX6_find 61 = .ok (.iinc 4 1, 3) := by decide +kernel
theorem dX6_find_64 : decode cX6_find 64 = .ok (.iinc 5 1, 3) := by decide +kernel
theorem dX6_find_67 : decode cX6_find 67 = .ok (.goto (-44), 3) := by decide +kernel
theorem dX6_find_70 : decode cX6_find 70 = .ok (.aload_n 0, 1) := by decide +kernel
theorem dX6_find_71 : decode cX6_find 71 = .ok (.iconst 1, 1) := by decide +kernel
theorem dX6_find_72 : decode cX6_find 72 = .ok (.invokevirtual 181, 3) := by decide +kernel
theorem dX6_find_75 : decode cX6_find 75 = .ok (.ireturn, 1) := by decide +kernel
set_option maxRecDepth 20000 in
theorem ggX6_areAlike_X6_children : GoodIn wsX6_areAlike wsX6_children := goodIn_r _ [7, 8, 9, 10, 6, 11, 12, 13, 19, 20, 21, 22, 23, 24, 25, 26, 27, 28, 29, 30, 31, 32, 33, 34, 35, 36, 37, 38, 39, 40, 41, 42, 43, 44, 45] (by decide +kernel) (by decide +kernel)
set_option maxRecDepth 20000 in
theorem gX6_areAlike_X6_children : GoodIn wsX6_areAlike (wsV RX6 99 RX6 yX6_children wsX6_children) := goodIn_app (goodIn_of _ (by decide +kernel)) ggX6_areAlike_X6_children
set_option maxRecDepth 20000 in
theorem ggX6_areAlike_X6_childAt : GoodIn wsX6_areAlike wsX6_childAt := goodIn_r _ [17, 18, 8, 9, 10, 6, 11, 12, 13, 19, 20, 21, 22, 23, 24, 25, 26, 27, 28, 29, 30, 31, 32, 33, 34, 35, 36, 37, 38, 39, 40, 41, 42, 43, 44, 45] (by decide +kernel) (by decide +kernel)
set_option maxRecDepth 20000 in
theorem gX6_areAlike_X6_childAt : GoodIn wsX6_areAlike (wsV RX6 103 RX6 yX6_childAt wsX6_childAt) := goodIn_app (goodIn_of _ (by decide +kernel)) ggX6_areAlike_X6_childAt
theorem dX6_areAlike_0 : decode cX6_areAlike 0 = .ok (.aload_n 0, 1) := by decide +kernel
theorem dX6_areAlike_1 : decode cX6_areAlike 1 = .ok (.bipush 12, 2) := by decide +kernel
theorem dX6_areAlike_3 : decode cX6_areAlike 3 = .ok (.iload_n 1, 1) := by decide +kernel
theorem dX6_areAlike_4 : decode cX6_areAlike 4 = .ok (.invokevirtual 99, 3) := by decide +kernel
theorem dX6_areAlike_7 : decode cX6_areAlike 7 = .ok (.istore_n 3, 1) := by decide +kernel
theorem dX6_areAlike_8 : decode cX6_areAlike 8 = .ok (.aload_n 0, 1) := by decide +kernel
theorem dX6_areAlike_9 : decode cX6_areAlike 9 = .ok (.getfield 13, 3) := by decide +kernel
theorem dX6_areAlike_12 : decode cX6_areAlike 12 = .ok (.sipush 288, 3) := by decide +kernel
theorem dX6_areAlike_15 : decode cX6_areAlike 15 = .ok (.iload_n 1, 1) := by decide +kernel
theorem dX6_areAlike_16 : decode cX6_areAlike 16 = .ok (.iadd, 1) := by decide +kernel
theorem dX6_areAlike_17 : decode cX6_areAlike 17 = .ok (.iaload, 1) := by decide +kernel
theorem dX6_areAlike_18 : decode cX6_areAlike 18 = .ok (.aload_n 0, 1) := by decide +kernel
theorem dX6_areAlike_19 : decode cX6_areAlike 19 = .ok (.getfield 13, 3) := by decide +kernel
theorem dX6_areAlike_22 : decode cX6_areAlike 22 = .ok (.sipush 288, 3) := by decide +kernel
theorem dX6_areAlike_25 : decode cX6_areAlike 25 = .ok (.iload_n 2, 1) := by decide +kernel
theorem dX6_areAlike_26 : decode cX6_areAlike 26 = .ok (.iadd, 1) := by decide +kernel
theorem dX6_areAlike_27 : decode cX6_areAlike 27 = .ok (.iaload, 1) := by decide +kernel
theorem dX6_areAlike_28 : decode cX6_areAlike 28 = .ok (.if_icmp .ne 18, 3) := by decide +kernel
theorem dX6_areAlike_31 : decode cX6_areAlike 31 = .ok (.iload_n 3, 1) := by decide +kernel
theorem dX6_areAlike_32 : decode cX6_areAlike 32 = .ok (.aload_n 0, 1) := by decide +kernel
theorem dX6_areAlike_33 : decode cX6_areAlike 33 = .ok (.bipush 12, 2) := by decide +kernel
theorem dX6_areAlike_35 : decode cX6_areAlike 35 = .ok (.iload_n 2, 1) := by decide +kernel
theorem dX6_areAlike_36 : decode cX6_areAlike 36 = .ok (.invokevirtual 99, 3) := by decide +kernel
theorem dX6_areAlike_39 : decode cX6_areAlike 39 = .ok (.if_icmp .ne 7, 3) := by decide +kernel
theorem dX6_areAlike_42 : decode cX6_areAlike 42 = .ok (.iconst 1, 1) := by decide +kernel
theorem dX6_areAlike_43 : decode cX6_areAlike 43 = .ok (.goto 4, 3) := by decide +kernel
theorem dX6_areAlike_46 : decode cX6_areAlike 46 = .ok (.iconst 0, 1) := by decide +kernel
theorem dX6_areAlike_47 : decode cX6_areAlike 47 = .ok (.istore 4, 2) := by decide +kernel
theorem dX6_areAlike_49 : decode cX6_areAlike 49 = .ok (.iconst 0, 1) := by decide +kernel
theorem dX6_areAlike_50 : decode cX6_areAlike 50 = .ok (.istore 5, 2) := by decide +kernel
theorem dX6_areAlike_52 : decode cX6_areAlike 52 = .ok (.iload 5, 2) := by decide +kernel
theorem dX6_areAlike_54 : decode cX6_areAlike 54 = .ok (.iload_n 3, 1) := by decide +kernel
theorem dX6_areAlike_55 : decode cX6_areAlike 55 = .ok (.if_icmp .ge 52, 3) := by decide +kernel
theorem dX6_areAlike_58 : decode cX6_areAlike 58 = .ok (.iload 4, 2) := by decide +kernel
theorem dX6_areAlike_60 : decode cX6_areAlike 60 = .ok (.ifCond .eq 47, 3) := by decide +kernel
theorem dX6_areAlike_63 : decode cX6_areAlike 63 = .ok (.aload_n 0, 1) := by decide +kernel
theorem dX6_areAlike_64 : decode cX6_areAlike 64 = .ok (.getfield 63, 3) := by decide +kernel
theorem dX6_areAlike_67 : decode cX6_areAlike 67 = .ok (.aload_n 0, 1) := by decide +kernel
theorem dX6_areAlike_68 : decode cX6_areAlike 68 = .ok (.bipush 12, 2) := by decide +kernel
theorem dX6_areAlike_70 : decode cX6_areAlike 70 = .ok (.iload_n 1, 1) := by decide +kernel
theorem dX6_areAlike_71 : decode cX6_areAlike 71 = .ok (.iload 5, 2) := by decide +kernel
theorem dX6_areAlike_73 : decode cX6_areAlike 73 = .ok (.invokevirtual 103, 3) := by decide +kernel
theorem dX6_areAlike_76 : decode cX6_areAlike 76 = .ok (.iaload, 1) := by decide +kernel
theorem dX6_areAlike_77 : decode cX6_areAlike 77 = .ok (.aload_n 0, 1) := by decide +kernel
theorem dX6_areAlike_78 : decode cX6_areAlike 78 = .ok (.getfield 63, 3) := by decide +kernel
theorem dX6_areAlike_81 : decode cX6_areAlike 81 = .ok (.aload_n 0, 1) := by decide +kernel
theorem dX6_areAlike_82 : decode cX6_areAlike 82 = .ok (.bipush 12, 2) := by decide +kernel
theorem dX6_areAlike_84 : decode cX6_areAlike 84 = .ok (.iload_n 2, 1) := by decide +kernel
theorem dX6_areAlike_85 : decode cX6_areAlike 85 = .ok (.iload 5, 2) := by decide +kernel
theorem dX6_areAlike_87 : decode cX6_areAlike 87 = .ok (.invokevirtual 103, 3) := by decide +kernel
theorem dX6_areAlike_90 : decode cX6_areAlike 90 = .ok (.iaload, 1) := by decide +kernel
theorem dX6_areAlike_91 : decode cX6_areAlike 91 = .ok (.if_icmp .ne 7, 3) := by decide +kernel
theorem dX6_areAlike_94 : decode cX6_areAlike 94 = .ok (.iconst 1, 1) := by decide +kernel
theorem dX6_areAlike_95 : decode cX6_areAlike 95 = .ok (.goto 4, 3) := by decide +kernel
theorem dX6_areAlike_98 : decode cX6_areAlike 98 = .ok (.iconst 0, 1) := by decide +kernel
theorem dX6_areAlike_99 : decode cX6_areAlike 99 = .ok (.istore 4, 2) := by decide +kernel
theorem dX6_areAlike_101 : decode cX6_areAlike 101 = .ok (.iinc 5 1, 3) := by decide +kernel
theorem dX6_areAlike_104 : decode cX6_areAlike 104 = .ok (.goto (-52), 3) := by decide +kernel
theorem dX6_areAlike_107 : decode cX6_areAlike 107 = .ok (.iload 4, 2) := by decide +kernel
theorem dX6_areAlike_109 : decode cX6_areAlike 109 = .ok (.ireturn, 1) := by decide +kernel
set_option maxRecDepth 20000 in
theorem ggX6_alike_X6_has : GoodIn wsX6_alike wsX6_has := goodIn_r _ [9, 10, 36, 37, 38, 39, 40, 41, 42, 43, 44, 45, 46, 47, 48, 49, 50, 51, 52, 53, 54, 55, 56, 57, 58, 59, 60, 61, 62] (by decide +kernel) (by decide +kernel)
set_option maxRecDepth 20000 in
theorem gX6_alike_X6_has : GoodIn wsX6_alike (wsV RX6 107 RX6 yX6_has wsX6_has) := goodIn_app (goodIn_of _ (by decide +kernel)) ggX6_alike_X6_has
set_option maxRecDepth 20000 in
theorem ggX6_alike_X6_walk : GoodIn wsX6_alike wsX6_walk := goodIn_r _ [14, 2, 15, 16, 3, 17, 18, 19, 8, 20, 21, 22, 23, 24, 10, 25, 26, 27, 28, 29, 30, 36, 37, 38, 39, 40, 41, 42, 43, 44, 45, 46, 47, 48, 49, 50, 51, 52, 53, 54, 55, 56, 57, 58, 59, 60, 61, 62] (by decide +kernel) (by decide +kernel)
set_option maxRecDepth 20000 in
theorem gX6_alike_X6_walk : GoodIn wsX6_alike (wsV RX6 114 RX6 yX6_walk wsX6_walk) := goodIn_app (goodIn_of _ (by decide +kernel)) ggX6_alike_X6_walk
set_option maxRecDepth 20000 in
theorem ggX6_alike_X6_areAlike : GoodIn wsX6_alike wsX6_areAlike := goodIn_r _ [34, 35, 4, 17, 18, 19, 8, 20, 21, 22, 23, 24, 10, 25, 26, 27, 28, 29, 30, 36, 37, 38, 39, 40, 41, 42, 43, 44, 45, 46, 47, 48, 49, 50, 51, 52, 53, 54, 55, 56, 57, 58, 59, 60, 61, 62] (by decide +kernel) (by decide +kernel)
set_option maxRecDepth 20000 in
theorem gX6_alike_X6_areAlike : GoodIn wsX6_alike (wsV RX6 184 RX6 yX6_areAlike wsX6_areAlike) := goodIn_app (goodIn_of _ (by decide +kernel)) ggX6_alike_X6_areAlike
theorem dX6_alike_0 : decode cX6_alike 0 = .ok (.aload_n 0, 1) := by decide +kernel
theorem dX6_alike_1 : decode cX6_alike 1 = .ok (.aload_n 0, 1) := by decide +kernel
theorem dX6_alike_2 : decode cX6_alike 2 = .ok (.bipush 12, 2) := by decide +kernel
theorem dX6_alike_4 : decode cX6_alike 4 = .ok (.iload_n 1, 1) := by decide +kernel
theorem dX6_alike_5 : decode cX6_alike 5 = .ok (.invokevirtual 107, 3) := by decide +kernel
theorem dX6_alike_8 : decode cX6_alike 8 = .ok (.ifCond .eq 7, 3) := by decide +kernel
theorem dX6_alike_11 : decode cX6_alike 11 = .ok (.iconst 0, 1) := by decide +kernel
theorem dX6_alike_12 : decode cX6_alike 12 = .ok (.goto 4, 3) := by decide +kernel
theorem dX6_alike_15 : decode cX6_alike 15 = .ok (.iconst 1, 1) := by decide +kernel
theorem dX6_alike_16 : decode cX6_alike 16 = .ok (.putfield 82, 3) := by decide +kernel
theorem dX6_alike_19 : decode cX6_alike 19 = .ok (.aload_n 0, 1) := by decide +kernel
theorem dX6_alike_20 : decode cX6_alike 20 = .ok (.getfield 82, 3) := by decide +kernel
theorem dX6_alike_23 : decode cX6_alike 23 = .ok (.ifCond .le 5, 3) := by decide +kernel
theorem dX6_alike_26 : decode cX6_alike 26 = .ok (.iconst 0, 1) := by decide +kernel
theorem dX6_alike_27 : decode cX6_alike 27 = .ok (.ireturn, 1) := by decide +kernel
theorem dX6_alike_28 : decode cX6_alike 28 = .ok (.aload_n 0, 1) := by decide +kernel
theorem dX6_alike_29 : decode cX6_alike 29 = .ok (.bipush 12, 2) := by decide +kernel
theorem dX6_alike_31 : decode cX6_alike 31 = .ok (.invokevirtual 114, 3) := by decide +kernel
theorem dX6_alike_34 : decode cX6_alike 34 = .ok (.aload_n 0, 1) := by decide +kernel
theorem dX6_alike_35 : decode cX6_alike 35 = .ok (.getfield 93, 3) := by decide +kernel
theorem dX6_alike_38 : decode cX6_alike 38 = .ok (.iconst 1, 1) := by decide +kernel
theorem dX6_alike_39 : decode cX6_alike 39 = .ok (.isub, 1) := by decide +kernel
theorem dX6_alike_40 : decode cX6_alike 40 = .ok (.istore_n 2, 1) := by decide +kernel
theorem dX6_alike_41 : decode cX6_alike 41 = .ok (.iload_n 2, 1) := by decide +kernel
theorem dX6_alike_42 : decode cX6_alike 42 = .ok (.ifCond .lt 90, 3) := by decide +kernel
theorem dX6_alike_45 : decode cX6_alike 45 = .ok (.aload_n 0, 1) := by decide +kernel
theorem dX6_alike_46 : decode cX6_alike 46 = .ok (.getfield 57, 3) := by decide +kernel
theorem dX6_alike_49 : decode cX6_alike 49 = .ok (.iload_n 2, 1) := by decide +kernel
theorem dX6_alike_50 : decode cX6_alike 50 = .ok (.iaload, 1) := by decide +kernel
theorem dX6_alike_51 : decode cX6_alike 51 = .ok (.istore_n 3, 1) := by decide +kernel
theorem dX6_alike_52 : decode cX6_alike 52 = .ok (.aload_n 0, 1) := by decide +kernel
theorem dX6_alike_53 : decode cX6_alike 53 = .ok (.getfield 63, 3) := by decide +kernel
theorem dX6_alike_56 : decode cX6_alike 56 = .ok (.iload_n 3, 1) := by decide +kernel
theorem dX6_alike_57 : decode cX6_alike 57 = .ok (.iload_n 3, 1) := by decide +kernel
theorem dX6_alike_58 : decode cX6_alike 58 = .ok (.iastore, 1) := by decide +kernel
theorem dX6_alike_59 : decode cX6_alike 59 = .ok (.aload_n 0, 1) := by decide +kernel
theorem dX6_alike_60 : decode cX6_alike 60 = .ok (.getfield 93, 3) := by decide +kernel
theorem dX6_alike_63 : decode cX6_alike 63 = .ok (.iconst 1, 1) := by decide +kernel
theorem dX6_alike_64 : decode cX6_alike 64 = .ok (.isub, 1) := by decide +kernel
theorem dX6_alike_65 : decode cX6_alike 65 = .ok (.istore 4, 2) := by decide +kernel
theorem dX6_alike_67 : decode cX6_alike 67 = .ok (.iload 4, 2) := by decide +kernel
theorem dX6_alike_69 : decode cX6_alike 69 = .ok (.iload_n 2, 1) := by decide +kernel
theorem dX6_alike_70 : decode cX6_alike 70 = .ok (.if_icmp .le 56, 3) := by decide +kernel
theorem dX6_alike_73 : decode cX6_alike 73 = .ok (.aload_n 0, 1) := by decide +kernel
theorem dX6_alike_74 : decode cX6_alike 74 = .ok (.getfield 63, 3) := by decide +kernel
theorem dX6_alike_77 : decode cX6_alike 77 = .ok (.iload_n 3, 1) := by decide +kernel
theorem dX6_alike_78 : decode cX6_alike 78 = .ok (.iaload, 1) := by decide +kernel
theorem dX6_alike_79 : decode cX6_alike 79 = .ok (.iload_n 3, 1) := by decide +kernel
theorem dX6_alike_80 : decode cX6_alike 80 = .ok (.if_icmp .ne 46, 3) := by decide +kernel
theorem dX6_alike_83 : decode cX6_alike 83 = .ok (.aload_n 0, 1) := by decide +kernel
theorem dX6_alike_84 : decode cX6_alike 84 = .ok (.getfield 63, 3) := by decide +kernel
theorem dX6_alike_87 : decode cX6_alike 87 = .ok (.iload_n 3, 1) := by decide +kernel
theorem dX6_alike_88 : decode cX6_alike 88 = .ok (.aload_n 0, 1) := by decide +kernel
theorem dX6_alike_89 : decode cX6_alike 89 = .ok (.iload_n 3, 1) := by decide +kernel
theorem dX6_alike_90 : decode cX6_alike 90 = .ok (.aload_n 0, 1) := by decide +kernel
theorem dX6_alike_91 : decode cX6_alike 91 = .ok (.getfield 57, 3) := by decide +kernel
theorem dX6_alike_94 : decode cX6_alike 94 = .ok (.iload 4, 2) := by decide +kernel
theorem dX6_alike_96 : decode cX6_alike 96 = .ok (.iaload, 1) := by decide +kernel
theorem dX6_alike_97 : decode cX6_alike 97 = .ok (.invokevirtual 184, 3) := by decide +kernel
theorem dX6_alike_100 : decode cX6_alike 100 = .ok (.ifCond .eq 18, 3) := by decide +kernel
theorem dX6_alike_103 : decode cX6_alike 103 = .ok (.aload_n 0, 1) := by decide +kernel
theorem dX6_alike_104 : decode cX6_alike 104 = .ok (.getfield 63, 3) := by decide +kernel
theorem dX6_alike_107 : decode cX6_alike 107 = .ok (.aload_n 0, 1) := by decide +kernel
theorem dX6_alike_108 : decode cX6_alike 108 = .ok (.getfield 57, 3) := by decide +kernel
theorem dX6_alike_111 : decode cX6_alike 111 = .ok (.iload 4, 2) := by decide +kernel
theorem dX6_alike_113 : decode cX6_alike 113 = .ok (.iaload, 1) := by decide +kernel
theorem dX6_alike_114 : decode cX6_alike 114 = .ok (.iaload, 1) := by decide +kernel
theorem dX6_alike_115 : decode cX6_alike 115 = .ok (.goto 4, 3) := by decide +kernel
theorem dX6_alike_118 : decode cX6_alike 118 = .ok (.iload_n 3, 1) := by decide +kernel
theorem dX6_alike_119 : decode cX6_alike 119 = .ok (.iastore, 1) := by decide +kernel
theorem dX6_alike_120 : decode cX6_alike 120 = .ok (.iinc 4 (-1), 3) := by decide +kernel
theorem dX6_alike_123 : decode cX6_alike 123 = .ok (.goto (-56), 3) := by decide +kernel
theorem dX6_alike_126 : decode cX6_alike 126 = .ok (.iinc 2 (-1), 3) := by decide +kernel
theorem dX6_alike_129 : decode cX6_alike 129 = .ok (.goto (-88), 3) := by decide +kernel
theorem dX6_alike_132 : decode cX6_alike 132 = .ok (.iconst 0, 1) := by decide +kernel
theorem dX6_alike_133 : decode cX6_alike 133 = .ok (.istore_n 2, 1) := by decide +kernel
theorem dX6_alike_134 : decode cX6_alike 134 = .ok (.aload_n 0, 1) := by decide +kernel
theorem dX6_alike_135 : decode cX6_alike 135 = .ok (.getfield 63, 3) := by decide +kernel
theorem dX6_alike_138 : decode cX6_alike 138 = .ok (.aload_n 0, 1) := by decide +kernel
theorem dX6_alike_139 : decode cX6_alike 139 = .ok (.getfield 57, 3) := by decide +kernel
theorem dX6_alike_142 : decode cX6_alike 142 = .ok (.iload_n 2, 1) := by decide +kernel
theorem dX6_alike_143 : decode cX6_alike 143 = .ok (.iaload, 1) := by decide +kernel
theorem dX6_alike_144 : decode cX6_alike 144 = .ok (.iaload, 1) := by decide +kernel
theorem dX6_alike_145 : decode cX6_alike 145 = .ok (.aload_n 0, 1) := by decide +kernel
theorem dX6_alike_146 : decode cX6_alike 146 = .ok (.getfield 63, 3) := by decide +kernel
theorem dX6_alike_149 : decode cX6_alike 149 = .ok (.iload_n 1, 1) := by decide +kernel
theorem dX6_alike_150 : decode cX6_alike 150 = .ok (.iaload, 1) := by decide +kernel
theorem dX6_alike_151 : decode cX6_alike 151 = .ok (.if_icmp .eq 9, 3) := by decide +kernel
theorem dX6_alike_154 : decode cX6_alike 154 = .ok (.iinc 2 1, 3) := by decide +kernel
theorem dX6_alike_157 : decode cX6_alike 157 = .ok (.goto (-23), 3) := by decide +kernel
theorem dX6_alike_160 : decode cX6_alike 160 = .ok (.aload_n 0, 1) := by decide +kernel
theorem dX6_alike_161 : decode cX6_alike 161 = .ok (.getfield 57, 3) := by decide +kernel
theorem dX6_alike_164 : decode cX6_alike 164 = .ok (.iload_n 2, 1) := by decide +kernel
theorem dX6_alike_165 : decode cX6_alike 165 = .ok (.iaload, 1) := by decide +kernel
theorem dX6_alike_166 : decode cX6_alike 166 = .ok (.ireturn, 1) := by decide +kernel
set_option maxRecDepth 20000 in
theorem ggX6_leave_X6_walk : GoodIn wsX6_leave wsX6_walk := goodIn_r _ [11, 2, 4, 1, 3, 12, 13, 14, 10, 15, 16, 17, 18, 19, 20, 21, 22, 23, 24, 25, 26, 31, 32, 33, 34, 35, 36, 37, 38, 39, 40, 41, 42, 43, 44, 45, 46, 47, 48, 49, 50, 51, 52, 53, 54, 55, 56, 57] (by decide +kernel) (by decide +kernel)
set_option maxRecDepth 20000 in
theorem gX6_leave_X6_walk : GoodIn wsX6_leave (wsV RX6 114 RX6 yX6_walk wsX6_walk) := goodIn_app (goodIn_of _ (by decide +kernel)) ggX6_leave_X6_walk
set_option maxRecDepth 20000 in
theorem ggX6_leave_X6_isAt : GoodIn wsX6_leave wsX6_isAt := goodIn_r _ [30, 21, 31, 32, 33, 34, 35, 36, 37, 38, 39, 40, 41, 42, 43, 44, 45, 46, 47, 48, 49, 50, 51, 52, 53, 54, 55, 56, 57] (by decide +kernel) (by decide +kernel)
set_option maxRecDepth 20000 in
theorem gX6_leave_X6_isAt : GoodIn wsX6_leave (wsV RX6 121 RX6 yX6_isAt wsX6_isAt) := goodIn_app (goodIn_of _ (by decide +kernel)) ggX6_leave_X6_isAt
theorem dX6_leave_0 : decode cX6_leave 0 = .ok (.aload_n 0, 1) := by decide +kernel
theorem dX6_leave_1 : decode cX6_leave 1 = .ok (.iload_n 1, 1) := by decide +kernel
theorem dX6_leave_2 : decode cX6_leave 2 = .ok (.invokevirtual 114, 3) := by decide +kernel
theorem dX6_leave_5 : decode cX6_leave 5 = .ok (.iconst 0, 1) := by decide +kernel
theorem dX6_leave_6 : decode cX6_leave 6 = .ok (.istore_n 3, 1) := by decide +kernel
theorem dX6_leave_7 : decode cX6_leave 7 = .ok (.aload_n 0, 1) := by decide +kernel
theorem dX6_leave_8 : decode cX6_leave 8 = .ok (.iconst 0, 1) := by decide +kernel
theorem dX6_leave_9 : decode cX6_leave 9 = .ok (.putfield 96, 3) := by decide +kernel
theorem dX6_leave_12 : decode cX6_leave 12 = .ok (.iconst 0, 1) := by decide +kernel
theorem dX6_leave_13 : decode cX6_leave 13 = .ok (.istore 4, 2) := by decide +kernel
theorem dX6_leave_15 : decode cX6_leave 15 = .ok (.iload 4, 2) := by decide +kernel
theorem dX6_leave_17 : decode cX6_leave 17 = .ok (.aload_n 0, 1) := by decide +kernel
theorem dX6_leave_18 : decode cX6_leave 18 = .ok (.getfield 93, 3) := by decide +kernel
theorem dX6_leave_21 : decode cX6_leave 21 = .ok (.if_icmp .ge 100, 3) := by decide +kernel
theorem dX6_leave_24 : decode cX6_leave 24 = .ok (.aload_n 0, 1) := by decide +kernel
theorem dX6_leave_25 : decode cX6_leave 25 = .ok (.getfield 57, 3) := by decide +kernel
theorem dX6_leave_28 : decode cX6_leave 28 = .ok (.iload 4, 2) := by decide +kernel
theorem dX6_leave_30 : decode cX6_leave 30 = .ok (.iaload, 1) := by decide +kernel
theorem dX6_leave_31 : decode cX6_leave 31 = .ok (.istore 5, 2) := by decide +kernel
theorem dX6_leave_33 : decode cX6_leave 33 = .ok (.aload_n 0, 1) := by decide +kernel
theorem dX6_leave_34 : decode cX6_leave 34 = .ok (.getfield 96, 3) := by decide +kernel
theorem dX6_leave_37 : decode cX6_leave 37 = .ok (.ifCond .le 57, 3) := by decide +kernel
theorem dX6_leave_40 : decode cX6_leave 40 = .ok (.aload_n 0, 1) := by decide +kernel
theorem dX6_leave_41 : decode cX6_leave 41 = .ok (.iload_n 1, 1) := by decide +kernel
theorem dX6_leave_42 : decode cX6_leave 42 = .ok (.iload 5, 2) := by decide +kernel
theorem dX6_leave_44 : decode cX6_leave 44 = .ok (.aload_n 0, 1) := by decide +kernel
theorem dX6_leave_45 : decode cX6_leave 45 = .ok (.getfield 60, 3) := by decide +kernel
theorem dX6_leave_48 : decode cX6_leave 48 = .ok (.aload_n 0, 1) := by decide +kernel
theorem dX6_leave_49 : decode cX6_leave 49 = .ok (.getfield 96, 3) := by decide +kernel
theorem dX6_leave_52 : decode cX6_leave 52 = .ok (.iconst 1, 1) := by decide +kernel
theorem dX6_leave_53 : decode cX6_leave 53 = .ok (.isub, 1) := by decide +kernel
theorem dX6_leave_54 : decode cX6_leave 54 = .ok (.iaload, 1) := by decide +kernel
theorem dX6_leave_55 : decode cX6_leave 55 = .ok (.invokevirtual 121, 3) := by decide +kernel
theorem dX6_leave_58 : decode cX6_leave 58 = .ok (.ifCond .ne 36, 3) := by decide +kernel
theorem dX6_leave_61 : decode cX6_leave 61 = .ok (.aload_n 0, 1) := by decide +kernel
theorem dX6_leave_62 : decode cX6_leave 62 = .ok (.dup, 1) := by decide +kernel
theorem dX6_leave_63 : decode cX6_leave 63 = .ok (.getfield 96, 3) := by decide +kernel
theorem dX6_leave_66 : decode cX6_leave 66 = .ok (.iconst 1, 1) := by decide +kernel
theorem dX6_leave_67 : decode cX6_leave 67 = .ok (.isub, 1) := by decide +kernel
theorem dX6_leave_68 : decode cX6_leave 68 = .ok (.putfield 96, 3) := by decide +kernel
theorem dX6_leave_71 : decode cX6_leave 71 = .ok (.aload_n 0, 1) := by decide +kernel
theorem dX6_leave_72 : decode cX6_leave 72 = .ok (.getfield 66, 3) := by decide +kernel
theorem dX6_leave_75 : decode cX6_leave 75 = .ok (.iload_n 2, 1) := by decide +kernel
theorem dX6_leave_76 : decode cX6_leave 76 = .ok (.iload_n 3, 1) := by decide +kernel
theorem dX6_leave_77 : decode cX6_leave 77 = .ok (.iadd, 1) := by decide +kernel
theorem dX6_leave_78 : decode cX6_leave 78 = .ok (.aload_n 0, 1) := by decide +kernel
theorem dX6_leave_79 : decode cX6_leave 79 = .ok (.getfield 60, 3) := by decide +kernel
theorem dX6_leave_82 : decode cX6_leave 82 = .ok (.aload_n 0, 1) := by decide +kernel
theorem dX6_leave_83 : decode cX6_leave 83 = .ok (.getfield 96, 3) := by decide +kernel
theorem dX6_leave_86 : decode cX6_leave 86 = .ok (.iaload, 1) := by decide +kernel
theorem dX6_leave_87 : decode cX6_leave 87 = .ok (.iastore, 1) := by decide +kernel
theorem dX6_leave_88 : decode cX6_leave 88 = .ok (.iinc 3 1, 3) := by decide +kernel
theorem dX6_leave_91 : decode cX6_leave 91 = .ok (.goto (-58), 3) := by decide +kernel
theorem dX6_leave_94 : decode cX6_leave 94 = .ok (.aload_n 0, 1) := by decide +kernel
theorem dX6_leave_95 : decode cX6_leave 95 = .ok (.getfield 60, 3) := by decide +kernel
theorem dX6_leave_98 : decode cX6_leave 98 = .ok (.aload_n 0, 1) := by decide +kernel
theorem dX6_leave_99 : decode cX6_leave 99 = .ok (.getfield 96, 3) := by decide +kernel
theorem dX6_leave_102 : decode cX6_leave 102 = .ok (.iload 5, 2) := by decide +kernel
theorem dX6_leave_104 : decode cX6_leave 104 = .ok (.iastore, 1) := by decide +kernel
theorem dX6_leave_105 : decode cX6_leave 105 = .ok (.aload_n 0, 1) := by decide +kernel
theorem dX6_leave_106 : decode cX6_leave 106 = .ok (.dup, 1) := by decide +kernel
theorem dX6_leave_107 : decode cX6_leave 107 = .ok (.getfield 96, 3) := by decide +kernel
theorem dX6_leave_110 : decode cX6_leave 110 = .ok (.iconst 1, 1) := by decide +kernel
theorem dX6_leave_111 : decode cX6_leave 111 = .ok (.iadd, 1) := by decide +kernel
theorem dX6_leave_112 : decode cX6_leave 112 = .ok (.putfield 96, 3) := by decide +kernel
theorem dX6_leave_115 : decode cX6_leave 115 = .ok (.iinc 4 1, 3) := by decide +kernel
theorem dX6_leave_118 : decode cX6_leave 118 = .ok (.goto (-103), 3) := by decide +kernel
theorem dX6_leave_121 : decode cX6_leave 121 = .ok (.aload_n 0, 1) := by decide +kernel
theorem dX6_leave_122 : decode cX6_leave 122 = .ok (.getfield 96, 3) := by decide +kernel
theorem dX6_leave_125 : decode cX6_leave 125 = .ok (.ifCond .le 36, 3) := by decide +kernel
theorem dX6_leave_128 : decode cX6_leave 128 = .ok (.aload_n 0, 1) := by decide +kernel
theorem dX6_leave_129 : decode cX6_leave 129 = .ok (.dup, 1) := by decide +kernel
theorem dX6_leave_130 : decode cX6_leave 130 = .ok (.getfield 96, 3) := by decide +kernel
theorem dX6_leave_133 : decode cX6_leave 133 = .ok (.iconst 1, 1) := by decide +kernel
theorem dX6_leave_134 : decode cX6_leave 134 = .ok (.isub, 1) := by decide +kernel
theorem dX6_leave_135 : decode cX6_leave 135 = .ok (.putfield 96, 3) := by decide +kernel
theorem dX6_leave_138 : decode cX6_leave 138 = .ok (.aload_n 0, 1) := by decide +kernel
theorem dX6_leave_139 : decode cX6_leave 139 = .ok (.getfield 66, 3) := by decide +kernel
theorem dX6_leave_142 : decode cX6_leave 142 = .ok (.iload_n 2, 1) := by decide +kernel
theorem dX6_leave_143 : decode cX6_leave 143 = .ok (.iload_n 3, 1) := by decide +kernel
theorem dX6_leave_144 : decode cX6_leave 144 = .ok (.iadd, 1) := by decide +kernel
theorem dX6_leave_145 : decode cX6_leave 145 = .ok (.aload_n 0, 1) := by decide +kernel
theorem dX6_leave_146 : decode cX6_leave 146 = .ok (.getfield 60, 3) := by decide +kernel
theorem dX6_leave_149 : decode cX6_leave 149 = .ok (.aload_n 0, 1) := by decide +kernel
theorem dX6_leave_150 : decode cX6_leave 150 = .ok (.getfield 96, 3) := by decide +kernel
theorem dX6_leave_153 : decode cX6_leave 153 = .ok (.iaload, 1) := by decide +kernel
theorem dX6_leave_154 : decode cX6_leave 154 = .ok (.iastore, 1) := by decide +kernel
theorem dX6_leave_155 : decode cX6_leave 155 = .ok (.iinc 3 1, 3) := by decide +kernel
theorem dX6_leave_158 : decode cX6_leave 158 = .ok (.goto (-37), 3) := by decide +kernel
theorem dX6_leave_161 : decode cX6_leave 161 = .ok (.iconst 0, 1) := by decide +kernel
theorem dX6_leave_162 : decode cX6_leave 162 = .ok (.istore 4, 2) := by decide +kernel
theorem dX6_leave_164 : decode cX6_leave 164 = .ok (.iload 4, 2) := by decide +kernel
theorem dX6_leave_166 : decode cX6_leave 166 = .ok (.iload_n 3, 1) := by decide +kernel
theorem dX6_leave_167 : decode cX6_leave 167 = .ok (.if_icmp .ge 76, 3) := by decide +kernel
theorem dX6_leave_170 : decode cX6_leave 170 = .ok (.iload 4, 2) := by decide +kernel
theorem dX6_leave_172 : decode cX6_leave 172 = .ok (.istore 5, 2) := by decide +kernel
theorem dX6_leave_174 : decode cX6_leave 174 = .ok (.iload 4, 2) := by decide +kernel
theorem dX6_leave_176 : decode cX6_leave 176 = .ok (.iconst 1, 1) := by decide +kernel
theorem dX6_leave_177 : decode cX6_leave 177 = .ok (.isub, 1) := by decide +kernel
theorem dX6_leave_178 : decode cX6_leave 178 = .ok (.istore 6, 2) := by decide +kernel
theorem dX6_leave_180 : decode cX6_leave 180 = .ok (.iload 6, 2) := by decide +kernel
theorem dX6_leave_182 : decode cX6_leave 182 = .ok (.ifCond .lt 44, 3) := by decide +kernel
theorem dX6_leave_185 : decode cX6_leave 185 = .ok (.aload_n 0, 1) := by decide +kernel
theorem dX6_leave_186 : decode cX6_leave 186 = .ok (.iload_n 1, 1) := by decide +kernel
theorem dX6_leave_187 : decode cX6_leave 187 = .ok (.aload_n 0, 1) := by decide +kernel
theorem dX6_leave_188 : decode cX6_leave 188 = .ok (.getfield 66, 3) := by decide +kernel
theorem dX6_leave_191 : decode cX6_leave 191 = .ok (.iload_n 2, 1) := by decide +kernel
theorem dX6_leave_192 : decode cX6_leave 192 = .ok (.iload 6, 2) := by decide +kernel
theorem dX6_leave_194 : decode cX6_leave 194 = .ok (.iadd, 1) := by decide +kernel
theorem dX6_leave_195 : decode cX6_leave 195 = .ok (.iaload, 1) := by decide +kernel
theorem dX6_leave_196 : decode cX6_leave 196 = .ok (.aload_n 0, 1) := by decide +kernel
theorem dX6_leave_197 : decode cX6_leave 197 = .ok (.getfield 66, 3) := by decide +kernel
theorem dX6_leave_200 : decode cX6_leave 200 = .ok (.iload_n 2, 1) := by decide +kernel
theorem dX6_leave_201 : decode cX6_leave 201 = .ok (.iload 4, 2) := by decide +kernel
theorem dX6_leave_203 : decode cX6_leave 203 = .ok (.iadd, 1) := by decide +kernel
theorem dX6_leave_204 : decode cX6_leave 204 = .ok (.iaload, 1) := by decide +kernel
theorem dX6_leave_205 : decode cX6_leave 205 = .ok (.invokevirtual 121, 3) := by decide +kernel
theorem dX6_leave_208 : decode cX6_leave 208 = .ok (.ifCond .eq 8, 3) := by decide +kernel
theorem dX6_leave_211 : decode cX6_leave 211 = .ok (.iload 6, 2) := by decide +kernel
theorem dX6_leave_213 : decode cX6_leave 213 = .ok (.goto 5, 3) := by decide +kernel
theorem dX6_leave_216 : decode cX6_leave 216 = .ok (.iload 5, 2) := by decide +kernel
theorem dX6_leave_218 : decode cX6_leave 218 = .ok (.istore 5, 2) := by decide +kernel
theorem dX6_leave_220 : decode cX6_leave 220 = .ok (.iinc 6 (-1), 3) := by decide +kernel
theorem dX6_leave_223 : decode cX6_leave 223 = .ok (.goto (-43), 3) := by decide +kernel
theorem dX6_leave_226 : decode cX6_leave 226 = .ok (.aload_n 0, 1) := by decide +kernel
theorem dX6_leave_227 : decode cX6_leave 227 = .ok (.getfield 69, 3) := by decide +kernel
theorem dX6_leave_230 : decode cX6_leave 230 = .ok (.iload_n 2, 1) := by decide +kernel
theorem dX6_leave_231 : decode cX6_leave 231 = .ok (.iload 4, 2) := by decide +kernel
theorem dX6_leave_233 : decode cX6_leave 233 = .ok (.iadd, 1) := by decide +kernel
theorem dX6_leave_234 : decode cX6_leave 234 = .ok (.iload 5, 2) := by decide +kernel
theorem dX6_leave_236 : decode cX6_leave 236 = .ok (.iastore, 1) := by decide +kernel
theorem dX6_leave_237 : decode cX6_leave 237 = .ok (.iinc 4 1, 3) := by decide +kernel
theorem dX6_leave_240 : decode cX6_leave 240 = .ok (.goto (-76), 3) := by decide +kernel
theorem dX6_leave_243 : decode cX6_leave 243 = .ok (.iload_n 3, 1) := by decide +kernel
theorem dX6_leave_244 : decode cX6_leave 244 = .ok (.ireturn, 1) := by decide +kernel
theorem dX6_least_0 : decode cX6_least 0 = .ok (.iload_n 0, 1) := by decide +kernel
theorem dX6_least_1 : decode cX6_least 1 = .ok (.iload_n 1, 1) := by decide +kernel
theorem dX6_least_2 : decode cX6_least 2 = .ok (.if_icmp .ge 7, 3) := by decide +kernel
theorem dX6_least_5 : decode cX6_least 5 = .ok (.iload_n 0, 1) := by decide +kernel
theorem dX6_least_6 : decode cX6_least 6 = .ok (.goto 4, 3) := by decide +kernel
theorem dX6_least_9 : decode cX6_least 9 = .ok (.iload_n 1, 1) := by decide +kernel
theorem dX6_least_10 : decode cX6_least 10 = .ok (.ireturn, 1) := by decide +kernel
set_option maxRecDepth 20000 in
theorem ggX6_compare_X6_least : GoodIn wsX6_compare wsX6_least := goodIn_r _ [9] (by decide +kernel) (by decide +kernel)
set_option maxRecDepth 20000 in
theorem gX6_compare_X6_least : GoodIn wsX6_compare (va_wsS RX6 187 yX6_least wsX6_least) := goodIn_app (goodIn_of _ (by decide +kernel)) ggX6_compare_X6_least
theorem dX6_compare_0 : decode cX6_compare 0 = .ok (.aload_n 0, 1) := by decide +kernel
theorem dX6_compare_1 : decode cX6_compare 1 = .ok (.getfield 69, 3) := by decide +kernel
theorem dX6_compare_4 : decode cX6_compare 4 = .ok (.iload_n 3, 1) := by decide +kernel
theorem dX6_compare_5 : decode cX6_compare 5 = .ok (.iaload, 1) := by decide +kernel
theorem dX6_compare_6 : decode cX6_compare 6 = .ok (.istore 5, 2) := by decide +kernel
theorem dX6_compare_8 : decode cX6_compare 8 = .ok (.aload_n 0, 1) := by decide +kernel
theorem dX6_compare_9 : decode cX6_compare 9 = .ok (.getfield 69, 3) := by decide +kernel
theorem dX6_compare_12 : decode cX6_compare 12 = .ok (.bipush 24, 2) := by decide +kernel
theorem dX6_compare_14 : decode cX6_compare 14 = .ok (.iload 4, 2) := by decide +kernel
theorem dX6_compare_16 : decode cX6_compare 16 = .ok (.iadd, 1) := by decide +kernel
theorem dX6_compare_17 : decode cX6_compare 17 = .ok (.iaload, 1) := by decide +kernel
theorem dX6_compare_18 : decode cX6_compare 18 = .ok (.istore 6, 2) := by decide +kernel
theorem dX6_compare_20 : decode cX6_compare 20 = .ok (.iload 5, 2) := by decide +kernel
theorem dX6_compare_22 : decode cX6_compare 22 = .ok (.iconst 1, 1) := by decide +kernel
theorem dX6_compare_23 : decode cX6_compare 23 = .ok (.isub, 1) := by decide +kernel
theorem dX6_compare_24 : decode cX6_compare 24 = .ok (.istore 7, 2) := by decide +kernel
theorem dX6_compare_26 : decode cX6_compare 26 = .ok (.iload 7, 2) := by decide +kernel
theorem dX6_compare_28 : decode cX6_compare 28 = .ok (.iload_n 3, 1) := by decide +kernel
theorem dX6_compare_29 : decode cX6_compare 29 = .ok (.if_icmp .gt 291, 3) := by decide +kernel
theorem dX6_compare_32 : decode cX6_compare 32 = .ok (.iload 6, 2) := by decide +kernel
theorem dX6_compare_34 : decode cX6_compare 34 = .ok (.iconst 1, 1) := by decide +kernel
theorem dX6_compare_35 : decode cX6_compare 35 = .ok (.isub, 1) := by decide +kernel
theorem dX6_compare_36 : decode cX6_compare 36 = .ok (.istore 8, 2) := by decide +kernel
theorem dX6_compare_38 : decode cX6_compare 38 = .ok (.iload 8, 2) := by decide +kernel
theorem dX6_compare_40 : decode cX6_compare 40 = .ok (.iload 4, 2) := by decide +kernel
theorem dX6_compare_42 : decode cX6_compare 42 = .ok (.if_icmp .gt 272, 3) := by decide +kernel
theorem dX6_compare_45 : decode cX6_compare 45 = .ok (.bipush 25, 2) := by decide +kernel
theorem dX6_compare_47 : decode cX6_compare 47 = .ok (.iload 7, 2) := by decide +kernel
theorem dX6_compare_49 : decode cX6_compare 49 = .ok (.iload 5, 2) := by decide +kernel
theorem dX6_compare_51 : decode cX6_compare 51 = .ok (.isub, 1) := by decide +kernel
theorem dX6_compare_52 : decode cX6_compare 52 = .ok (.iconst 1, 1) := by decide +kernel
theorem dX6_compare_53 : decode cX6_compare 53 = .ok (.iadd, 1) := by decide +kernel
theorem dX6_compare_54 : decode cX6_compare 54 = .ok (.imul, 1) := by decide +kernel
theorem dX6_compare_55 : decode cX6_compare 55 = .ok (.iload 8, 2) := by decide +kernel
theorem dX6_compare_57 : decode cX6_compare 57 = .ok (.iadd, 1) := by decide +kernel
theorem dX6_compare_58 : decode cX6_compare 58 = .ok (.iload 6, 2) := by decide +kernel
theorem dX6_compare_60 : decode cX6_compare 60 = .ok (.isub, 1) := by decide +kernel
theorem dX6_compare_61 : decode cX6_compare 61 = .ok (.iconst 1, 1) := by decide +kernel
theorem dX6_compare_62 : decode cX6_compare 62 = .ok (.iadd, 1) := by decide +kernel
theorem dX6_compare_63 : decode cX6_compare 63 = .ok (.istore 9, 2) := by decide +kernel
theorem dX6_compare_65 : decode cX6_compare 65 = .ok (.iload 7, 2) := by decide +kernel
theorem dX6_compare_67 : decode cX6_compare 67 = .ok (.iload 5, 2) := by decide +kernel
theorem dX6_compare_69 : decode cX6_compare 69 = .ok (.if_icmp .lt 10, 3) := by decide +kernel
theorem dX6_compare_72 : decode cX6_compare 72 = .ok (.iload 8, 2) := by decide +kernel
theorem dX6_compare_74 : decode cX6_compare 74 = .ok (.iload 6, 2) := by decide +kernel
theorem dX6_compare_76 : decode cX6_compare 76 = .ok (.if_icmp .ge 28, 3) := by decide +kernel
theorem dX6_compare_79 : decode cX6_compare 79 = .ok (.aload_n 0, 1) := by decide +kernel
theorem dX6_compare_80 : decode cX6_compare 80 = .ok (.getfield 75, 3) := by decide +kernel
theorem dX6_compare_83 : decode cX6_compare 83 = .ok (.iload 9, 2) := by decide +kernel
theorem dX6_compare_85 : decode cX6_compare 85 = .ok (.iload 7, 2) := by decide +kernel
theorem dX6_compare_87 : decode cX6_compare 87 = .ok (.iload 5, 2) := by decide +kernel
theorem dX6_compare_89 : decode cX6_compare 89 = .ok (.isub, 1) := by decide +kernel
theorem dX6_compare_90 : decode cX6_compare 90 = .ok (.iconst 1, 1) := by decide +kernel
theorem dX6_compare_91 : decode cX6_compare 91 = .ok (.iadd, 1) := by decide +kernel
theorem dX6_compare_92 : decode cX6_compare 92 = .ok (.iload 8, 2) := by decide +kernel
theorem dX6_compare_94 : decode cX6_compare 94 = .ok (.iadd, 1) := by decide +kernel
theorem dX6_compare_95 : decode cX6_compare 95 = .ok (.iload 6, 2) := by decide +kernel
theorem dX6_compare_97 : decode cX6_compare 97 = .ok (.isub, 1) := by decide +kernel
theorem dX6_compare_98 : decode cX6_compare 98 = .ok (.iconst 1, 1) := by decide +kernel
theorem dX6_compare_99 : decode cX6_compare 99 = .ok (.iadd, 1) := by decide +kernel
theorem dX6_compare_100 : decode cX6_compare 100 = .ok (.iastore, 1) := by decide +kernel
theorem dX6_compare_101 : decode cX6_compare 101 = .ok (.goto 207, 3) := by decide +kernel
theorem dX6_compare_104 : decode cX6_compare 104 = .ok (.aload_n 0, 1) := by decide +kernel
theorem dX6_compare_105 : decode cX6_compare 105 = .ok (.getfield 75, 3) := by decide +kernel
theorem dX6_compare_108 : decode cX6_compare 108 = .ok (.iload 9, 2) := by decide +kernel
theorem dX6_compare_110 : decode cX6_compare 110 = .ok (.bipush 25, 2) := by decide +kernel
theorem dX6_compare_112 : decode cX6_compare 112 = .ok (.isub, 1) := by decide +kernel
theorem dX6_compare_113 : decode cX6_compare 113 = .ok (.iaload, 1) := by decide +kernel
theorem dX6_compare_114 : decode cX6_compare 114 = .ok (.aload_n 0, 1) := by decide +kernel
theorem dX6_compare_115 : decode cX6_compare 115 = .ok (.getfield 75, 3) := by decide +kernel
theorem dX6_compare_118 : decode cX6_compare 118 = .ok (.iload 9, 2) := by decide +kernel
theorem dX6_compare_120 : decode cX6_compare 120 = .ok (.iconst 1, 1) := by decide +kernel
theorem dX6_compare_121 : decode cX6_compare 121 = .ok (.isub, 1) := by decide +kernel
theorem dX6_compare_122 : decode cX6_compare 122 = .ok (.iaload, 1) := by decide +kernel
theorem dX6_compare_123 : decode cX6_compare 123 = .ok (.invokestatic 187, 3) := by decide +kernel
theorem dX6_compare_126 : decode cX6_compare 126 = .ok (.iconst 1, 1) := by decide +kernel
theorem dX6_compare_127 : decode cX6_compare 127 = .ok (.iadd, 1) := by decide +kernel
theorem dX6_compare_128 : decode cX6_compare 128 = .ok (.istore 10, 2) := by decide +kernel
theorem dX6_compare_130 : decode cX6_compare 130 = .ok (.aload_n 0, 1) := by decide +kernel
theorem dX6_compare_131 : decode cX6_compare 131 = .ok (.getfield 69, 3) := by decide +kernel
theorem dX6_compare_134 : decode cX6_compare 134 = .ok (.iload 7, 2) := by decide +kernel
theorem dX6_compare_136 : decode cX6_compare 136 = .ok (.iaload, 1) := by decide +kernel
theorem dX6_compare_137 : decode cX6_compare 137 = .ok (.iload 5, 2) := by decide +kernel
theorem dX6_compare_139 : decode cX6_compare 139 = .ok (.if_icmp .ne 103, 3) := by decide +kernel
theorem dX6_compare_142 : decode cX6_compare 142 = .ok (.aload_n 0, 1) := by decide +kernel
theorem dX6_compare_143 : decode cX6_compare 143 = .ok (.getfield 69, 3) := by decide +kernel
theorem dX6_compare_146 : decode cX6_compare 146 = .ok (.bipush 24, 2) := by decide +kernel
theorem dX6_compare_148 : decode cX6_compare 148 = .ok (.iload 8, 2) := by decide +kernel
theorem dX6_compare_150 : decode cX6_compare 150 = .ok (.iadd, 1) := by decide +kernel
theorem dX6_compare_151 : decode cX6_compare 151 = .ok (.iaload, 1) := by decide +kernel
theorem dX6_compare_152 : decode cX6_compare 152 = .ok (.iload 6, 2) := by decide +kernel
theorem dX6_compare_154 : decode cX6_compare 154 = .ok (.if_icmp .ne 88, 3) := by decide +kernel
theorem dX6_compare_157 : decode cX6_compare 157 = .ok (.aload_n 0, 1) := by decide +kernel
theorem dX6_compare_158 : decode cX6_compare 158 = .ok (.getfield 13, 3) := by decide +kernel
theorem dX6_compare_161 : decode cX6_compare 161 = .ok (.bipush 24, 2) := by decide +kernel
theorem dX6_compare_163 : decode cX6_compare 163 = .ok (.iload_n 1, 1) := by decide +kernel
theorem dX6_compare_164 : decode cX6_compare 164 = .ok (.imul, 1) := by decide +kernel
theorem dX6_compare_165 : decode cX6_compare 165 = .ok (.aload_n 0, 1) := by decide +kernel
theorem dX6_compare_166 : decode cX6_compare 166 = .ok (.getfield 66, 3) := by decide +kernel
theorem dX6_compare_169 : decode cX6_compare 169 = .ok (.iload 7, 2) := by decide +kernel
theorem dX6_compare_171 : decode cX6_compare 171 = .ok (.iaload, 1) := by decide +kernel
theorem dX6_compare_172 : decode cX6_compare 172 = .ok (.iadd, 1) := by decide +kernel
theorem dX6_compare_173 : decode cX6_compare 173 = .ok (.iaload, 1) := by decide +kernel
theorem dX6_compare_174 : decode cX6_compare 174 = .ok (.aload_n 0, 1) := by decide +kernel
theorem dX6_compare_175 : decode cX6_compare 175 = .ok (.getfield 13, 3) := by decide +kernel
theorem dX6_compare_178 : decode cX6_compare 178 = .ok (.bipush 24, 2) := by decide +kernel
theorem dX6_compare_180 : decode cX6_compare 180 = .ok (.iload_n 2, 1) := by decide +kernel
theorem dX6_compare_181 : decode cX6_compare 181 = .ok (.imul, 1) := by decide +kernel
theorem dX6_compare_182 : decode cX6_compare 182 = .ok (.aload_n 0, 1) := by decide +kernel
theorem dX6_compare_183 : decode cX6_compare 183 = .ok (.getfield 66, 3) := by decide +kernel
theorem dX6_compare_186 : decode cX6_compare 186 = .ok (.bipush 24, 2) := by decide +kernel
theorem dX6_compare_188 : decode cX6_compare 188 = .ok (.iload 8, 2) := by decide +kernel
theorem dX6_compare_190 : decode cX6_compare 190 = .ok (.iadd, 1) := by decide +kernel
theorem dX6_compare_191 : decode cX6_compare 191 = .ok (.iaload, 1) := by decide +kernel
theorem dX6_compare_192 : decode cX6_compare 192 = .ok (.iadd, 1) := by decide +kernel
theorem dX6_compare_193 : decode cX6_compare 193 = .ok (.iaload, 1) := by decide +kernel
theorem dX6_compare_194 : decode cX6_compare 194 = .ok (.if_icmp .ne 7, 3) := by decide +kernel
theorem dX6_compare_197 : decode cX6_compare 197 = .ok (.iconst 0, 1) := by decide +kernel
theorem dX6_compare_198 : decode cX6_compare 198 = .ok (.goto 4, 3) := by decide +kernel
theorem dX6_compare_201 : decode cX6_compare 201 = .ok (.iconst 1, 1) := by decide +kernel
theorem dX6_compare_202 : decode cX6_compare 202 = .ok (.istore 11, 2) := by decide +kernel
theorem dX6_compare_204 : decode cX6_compare 204 = .ok (.iload 10, 2) := by decide +kernel
theorem dX6_compare_206 : decode cX6_compare 206 = .ok (.aload_n 0, 1) := by decide +kernel
theorem dX6_compare_207 : decode cX6_compare 207 = .ok (.getfield 75, 3) := by decide +kernel
theorem dX6_compare_210 : decode cX6_compare 210 = .ok (.iload 9, 2) := by decide +kernel
theorem dX6_compare_212 : decode cX6_compare 212 = .ok (.bipush 26, 2) := by decide +kernel
theorem dX6_compare_214 : decode cX6_compare 214 = .ok (.isub, 1) := by decide +kernel
theorem dX6_compare_215 : decode cX6_compare 215 = .ok (.iaload, 1) := by decide +kernel
theorem dX6_compare_216 : decode cX6_compare 216 = .ok (.iload 11, 2) := by decide +kernel
theorem dX6_compare_218 : decode cX6_compare 218 = .ok (.iadd, 1) := by decide +kernel
theorem dX6_compare_219 : decode cX6_compare 219 = .ok (.invokestatic 187, 3) := by decide +kernel
theorem dX6_compare_222 : decode cX6_compare 222 = .ok (.istore 10, 2) := by decide +kernel
theorem dX6_compare_224 : decode cX6_compare 224 = .ok (.aload_n 0, 1) := by decide +kernel
theorem dX6_compare_225 : decode cX6_compare 225 = .ok (.getfield 72, 3) := by decide +kernel
theorem dX6_compare_228 : decode cX6_compare 228 = .ok (.bipush 24, 2) := by decide +kernel
theorem dX6_compare_230 : decode cX6_compare 230 = .ok (.iload 7, 2) := by decide +kernel
theorem dX6_compare_232 : decode cX6_compare 232 = .ok (.imul, 1) := by decide +kernel
theorem dX6_compare_233 : decode cX6_compare 233 = .ok (.iload 8, 2) := by decide +kernel
theorem dX6_compare_235 : decode cX6_compare 235 = .ok (.iadd, 1) := by decide +kernel
theorem dX6_compare_236 : decode cX6_compare 236 = .ok (.iload 10, 2) := by decide +kernel
theorem dX6_compare_238 : decode cX6_compare 238 = .ok (.iastore, 1) := by decide +kernel
theorem dX6_compare_239 : decode cX6_compare 239 = .ok (.goto 60, 3) := by decide +kernel
theorem dX6_compare_242 : decode cX6_compare 242 = .ok (.bipush 25, 2) := by decide +kernel
theorem dX6_compare_244 : decode cX6_compare 244 = .ok (.aload_n 0, 1) := by decide +kernel
theorem dX6_compare_245 : decode cX6_compare 245 = .ok (.getfield 69, 3) := by decide +kernel
theorem dX6_compare_248 : decode cX6_compare 248 = .ok (.iload 7, 2) := by decide +kernel
theorem dX6_compare_250 : decode cX6_compare 250 = .ok (.iaload, 1) := by decide +kernel
theorem dX6_compare_251 : decode cX6_compare 251 = .ok (.iload 5, 2) := by decide +kernel
theorem dX6_compare_253 : decode cX6_compare 253 = .ok (.isub, 1) := by decide +kernel
theorem dX6_compare_254 : decode cX6_compare 254 = .ok (.imul, 1) := by decide +kernel
theorem dX6_compare_255 : decode cX6_compare 255 = .ok (.aload_n 0, 1) := by decide +kernel
theorem dX6_compare_256 : decode cX6_compare 256 = .ok (.getfield 69, 3) := by decide +kernel
theorem dX6_compare_259 : decode cX6_compare 259 = .ok (.bipush 24, 2) := by decide +kernel
theorem dX6_compare_261 : decode cX6_compare 261 = .ok (.iload 8, 2) := by decide +kernel
theorem dX6_compare_263 : decode cX6_compare 263 = .ok (.iadd, 1) := by decide +kernel
theorem dX6_compare_264 : decode cX6_compare 264 = .ok (.iaload, 1) := by decide +kernel
theorem dX6_compare_265 : decode cX6_compare 265 = .ok (.iadd, 1) := by decide +kernel
theorem dX6_compare_266 : decode cX6_compare 266 = .ok (.iload 6, 2) := by decide +kernel
theorem dX6_compare_268 : decode cX6_compare 268 = .ok (.isub, 1) := by decide +kernel
theorem dX6_compare_269 : decode cX6_compare 269 = .ok (.istore 11, 2) := by decide +kernel
theorem dX6_compare_271 : decode cX6_compare 271 = .ok (.iload 10, 2) := by decide +kernel
theorem dX6_compare_273 : decode cX6_compare 273 = .ok (.aload_n 0, 1) := by decide +kernel
theorem dX6_compare_274 : decode cX6_compare 274 = .ok (.getfield 75, 3) := by decide +kernel
theorem dX6_compare_277 : decode cX6_compare 277 = .ok (.iload 11, 2) := by decide +kernel
theorem dX6_compare_279 : decode cX6_compare 279 = .ok (.iaload, 1) := by decide +kernel
theorem dX6_compare_280 : decode cX6_compare 280 = .ok (.aload_n 0, 1) := by decide +kernel
theorem dX6_compare_281 : decode cX6_compare 281 = .ok (.getfield 72, 3) := by decide +kernel
theorem dX6_compare_284 : decode cX6_compare 284 = .ok (.bipush 24, 2) := by decide +kernel
theorem dX6_compare_286 : decode cX6_compare 286 = .ok (.iload 7, 2) := by decide +kernel
theorem dX6_compare_288 : decode cX6_compare 288 = .ok (.imul, 1) := by decide +kernel
theorem dX6_compare_289 : decode cX6_compare 289 = .ok (.iload 8, 2) := by decide +kernel
theorem dX6_compare_291 : decode cX6_compare 291 = .ok (.iadd, 1) := by decide +kernel
theorem dX6_compare_292 : decode cX6_compare 292 = .ok (.iaload, 1) := by decide +kernel
theorem dX6_compare_293 : decode cX6_compare 293 = .ok (.iadd, 1) := by decide +kernel
theorem dX6_compare_294 : decode cX6_compare 294 = .ok (.invokestatic 187, 3) := by decide +kernel
theorem dX6_compare_297 : decode cX6_compare 297 = .ok (.istore 10, 2) := by decide +kernel
theorem dX6_compare_299 : decode cX6_compare 299 = .ok (.aload_n 0, 1) := by decide +kernel
theorem dX6_compare_300 : decode cX6_compare 300 = .ok (.getfield 75, 3) := by decide +kernel
theorem dX6_compare_303 : decode cX6_compare 303 = .ok (.iload 9, 2) := by decide +kernel
theorem dX6_compare_305 : decode cX6_compare 305 = .ok (.iload 10, 2) := by decide +kernel
theorem dX6_compare_307 : decode cX6_compare 307 = .ok (.iastore, 1) := by decide +kernel
theorem dX6_compare_308 : decode cX6_compare 308 = .ok (.iinc 8 1, 3) := by decide +kernel
theorem dX6_compare_311 : decode cX6_compare 311 = .ok (.goto (-273), 3) := by decide +kernel
theorem dX6_compare_314 : decode cX6_compare 314 = .ok (.iinc 7 1, 3) := by decide +kernel
theorem dX6_compare_317 : decode cX6_compare 317 = .ok (.goto (-291), 3) := by decide +kernel
theorem dX6_compare_320 : decode cX6_compare 320 = .ok (.return_, 1) := by decide +kernel
set_option maxRecDepth 20000 in
theorem ggX6_distance_X6_isCommit : GoodIn wsX6_distance wsX6_isCommit := goodIn_r _ [7, 8, 51, 52, 53, 54, 55, 56, 57, 58, 59, 60, 61, 62, 63, 64, 65, 66, 67, 68, 69, 70, 71, 72, 73, 74, 75, 76, 77] (by decide +kernel) (by decide +kernel)
set_option maxRecDepth 20000 in
theorem gX6_distance_X6_isCommit : GoodIn wsX6_distance (wsV RX6 127 RX6 yX6_isCommit wsX6_isCommit) := goodIn_app (goodIn_of _ (by decide +kernel)) ggX6_distance_X6_isCommit
set_option maxRecDepth 20000 in
theorem ggX6_distance_X6_leave : GoodIn wsX6_distance wsX6_leave := goodIn_r _ [12, 13, 14, 15, 16, 17, 18, 19, 20, 21, 6, 22, 23, 24, 25, 26, 27, 28, 29, 30, 31, 32, 33, 34, 35, 36, 37, 38, 39, 40, 41, 51, 52, 53, 54, 55, 56, 57, 58, 59, 60, 61, 62, 63, 64, 65, 66, 67, 68, 69, 70, 71, 72, 73, 74, 75, 76, 77] (by decide +kernel) (by decide +kernel)
set_option maxRecDepth 20000 in
theorem gX6_distance_X6_leave : GoodIn wsX6_distance (wsV RX6 190 RX6 yX6_leave wsX6_leave) := goodIn_app (goodIn_of _ (by decide +kernel)) ggX6_distance_X6_leave
set_option maxRecDepth 20000 in
theorem ggX6_distance_X6_compare : GoodIn wsX6_distance wsX6_compare := goodIn_r _ [45, 18, 46, 47, 17, 2, 48, 49, 6, 50, 51, 52, 53, 54, 55, 56, 57, 58, 59, 60, 61, 62, 63, 64, 65, 66, 67, 68, 69, 70, 71, 72, 73, 74, 75, 76, 77] (by decide +kernel) (by decide +kernel)
set_option maxRecDepth 20000 in
theorem gX6_distance_X6_compare : GoodIn wsX6_distance (wsV RX6 193 RX6 yX6_compare wsX6_compare) := goodIn_app (goodIn_of _ (by decide +kernel)) ggX6_distance_X6_compare
theorem dX6_distance_0 : decode cX6_distance 0 = .ok (.aload_n 0, 1) := by decide +kernel
theorem dX6_distance_1 : decode cX6_distance 1 = .ok (.aload_n 0, 1) := by decide +kernel
theorem dX6_distance_2 : decode cX6_distance 2 = .ok (.iload_n 1, 1) := by decide +kernel
theorem dX6_distance_3 : decode cX6_distance 3 = .ok (.invokevirtual 127, 3) := by decide +kernel
theorem dX6_distance_6 : decode cX6_distance 6 = .ok (.ifCond .eq 15, 3) := by decide +kernel
theorem dX6_distance_9 : decode cX6_distance 9 = .ok (.aload_n 0, 1) := by decide +kernel
theorem dX6_distance_10 : decode cX6_distance 10 = .ok (.iload_n 2, 1) := by decide +kernel
theorem dX6_distance_11 : decode cX6_distance 11 = .ok (.invokevirtual 127, 3) := by decide +kernel
theorem dX6_distance_14 : decode cX6_distance 14 = .ok (.ifCond .eq 7, 3) := by decide +kernel
theorem dX6_distance_17 : decode cX6_distance 17 = .ok (.iconst 0, 1) := by decide +kernel
theorem dX6_distance_18 : decode cX6_distance 18 = .ok (.goto 4, 3) := by decide +kernel
theorem dX6_distance_21 : decode cX6_distance 21 = .ok (.iconst 1, 1) := by decide +kernel
theorem dX6_distance_22 : decode cX6_distance 22 = .ok (.putfield 82, 3) := by decide +kernel
theorem dX6_distance_25 : decode cX6_distance 25 = .ok (.aload_n 0, 1) := by decide +kernel
theorem dX6_distance_26 : decode cX6_distance 26 = .ok (.getfield 82, 3) := by decide +kernel
theorem dX6_distance_29 : decode cX6_distance 29 = .ok (.ifCond .le 5, 3) := by decide +kernel
theorem dX6_distance_32 : decode cX6_distance 32 = .ok (.iconst 0, 1) := by decide +kernel
theorem dX6_distance_33 : decode cX6_distance 33 = .ok (.ireturn, 1) := by decide +kernel
theorem dX6_distance_34 : decode cX6_distance 34 = .ok (.aload_n 0, 1) := by decide +kernel
theorem dX6_distance_35 : decode cX6_distance 35 = .ok (.iload_n 1, 1) := by decide +kernel
theorem dX6_distance_36 : decode cX6_distance 36 = .ok (.iconst 0, 1) := by decide +kernel
theorem dX6_distance_37 : decode cX6_distance 37 = .ok (.invokevirtual 190, 3) := by decide +kernel
theorem dX6_distance_40 : decode cX6_distance 40 = .ok (.istore_n 3, 1) := by decide +kernel
theorem dX6_distance_41 : decode cX6_distance 41 = .ok (.aload_n 0, 1) := by decide +kernel
theorem dX6_distance_42 : decode cX6_distance 42 = .ok (.iload_n 2, 1) := by decide +kernel
theorem dX6_distance_43 : decode cX6_distance 43 = .ok (.bipush 24, 2) := by decide +kernel
theorem dX6_distance_45 : decode cX6_distance 45 = .ok (.invokevirtual 190, 3) := by decide +kernel
theorem dX6_distance_48 : decode cX6_distance 48 = .ok (.istore 4, 2) := by decide +kernel
theorem dX6_distance_50 : decode cX6_distance 50 = .ok (.iconst 0, 1) := by decide +kernel
theorem dX6_distance_51 : decode cX6_distance 51 = .ok (.istore 5, 2) := by decide +kernel
theorem dX6_distance_53 : decode cX6_distance 53 = .ok (.iload 5, 2) := by decide +kernel
theorem dX6_distance_55 : decode cX6_distance 55 = .ok (.iload_n 3, 1) := by decide +kernel
theorem dX6_distance_56 : decode cX6_distance 56 = .ok (.if_icmp .ge 35, 3) := by decide +kernel
theorem dX6_distance_59 : decode cX6_distance 59 = .ok (.iconst 0, 1) := by decide +kernel
theorem dX6_distance_60 : decode cX6_distance 60 = .ok (.istore 6, 2) := by decide +kernel
theorem dX6_distance_62 : decode cX6_distance 62 = .ok (.iload 6, 2) := by decide +kernel
theorem dX6_distance_64 : decode cX6_distance 64 = .ok (.iload 4, 2) := by decide +kernel
theorem dX6_distance_66 : decode cX6_distance 66 = .ok (.if_icmp .ge 19, 3) := by decide +kernel
theorem dX6_distance_69 : decode cX6_distance 69 = .ok (.aload_n 0, 1) := by decide +kernel
theorem dX6_distance_70 : decode cX6_distance 70 = .ok (.iload_n 1, 1) := by decide +kernel
theorem dX6_distance_71 : decode cX6_distance 71 = .ok (.iload_n 2, 1) := by decide +kernel
theorem dX6_distance_72 : decode cX6_distance 72 = .ok (.iload 5, 2) := by decide +kernel
theorem dX6_distance_74 : decode cX6_distance 74 = .ok (.iload 6, 2) := by decide +kernel
theorem dX6_distance_76 : decode cX6_distance 76 = .ok (.invokevirtual 193, 3) := by decide +kernel
theorem dX6_distance_79 : decode cX6_distance 79 = .ok (.iinc 6 1, 3) := by decide +kernel
theorem dX6_distance_82 : decode cX6_distance 82 = .ok (.goto (-20), 3) := by decide +kernel
theorem dX6_distance_85 : decode cX6_distance 85 = .ok (.iinc 5 1, 3) := by decide +kernel
theorem dX6_distance_88 : decode cX6_distance 88 = .ok (.goto (-35), 3) := by decide +kernel
theorem dX6_distance_91 : decode cX6_distance 91 = .ok (.aload_n 0, 1) := by decide +kernel
theorem dX6_distance_92 : decode cX6_distance 92 = .ok (.getfield 72, 3) := by decide +kernel
theorem dX6_distance_95 : decode cX6_distance 95 = .ok (.bipush 24, 2) := by decide +kernel
theorem dX6_distance_97 : decode cX6_distance 97 = .ok (.iload_n 3, 1) := by decide +kernel
theorem dX6_distance_98 : decode cX6_distance 98 = .ok (.iconst 1, 1) := by decide +kernel
theorem dX6_distance_99 : decode cX6_distance 99 = .ok (.isub, 1) := by decide +kernel
theorem dX6_distance_100 : decode cX6_distance 100 = .ok (.imul, 1) := by decide +kernel
theorem dX6_distance_101 : decode cX6_distance 101 = .ok (.iload 4, 2) := by decide +kernel
theorem dX6_distance_103 : decode cX6_distance 103 = .ok (.iadd, 1) := by decide +kernel
theorem dX6_distance_104 : decode cX6_distance 104 = .ok (.iconst 1, 1) := by decide +kernel
theorem dX6_distance_105 : decode cX6_distance 105 = .ok (.isub, 1) := by decide +kernel
theorem dX6_distance_106 : decode cX6_distance 106 = .ok (.iaload, 1) := by decide +kernel
theorem dX6_distance_107 : decode cX6_distance 107 = .ok (.ireturn, 1) := by decide +kernel
theorem dX6_state_0 : decode cX6_state 0 = .ok (.aload_n 0, 1) := by decide +kernel
theorem dX6_state_1 : decode cX6_state 1 = .ok (.iload_n 1, 1) := by decide +kernel
theorem dX6_state_2 : decode cX6_state 2 = .ok (.ifCond .lt 8, 3) := by decide +kernel
theorem dX6_state_5 : decode cX6_state 5 = .ok (.iload_n 1, 1) := by decide +kernel
theorem dX6_state_6 : decode cX6_state 6 = .ok (.iconst 2, 1) := by decide +kernel
theorem dX6_state_7 : decode cX6_state 7 = .ok (.if_icmp .le 7, 3) := by decide +kernel
theorem dX6_state_10 : decode cX6_state 10 = .ok (.iconst 1, 1) := by decide +kernel
theorem dX6_state_11 : decode cX6_state 11 = .ok (.goto 4, 3) := by decide +kernel
theorem dX6_state_14 : decode cX6_state 14 = .ok (.iconst 0, 1) := by decide +kernel
theorem dX6_state_15 : decode cX6_state 15 = .ok (.putfield 82, 3) := by decide +kernel
theorem dX6_state_18 : decode cX6_state 18 = .ok (.aload_n 0, 1) := by decide +kernel
theorem dX6_state_19 : decode cX6_state 19 = .ok (.getfield 82, 3) := by decide +kernel
theorem dX6_state_22 : decode cX6_state 22 = .ok (.ifCond .le 7, 3) := by decide +kernel
theorem dX6_state_25 : decode cX6_state 25 = .ok (.iconst 0, 1) := by decide +kernel
theorem dX6_state_26 : decode cX6_state 26 = .ok (.goto 30, 3) := by decide +kernel
theorem dX6_state_29 : decode cX6_state 29 = .ok (.iload_n 1, 1) := by decide +kernel
theorem dX6_state_30 : decode cX6_state 30 = .ok (.ifCond .ne 10, 3) := by decide +kernel
theorem dX6_state_33 : decode cX6_state 33 = .ok (.aload_n 0, 1) := by decide +kernel
theorem dX6_state_34 : decode cX6_state 34 = .ok (.getfield 27, 3) := by decide +kernel
theorem dX6_state_37 : decode cX6_state 37 = .ok (.goto 19, 3) := by decide +kernel
theorem dX6_state_40 : decode cX6_state 40 = .ok (.iload_n 1, 1) := by decide +kernel
theorem dX6_state_41 : decode cX6_state 41 = .ok (.iconst 1, 1) := by decide +kernel
theorem dX6_state_42 : decode cX6_state 42 = .ok (.if_icmp .ne 10, 3) := by decide +kernel
theorem dX6_state_45 : decode cX6_state 45 = .ok (.aload_n 0, 1) := by decide +kernel
theorem dX6_state_46 : decode cX6_state 46 = .ok (.getfield 124, 3) := by decide +kernel
theorem dX6_state_49 : decode cX6_state 49 = .ok (.goto 7, 3) := by decide +kernel
theorem dX6_state_52 : decode cX6_state 52 = .ok (.aload_n 0, 1) := by decide +kernel
theorem dX6_state_53 : decode cX6_state 53 = .ok (.getfield 39, 3) := by decide +kernel
theorem dX6_state_56 : decode cX6_state 56 = .ok (.ireturn, 1) := by decide +kernel
set_option maxRecDepth 20000 in
theorem ggX6_above_X6_isCommit : GoodIn wsX6_above wsX6_isCommit := goodIn_r _ [8, 9, 10, 11, 12, 13, 14, 15, 16, 17, 18, 19, 20, 21, 22, 23, 24, 25, 26, 27, 28, 29, 30, 31, 32, 33, 34, 35, 36] (by decide +kernel) (by decide +kernel)
set_option maxRecDepth 20000 in
theorem gX6_above_X6_isCommit : GoodIn wsX6_above (wsV RX6 127 RX6 yX6_isCommit wsX6_isCommit) := goodIn_app (goodIn_of _ (by decide +kernel)) ggX6_above_X6_isCommit
theorem dX6_above_0 : decode cX6_above 0 = .ok (.aload_n 0, 1) := by decide +kernel
theorem dX6_above_1 : decode cX6_above 1 = .ok (.aload_n 0, 1) := by decide +kernel
theorem dX6_above_2 : decode cX6_above 2 = .ok (.iload_n 1, 1) := by decide +kernel
theorem dX6_above_3 : decode cX6_above 3 = .ok (.invokevirtual 127, 3) := by decide +kernel
theorem dX6_above_6 : decode cX6_above 6 = .ok (.ifCond .ne 7, 3) := by decide +kernel
theorem dX6_above_9 : decode cX6_above 9 = .ok (.iconst 1, 1) := by decide +kernel
theorem dX6_above_10 : decode cX6_above 10 = .ok (.goto 17, 3) := by decide +kernel
theorem dX6_above_13 : decode cX6_above 13 = .ok (.iload_n 2, 1) := by decide +kernel
theorem dX6_above_14 : decode cX6_above 14 = .ok (.ifCond .lt 8, 3) := by decide +kernel
theorem dX6_above_17 : decode cX6_above 17 = .ok (.iload_n 2, 1) := by decide +kernel
theorem dX6_above_18 : decode cX6_above 18 = .ok (.iconst 1, 1) := by decide +kernel
theorem dX6_above_19 : decode cX6_above 19 = .ok (.if_icmp .le 7, 3) := by decide +kernel
theorem dX6_above_22 : decode cX6_above 22 = .ok (.iconst 2, 1) := by decide +kernel
theorem dX6_above_23 : decode cX6_above 23 = .ok (.goto 4, 3) := by decide +kernel
theorem dX6_above_26 : decode cX6_above 26 = .ok (.iconst 0, 1) := by decide +kernel
theorem dX6_above_27 : decode cX6_above 27 = .ok (.putfield 82, 3) := by decide +kernel
theorem dX6_above_30 : decode cX6_above 30 = .ok (.aload_n 0, 1) := by decide +kernel
theorem dX6_above_31 : decode cX6_above 31 = .ok (.getfield 82, 3) := by decide +kernel
theorem dX6_above_34 : decode cX6_above 34 = .ok (.ifCond .le 7, 3) := by decide +kernel
theorem dX6_above_37 : decode cX6_above 37 = .ok (.iconst 0, 1) := by decide +kernel
theorem dX6_above_38 : decode cX6_above 38 = .ok (.goto 22, 3) := by decide +kernel
theorem dX6_above_41 : decode cX6_above 41 = .ok (.iload_n 2, 1) := by decide +kernel
theorem dX6_above_42 : decode cX6_above 42 = .ok (.ifCond .ne 12, 3) := by decide +kernel
theorem dX6_above_45 : decode cX6_above 45 = .ok (.aload_n 0, 1) := by decide +kernel
theorem dX6_above_46 : decode cX6_above 46 = .ok (.getfield 30, 3) := by decide +kernel
theorem dX6_above_49 : decode cX6_above 49 = .ok (.iload_n 1, 1) := by decide +kernel
theorem dX6_above_50 : decode cX6_above 50 = .ok (.iaload, 1) := by decide +kernel
theorem dX6_above_51 : decode cX6_above 51 = .ok (.goto 9, 3) := by decide +kernel
theorem dX6_above_54 : decode cX6_above 54 = .ok (.aload_n 0, 1) := by decide +kernel
theorem dX6_above_55 : decode cX6_above 55 = .ok (.getfield 33, 3) := by decide +kernel
theorem dX6_above_58 : decode cX6_above 58 = .ok (.iload_n 1, 1) := by decide +kernel
theorem dX6_above_59 : decode cX6_above 59 = .ok (.iaload, 1) := by decide +kernel
theorem dX6_above_60 : decode cX6_above 60 = .ok (.ireturn, 1) := by decide +kernel

