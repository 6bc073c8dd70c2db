theorem dX6_baseOf_20 : decode cX6_baseOf 20 = .ok (.getfield 27, 3) := by decide +kernel
theorem dX6_baseOf_23 : decode cX6_baseOf 23 = .ok (.if_icmp .ge 95, 3) := by decide +kernel
theorem dX6_baseOf_26 : decode cX6_baseOf 26 = .ok (.iload_n 3, 1) := by decide +kernel
theorem dX6_baseOf_27 : decode cX6_baseOf 27 = .ok (.iload 4, 2) := by decide +kernel
theorem dX6_baseOf_29 : decode cX6_baseOf 29 = .ok (.ishr, 1) := by decide +kernel
theorem dX6_baseOf_30 : decode cX6_baseOf 30 = .ok (.iconst 1, 1) := by decide +kernel
theorem dX6_baseOf_31 : decode cX6_baseOf 31 = .ok (.iand, 1) := by decide +kernel
theorem dX6_baseOf_32 : decode cX6_baseOf 32 = .ok (.iconst 1, 1) := by decide +kernel
theorem dX6_baseOf_33 : decode cX6_baseOf 33 = .ok (.if_icmp .ne 7, 3) := by decide +kernel
theorem dX6_baseOf_36 : decode cX6_baseOf 36 = .ok (.iconst 1, 1) := by decide +kernel
theorem dX6_baseOf_37 : decode cX6_baseOf 37 = .ok (.goto 4, 3) := by decide +kernel
theorem dX6_baseOf_40 : decode cX6_baseOf 40 = .ok (.iconst 0, 1) := by decide +kernel
theorem dX6_baseOf_41 : decode cX6_baseOf 41 = .ok (.istore 5, 2) := by decide +kernel
theorem dX6_baseOf_43 : decode cX6_baseOf 43 = .ok (.iconst 0, 1) := by decide +kernel
theorem dX6_baseOf_44 : decode cX6_baseOf 44 = .ok (.istore 6, 2) := by decide +kernel
theorem dX6_baseOf_46 : decode cX6_baseOf 46 = .ok (.iload 6, 2) := by decide +kernel
theorem dX6_baseOf_48 : decode cX6_baseOf 48 = .ok (.aload_n 0, 1) := by decide +kernel
theorem dX6_baseOf_49 : decode cX6_baseOf 49 = .ok (.getfield 27, 3) := by decide +kernel
theorem dX6_baseOf_52 : decode cX6_baseOf 52 = .ok (.if_icmp .ge 52, 3) := by decide +kernel
theorem dX6_baseOf_55 : decode cX6_baseOf 55 = .ok (.iload 5, 2) := by decide +kernel
theorem dX6_baseOf_57 : decode cX6_baseOf 57 = .ok (.ifCond .eq 38, 3) := by decide +kernel
theorem dX6_baseOf_60 : decode cX6_baseOf 60 = .ok (.iload 6, 2) := by decide +kernel
theorem dX6_baseOf_62 : decode cX6_baseOf 62 = .ok (.iload 4, 2) := by decide +kernel
theorem dX6_baseOf_64 : decode cX6_baseOf 64 = .ok (.if_icmp .eq 27, 3) := by decide +kernel
theorem dX6_baseOf_67 : decode cX6_baseOf 67 = .ok (.iload_n 3, 1) := by decide +kernel
theorem dX6_baseOf_68 : decode cX6_baseOf 68 = .ok (.iload 6, 2) := by decide +kernel
theorem dX6_baseOf_70 : decode cX6_baseOf 70 = .ok (.ishr, 1) := by decide +kernel
theorem dX6_baseOf_71 : decode cX6_baseOf 71 = .ok (.iconst 1, 1) := by decide +kernel
theorem dX6_baseOf_72 : decode cX6_baseOf 72 = .ok (.iand, 1) := by decide +kernel
theorem dX6_baseOf_73 : decode cX6_baseOf 73 = .ok (.ifCond .eq 18, 3) := by decide +kernel
theorem dX6_baseOf_76 : decode cX6_baseOf 76 = .ok (.aload_n 0, 1) := by decide +kernel
theorem dX6_baseOf_77 : decode cX6_baseOf 77 = .ok (.getfield 36, 3) := by decide +kernel
theorem dX6_baseOf_80 : decode cX6_baseOf 80 = .ok (.iload 6, 2) := by decide +kernel
theorem dX6_baseOf_82 : decode cX6_baseOf 82 = .ok (.iaload, 1) := by decide +kernel
theorem dX6_baseOf_83 : decode cX6_baseOf 83 = .ok (.iload 4, 2) := by decide +kernel
theorem dX6_baseOf_85 : decode cX6_baseOf 85 = .ok (.ishr, 1) := by decide +kernel
theorem dX6_baseOf_86 : decode cX6_baseOf 86 = .ok (.iconst 1, 1) := by decide +kernel
theorem dX6_baseOf_87 : decode cX6_baseOf 87 = .ok (.iand, 1) := by decide +kernel
theorem dX6_baseOf_88 : decode cX6_baseOf 88 = .ok (.ifCond .ne 7, 3) := by decide +kernel
theorem dX6_baseOf_91 : decode cX6_baseOf 91 = .ok (.iconst 1, 1) := by decide +kernel
theorem dX6_baseOf_92 : decode cX6_baseOf 92 = .ok (.goto 4, 3) := by decide +kernel
theorem dX6_baseOf_95 : decode cX6_baseOf 95 = .ok (.iconst 0, 1) := by decide +kernel
theorem dX6_baseOf_96 : decode cX6_baseOf 96 = .ok (.istore 5, 2) := by decide +kernel
theorem dX6_baseOf_98 : decode cX6_baseOf 98 = .ok (.iinc 6 1, 3) := by decide +kernel
theorem dX6_baseOf_101 : decode cX6_baseOf 101 = .ok (.goto (-55), 3) := by decide +kernel
theorem dX6_baseOf_104 : decode cX6_baseOf 104 = .ok (.iload 5, 2) := by decide +kernel
theorem dX6_baseOf_106 : decode cX6_baseOf 106 = .ok (.ifCond .eq 6, 3) := by decide +kernel
theorem dX6_baseOf_109 : decode cX6_baseOf 109 = .ok (.iload 4, 2) := by decide +kernel
theorem dX6_baseOf_111 : decode cX6_baseOf 111 = .ok (.ireturn, 1) := by decide +kernel
theorem dX6_baseOf_112 : decode cX6_baseOf 112 = .ok (.iinc 4 1, 3) := by decide +kernel
theorem dX6_baseOf_115 : decode cX6_baseOf 115 = .ok (.goto (-98), 3) := by decide +kernel
theorem dX6_baseOf_118 : decode cX6_baseOf 118 = .ok (.iconst (-1), 1) := by decide +kernel
theorem dX6_baseOf_119 : decode cX6_baseOf 119 = .ok (.ireturn, 1) := by decide +kernel
set_option maxRecDepth 20000 in
theorem ggX6_base_X6_isCommit : GoodIn wsX6_base wsX6_isCommit := goodIn_r _ [6, 7, 13, 14, 15, 16, 17, 18, 19, 20, 21, 22, 23, 24, 25, 26, 27, 28, 29, 30, 31, 32, 33, 34, 35, 36, 37, 38, 39] (by decide +kernel) (by decide +kernel)
set_option maxRecDepth 20000 in
theorem gX6_base_X6_isCommit : GoodIn wsX6_base (wsV RX6 127 RX6 yX6_isCommit wsX6_isCommit) := goodIn_app (goodIn_of _ (by decide +kernel)) ggX6_base_X6_isCommit
set_option maxRecDepth 20000 in
theorem ggX6_base_X6_baseOf : GoodIn wsX6_base wsX6_baseOf := goodIn_r _ [11, 12, 7, 13, 14, 15, 16, 17, 18, 19, 20, 21, 22, 23, 24, 25, 26, 27, 28, 29, 30, 31, 32, 33, 34, 35, 36, 37, 38, 39] (by decide +kernel) (by decide +kernel)
set_option maxRecDepth 20000 in
theorem gX6_base_X6_baseOf : GoodIn wsX6_base (wsV RX6 131 RX6 yX6_baseOf wsX6_baseOf) := goodIn_app (goodIn_of _ (by decide +kernel)) ggX6_base_X6_baseOf
theorem dX6_base_0 : decode cX6_base 0 = .ok (.aload_n 0, 1) := by decide +kernel
theorem dX6_base_1 : decode cX6_base 1 = .ok (.aload_n 0, 1) := by decide +kernel
theorem dX6_base_2 : decode cX6_base 2 = .ok (.iload_n 1, 1) := by decide +kernel
theorem dX6_base_3 : decode cX6_base 3 = .ok (.invokevirtual 127, 3) := by decide +kernel
theorem dX6_base_6 : decode cX6_base 6 = .ok (.ifCond .eq 15, 3) := by decide +kernel
theorem dX6_base_9 : decode cX6_base 9 = .ok (.aload_n 0, 1) := by decide +kernel
theorem dX6_base_10 : decode cX6_base 10 = .ok (.iload_n 2, 1) := by decide +kernel
theorem dX6_base_11 : decode cX6_base 11 = .ok (.invokevirtual 127, 3) := by decide +kernel
theorem dX6_base_14 : decode cX6_base 14 = .ok (.ifCond .eq 7, 3) := by decide +kernel
theorem dX6_base_17 : decode cX6_base 17 = .ok (.iconst 0, 1) := by decide +kernel
theorem dX6_base_18 : decode cX6_base 18 = .ok (.goto 4, 3) := by decide +kernel
theorem dX6_base_21 : decode cX6_base 21 = .ok (.iconst 1, 1) := by decide +kernel
theorem dX6_base_22 : decode cX6_base 22 = .ok (.putfield 82, 3) := by decide +kernel
theorem dX6_base_25 : decode cX6_base 25 = .ok (.aload_n 0, 1) := by decide +kernel
theorem dX6_base_26 : decode cX6_base 26 = .ok (.getfield 82, 3) := by decide +kernel
theorem dX6_base_29 : decode cX6_base 29 = .ok (.ifCond .ne 12, 3) := by decide +kernel
theorem dX6_base_32 : decode cX6_base 32 = .ok (.aload_n 0, 1) := by decide +kernel
theorem dX6_base_33 : decode cX6_base 33 = .ok (.iload_n 1, 1) := by decide +kernel
theorem dX6_base_34 : decode cX6_base 34 = .ok (.iload_n 2, 1) := by decide +kernel
theorem dX6_base_35 : decode cX6_base 35 = .ok (.invokevirtual 131, 3) := by decide +kernel
theorem dX6_base_38 : decode cX6_base 38 = .ok (.goto 4, 3) := by decide +kernel
theorem dX6_base_41 : decode cX6_base 41 = .ok (.iconst 0, 1) := by decide +kernel
theorem dX6_base_42 : decode cX6_base 42 = .ok (.ireturn, 1) := by decide +kernel
theorem dX6_isHeads_0 : decode cX6_isHeads 0 = .ok (.iconst 1, 1) := by decide +kernel
theorem dX6_isHeads_1 : decode cX6_isHeads 1 = .ok (.istore_n 1, 1) := by decide +kernel
theorem dX6_isHeads_2 : decode cX6_isHeads 2 = .ok (.iconst 0, 1) := by decide +kernel
theorem dX6_isHeads_3 : decode cX6_isHeads 3 = .ok (.istore_n 2, 1) := by decide +kernel
theorem dX6_isHeads_4 : decode cX6_isHeads 4 = .ok (.iload_n 2, 1) := by decide +kernel
theorem dX6_isHeads_5 : decode cX6_isHeads 5 = .ok (.bipush 24, 2) := by decide +kernel
theorem dX6_isHeads_7 : decode cX6_isHeads 7 = .ok (.if_icmp .ge 109, 3) := by decide +kernel
theorem dX6_isHeads_10 : decode cX6_isHeads 10 = .ok (.sipush 288, 3) := by decide +kernel
theorem dX6_isHeads_13 : decode cX6_isHeads 13 = .ok (.iload_n 2, 1) := by decide +kernel
theorem dX6_isHeads_14 : decode cX6_isHeads 14 = .ok (.iadd, 1) := by decide +kernel
theorem dX6_isHeads_15 : decode cX6_isHeads 15 = .ok (.istore_n 3, 1) := by decide +kernel
theorem dX6_isHeads_16 : decode cX6_isHeads 16 = .ok (.bipush 24, 2) := by decide +kernel
theorem dX6_isHeads_18 : decode cX6_isHeads 18 = .ok (.aload_n 0, 1) := by decide +kernel
theorem dX6_isHeads_19 : decode cX6_isHeads 19 = .ok (.getfield 124, 3) := by decide +kernel
theorem dX6_isHeads_22 : decode cX6_isHeads 22 = .ok (.imul, 1) := by decide +kernel
theorem dX6_isHeads_23 : decode cX6_isHeads 23 = .ok (.iload_n 2, 1) := by decide +kernel
theorem dX6_isHeads_24 : decode cX6_isHeads 24 = .ok (.iadd, 1) := by decide +kernel
theorem dX6_isHeads_25 : decode cX6_isHeads 25 = .ok (.istore 4, 2) := by decide +kernel
theorem dX6_isHeads_27 : decode cX6_isHeads 27 = .ok (.iload_n 1, 1) := by decide +kernel
theorem dX6_isHeads_28 : decode cX6_isHeads 28 = .ok (.ifCond .eq 80, 3) := by decide +kernel
theorem dX6_isHeads_31 : decode cX6_isHeads 31 = .ok (.aload_n 0, 1) := by decide +kernel
theorem dX6_isHeads_32 : decode cX6_isHeads 32 = .ok (.getfield 7, 3) := by decide +kernel
theorem dX6_isHeads_35 : decode cX6_isHeads 35 = .ok (.iload_n 3, 1) := by decide +kernel
theorem dX6_isHeads_36 : decode cX6_isHeads 36 = .ok (.baload, 1) := by decide +kernel
theorem dX6_isHeads_37 : decode cX6_isHeads 37 = .ok (.aload_n 0, 1) := by decide +kernel
theorem dX6_isHeads_38 : decode cX6_isHeads 38 = .ok (.getfield 7, 3) := by decide +kernel
theorem dX6_isHeads_41 : decode cX6_isHeads 41 = .ok (.iload 4, 2) := by decide +kernel
theorem dX6_isHeads_43 : decode cX6_isHeads 43 = .ok (.baload, 1) := by decide +kernel
theorem dX6_isHeads_44 : decode cX6_isHeads 44 = .ok (.if_icmp .ne 64, 3) := by decide +kernel
theorem dX6_isHeads_47 : decode cX6_isHeads 47 = .ok (.aload_n 0, 1) := by decide +kernel
theorem dX6_isHeads_48 : decode cX6_isHeads 48 = .ok (.getfield 7, 3) := by decide +kernel
theorem dX6_isHeads_51 : decode cX6_isHeads 51 = .ok (.iload_n 3, 1) := by decide +kernel
theorem dX6_isHeads_52 : decode cX6_isHeads 52 = .ok (.baload, 1) := by decide +kernel
theorem dX6_isHeads_53 : decode cX6_isHeads 53 = .ok (.ifCond .eq 51, 3) := by decide +kernel
theorem dX6_isHeads_56 : decode cX6_isHeads 56 = .ok (.aload_n 0, 1) := by decide +kernel
theorem dX6_isHeads_57 : decode cX6_isHeads 57 = .ok (.getfield 13, 3) := by decide +kernel
theorem dX6_isHeads_60 : decode cX6_isHeads 60 = .ok (.iload_n 3, 1) := by decide +kernel
theorem dX6_isHeads_61 : decode cX6_isHeads 61 = .ok (.iaload, 1) := by decide +kernel
theorem dX6_isHeads_62 : decode cX6_isHeads 62 = .ok (.aload_n 0, 1) := by decide +kernel
theorem dX6_isHeads_63 : decode cX6_isHeads 63 = .ok (.getfield 13, 3) := by decide +kernel
theorem dX6_isHeads_66 : decode cX6_isHeads 66 = .ok (.iload 4, 2) := by decide +kernel
theorem dX6_isHeads_68 : decode cX6_isHeads 68 = .ok (.iaload, 1) := by decide +kernel
theorem dX6_isHeads_69 : decode cX6_isHeads 69 = .ok (.if_icmp .ne 39, 3) := by decide +kernel
theorem dX6_isHeads_72 : decode cX6_isHeads 72 = .ok (.aload_n 0, 1) := by decide +kernel
theorem dX6_isHeads_73 : decode cX6_isHeads 73 = .ok (.getfield 17, 3) := by decide +kernel
theorem dX6_isHeads_76 : decode cX6_isHeads 76 = .ok (.iload_n 3, 1) := by decide +kernel
theorem dX6_isHeads_77 : decode cX6_isHeads 77 = .ok (.iaload, 1) := by decide +kernel
theorem dX6_isHeads_78 : decode cX6_isHeads 78 = .ok (.aload_n 0, 1) := by decide +kernel
theorem dX6_isHeads_79 : decode cX6_isHeads 79 = .ok (.getfield 17, 3) := by decide +kernel
theorem dX6_isHeads_82 : decode cX6_isHeads 82 = .ok (.iload 4, 2) := by decide +kernel
theorem dX6_isHeads_84 : decode cX6_isHeads 84 = .ok (.iaload, 1) := by decide +kernel
theorem dX6_isHeads_85 : decode cX6_isHeads 85 = .ok (.if_icmp .ne 23, 3) := by decide +kernel
theorem dX6_isHeads_88 : decode cX6_isHeads 88 = .ok (.aload_n 0, 1) := by decide +kernel
theorem dX6_isHeads_89 : decode cX6_isHeads 89 = .ok (.getfield 20, 3) := by decide +kernel
theorem dX6_isHeads_92 : decode cX6_isHeads 92 = .ok (.iload_n 3, 1) := by decide +kernel
theorem dX6_isHeads_93 : decode cX6_isHeads 93 = .ok (.iaload, 1) := by decide +kernel
theorem dX6_isHeads_94 : decode cX6_isHeads 94 = .ok (.aload_n 0, 1) := by decide +kernel
theorem dX6_isHeads_95 : decode cX6_isHeads 95 = .ok (.getfield 20, 3) := by decide +kernel
theorem dX6_isHeads_98 : decode cX6_isHeads 98 = .ok (.iload 4, 2) := by decide +kernel
theorem dX6_isHeads_100 : decode cX6_isHeads 100 = .ok (.iaload, 1) := by decide +kernel
theorem dX6_isHeads_101 : decode cX6_isHeads 101 = .ok (.if_icmp .ne 7, 3) := by decide +kernel
theorem dX6_isHeads_104 : decode cX6_isHeads 104 = .ok (.iconst 1, 1) := by decide +kernel
theorem dX6_isHeads_105 : decode cX6_isHeads 105 = .ok (.goto 4, 3) := by decide +kernel
theorem dX6_isHeads_108 : decode cX6_isHeads 108 = .ok (.iconst 0, 1) := by decide +kernel
theorem dX6_isHeads_109 : decode cX6_isHeads 109 = .ok (.istore_n 1, 1) := by decide +kernel
theorem dX6_isHeads_110 : decode cX6_isHeads 110 = .ok (.iinc 2 1, 3) := by decide +kernel
theorem dX6_isHeads_113 : decode cX6_isHeads 113 = .ok (.goto (-109), 3) := by decide +kernel
theorem dX6_isHeads_116 : decode cX6_isHeads 116 = .ok (.iload_n 1, 1) := by decide +kernel
theorem dX6_isHeads_117 : decode cX6_isHeads 117 = .ok (.ireturn, 1) := by decide +kernel
theorem dX6_stay_0 : decode cX6_stay 0 = .ok (.aload_n 0, 1) := by decide +kernel
theorem dX6_stay_1 : decode cX6_stay 1 = .ok (.getfield 7, 3) := by decide +kernel
theorem dX6_stay_4 : decode cX6_stay 4 = .ok (.iload_n 1, 1) := by decide +kernel
theorem dX6_stay_5 : decode cX6_stay 5 = .ok (.baload, 1) := by decide +kernel
theorem dX6_stay_6 : decode cX6_stay 6 = .ok (.ifCond .eq 14, 3) := by decide +kernel
theorem dX6_stay_9 : decode cX6_stay 9 = .ok (.aload_n 0, 1) := by decide +kernel
theorem dX6_stay_10 : decode cX6_stay 10 = .ok (.getfield 7, 3) := by decide +kernel
theorem dX6_stay_13 : decode cX6_stay 13 = .ok (.iload_n 2, 1) := by decide +kernel
theorem dX6_stay_14 : decode cX6_stay 14 = .ok (.baload, 1) := by decide +kernel
theorem dX6_stay_15 : decode cX6_stay 15 = .ok (.ifCond .eq 5, 3) := by decide +kernel
theorem dX6_stay_18 : decode cX6_stay 18 = .ok (.iconst 1, 1) := by decide +kernel
theorem dX6_stay_19 : decode cX6_stay 19 = .ok (.ireturn, 1) := by decide +kernel
theorem dX6_stay_20 : decode cX6_stay 20 = .ok (.aload_n 0, 1) := by decide +kernel
theorem dX6_stay_21 : decode cX6_stay 21 = .ok (.getfield 7, 3) := by decide +kernel
theorem dX6_stay_24 : decode cX6_stay 24 = .ok (.iload_n 1, 1) := by decide +kernel
theorem dX6_stay_25 : decode cX6_stay 25 = .ok (.baload, 1) := by decide +kernel
theorem dX6_stay_26 : decode cX6_stay 26 = .ok (.ifCond .eq 7, 3) := by decide +kernel
theorem dX6_stay_29 : decode cX6_stay 29 = .ok (.iload_n 1, 1) := by decide +kernel
theorem dX6_stay_30 : decode cX6_stay 30 = .ok (.goto 4, 3) := by decide +kernel
theorem dX6_stay_33 : decode cX6_stay 33 = .ok (.iload_n 2, 1) := by decide +kernel
theorem dX6_stay_34 : decode cX6_stay 34 = .ok (.istore 4, 2) := by decide +kernel
theorem dX6_stay_36 : decode cX6_stay 36 = .ok (.aload_n 0, 1) := by decide +kernel
theorem dX6_stay_37 : decode cX6_stay 37 = .ok (.getfield 7, 3) := by decide +kernel
theorem dX6_stay_40 : decode cX6_stay 40 = .ok (.iload 4, 2) := by decide +kernel
theorem dX6_stay_42 : decode cX6_stay 42 = .ok (.baload, 1) := by decide +kernel
theorem dX6_stay_43 : decode cX6_stay 43 = .ok (.ifCond .ne 5, 3) := by decide +kernel
theorem dX6_stay_46 : decode cX6_stay 46 = .ok (.iconst 0, 1) := by decide +kernel
theorem dX6_stay_47 : decode cX6_stay 47 = .ok (.ireturn, 1) := by decide +kernel
theorem dX6_stay_48 : decode cX6_stay 48 = .ok (.aload_n 0, 1) := by decide +kernel
theorem dX6_stay_49 : decode cX6_stay 49 = .ok (.getfield 7, 3) := by decide +kernel
theorem dX6_stay_52 : decode cX6_stay 52 = .ok (.iload_n 3, 1) := by decide +kernel
theorem dX6_stay_53 : decode cX6_stay 53 = .ok (.baload, 1) := by decide +kernel
theorem dX6_stay_54 : decode cX6_stay 54 = .ok (.ifCond .ne 5, 3) := by decide +kernel
theorem dX6_stay_57 : decode cX6_stay 57 = .ok (.iconst 1, 1) := by decide +kernel
theorem dX6_stay_58 : decode cX6_stay 58 = .ok (.ireturn, 1) := by decide +kernel
theorem dX6_stay_59 : decode cX6_stay 59 = .ok (.aload_n 0, 1) := by decide +kernel
theorem dX6_stay_60 : decode cX6_stay 60 = .ok (.getfield 13, 3) := by decide +kernel
theorem dX6_stay_63 : decode cX6_stay 63 = .ok (.iload_n 3, 1) := by decide +kernel
theorem dX6_stay_64 : decode cX6_stay 64 = .ok (.iaload, 1) := by decide +kernel
theorem dX6_stay_65 : decode cX6_stay 65 = .ok (.aload_n 0, 1) := by decide +kernel
theorem dX6_stay_66 : decode cX6_stay 66 = .ok (.getfield 13, 3) := by decide +kernel
theorem dX6_stay_69 : decode cX6_stay 69 = .ok (.iload 4, 2) := by decide +kernel
theorem dX6_stay_71 : decode cX6_stay 71 = .ok (.iaload, 1) := by decide +kernel
theorem dX6_stay_72 : decode cX6_stay 72 = .ok (.if_icmp .ne 23, 3) := by decide +kernel
theorem dX6_stay_75 : decode cX6_stay 75 = .ok (.aload_n 0, 1) := by decide +kernel
theorem dX6_stay_76 : decode cX6_stay 76 = .ok (.getfield 17, 3) := by decide +kernel
theorem dX6_stay_79 : decode cX6_stay 79 = .ok (.iload_n 3, 1) := by decide +kernel
theorem dX6_stay_80 : decode cX6_stay 80 = .ok (.iaload, 1) := by decide +kernel
theorem dX6_stay_81 : decode cX6_stay 81 = .ok (.aload_n 0, 1) := by decide +kernel
theorem dX6_stay_82 : decode cX6_stay 82 = .ok (.getfield 17, 3) := by decide +kernel
theorem dX6_stay_85 : decode cX6_stay 85 = .ok (.iload 4, 2) := by decide +kernel
theorem dX6_stay_87 : decode cX6_stay 87 = .ok (.iaload, 1) := by decide +kernel
theorem dX6_stay_88 : decode cX6_stay 88 = .ok (.if_icmp .ne 7, 3) := by decide +kernel
theorem dX6_stay_91 : decode cX6_stay 91 = .ok (.iconst 0, 1) := by decide +kernel
theorem dX6_stay_92 : decode cX6_stay 92 = .ok (.goto 4, 3) := by decide +kernel
theorem dX6_stay_95 : decode cX6_stay 95 = .ok (.iconst 2, 1) := by decide +kernel
theorem dX6_stay_96 : decode cX6_stay 96 = .ok (.ireturn, 1) := by decide +kernel
theorem dX6_choose_0 : decode cX6_choose 0 = .ok (.iload_n 0, 1) := by decide +kernel
theorem dX6_choose_1 : decode cX6_choose 1 = .ok (.iload_n 1, 1) := by decide +kernel
theorem dX6_choose_2 : decode cX6_choose 2 = .ok (.if_icmp .ne 7, 3) := by decide +kernel
theorem dX6_choose_5 : decode cX6_choose 5 = .ok (.iload_n 0, 1) := by decide +kernel
theorem dX6_choose_6 : decode cX6_choose 6 = .ok (.goto 31, 3) := by decide +kernel
theorem dX6_choose_9 : decode cX6_choose 9 = .ok (.iload_n 2, 1) := by decide +kernel
theorem dX6_choose_10 : decode cX6_choose 10 = .ok (.ifCond .eq 12, 3) := by decide +kernel
theorem dX6_choose_13 : decode cX6_choose 13 = .ok (.iload_n 3, 1) := by decide +kernel
theorem dX6_choose_14 : decode cX6_choose 14 = .ok (.iload_n 0, 1) := by decide +kernel
theorem dX6_choose_15 : decode cX6_choose 15 = .ok (.if_icmp .ne 7, 3) := by decide +kernel
theorem dX6_choose_18 : decode cX6_choose 18 = .ok (.iload_n 1, 1) := by decide +kernel
theorem dX6_choose_19 : decode cX6_choose 19 = .ok (.goto 18, 3) := by decide +kernel
theorem dX6_choose_22 : decode cX6_choose 22 = .ok (.iload_n 2, 1) := by decide +kernel
theorem dX6_choose_23 : decode cX6_choose 23 = .ok (.ifCond .eq 12, 3) := by decide +kernel
theorem dX6_choose_26 : decode cX6_choose 26 = .ok (.iload_n 3, 1) := by decide +kernel
theorem dX6_choose_27 : decode cX6_choose 27 = .ok (.iload_n 1, 1) := by decide +kernel
theorem dX6_choose_28 : decode cX6_choose 28 = .ok (.if_icmp .ne 7, 3) := by decide +kernel
theorem dX6_choose_31 : decode cX6_choose 31 = .ok (.iload_n 0, 1) := by decide +kernel
theorem dX6_choose_32 : decode cX6_choose 32 = .ok (.goto 5, 3) := by decide +kernel
theorem dX6_choose_35 : decode cX6_choose 35 = .ok (.bipush (-9), 2) := by decide +kernel
theorem dX6_choose_37 : decode cX6_choose 37 = .ok (.ireturn, 1) := by decide +kernel
set_option maxRecDepth 20000 in
theorem ggX6_meet_X6_stay : GoodIn wsX6_meet wsX6_stay := goodIn_r _ [13, 4, 6, 8, 17, 18, 19, 20, 21, 22, 23, 24, 25, 26, 27, 28, 29, 30, 31, 32, 33, 34, 35, 36, 37, 38, 39, 40, 41, 42, 43] (by decide +kernel) (by decide +kernel)
set_option maxRecDepth 20000 in
theorem gX6_meet_X6_stay : GoodIn wsX6_meet (wsV RX6 134 RX6 yX6_stay wsX6_stay) := goodIn_app (goodIn_of _ (by decide +kernel)) ggX6_meet_X6_stay
set_option maxRecDepth 20000 in
theorem ggX6_meet_X6_choose : GoodIn wsX6_meet wsX6_choose := goodIn_r _ [16] (by decide +kernel) (by decide +kernel)
set_option maxRecDepth 20000 in
theorem gX6_meet_X6_choose : GoodIn wsX6_meet (va_wsS RX6 137 yX6_choose wsX6_choose) := goodIn_app (goodIn_of _ (by decide +kernel)) ggX6_meet_X6_choose
theorem dX6_meet_0 : decode cX6_meet 0 = .ok (.bipush 24, 2) := by decide +kernel
theorem dX6_meet_2 : decode cX6_meet 2 = .ok (.aload_n 0, 1) := by decide +kernel
theorem dX6_meet_3 : decode cX6_meet 3 = .ok (.getfield 124, 3) := by decide +kernel
theorem dX6_meet_6 : decode cX6_meet 6 = .ok (.imul, 1) := by decide +kernel
theorem dX6_meet_7 : decode cX6_meet 7 = .ok (.iload_n 1, 1) := by decide +kernel
theorem dX6_meet_8 : decode cX6_meet 8 = .ok (.iadd, 1) := by decide +kernel
theorem dX6_meet_9 : decode cX6_meet 9 = .ok (.istore 4, 2) := by decide +kernel
theorem dX6_meet_11 : decode cX6_meet 11 = .ok (.bipush 24, 2) := by decide +kernel
theorem dX6_meet_13 : decode cX6_meet 13 = .ok (.iload_n 2, 1) := by decide +kernel
theorem dX6_meet_14 : decode cX6_meet 14 = .ok (.imul, 1) := by decide +kernel
theorem dX6_meet_15 : decode cX6_meet 15 = .ok (.iload_n 1, 1) := by decide +kernel
theorem dX6_meet_16 : decode cX6_meet 16 = .ok (.iadd, 1) := by decide +kernel
theorem dX6_meet_17 : decode cX6_meet 17 = .ok (.istore 5, 2) := by decide +kernel
theorem dX6_meet_19 : decode cX6_meet 19 = .ok (.bipush 24, 2) := by decide +kernel
theorem dX6_meet_21 : decode cX6_meet 21 = .ok (.iload_n 3, 1) := by decide +kernel
theorem dX6_meet_22 : decode cX6_meet 22 = .ok (.imul, 1) := by decide +kernel
theorem dX6_meet_23 : decode cX6_meet 23 = .ok (.iload_n 1, 1) := by decide +kernel
theorem dX6_meet_24 : decode cX6_meet 24 = .ok (.iadd, 1) := by decide +kernel
theorem dX6_meet_25 : decode cX6_meet 25 = .ok (.istore 6, 2) := by decide +kernel
theorem dX6_meet_27 : decode cX6_meet 27 = .ok (.aload_n 0, 1) := by decide +kernel
theorem dX6_meet_28 : decode cX6_meet 28 = .ok (.iload 4, 2) := by decide +kernel
theorem dX6_meet_30 : decode cX6_meet 30 = .ok (.iload 5, 2) := by decide +kernel
theorem dX6_meet_32 : decode cX6_meet 32 = .ok (.iload 6, 2) := by decide +kernel
theorem dX6_meet_34 : decode cX6_meet 34 = .ok (.invokevirtual 134, 3) := by decide +kernel
theorem dX6_meet_37 : decode cX6_meet 37 = .ok (.istore 7, 2) := by decide +kernel
theorem dX6_meet_39 : decode cX6_meet 39 = .ok (.aload_n 0, 1) := by decide +kernel
theorem dX6_meet_40 : decode cX6_meet 40 = .ok (.getfield 45, 3) := by decide +kernel
theorem dX6_meet_43 : decode cX6_meet 43 = .ok (.iload_n 1, 1) := by decide +kernel
theorem dX6_meet_44 : decode cX6_meet 44 = .ok (.iload 7, 2) := by decide +kernel
theorem dX6_meet_46 : decode cX6_meet 46 = .ok (.ifCond .le 7, 3) := by decide +kernel
theorem dX6_meet_49 : decode cX6_meet 49 = .ok (.iconst 1, 1) := by decide +kernel
theorem dX6_meet_50 : decode cX6_meet 50 = .ok (.goto 4, 3) := by decide +kernel
theorem dX6_meet_53 : decode cX6_meet 53 = .ok (.iconst 0, 1) := by decide +kernel
theorem dX6_meet_54 : decode cX6_meet 54 = .ok (.bastore, 1) := by decide +kernel
theorem dX6_meet_55 : decode cX6_meet 55 = .ok (.aload_n 0, 1) := by decide +kernel
theorem dX6_meet_56 : decode cX6_meet 56 = .ok (.getfield 48, 3) := by decide +kernel
theorem dX6_meet_59 : decode cX6_meet 59 = .ok (.iload_n 1, 1) := by decide +kernel
theorem dX6_meet_60 : decode cX6_meet 60 = .ok (.iload 7, 2) := by decide +kernel
theorem dX6_meet_62 : decode cX6_meet 62 = .ok (.iconst 2, 1) := by decide +kernel
theorem dX6_meet_63 : decode cX6_meet 63 = .ok (.if_icmp .ne 7, 3) := by decide +kernel
theorem dX6_meet_66 : decode cX6_meet 66 = .ok (.iconst 1, 1) := by decide +kernel
theorem dX6_meet_67 : decode cX6_meet 67 = .ok (.goto 4, 3) := by decide +kernel
theorem dX6_meet_70 : decode cX6_meet 70 = .ok (.iconst 0, 1) := by decide +kernel
theorem dX6_meet_71 : decode cX6_meet 71 = .ok (.iastore, 1) := by decide +kernel
theorem dX6_meet_72 : decode cX6_meet 72 = .ok (.iload 7, 2) := by decide +kernel
theorem dX6_meet_74 : decode cX6_meet 74 = .ok (.ifCond .ne 4, 3) := by decide +kernel
theorem dX6_meet_77 : decode cX6_meet 77 = .ok (.return_, 1) := by decide +kernel
theorem dX6_meet_78 : decode cX6_meet 78 = .ok (.aload_n 0, 1) := by decide +kernel
theorem dX6_meet_79 : decode cX6_meet 79 = .ok (.getfield 7, 3) := by decide +kernel
theorem dX6_meet_82 : decode cX6_meet 82 = .ok (.iload 4, 2) := by decide +kernel
theorem dX6_meet_84 : decode cX6_meet 84 = .ok (.baload, 1) := by decide +kernel
theorem dX6_meet_85 : decode cX6_meet 85 = .ok (.ifCond .eq 8, 3) := by decide +kernel
theorem dX6_meet_88 : decode cX6_meet 88 = .ok (.iload 4, 2) := by decide +kernel
theorem dX6_meet_90 : decode cX6_meet 90 = .ok (.goto 5, 3) := by decide +kernel
theorem dX6_meet_93 : decode cX6_meet 93 = .ok (.iload 5, 2) := by decide +kernel
theorem dX6_meet_95 : decode cX6_meet 95 = .ok (.istore 8, 2) := by decide +kernel
theorem dX6_meet_97 : decode cX6_meet 97 = .ok (.aload_n 0, 1) := by decide +kernel
theorem dX6_meet_98 : decode cX6_meet 98 = .ok (.getfield 7, 3) := by decide +kernel
theorem dX6_meet_101 : decode cX6_meet 101 = .ok (.iload 4, 2) := by decide +kernel
theorem dX6_meet_103 : decode cX6_meet 103 = .ok (.baload, 1) := by decide +kernel
theorem dX6_meet_104 : decode cX6_meet 104 = .ok (.ifCond .eq 17, 3) := by decide +kernel
theorem dX6_meet_107 : decode cX6_meet 107 = .ok (.aload_n 0, 1) := by decide +kernel
theorem dX6_meet_108 : decode cX6_meet 108 = .ok (.getfield 7, 3) := by decide +kernel
theorem dX6_meet_111 : decode cX6_meet 111 = .ok (.iload 5, 2) := by decide +kernel
theorem dX6_meet_113 : decode cX6_meet 113 = .ok (.baload, 1) := by decide +kernel
theorem dX6_meet_114 : decode cX6_meet 114 = .ok (.ifCond .eq 7, 3) := by decide +kernel
theorem dX6_meet_117 : decode cX6_meet 117 = .ok (.iconst 1, 1) := by decide +kernel
theorem dX6_meet_118 : decode cX6_meet 118 = .ok (.goto 4, 3) := by decide +kernel
theorem dX6_meet_121 : decode cX6_meet 121 = .ok (.iconst 0, 1) := by decide +kernel
theorem dX6_meet_122 : decode cX6_meet 122 = .ok (.istore 9, 2) := by decide +kernel
theorem dX6_meet_124 : decode cX6_meet 124 = .ok (.aload_n 0, 1) := by decide +kernel
theorem dX6_meet_125 : decode cX6_meet 125 = .ok (.getfield 51, 3) := by decide +kernel
theorem dX6_meet_128 : decode cX6_meet 128 = .ok (.iload_n 1, 1) := by decide +kernel
theorem dX6_meet_129 : decode cX6_meet 129 = .ok (.iload 9, 2) := by decide +kernel
theorem dX6_meet_131 : decode cX6_meet 131 = .ok (.ifCond .eq 37, 3) := by decide +kernel
theorem dX6_meet_134 : decode cX6_meet 134 = .ok (.aload_n 0, 1) := by decide +kernel
theorem dX6_meet_135 : decode cX6_meet 135 = .ok (.getfield 13, 3) := by decide +kernel
theorem dX6_meet_138 : decode cX6_meet 138 = .ok (.iload 4, 2) := by decide +kernel
theorem dX6_meet_140 : decode cX6_meet 140 = .ok (.iaload, 1) := by decide +kernel
theorem dX6_meet_141 : decode cX6_meet 141 = .ok (.aload_n 0, 1) := by decide +kernel
theorem dX6_meet_142 : decode cX6_meet 142 = .ok (.getfield 13, 3) := by decide +kernel
theorem dX6_meet_145 : decode cX6_meet 145 = .ok (.iload 5, 2) := by decide +kernel
theorem dX6_meet_147 : decode cX6_meet 147 = .ok (.iaload, 1) := by decide +kernel
theorem dX6_meet_148 : decode cX6_meet 148 = .ok (.aload_n 0, 1) := by decide +kernel
theorem dX6_meet_149 : decode cX6_meet 149 = .ok (.getfield 7, 3) := by decide +kernel
theorem dX6_meet_152 : decode cX6_meet 152 = .ok (.iload 6, 2) := by decide +kernel
theorem dX6_meet_154 : decode cX6_meet 154 = .ok (.baload, 1) := by decide +kernel
theorem dX6_meet_155 : decode cX6_meet 155 = .ok (.aload_n 0, 1) := by decide +kernel
theorem dX6_meet_156 : decode cX6_meet 156 = .ok (.getfield 13, 3) := by decide +kernel
theorem dX6_meet_159 : decode cX6_meet 159 = .ok (.iload 6, 2) := by decide +kernel
theorem dX6_meet_161 : decode cX6_meet 161 = .ok (.iaload, 1) := by decide +kernel
theorem dX6_meet_162 : decode cX6_meet 162 = .ok (.invokestatic 137, 3) := by decide +kernel
theorem dX6_meet_165 : decode cX6_meet 165 = .ok (.goto 10, 3) := by decide +kernel
theorem dX6_meet_168 : decode cX6_meet 168 = .ok (.aload_n 0, 1) := by decide +kernel
theorem dX6_meet_169 : decode cX6_meet 169 = .ok (.getfield 13, 3) := by decide +kernel
theorem dX6_meet_172 : decode cX6_meet 172 = .ok (.iload 8, 2) := by decide +kernel
theorem dX6_meet_174 : decode cX6_meet 174 = .ok (.iaload, 1) := by decide +kernel
theorem dX6_meet_175 : decode cX6_meet 175 = .ok (.iastore, 1) := by decide +kernel
theorem dX6_meet_176 : decode cX6_meet 176 = .ok (.aload_n 0, 1) := by decide +kernel
theorem dX6_meet_177 : decode cX6_meet 177 = .ok (.getfield 54, 3) := by decide +kernel
theorem dX6_meet_180 : decode cX6_meet 180 = .ok (.iload_n 1, 1) := by decide +kernel
theorem dX6_meet_181 : decode cX6_meet 181 = .ok (.iload 9, 2) := by decide +kernel
theorem dX6_meet_183 : decode cX6_meet 183 = .ok (.ifCond .eq 37, 3) := by decide +kernel
theorem dX6_meet_186 : decode cX6_meet 186 = .ok (.aload_n 0, 1) := by decide +kernel
theorem dX6_meet_187 : decode cX6_meet 187 = .ok (.getfield 17, 3) := by decide +kernel
theorem dX6_meet_190 : decode cX6_meet 190 = .ok (.iload 4, 2) := by decide +kernel
theorem dX6_meet_192 : decode cX6_meet 192 = .ok (.iaload, 1) := by decide +kernel
theorem dX6_meet_193 : decode cX6_meet 193 = .ok (.aload_n 0, 1) := by decide +kernel
theorem dX6_meet_194 : decode cX6_meet 194 = .ok (.getfield 17, 3) := by decide +kernel
theorem dX6_meet_197 : decode cX6_meet 197 = .ok (.iload 5, 2) := by decide +kernel
theorem dX6_meet_199 : decode cX6_meet 199 = .ok (.iaload, 1) := by decide +kernel
theorem dX6_meet_200 : decode cX6_meet 200 = .ok (.aload_n 0, 1) := by decide +kernel
theorem dX6_meet_201 : decode cX6_meet 201 = .ok (.getfield 7, 3) := by decide +kernel
theorem dX6_meet_204 : decode cX6_meet 204 = .ok (.iload 6, 2) := by decide +kernel
theorem dX6_meet_206 : decode cX6_meet 206 = .ok (.baload, 1) := by decide +kernel
theorem dX6_meet_207 : decode cX6_meet 207 = .ok (.aload_n 0, 1) := by decide +kernel
theorem dX6_meet_208 : decode cX6_meet 208 = .ok (.getfield 17, 3) := by decide +kernel
theorem dX6_meet_211 : decode cX6_meet 211 = .ok (.iload 6, 2) := by decide +kernel
theorem dX6_meet_213 : decode cX6_meet 213 = .ok (.iaload, 1) := by decide +kernel
theorem dX6_meet_214 : decode cX6_meet 214 = .ok (.invokestatic 137, 3) := by decide +kernel
theorem dX6_meet_217 : decode cX6_meet 217 = .ok (.goto 10, 3) := by decide +kernel
theorem dX6_meet_220 : decode cX6_meet 220 = .ok (.aload_n 0, 1) := by decide +kernel
theorem dX6_meet_221 : decode cX6_meet 221 = .ok (.getfield 17, 3) := by decide +kernel
theorem dX6_meet_224 : decode cX6_meet 224 = .ok (.iload 8, 2) := by decide +kernel
theorem dX6_meet_226 : decode cX6_meet 226 = .ok (.iaload, 1) := by decide +kernel
theorem dX6_meet_227 : decode cX6_meet 227 = .ok (.iastore, 1) := by decide +kernel
theorem dX6_meet_228 : decode cX6_meet 228 = .ok (.aload_n 0, 1) := by decide +kernel
theorem dX6_meet_229 : decode cX6_meet 229 = .ok (.getfield 48, 3) := by decide +kernel
theorem dX6_meet_232 : decode cX6_meet 232 = .ok (.iload_n 1, 1) := by decide +kernel
theorem dX6_meet_233 : decode cX6_meet 233 = .ok (.iaload, 1) := by decide +kernel
theorem dX6_meet_234 : decode cX6_meet 234 = .ok (.ifCond .ne 40, 3) := by decide +kernel
theorem dX6_meet_237 : decode cX6_meet 237 = .ok (.aload_n 0, 1) := by decide +kernel
theorem dX6_meet_238 : decode cX6_meet 238 = .ok (.getfield 48, 3) := by decide +kernel
theorem dX6_meet_241 : decode cX6_meet 241 = .ok (.iload_n 1, 1) := by decide +kernel
theorem dX6_meet_242 : decode cX6_meet 242 = .ok (.aload_n 0, 1) := by decide +kernel
theorem dX6_meet_243 : decode cX6_meet 243 = .ok (.getfield 51, 3) := by decide +kernel
theorem dX6_meet_246 : decode cX6_meet 246 = .ok (.iload_n 1, 1) := by decide +kernel
theorem dX6_meet_247 : decode cX6_meet 247 = .ok (.iaload, 1) := by decide +kernel
theorem dX6_meet_248 : decode cX6_meet 248 = .ok (.bipush (-9), 2) := by decide +kernel
theorem dX6_meet_250 : decode cX6_meet 250 = .ok (.if_icmp .ne 7, 3) := by decide +kernel
theorem dX6_meet_253 : decode cX6_meet 253 = .ok (.iconst 2, 1) := by decide +kernel
theorem dX6_meet_254 : decode cX6_meet 254 = .ok (.goto 19, 3) := by decide +kernel
theorem dX6_meet_257 : decode cX6_meet 257 = .ok (.aload_n 0, 1) := by decide +kernel
theorem dX6_meet_258 : decode cX6_meet 258 = .ok (.getfield 54, 3) := by decide +kernel
theorem dX6_meet_261 : decode cX6_meet 261 = .ok (.iload_n 1, 1) := by decide +kernel
theorem dX6_meet_262 : decode cX6_meet 262 = .ok (.iaload, 1) := by decide +kernel
theorem dX6_meet_263 : decode cX6_meet 263 = .ok (.bipush (-9), 2) := by decide +kernel
theorem dX6_meet_265 : decode cX6_meet 265 = .ok (.if_icmp .ne 7, 3) := by decide +kernel
theorem dX6_meet_268 : decode cX6_meet 268 = .ok (.iconst 3, 1) := by decide +kernel
theorem dX6_meet_269 : decode cX6_meet 269 = .ok (.goto 4, 3) := by decide +kernel
theorem dX6_meet_272 : decode cX6_meet 272 = .ok (.iconst 0, 1) := by decide +kernel
theorem dX6_meet_273 : decode cX6_meet 273 = .ok (.iastore, 1) := by decide +kernel
theorem dX6_meet_274 : decode cX6_meet 274 = .ok (.return_, 1) := by decide +kernel
theorem dX6_countKinds_0 : decode cX6_countKinds 0 = .ok (.iconst 0, 1) := by decide +kernel
theorem dX6_countKinds_1 : decode cX6_countKinds 1 = .ok (.istore_n 1, 1) := by decide +kernel
theorem dX6_countKinds_2 : decode cX6_countKinds 2 = .ok (.iconst 0, 1) := by decide +kernel
theorem dX6_countKinds_3 : decode cX6_countKinds 3 = .ok (.istore_n 2, 1) := by decide +kernel
theorem dX6_countKinds_4 : decode cX6_countKinds 4 = .ok (.iload_n 2, 1) := by decide +kernel
theorem dX6_countKinds_5 : decode cX6_countKinds 5 = .ok (.bipush 24, 2) := by decide +kernel
theorem dX6_countKinds_7 : decode cX6_countKinds 7 = .ok (.if_icmp .ge 26, 3) := by decide +kernel
theorem dX6_countKinds_10 : decode cX6_countKinds 10 = .ok (.aload_n 0, 1) := by decide +kernel
theorem dX6_countKinds_11 : decode cX6_countKinds 11 = .ok (.getfield 48, 3) := by decide +kernel
theorem dX6_countKinds_14 : decode cX6_countKinds 14 = .ok (.iload_n 2, 1) := by decide +kernel
theorem dX6_countKinds_15 : decode cX6_countKinds 15 = .ok (.iaload, 1) := by decide +kernel
theorem dX6_countKinds_16 : decode cX6_countKinds 16 = .ok (.ifCond .le 9, 3) := by decide +kernel
theorem dX6_countKinds_19 : decode cX6_countKinds 19 = .ok (.iload_n 1, 1) := by decide +kernel
theorem dX6_countKinds_20 : decode cX6_countKinds 20 = .ok (.iconst 1, 1) := by decide +kernel
theorem dX6_countKinds_21 : decode cX6_countKinds 21 = .ok (.iadd, 1) := by decide +kernel
theorem dX6_countKinds_22 : decode cX6_countKinds 22 = .ok (.goto 4, 3) := by decide +kernel
theorem dX6_countKinds_25 : decode cX6_countKinds 25 = .ok (.iload_n 1, 1) := by decide +kernel
theorem dX6_countKinds_26 : decode cX6_countKinds 26 = .ok (.istore_n 1, 1) := by decide +kernel
theorem dX6_countKinds_27 : decode cX6_countKinds 27 = .ok (.iinc 2 1, 3) := by decide +kernel
theorem dX6_countKinds_30 : decode cX6_countKinds 30 = .ok (.goto (-26), 3) := by decide +kernel
theorem dX6_countKinds_33 : decode cX6_countKinds 33 = .ok (.iload_n 1, 1) := by decide +kernel
theorem dX6_countKinds_34 : decode cX6_countKinds 34 = .ok (.ireturn, 1) := by decide +kernel
theorem dX6_comes_0 : decode cX6_comes 0 = .ok (.iload_n 1, 1) := by decide +kernel
theorem dX6_comes_1 : decode cX6_comes 1 = .ok (.istore_n 2, 1) := by decide +kernel
theorem dX6_comes_2 : decode cX6_comes 2 = .ok (.iconst 0, 1) := by decide +kernel
theorem dX6_comes_3 : decode cX6_comes 3 = .ok (.istore_n 3, 1) := by decide +kernel
theorem dX6_comes_4 : decode cX6_comes 4 = .ok (.iload_n 3, 1) := by decide +kernel
theorem dX6_comes_5 : decode cX6_comes 5 = .ok (.bipush 24, 2) := by decide +kernel
theorem dX6_comes_7 : decode cX6_comes 7 = .ok (.if_icmp .ge 20, 3) := by decide +kernel
theorem dX6_comes_10 : decode cX6_comes 10 = .ok (.iload_n 2, 1) := by decide +kernel
theorem dX6_comes_11 : decode cX6_comes 11 = .ok (.ifCond .le 16, 3) := by decide +kernel
theorem dX6_comes_14 : decode cX6_comes 14 = .ok (.aload_n 0, 1) := by decide +kernel
theorem dX6_comes_15 : decode cX6_comes 15 = .ok (.getfield 54, 3) := by decide +kernel
theorem dX6_comes_18 : decode cX6_comes 18 = .ok (.iload_n 2, 1) := by decide +kernel
theorem dX6_comes_19 : decode cX6_comes 19 = .ok (.iaload, 1) := by decide +kernel
theorem dX6_comes_20 : decode cX6_comes 20 = .ok (.istore_n 2, 1) := by decide +kernel
theorem dX6_comes_21 : decode cX6_comes 21 = .ok (.iinc 3 1, 3) := by decide +kernel
theorem dX6_comes_24 : decode cX6_comes 24 = .ok (.goto (-20), 3) := by decide +kernel
theorem dX6_comes_27 : decode cX6_comes 27 = .ok (.iload_n 2, 1) := by decide +kernel
theorem dX6_comes_28 : decode cX6_comes 28 = .ok (.ifCond .ne 7, 3) := by decide +kernel
theorem dX6_comes_31 : decode cX6_comes 31 = .ok (.iconst 1, 1) := by decide +kernel
theorem dX6_comes_32 : decode cX6_comes 32 = .ok (.goto 4, 3) := by decide +kernel
theorem dX6_comes_35 : decode cX6_comes 35 = .ok (.iconst 0, 1) := by decide +kernel
theorem dX6_comes_36 : decode cX6_comes 36 = .ok (.ireturn, 1) := by decide +kernel
theorem dX6_findOrphans_0 : decode cX6_findOrphans 0 = .ok (.iconst 1, 1) := by decide +kernel
theorem dX6_findOrphans_1 : decode cX6_findOrphans 1 = .ok (.istore_n 1, 1) := by decide +kernel
theorem dX6_findOrphans_2 : decode cX6_findOrphans 2 = .ok (.iload_n 1, 1) := by decide +kernel
theorem dX6_findOrphans_3 : decode cX6_findOrphans 3 = .ok (.bipush 24, 2) := by decide +kernel
theorem dX6_findOrphans_5 : decode cX6_findOrphans 5 = .ok (.if_icmp .ge 48, 3) := by decide +kernel
theorem dX6_findOrphans_8 : decode cX6_findOrphans 8 = .ok (.aload_n 0, 1) := by decide +kernel
theorem dX6_findOrphans_9 : decode cX6_findOrphans 9 = .ok (.getfield 48, 3) := by decide +kernel
theorem dX6_findOrphans_12 : decode cX6_findOrphans 12 = .ok (.iload_n 1, 1) := by decide +kernel
theorem dX6_findOrphans_13 : decode cX6_findOrphans 13 = .ok (.aload_n 0, 1) := by decide +kernel
theorem dX6_findOrphans_14 : decode cX6_findOrphans 14 = .ok (.getfield 45, 3) := by decide +kernel
theorem dX6_findOrphans_17 : decode cX6_findOrphans 17 = .ok (.iload_n 1, 1) := by decide +kernel
theorem dX6_findOrphans_18 : decode cX6_findOrphans 18 = .ok (.baload, 1) := by decide +kernel
theorem dX6_findOrphans_19 : decode cX6_findOrphans 19 = .ok (.ifCond .eq 21, 3) := by decide +kernel
theorem dX6_findOrphans_22 : decode cX6_findOrphans 22 = .ok (.aload_n 0, 1) := by decide +kernel
theorem dX6_findOrphans_23 : decode cX6_findOrphans 23 = .ok (.getfield 45, 3) := by decide +kernel
theorem dX6_findOrphans_26 : decode cX6_findOrphans 26 = .ok (.aload_n 0, 1) := by decide +kernel
theorem dX6_findOrphans_27 : decode cX6_findOrphans 27 = .ok (.getfield 54, 3) := by decide +kernel
theorem dX6_findOrphans_30 : decode cX6_findOrphans 30 = .ok (.iload_n 1, 1) := by decide +kernel
theorem dX6_findOrphans_31 : decode cX6_findOrphans 31 = .ok (.iaload, 1) := by decide +kernel
theorem dX6_findOrphans_32 : decode cX6_findOrphans 32 = .ok (.baload, 1) := by decide +kernel
theorem dX6_findOrphans_33 : decode cX6_findOrphans 33 = .ok (.ifCond .ne 7, 3) := by decide +kernel
theorem dX6_findOrphans_36 : decode cX6_findOrphans 36 = .ok (.iconst 4, 1) := by decide +kernel
theorem dX6_findOrphans_37 : decode cX6_findOrphans 37 = .ok (.goto 9, 3) := by decide +kernel
theorem dX6_findOrphans_40 : decode cX6_findOrphans 40 = .ok (.aload_n 0, 1) := by decide +kernel
theorem dX6_findOrphans_41 : decode cX6_findOrphans 41 = .ok (.getfield 48, 3) := by decide +kernel
theorem dX6_findOrphans_44 : decode cX6_findOrphans 44 = .ok (.iload_n 1, 1) := by decide +kernel
theorem dX6_findOrphans_45 : decode cX6_findOrphans 45 = .ok (.iaload, 1) := by decide +kernel
theorem dX6_findOrphans_46 : decode cX6_findOrphans 46 = .ok (.iastore, 1) := by decide +kernel
theorem dX6_findOrphans_47 : decode cX6_findOrphans 47 = .ok (.iinc 1 1, 3) := by decide +kernel
theorem dX6_findOrphans_50 : decode cX6_findOrphans 50 = .ok (.goto (-48), 3) := by decide +kernel
theorem dX6_findOrphans_53 : decode cX6_findOrphans 53 = .ok (.return_, 1) := by decide +kernel
set_option maxRecDepth 20000 in
theorem ggX6_findRings_X6_comes : GoodIn wsX6_findRings wsX6_comes := goodIn_r _ [7, 8, 9, 10, 11, 12, 13, 14, 15, 16, 17, 18, 19, 20, 21, 22, 23, 24, 25, 26, 27, 28, 29, 30, 31, 32, 33, 34, 35] (by decide +kernel) (by decide +kernel)
set_option maxRecDepth 20000 in
theorem gX6_findRings_X6_comes : GoodIn wsX6_findRings (wsV RX6 141 RX6 yX6_comes wsX6_comes) := goodIn_app (goodIn_of _ (by decide +kernel)) ggX6_findRings_X6_comes
theorem dX6_findRings_0 : decode cX6_findRings 0 = .ok (.iconst 1, 1) := by decide +kernel
theorem dX6_findRings_1 : decode cX6_findRings 1 = .ok (.istore_n 1, 1) := by decide +kernel
theorem dX6_findRings_2 : decode cX6_findRings 2 = .ok (.iload_n 1, 1) := by decide +kernel
theorem dX6_findRings_3 : decode cX6_findRings 3 = .ok (.bipush 24, 2) := by decide +kernel
theorem dX6_findRings_5 : decode cX6_findRings 5 = .ok (.if_icmp .ge 42, 3) := by decide +kernel
theorem dX6_findRings_8 : decode cX6_findRings 8 = .ok (.aload_n 0, 1) := by decide +kernel
theorem dX6_findRings_9 : decode cX6_findRings 9 = .ok (.getfield 48, 3) := by decide +kernel
theorem dX6_findRings_12 : decode cX6_findRings 12 = .ok (.iload_n 1, 1) := by decide +kernel
theorem dX6_findRings_13 : decode cX6_findRings 13 = .ok (.aload_n 0, 1) := by decide +kernel
theorem dX6_findRings_14 : decode cX6_findRings 14 = .ok (.getfield 45, 3) := by decide +kernel
theorem dX6_findRings_17 : decode cX6_findRings 17 = .ok (.iload_n 1, 1) := by decide +kernel
theorem dX6_findRings_18 : decode cX6_findRings 18 = .ok (.baload, 1) := by decide +kernel
theorem dX6_findRings_19 : decode cX6_findRings 19 = .ok (.ifCond .eq 15, 3) := by decide +kernel
theorem dX6_findRings_22 : decode cX6_findRings 22 = .ok (.aload_n 0, 1) := by decide +kernel
theorem dX6_findRings_23 : decode cX6_findRings 23 = .ok (.iload_n 1, 1) := by decide +kernel
theorem dX6_findRings_24 : decode cX6_findRings 24 = .ok (.invokevirtual 141, 3) := by decide +kernel
theorem dX6_findRings_27 : decode cX6_findRings 27 = .ok (.ifCond .ne 7, 3) := by decide +kernel
theorem dX6_findRings_30 : decode cX6_findRings 30 = .ok (.iconst 5, 1) := by decide +kernel
theorem dX6_findRings_31 : decode cX6_findRings 31 = .ok (.goto 9, 3) := by decide +kernel
theorem dX6_findRings_34 : decode cX6_findRings 34 = .ok (.aload_n 0, 1) := by decide +kernel
theorem dX6_findRings_35 : decode cX6_findRings 35 = .ok (.getfield 48, 3) := by decide +kernel
theorem dX6_findRings_38 : decode cX6_findRings 38 = .ok (.iload_n 1, 1) := by decide +kernel
theorem dX6_findRings_39 : decode cX6_findRings 39 = .ok (.iaload, 1) := by decide +kernel
theorem dX6_findRings_40 : decode cX6_findRings 40 = .ok (.iastore, 1) := by decide +kernel
theorem dX6_findRings_41 : decode cX6_findRings 41 = .ok (.iinc 1 1, 3) := by decide +kernel
theorem dX6_findRings_44 : decode cX6_findRings 44 = .ok (.goto (-42), 3) := by decide +kernel
theorem dX6_findRings_47 : decode cX6_findRings 47 = .ok (.return_, 1) := by decide +kernel
set_option maxRecDepth 20000 in
theorem ggX6_putChildren_X6_children : GoodIn wsX6_putChildren wsX6_children := goodIn_r _ [10, 11, 12, 13, 9, 14, 4, 15, 28, 29, 30, 31, 32, 33, 34, 35, 36, 37, 38, 39, 40, 41, 42, 43, 44, 45, 46, 47, 48, 49, 50, 51, 52, 53, 54] (by decide +kernel) (by decide +kernel)
set_option maxRecDepth 20000 in
theorem gX6_putChildren_X6_children : GoodIn wsX6_putChildren (wsV RX6 99 RX6 yX6_children wsX6_children) := goodIn_app (goodIn_of _ (by decide +kernel)) ggX6_putChildren_X6_children
set_option maxRecDepth 20000 in
theorem ggX6_putChildren_X6_childAt : GoodIn wsX6_putChildren wsX6_childAt := goodIn_r _ [19, 5, 11, 12, 13, 9, 14, 4, 15, 28, 29, 30, 31, 32, 33, 34, 35, 36, 37, 38, 39, 40, 41, 42, 43, 44, 45, 46, 47, 48, 49, 50, 51, 52, 53, 54] (by decide +kernel) (by decide +kernel)
set_option maxRecDepth 20000 in
theorem gX6_putChildren_X6_childAt : GoodIn wsX6_putChildren (wsV RX6 103 RX6 yX6_childAt wsX6_childAt) := goodIn_app (goodIn_of _ (by decide +kernel)) ggX6_putChildren_X6_childAt
set_option maxRecDepth 20000 in
theorem ggX6_putChildren_X6_hang : GoodIn wsX6_putChildren wsX6_hang := goodIn_r _ [23, 4, 15, 5, 24, 25, 26, 9, 27, 11, 12, 13, 14, 28, 29, 30, 31, 32, 33, 34, 35, 36, 37, 38, 39, 40, 41, 42, 43, 44, 45, 46, 47, 48, 49, 50, 51, 52, 53, 54] (by decide +kernel) (by decide +kernel)
set_option maxRecDepth 20000 in
theorem gX6_putChildren_X6_hang : GoodIn wsX6_putChildren (wsV RX6 111 RX6 yX6_hang wsX6_hang) := goodIn_app (goodIn_of _ (by decide +kernel)) ggX6_putChildren_X6_hang
theorem dX6_putChildren_0 : decode cX6_putChildren 0 = .ok (.aload_n 0, 1) := by decide +kernel
theorem dX6_putChildren_1 : decode cX6_putChildren 1 = .ok (.aload_n 0, 1) := by decide +kernel
theorem dX6_putChildren_2 : decode cX6_putChildren 2 = .ok (.getfield 124, 3) := by decide +kernel
theorem dX6_putChildren_5 : decode cX6_putChildren 5 = .ok (.iload_n 1, 1) := by decide +kernel
theorem dX6_putChildren_6 : decode cX6_putChildren 6 = .ok (.invokevirtual 99, 3) := by decide +kernel
theorem dX6_putChildren_9 : decode cX6_putChildren 9 = .ok (.istore_n 3, 1) := by decide +kernel
theorem dX6_putChildren_10 : decode cX6_putChildren 10 = .ok (.iconst 0, 1) := by decide +kernel
theorem dX6_putChildren_11 : decode cX6_putChildren 11 = .ok (.istore 4, 2) := by decide +kernel
theorem dX6_putChildren_13 : decode cX6_putChildren 13 = .ok (.iconst 0, 1) := by decide +kernel
theorem dX6_putChildren_14 : decode cX6_putChildren 14 = .ok (.istore 5, 2) := by decide +kernel
theorem dX6_putChildren_16 : decode cX6_putChildren 16 = .ok (.iload 5, 2) := by decide +kernel
theorem dX6_putChildren_18 : decode cX6_putChildren 18 = .ok (.iload_n 3, 1) := by decide +kernel
theorem dX6_putChildren_19 : decode cX6_putChildren 19 = .ok (.if_icmp .ge 57, 3) := by decide +kernel
theorem dX6_putChildren_22 : decode cX6_putChildren 22 = .ok (.aload_n 0, 1) := by decide +kernel
theorem dX6_putChildren_23 : decode cX6_putChildren 23 = .ok (.aload_n 0, 1) := by decide +kernel
theorem dX6_putChildren_24 : decode cX6_putChildren 24 = .ok (.getfield 124, 3) := by decide +kernel
theorem dX6_putChildren_27 : decode cX6_putChildren 27 = .ok (.iload_n 1, 1) := by decide +kernel
theorem dX6_putChildren_28 : decode cX6_putChildren 28 = .ok (.iload 5, 2) := by decide +kernel
theorem dX6_putChildren_30 : decode cX6_putChildren 30 = .ok (.invokevirtual 103, 3) := by decide +kernel
theorem dX6_putChildren_33 : decode cX6_putChildren 33 = .ok (.istore 6, 2) := by decide +kernel
theorem dX6_putChildren_35 : decode cX6_putChildren 35 = .ok (.aload_n 0, 1) := by decide +kernel
theorem dX6_putChildren_36 : decode cX6_putChildren 36 = .ok (.getfield 45, 3) := by decide +kernel
theorem dX6_putChildren_39 : decode cX6_putChildren 39 = .ok (.iload 6, 2) := by decide +kernel
theorem dX6_putChildren_41 : decode cX6_putChildren 41 = .ok (.baload, 1) := by decide +kernel
theorem dX6_putChildren_42 : decode cX6_putChildren 42 = .ok (.ifCond .eq 28, 3) := by decide +kernel
theorem dX6_putChildren_45 : decode cX6_putChildren 45 = .ok (.aload_n 0, 1) := by decide +kernel
theorem dX6_putChildren_46 : decode cX6_putChildren 46 = .ok (.getfield 54, 3) := by decide +kernel
theorem dX6_putChildren_49 : decode cX6_putChildren 49 = .ok (.iload 6, 2) := by decide +kernel
theorem dX6_putChildren_51 : decode cX6_putChildren 51 = .ok (.iaload, 1) := by decide +kernel
theorem dX6_putChildren_52 : decode cX6_putChildren 52 = .ok (.iload_n 1, 1) := by decide +kernel
theorem dX6_putChildren_53 : decode cX6_putChildren 53 = .ok (.if_icmp .ne 17, 3) := by decide +kernel
theorem dX6_putChildren_56 : decode cX6_putChildren 56 = .ok (.aload_n 0, 1) := by decide +kernel
theorem dX6_putChildren_57 : decode cX6_putChildren 57 = .ok (.bipush 13, 2) := by decide +kernel
theorem dX6_putChildren_59 : decode cX6_putChildren 59 = .ok (.iload 6, 2) := by decide +kernel
theorem dX6_putChildren_61 : decode cX6_putChildren 61 = .ok (.iload_n 1, 1) := by decide +kernel
theorem dX6_putChildren_62 : decode cX6_putChildren 62 = .ok (.iload 4, 2) := by decide +kernel
theorem dX6_putChildren_64 : decode cX6_putChildren 64 = .ok (.invokevirtual 111, 3) := by decide +kernel
theorem dX6_putChildren_67 : decode cX6_putChildren 67 = .ok (.iinc 4 1, 3) := by decide +kernel
theorem dX6_putChildren_70 : decode cX6_putChildren 70 = .ok (.iinc 5 1, 3) := by decide +kernel
theorem dX6_putChildren_73 : decode cX6_putChildren 73 = .ok (.goto (-57), 3) := by decide +kernel
theorem dX6_putChildren_76 : decode cX6_putChildren 76 = .ok (.iconst (-1), 1) := by decide +kernel
theorem dX6_putChildren_77 : decode cX6_putChildren 77 = .ok (.istore 5, 2) := by decide +kernel
theorem dX6_putChildren_79 : decode cX6_putChildren 79 = .ok (.aload_n 0, 1) := by decide +kernel
theorem dX6_putChildren_80 : decode cX6_putChildren 80 = .ok (.iload_n 2, 1) := by decide +kernel
theorem dX6_putChildren_81 : decode cX6_putChildren 81 = .ok (.iload_n 1, 1) := by decide +kernel
theorem dX6_putChildren_82 : decode cX6_putChildren 82 = .ok (.invokevirtual 99, 3) := by decide +kernel
theorem dX6_putChildren_85 : decode cX6_putChildren 85 = .ok (.istore_n 3, 1) := by decide +kernel
theorem dX6_putChildren_86 : decode cX6_putChildren 86 = .ok (.iconst 0, 1) := by decide +kernel
theorem dX6_putChildren_87 : decode cX6_putChildren 87 = .ok (.istore 6, 2) := by decide +kernel
theorem dX6_putChildren_89 : decode cX6_putChildren 89 = .ok (.iload 6, 2) := by decide +kernel
theorem dX6_putChildren_91 : decode cX6_putChildren 91 = .ok (.iload_n 3, 1) := by decide +kernel
theorem dX6_putChildren_92 : decode cX6_putChildren 92 = .ok (.if_icmp .ge 89, 3) := by decide +kernel
theorem dX6_putChildren_95 : decode cX6_putChildren 95 = .ok (.aload_n 0, 1) := by decide +kernel
theorem dX6_putChildren_96 : decode cX6_putChildren 96 = .ok (.iload_n 2, 1) := by decide +kernel
theorem dX6_putChildren_97 : decode cX6_putChildren 97 = .ok (.iload_n 1, 1) := by decide +kernel
theorem dX6_putChildren_98 : decode cX6_putChildren 98 = .ok (.iload 6, 2) := by decide +kernel
theorem dX6_putChildren_100 : decode cX6_putChildren 100 = .ok (.invokevirtual 103, 3) := by decide +kernel
theorem dX6_putChildren_103 : decode cX6_putChildren 103 = .ok (.istore 7, 2) := by decide +kernel
theorem dX6_putChildren_105 : decode cX6_putChildren 105 = .ok (.aload_n 0, 1) := by decide +kernel
theorem dX6_putChildren_106 : decode cX6_putChildren 106 = .ok (.getfield 45, 3) := by decide +kernel
theorem dX6_putChildren_109 : decode cX6_putChildren 109 = .ok (.iload 7, 2) := by decide +kernel
theorem dX6_putChildren_111 : decode cX6_putChildren 111 = .ok (.baload, 1) := by decide +kernel
theorem dX6_putChildren_112 : decode cX6_putChildren 112 = .ok (.ifCond .eq 63, 3) := by decide +kernel
theorem dX6_putChildren_115 : decode cX6_putChildren 115 = .ok (.aload_n 0, 1) := by decide +kernel
theorem dX6_putChildren_116 : decode cX6_putChildren 116 = .ok (.getfield 54, 3) := by decide +kernel
theorem dX6_putChildren_119 : decode cX6_putChildren 119 = .ok (.iload 7, 2) := by decide +kernel
theorem dX6_putChildren_121 : decode cX6_putChildren 121 = .ok (.iaload, 1) := by decide +kernel
theorem dX6_putChildren_122 : decode cX6_putChildren 122 = .ok (.iload_n 1, 1) := by decide +kernel
theorem dX6_putChildren_123 : decode cX6_putChildren 123 = .ok (.if_icmp .ne 52, 3) := by decide +kernel
theorem dX6_putChildren_126 : decode cX6_putChildren 126 = .ok (.aload_n 0, 1) := by decide +kernel
theorem dX6_putChildren_127 : decode cX6_putChildren 127 = .ok (.getfield 7, 3) := by decide +kernel
theorem dX6_putChildren_130 : decode cX6_putChildren 130 = .ok (.sipush 312, 3) := by decide +kernel
theorem dX6_putChildren_133 : decode cX6_putChildren 133 = .ok (.iload 7, 2) := by decide +kernel
theorem dX6_putChildren_135 : decode cX6_putChildren 135 = .ok (.iadd, 1) := by decide +kernel
theorem dX6_putChildren_136 : decode cX6_putChildren 136 = .ok (.baload, 1) := by decide +kernel
theorem dX6_putChildren_137 : decode cX6_putChildren 137 = .ok (.ifCond .ne 34, 3) := by decide +kernel
theorem dX6_putChildren_140 : decode cX6_putChildren 140 = .ok (.aload_n 0, 1) := by decide +kernel
theorem dX6_putChildren_141 : decode cX6_putChildren 141 = .ok (.bipush 13, 2) := by decide +kernel
theorem dX6_putChildren_143 : decode cX6_putChildren 143 = .ok (.iload 7, 2) := by decide +kernel
theorem dX6_putChildren_145 : decode cX6_putChildren 145 = .ok (.iload_n 1, 1) := by decide +kernel
theorem dX6_putChildren_146 : decode cX6_putChildren 146 = .ok (.iload 5, 2) := by decide +kernel
theorem dX6_putChildren_148 : decode cX6_putChildren 148 = .ok (.ifCond .ge 7, 3) := by decide +kernel
theorem dX6_putChildren_151 : decode cX6_putChildren 151 = .ok (.iconst 0, 1) := by decide +kernel
theorem dX6_putChildren_152 : decode cX6_putChildren 152 = .ok (.goto 16, 3) := by decide +kernel
theorem dX6_putChildren_155 : decode cX6_putChildren 155 = .ok (.aload_n 0, 1) := by decide +kernel
theorem dX6_putChildren_156 : decode cX6_putChildren 156 = .ok (.getfield 20, 3) := by decide +kernel
theorem dX6_putChildren_159 : decode cX6_putChildren 159 = .ok (.sipush 312, 3) := by decide +kernel
theorem dX6_putChildren_162 : decode cX6_putChildren 162 = .ok (.iload 5, 2) := by decide +kernel
theorem dX6_putChildren_164 : decode cX6_putChildren 164 = .ok (.iadd, 1) := by decide +kernel
theorem dX6_putChildren_165 : decode cX6_putChildren 165 = .ok (.iaload, 1) := by decide +kernel
theorem dX6_putChildren_166 : decode cX6_putChildren 166 = .ok (.iconst 1, 1) := by decide +kernel
theorem dX6_putChildren_167 : decode cX6_putChildren 167 = .ok (.iadd, 1) := by decide +kernel
theorem dX6_putChildren_168 : decode cX6_putChildren 168 = .ok (.invokevirtual 111, 3) := by decide +kernel
theorem dX6_putChildren_171 : decode cX6_putChildren 171 = .ok (.iload 7, 2) := by decide +kernel
theorem dX6_putChildren_173 : decode cX6_putChildren 173 = .ok (.istore 5, 2) := by decide +kernel
theorem dX6_putChildren_175 : decode cX6_putChildren 175 = .ok (.iinc 6 1, 3) := by decide +kernel
theorem dX6_putChildren_178 : decode cX6_putChildren 178 = .ok (.goto (-89), 3) := by decide +kernel
theorem dX6_putChildren_181 : decode cX6_putChildren 181 = .ok (.return_, 1) := by decide +kernel
set_option maxRecDepth 20000 in
theorem ggX6_build_X6_putChildren : GoodIn wsX6_build wsX6_putChildren := goodIn_r _ [11, 12, 3, 13, 1, 6, 14, 15, 16, 10, 17, 18, 19, 20, 21, 5, 22, 23, 24, 25, 26, 27, 28, 29, 30, 31, 32, 33, 38, 39, 40, 41, 42, 43, 44, 45, 46, 47, 48, 49, 50, 51, 52, 53, 54, 55, 56, 57, 58, 59, 60, 61, 62, 63, 64] (by decide +kernel) (by decide +kernel)
set_option maxRecDepth 20000 in
theorem gX6_build_X6_putChildren : GoodIn wsX6_build (wsV RX6 144 RX6 yX6_putChildren wsX6_putChildren) := goodIn_app (goodIn_of _ (by decide +kernel)) ggX6_build_X6_putChildren
set_option maxRecDepth 20000 in
theorem ggX6_build_X6_copy : GoodIn wsX6_build wsX6_copy := goodIn_r _ [37, 1, 2, 5, 6, 38, 39, 40, 41, 42, 43, 44, 45, 46, 47, 48, 49, 50, 51, 52, 53, 54, 55, 56, 57, 58, 59, 60, 61, 62, 63, 64] (by decide +kernel) (by decide +kernel)
set_option maxRecDepth 20000 in
theorem gX6_build_X6_copy : GoodIn wsX6_build (wsV RX6 78 RX6 yX6_copy wsX6_copy) := goodIn_app (goodIn_of _ (by decide +kernel)) ggX6_build_X6_copy
theorem dX6_build_0 : decode cX6_build 0 = .ok (.iconst 0, 1) := by decide +kernel
theorem dX6_build_1 : decode cX6_build 1 = .ok (.istore_n 2, 1) := by decide +kernel
theorem dX6_build_2 : decode cX6_build 2 = .ok (.iload_n 2, 1) := by decide +kernel
theorem dX6_build_3 : decode cX6_build 3 = .ok (.bipush 24, 2) := by decide +kernel
theorem dX6_build_5 : decode cX6_build 5 = .ok (.if_icmp .ge 79, 3) := by decide +kernel
theorem dX6_build_8 : decode cX6_build 8 = .ok (.aload_n 0, 1) := by decide +kernel
theorem dX6_build_9 : decode cX6_build 9 = .ok (.getfield 7, 3) := by decide +kernel
theorem dX6_build_12 : decode cX6_build 12 = .ok (.sipush 312, 3) := by decide +kernel
theorem dX6_build_15 : decode cX6_build 15 = .ok (.iload_n 2, 1) := by decide +kernel
theorem dX6_build_16 : decode cX6_build 16 = .ok (.iadd, 1) := by decide +kernel
theorem dX6_build_17 : decode cX6_build 17 = .ok (.iload_n 2, 1) := by decide +kernel
theorem dX6_build_18 : decode cX6_build 18 = .ok (.ifCond .ne 7, 3) := by decide +kernel
theorem dX6_build_21 : decode cX6_build 21 = .ok (.iconst 1, 1) := by decide +kernel
theorem dX6_build_22 : decode cX6_build 22 = .ok (.goto 4, 3) := by decide +kernel
theorem dX6_build_25 : decode cX6_build 25 = .ok (.iconst 0, 1) := by decide +kernel
theorem dX6_build_26 : decode cX6_build 26 = .ok (.bastore, 1) := by decide +kernel
theorem dX6_build_27 : decode cX6_build 27 = .ok (.aload_n 0, 1) := by decide +kernel
theorem dX6_build_28 : decode cX6_build 28 = .ok (.getfield 13, 3) := by decide +kernel
theorem dX6_build_31 : decode cX6_build 31 = .ok (.sipush 312, 3) := by decide +kernel
theorem dX6_build_34 : decode cX6_build 34 = .ok (.iload_n 2, 1) := by decide +kernel
theorem dX6_build_35 : decode cX6_build 35 = .ok (.iadd, 1) := by decide +kernel
theorem dX6_build_36 : decode cX6_build 36 = .ok (.aload_n 0, 1) := by decide +kernel
theorem dX6_build_37 : decode cX6_build 37 = .ok (.getfield 45, 3) := by decide +kernel
theorem dX6_build_40 : decode cX6_build 40 = .ok (.iload_n 2, 1) := by decide +kernel
theorem dX6_build_41 : decode cX6_build 41 = .ok (.baload, 1) := by decide +kernel
theorem dX6_build_42 : decode cX6_build 42 = .ok (.ifCond .eq 12, 3) := by decide +kernel
theorem dX6_build_45 : decode cX6_build 45 = .ok (.aload_n 0, 1) := by decide +kernel
theorem dX6_build_46 : decode cX6_build 46 = .ok (.getfield 51, 3) := by decide +kernel
theorem dX6_build_49 : decode cX6_build 49 = .ok (.iload_n 2, 1) := by decide +kernel
theorem dX6_build_50 : decode cX6_build 50 = .ok (.iaload, 1) := by decide +kernel
theorem dX6_build_51 : decode cX6_build 51 = .ok (.goto 4, 3) := by decide +kernel
theorem dX6_build_54 : decode cX6_build 54 = .ok (.iconst 0, 1) := by decide +kernel
theorem dX6_build_55 : decode cX6_build 55 = .ok (.iastore, 1) := by decide +kernel
theorem dX6_build_56 : decode cX6_build 56 = .ok (.aload_n 0, 1) := by decide +kernel
theorem dX6_build_57 : decode cX6_build 57 = .ok (.getfield 17, 3) := by decide +kernel
theorem dX6_build_60 : decode cX6_build 60 = .ok (.sipush 312, 3) := by decide +kernel
theorem dX6_build_63 : decode cX6_build 63 = .ok (.iload_n 2, 1) := by decide +kernel
theorem dX6_build_64 : decode cX6_build 64 = .ok (.iadd, 1) := by decide +kernel
theorem dX6_build_65 : decode cX6_build 65 = .ok (.iconst (-1), 1) := by decide +kernel
theorem dX6_build_66 : decode cX6_build 66 = .ok (.iastore, 1) := by decide +kernel
theorem dX6_build_67 : decode cX6_build 67 = .ok (.aload_n 0, 1) := by decide +kernel
theorem dX6_build_68 : decode cX6_build 68 = .ok (.getfield 20, 3) := by decide +kernel
theorem dX6_build_71 : decode cX6_build 71 = .ok (.sipush 312, 3) := by decide +kernel
theorem dX6_build_74 : decode cX6_build 74 = .ok (.iload_n 2, 1) := by decide +kernel
theorem dX6_build_75 : decode cX6_build 75 = .ok (.iadd, 1) := by decide +kernel
theorem dX6_build_76 : decode cX6_build 76 = .ok (.iconst 0, 1) := by decide +kernel
theorem dX6_build_77 : decode cX6_build 77 = .ok (.iastore, 1) := by decide +kernel
theorem dX6_build_78 : decode cX6_build 78 = .ok (.iinc 2 1, 3) := by decide +kernel
theorem dX6_build_81 : decode cX6_build 81 = .ok (.goto (-79), 3) := by decide +kernel
theorem dX6_build_84 : decode cX6_build 84 = .ok (.iconst 0, 1) := by decide +kernel
theorem dX6_build_85 : decode cX6_build 85 = .ok (.istore_n 2, 1) := by decide +kernel
theorem dX6_build_86 : decode cX6_build 86 = .ok (.iload_n 2, 1) := by decide +kernel
theorem dX6_build_87 : decode cX6_build 87 = .ok (.bipush 24, 2) := by decide +kernel
theorem dX6_build_89 : decode cX6_build 89 = .ok (.if_icmp .ge 24, 3) := by decide +kernel
theorem dX6_build_92 : decode cX6_build 92 = .ok (.aload_n 0, 1) := by decide +kernel
theorem dX6_build_93 : decode cX6_build 93 = .ok (.getfield 45, 3) := by decide +kernel
theorem dX6_build_96 : decode cX6_build 96 = .ok (.iload_n 2, 1) := by decide +kernel
theorem dX6_build_97 : decode cX6_build 97 = .ok (.baload, 1) := by decide +kernel
theorem dX6_build_98 : decode cX6_build 98 = .ok (.ifCond .eq 9, 3) := by decide +kernel
theorem dX6_build_101 : decode cX6_build 101 = .ok (.aload_n 0, 1) := by decide +kernel
theorem dX6_build_102 : decode cX6_build 102 = .ok (.iload_n 2, 1) := by decide +kernel
theorem dX6_build_103 : decode cX6_build 103 = .ok (.iload_n 1, 1) := by decide +kernel
theorem dX6_build_104 : decode cX6_build 104 = .ok (.invokevirtual 144, 3) := by decide +kernel
theorem dX6_build_107 : decode cX6_build 107 = .ok (.iinc 2 1, 3) := by decide +kernel
theorem dX6_build_110 : decode cX6_build 110 = .ok (.goto (-24), 3) := by decide +kernel
theorem dX6_build_113 : decode cX6_build 113 = .ok (.aload_n 0, 1) := by decide +kernel
theorem dX6_build_114 : decode cX6_build 114 = .ok (.bipush 13, 2) := by decide +kernel
theorem dX6_build_116 : decode cX6_build 116 = .ok (.bipush 12, 2) := by decide +kernel
theorem dX6_build_118 : decode cX6_build 118 = .ok (.invokevirtual 78, 3) := by decide +kernel
theorem dX6_build_121 : decode cX6_build 121 = .ok (.return_, 1) := by decide +kernel
set_option maxRecDepth 20000 in
theorem ggX6_merge_X6_isCommit : GoodIn wsX6_merge wsX6_isCommit := goodIn_r _ [11, 12, 88, 89, 90, 91, 92, 93, 94, 95, 96, 97, 98, 99, 100, 101, 102, 103, 104, 105, 106, 107, 108, 109, 110, 111, 112, 113, 114] (by decide +kernel) (by decide +kernel)
set_option maxRecDepth 20000 in
theorem gX6_merge_X6_isCommit : GoodIn wsX6_merge (wsV RX6 127 RX6 yX6_isCommit wsX6_isCommit) := goodIn_app (goodIn_of _ (by decide +kernel)) ggX6_merge_X6_isCommit
set_option maxRecDepth 20000 in
theorem ggX6_merge_X6_isHeads : GoodIn wsX6_merge wsX6_isHeads := goodIn_r _ [16, 3, 17, 18, 19, 20, 88, 89, 90, 91, 92, 93, 94, 95, 96, 97, 98, 99, 100, 101, 102, 103, 104, 105, 106, 107, 108, 109, 110, 111, 112, 113, 114] (by decide +kernel) (by decide +kernel)
set_option maxRecDepth 20000 in
theorem gX6_merge_X6_isHeads : GoodIn wsX6_merge (wsV RX6 147 RX6 yX6_isHeads wsX6_isHeads) := goodIn_app (goodIn_of _ (by decide +kernel)) ggX6_merge_X6_isHeads
set_option maxRecDepth 20000 in
theorem ggX6_merge_X6_baseOf : GoodIn wsX6_merge wsX6_baseOf := goodIn_r _ [24, 25, 12, 88, 89, 90, 91, 92, 93, 94, 95, 96, 97, 98, 99, 100, 101, 102, 103, 104, 105, 106, 107, 108, 109, 110, 111, 112, 113, 114] (by decide +kernel) (by decide +kernel)
set_option maxRecDepth 20000 in
theorem gX6_merge_X6_baseOf : GoodIn wsX6_merge (wsV RX6 131 RX6 yX6_baseOf wsX6_baseOf) := goodIn_app (goodIn_of _ (by decide +kernel)) ggX6_merge_X6_baseOf
set_option maxRecDepth 20000 in
theorem ggX6_merge_X6_meet : GoodIn wsX6_merge wsX6_meet := goodIn_r _ [29, 3, 30, 5, 17, 31, 18, 32, 19, 33, 34, 35, 10, 36, 37, 38, 39, 88, 89, 90, 91, 92, 93, 94, 95, 96, 97, 98, 99, 100, 101, 102, 103, 104, 105, 106, 107, 108, 109, 110, 111, 112, 113, 114] (by decide +kernel) (by decide +kernel)
set_option maxRecDepth 20000 in
theorem gX6_merge_X6_meet : GoodIn wsX6_merge (wsV RX6 151 RX6 yX6_meet wsX6_meet) := goodIn_app (goodIn_of _ (by decide +kernel)) ggX6_merge_X6_meet
set_option maxRecDepth 20000 in
theorem ggX6_merge_X6_countKinds : GoodIn wsX6_merge wsX6_countKinds := goodIn_r _ [43, 5, 88, 89, 90, 91, 92, 93, 94, 95, 96, 97, 98, 99, 100, 101, 102, 103, 104, 105, 106, 107, 108, 109, 110, 111, 112, 113, 114] (by decide +kernel) (by decide +kernel)
set_option maxRecDepth 20000 in
theorem gX6_merge_X6_countKinds : GoodIn wsX6_merge (wsV RX6 155 RX6 yX6_countKinds wsX6_countKinds) := goodIn_app (goodIn_of _ (by decide +kernel)) ggX6_merge_X6_countKinds
set_option maxRecDepth 20000 in
theorem ggX6_merge_X6_findOrphans : GoodIn wsX6_merge wsX6_findOrphans := goodIn_r _ [47, 5, 30, 32, 88, 89, 90, 91, 92, 93, 94, 95, 96, 97, 98, 99, 100, 101, 102, 103, 104, 105, 106, 107, 108, 109, 110, 111, 112, 113, 114] (by decide +kernel) (by decide +kernel)
set_option maxRecDepth 20000 in
theorem gX6_merge_X6_findOrphans : GoodIn wsX6_merge (wsV RX6 159 RX6 yX6_findOrphans wsX6_findOrphans) := goodIn_app (goodIn_of _ (by decide +kernel)) ggX6_merge_X6_findOrphans
set_option maxRecDepth 20000 in
theorem ggX6_merge_X6_findRings : GoodIn wsX6_merge wsX6_findRings := goodIn_r _ [51, 5, 30, 52, 53, 54, 10, 55, 32, 88, 89, 90, 91, 92, 93, 94, 95, 96, 97, 98, 99, 100, 101, 102, 103, 104, 105, 106, 107, 108, 109, 110, 111, 112, 113, 114] (by decide +kernel) (by decide +kernel)
set_option maxRecDepth 20000 in
theorem gX6_merge_X6_findRings : GoodIn wsX6_merge (wsV RX6 162 RX6 yX6_findRings wsX6_findRings) := goodIn_app (goodIn_of _ (by decide +kernel)) ggX6_merge_X6_findRings
set_option maxRecDepth 20000 in
theorem ggX6_merge_X6_build : GoodIn wsX6_merge wsX6_build := goodIn_r _ [59, 17, 18, 30, 31, 19, 20, 60, 61, 62, 10, 63, 3, 32, 64, 65, 66, 67, 68, 69, 70, 71, 72, 73, 74, 75, 76, 77, 78, 79, 80, 81, 82, 83, 84, 85, 86, 87, 88, 89, 90, 91, 92, 93, 94, 95, 96, 97, 98, 99, 100, 101, 102, 103, 104, 105, 106, 107, 108, 109, 110, 111, 112, 113, 114] (by decide +kernel) (by decide +kernel)
set_option maxRecDepth 20000 in
theorem gX6_merge_X6_build : GoodIn wsX6_merge (wsV RX6 168 RX6 yX6_build wsX6_build) := goodIn_app (goodIn_of _ (by decide +kernel)) ggX6_merge_X6_build
theorem dX6_merge_0 : decode cX6_merge 0 = .ok (.aload_n 0, 1) := by decide +kernel
theorem dX6_merge_1 : decode cX6_merge 1 = .ok (.aload_n 0, 1) := by decide +kernel
theorem dX6_merge_2 : decode cX6_merge 2 = .ok (.iload_n 1, 1) := by decide +kernel
theorem dX6_merge_3 : decode cX6_merge 3 = .ok (.invokevirtual 127, 3) := by decide +kernel
theorem dX6_merge_6 : decode cX6_merge 6 = .ok (.ifCond .ne 7, 3) := by decide +kernel
theorem dX6_merge_9 : decode cX6_merge 9 = .ok (.iconst 1, 1) := by decide +kernel
theorem dX6_merge_10 : decode cX6_merge 10 = .ok (.goto 22, 3) := by decide +kernel
theorem dX6_merge_13 : decode cX6_merge 13 = .ok (.aload_n 0, 1) := by decide +kernel
theorem dX6_merge_14 : decode cX6_merge 14 = .ok (.getfield 39, 3) := by decide +kernel
theorem dX6_merge_17 : decode cX6_merge 17 = .ok (.ifCond .ge 10, 3) := by decide +kernel
theorem dX6_merge_20 : decode cX6_merge 20 = .ok (.aload_n 0, 1) := by decide +kernel
theorem dX6_merge_21 : decode cX6_merge 21 = .ok (.invokevirtual 147, 3) := by decide +kernel
theorem dX6_merge_24 : decode cX6_merge 24 = .ok (.ifCond .ne 7, 3) := by decide +kernel
theorem dX6_merge_27 : decode cX6_merge 27 = .ok (.iconst 2, 1) := by decide +kernel
theorem dX6_merge_28 : decode cX6_merge 28 = .ok (.goto 4, 3) := by decide +kernel
theorem dX6_merge_31 : decode cX6_merge 31 = .ok (.iconst 0, 1) := by decide +kernel
theorem dX6_merge_32 : decode cX6_merge 32 = .ok (.putfield 82, 3) := by decide +kernel
theorem dX6_merge_35 : decode cX6_merge 35 = .ok (.aload_n 0, 1) := by decide +kernel
theorem dX6_merge_36 : decode cX6_merge 36 = .ok (.getfield 82, 3) := by decide +kernel
theorem dX6_merge_39 : decode cX6_merge 39 = .ok (.ifCond .le 5, 3) := by decide +kernel
theorem dX6_merge_42 : decode cX6_merge 42 = .ok (.iconst 0, 1) := by decide +kernel
theorem dX6_merge_43 : decode cX6_merge 43 = .ok (.ireturn, 1) := by decide +kernel
theorem dX6_merge_44 : decode cX6_merge 44 = .ok (.aload_n 0, 1) := by decide +kernel
theorem dX6_merge_45 : decode cX6_merge 45 = .ok (.aload_n 0, 1) := by decide +kernel
theorem dX6_merge_46 : decode cX6_merge 46 = .ok (.getfield 124, 3) := by decide +kernel
theorem dX6_merge_49 : decode cX6_merge 49 = .ok (.iload_n 1, 1) := by decide +kernel
theorem dX6_merge_50 : decode cX6_merge 50 = .ok (.invokevirtual 131, 3) := by decide +kernel
theorem dX6_merge_53 : decode cX6_merge 53 = .ok (.istore_n 2, 1) := by decide +kernel
theorem dX6_merge_54 : decode cX6_merge 54 = .ok (.iconst 0, 1) := by decide +kernel
theorem dX6_merge_55 : decode cX6_merge 55 = .ok (.istore_n 3, 1) := by decide +kernel
theorem dX6_merge_56 : decode cX6_merge 56 = .ok (.iload_n 3, 1) := by decide +kernel
theorem dX6_merge_57 : decode cX6_merge 57 = .ok (.bipush 24, 2) := by decide +kernel
theorem dX6_merge_59 : decode cX6_merge 59 = .ok (.if_icmp .ge 16, 3) := by decide +kernel
theorem dX6_merge_62 : decode cX6_merge 62 = .ok (.aload_n 0, 1) := by decide +kernel
theorem dX6_merge_63 : decode cX6_merge 63 = .ok (.iload_n 3, 1) := by decide +kernel
theorem dX6_merge_64 : decode cX6_merge 64 = .ok (.iload_n 1, 1) := by decide +kernel
theorem dX6_merge_65 : decode cX6_merge 65 = .ok (.iload_n 2, 1) := by decide +kernel
theorem dX6_merge_66 : decode cX6_merge 66 = .ok (.invokevirtual 151, 3) := by decide +kernel
theorem dX6_merge_69 : decode cX6_merge 69 = .ok (.iinc 3 1, 3) := by decide +kernel
theorem dX6_merge_72 : decode cX6_merge 72 = .ok (.goto (-16), 3) := by decide +kernel
theorem dX6_merge_75 : decode cX6_merge 75 = .ok (.aload_n 0, 1) := by decide +kernel
theorem dX6_merge_76 : decode cX6_merge 76 = .ok (.invokevirtual 155, 3) := by decide +kernel
theorem dX6_merge_79 : decode cX6_merge 79 = .ok (.ifCond .ne 7, 3) := by decide +kernel
theorem dX6_merge_82 : decode cX6_merge 82 = .ok (.aload_n 0, 1) := by decide +kernel
theorem dX6_merge_83 : decode cX6_merge 83 = .ok (.invokevirtual 159, 3) := by decide +kernel
theorem dX6_merge_86 : decode cX6_merge 86 = .ok (.aload_n 0, 1) := by decide +kernel
theorem dX6_merge_87 : decode cX6_merge 87 = .ok (.invokevirtual 155, 3) := by decide +kernel
theorem dX6_merge_90 : decode cX6_merge 90 = .ok (.ifCond .ne 7, 3) := by decide +kernel
theorem dX6_merge_93 : decode cX6_merge 93 = .ok (.aload_n 0, 1) := by decide +kernel
theorem dX6_merge_94 : decode cX6_merge 94 = .ok (.invokevirtual 162, 3) := by decide +kernel
theorem dX6_merge_97 : decode cX6_merge 97 = .ok (.aload_n 0, 1) := by decide +kernel
theorem dX6_merge_98 : decode cX6_merge 98 = .ok (.iconst 0, 1) := by decide +kernel
theorem dX6_merge_99 : decode cX6_merge 99 = .ok (.putfield 165, 3) := by decide +kernel
theorem dX6_merge_102 : decode cX6_merge 102 = .ok (.iconst 0, 1) := by decide +kernel
theorem dX6_merge_103 : decode cX6_merge 103 = .ok (.istore_n 3, 1) := by decide +kernel
theorem dX6_merge_104 : decode cX6_merge 104 = .ok (.iload_n 3, 1) := by decide +kernel
theorem dX6_merge_105 : decode cX6_merge 105 = .ok (.bipush 24, 2) := by decide +kernel
theorem dX6_merge_107 : decode cX6_merge 107 = .ok (.if_icmp .ge 48, 3) := by decide +kernel
theorem dX6_merge_110 : decode cX6_merge 110 = .ok (.aload_n 0, 1) := by decide +kernel
theorem dX6_merge_111 : decode cX6_merge 111 = .ok (.getfield 48, 3) := by decide +kernel
theorem dX6_merge_114 : decode cX6_merge 114 = .ok (.iload_n 3, 1) := by decide +kernel
theorem dX6_merge_115 : decode cX6_merge 115 = .ok (.iaload, 1) := by decide +kernel
theorem dX6_merge_116 : decode cX6_merge 116 = .ok (.ifCond .le 33, 3) := by decide +kernel
theorem dX6_merge_119 : decode cX6_merge 119 = .ok (.aload_n 0, 1) := by decide +kernel
theorem dX6_merge_120 : decode cX6_merge 120 = .ok (.getfield 42, 3) := by decide +kernel
theorem dX6_merge_123 : decode cX6_merge 123 = .ok (.aload_n 0, 1) := by decide +kernel
theorem dX6_merge_124 : decode cX6_merge 124 = .ok (.getfield 165, 3) := by decide +kernel
theorem dX6_merge_127 : decode cX6_merge 127 = .ok (.bipush 32, 2) := by decide +kernel
theorem dX6_merge_129 : decode cX6_merge 129 = .ok (.aload_n 0, 1) := by decide +kernel
theorem dX6_merge_130 : decode cX6_merge 130 = .ok (.getfield 48, 3) := by decide +kernel
theorem dX6_merge_133 : decode cX6_merge 133 = .ok (.iload_n 3, 1) := by decide +kernel
theorem dX6_merge_134 : decode cX6_merge 134 = .ok (.iaload, 1) := by decide +kernel
theorem dX6_merge_135 : decode cX6_merge 135 = .ok (.imul, 1) := by decide +kernel
theorem dX6_merge_136 : decode cX6_merge 136 = .ok (.iload_n 3, 1) := by decide +kernel
theorem dX6_merge_137 : decode cX6_merge 137 = .ok (.iadd, 1) := by decide +kernel
theorem dX6_merge_138 : decode cX6_merge 138 = .ok (.iastore, 1) := by decide +kernel
theorem dX6_merge_139 : decode cX6_merge 139 = .ok (.aload_n 0, 1) := by decide +kernel
theorem dX6_merge_140 : decode cX6_merge 140 = .ok (.dup, 1) := by decide +kernel
theorem dX6_merge_141 : decode cX6_merge 141 = .ok (.getfield 165, 3) := by decide +kernel
theorem dX6_merge_144 : decode cX6_merge 144 = .ok (.iconst 1, 1) := by decide +kernel
theorem dX6_merge_145 : decode cX6_merge 145 = .ok (.iadd, 1) := by decide +kernel
theorem dX6_merge_146 : decode cX6_merge 146 = .ok (.putfield 165, 3) := by decide +kernel
theorem dX6_merge_149 : decode cX6_merge 149 = .ok (.iinc 3 1, 3) := by decide +kernel
theorem dX6_merge_152 : decode cX6_merge 152 = .ok (.goto (-48), 3) := by decide +kernel
theorem dX6_merge_155 : decode cX6_merge 155 = .ok (.aload_n 0, 1) := by decide +kernel
theorem dX6_merge_156 : decode cX6_merge 156 = .ok (.getfield 165, 3) := by decide +kernel
theorem dX6_merge_159 : decode cX6_merge 159 = .ok (.ifCond .ne 13, 3) := by decide +kernel
theorem dX6_merge_162 : decode cX6_merge 162 = .ok (.aload_n 0, 1) := by decide +kernel
theorem dX6_merge_163 : decode cX6_merge 163 = .ok (.iload_n 1, 1) := by decide +kernel
theorem dX6_merge_164 : decode cX6_merge 164 = .ok (.invokevirtual 168, 3) := by decide +kernel
theorem dX6_merge_167 : decode cX6_merge 167 = .ok (.aload_n 0, 1) := by decide +kernel
theorem dX6_merge_168 : decode cX6_merge 168 = .ok (.iload_n 1, 1) := by decide +kernel
theorem dX6_merge_169 : decode cX6_merge 169 = .ok (.putfield 39, 3) := by decide +kernel
theorem dX6_merge_172 : decode cX6_merge 172 = .ok (.aload_n 0, 1) := by decide +kernel
theorem dX6_merge_173 : decode cX6_merge 173 = .ok (.getfield 165, 3) := by decide +kernel
theorem dX6_merge_176 : decode cX6_merge 176 = .ok (.ireturn, 1) := by decide +kernel
theorem dX6_conflict_0 : decode cX6_conflict 0 = .ok (.aload_n 0, 1) := by decide +kernel
theorem dX6_conflict_1 : decode cX6_conflict 1 = .ok (.iload_n 1, 1) := by decide +kernel
theorem dX6_conflict_2 : decode cX6_conflict 2 = .ok (.ifCond .lt 11, 3) := by decide +kernel
theorem dX6_conflict_5 : decode cX6_conflict 5 = .ok (.iload_n 1, 1) := by decide +kernel
theorem dX6_conflict_6 : decode cX6_conflict 6 = .ok (.aload_n 0, 1) := by decide +kernel
theorem dX6_conflict_7 : decode cX6_conflict 7 = .ok (.getfield 165, 3) := by decide +kernel
theorem dX6_conflict_10 : decode cX6_conflict 10 = .ok (.if_icmp .lt 7, 3) := by decide +kernel
theorem dX6_conflict_13 : decode cX6_conflict 13 = .ok (.iconst 1, 1) := by decide +kernel
theorem dX6_conflict_14 : decode cX6_conflict 14 = .ok (.goto 4, 3) := by decide +kernel
theorem dX6_conflict_17 : decode cX6_conflict 17 = .ok (.iconst 0, 1) := by decide +kernel
theorem dX6_conflict_18 : decode cX6_conflict 18 = .ok (.putfield 82, 3) := by decide +kernel
theorem dX6_conflict_21 : decode cX6_conflict 21 = .ok (.aload_n 0, 1) := by decide +kernel
theorem dX6_conflict_22 : decode cX6_conflict 22 = .ok (.getfield 82, 3) := by decide +kernel
theorem dX6_conflict_25 : decode cX6_conflict 25 = .ok (.ifCond .ne 12, 3) := by decide +kernel
theorem dX6_conflict_28 : decode cX6_conflict 28 = .ok (.aload_n 0, 1) := by decide +kernel
theorem dX6_conflict_29 : decode cX6_conflict 29 = .ok (.getfield 42, 3) := by decide +kernel
theorem dX6_conflict_32 : decode cX6_conflict 32 = .ok (.iload_n 1, 1) := by decide +kernel
theorem dX6_conflict_33 : decode cX6_conflict 33 = .ok (.iaload, 1) := by decide +kernel
theorem dX6_conflict_34 : decode cX6_conflict 34 = .ok (.goto 4, 3) := by decide +kernel
theorem dX6_conflict_37 : decode cX6_conflict 37 = .ok (.iconst 0, 1) := by decide +kernel
theorem dX6_conflict_38 : decode cX6_conflict 38 = .ok (.ireturn, 1) := by decide +kernel
set_option maxRecDepth 20000 in
theorem ggX6_numberOf_X6_walk : GoodIn wsX6_numberOf wsX6_walk := goodIn_r _ [6, 7, 8, 9, 1, 10, 11, 12, 5, 13, 14, 15, 16, 17, 18, 19, 20, 21, 22, 23, 24, 25, 26, 27, 28, 29, 30, 31, 32, 33, 34, 35, 36, 37, 38, 39, 40, 41, 42, 43, 44, 45, 46, 47, 48, 49, 50, 51] (by decide +kernel) (by decide +kernel)
set_option maxRecDepth 20000 in
theorem gX6_numberOf_X6_walk : GoodIn wsX6_numberOf (wsV RX6 114 RX6 yX6_walk wsX6_walk) := goodIn_app (goodIn_of _ (by decide +kernel)) ggX6_numberOf_X6_walk
theorem dX6_numberOf_0 : decode cX6_numberOf 0 = .ok (.aload_n 0, 1) := by decide +kernel
theorem dX6_numberOf_1 : decode cX6_numberOf 1 = .ok (.bipush 12, 2) := by decide +kernel
theorem dX6_numberOf_3 : decode cX6_numberOf 3 = .ok (.invokevirtual 114, 3) := by decide +kernel
theorem dX6_numberOf_6 : decode cX6_numberOf 6 = .ok (.iconst 0, 1) := by decide +kernel
theorem dX6_numberOf_7 : decode cX6_numberOf 7 = .ok (.istore_n 2, 1) := by decide +kernel
theorem dX6_numberOf_8 : decode cX6_numberOf 8 = .ok (.aload_n 0, 1) := by decide +kernel
theorem dX6_numberOf_9 : decode cX6_numberOf 9 = .ok (.getfield 57, 3) := by decide +kernel
theorem dX6_numberOf_12 : decode cX6_numberOf 12 = .ok (.iload_n 2, 1) := by decide +kernel
theorem dX6_numberOf_13 : decode cX6_numberOf 13 = .ok (.iaload, 1) := by decide +kernel
theorem dX6_numberOf_14 : decode cX6_numberOf 14 = .ok (.iload_n 1, 1) := by decide +kernel
theorem dX6_numberOf_15 : decode cX6_numberOf 15 = .ok (.if_icmp .eq 9, 3) := by decide +kernel
theorem dX6_numberOf_18 : decode cX6_numberOf 18 = .ok (.iinc 2 1, 3) := by decide +kernel
theorem dX6_numberOf_21 : decode cX6_numberOf 21 = .ok (.goto (-13), 3) := by decide +kernel
theorem dX6_numberOf_24 : decode cX6_numberOf 24 = .ok (.iload_n 2, 1) := by decide +kernel
theorem dX6_numberOf_25 : decode cX6_numberOf 25 = .ok (.ireturn, 1) := by decide +kernel
set_option maxRecDepth 20000 in
theorem ggX6_about_X6_has : GoodIn wsX6_about wsX6_has := goodIn_r _ [8, 9, 35, 36, 37, 38, 39, 40, 41, 42, 43, 44, 45, 46, 47, 48, 49, 50, 51, 52, 53, 54, 55, 56, 57, 58, 59, 60, 61] (by decide +kernel) (by decide +kernel)
set_option maxRecDepth 20000 in
theorem gX6_about_X6_has : GoodIn wsX6_about (wsV RX6 107 RX6 yX6_has wsX6_has) := goodIn_app (goodIn_of _ (by decide +kernel)) ggX6_about_X6_has
set_option maxRecDepth 20000 in
theorem ggX6_about_X6_children : GoodIn wsX6_about wsX6_children := goodIn_r _ [13, 14, 15, 16, 7, 17, 9, 3, 35, 36, 37, 38, 39, 40, 41, 42, 43, 44, 45, 46, 47, 48, 49, 50, 51, 52, 53, 54, 55, 56, 57, 58, 59, 60, 61] (by decide +kernel) (by decide +kernel)
set_option maxRecDepth 20000 in
theorem gX6_about_X6_children : GoodIn wsX6_about (wsV RX6 99 RX6 yX6_children wsX6_children) := goodIn_app (goodIn_of _ (by decide +kernel)) ggX6_about_X6_children
set_option maxRecDepth 20000 in
theorem ggX6_about_X6_numberOf : GoodIn wsX6_about wsX6_numberOf := goodIn_r _ [21, 22, 23, 24, 25, 7, 26, 27, 28, 29, 10, 11, 12, 13, 14, 15, 16, 17, 9, 3, 30, 31, 32, 33, 34, 35, 36, 37, 38, 39, 40, 41, 42, 43, 44, 45, 46, 47, 48, 49, 50, 51, 52, 53, 54, 55, 56, 57, 58, 59, 60, 61] (by decide +kernel) (by decide +kernel)
set_option maxRecDepth 20000 in
theorem gX6_about_X6_numberOf : GoodIn wsX6_about (wsV RX6 171 RX6 yX6_numberOf wsX6_numberOf) := goodIn_app (goodIn_of _ (by decide +kernel)) ggX6_about_X6_numberOf
theorem dX6_about_0 : decode cX6_about 0 = .ok (.aload_n 0, 1) := by decide +kernel
theorem dX6_about_1 : decode cX6_about 1 = .ok (.aload_n 0, 1) := by decide +kernel
theorem dX6_about_2 : decode cX6_about 2 = .ok (.bipush 12, 2) := by decide +kernel
theorem dX6_about_4 : decode cX6_about 4 = .ok (.iload_n 1, 1) := by decide +kernel
theorem dX6_about_5 : decode cX6_about 5 = .ok (.invokevirtual 107, 3) := by decide +kernel
theorem dX6_about_8 : decode cX6_about 8 = .ok (.ifCond .ne 7, 3) := by decide +kernel
theorem dX6_about_11 : decode cX6_about 11 = .ok (.iconst 1, 1) := by decide +kernel
theorem dX6_about_12 : decode cX6_about 12 = .ok (.goto 17, 3) := by decide +kernel
theorem dX6_about_15 : decode cX6_about 15 = .ok (.iload_n 2, 1) := by decide +kernel
theorem dX6_about_16 : decode cX6_about 16 = .ok (.ifCond .lt 8, 3) := by decide +kernel
theorem dX6_about_19 : decode cX6_about 19 = .ok (.iload_n 2, 1) := by decide +kernel
theorem dX6_about_20 : decode cX6_about 20 = .ok (.iconst 3, 1) := by decide +kernel
theorem dX6_about_21 : decode cX6_about 21 = .ok (.if_icmp .le 7, 3) := by decide +kernel
theorem dX6_about_24 : decode cX6_about 24 = .ok (.iconst 2, 1) := by decide +kernel
theorem dX6_about_25 : decode cX6_about 25 = .ok (.goto 4, 3) := by decide +kernel
theorem dX6_about_28 : decode cX6_about 28 = .ok (.iconst 0, 1) := by decide +kernel
theorem dX6_about_29 : decode cX6_about 29 = .ok (.putfield 82, 3) := by decide +kernel
theorem dX6_about_32 : decode cX6_about 32 = .ok (.aload_n 0, 1) := by decide +kernel
theorem dX6_about_33 : decode cX6_about 33 = .ok (.getfield 82, 3) := by decide +kernel
theorem dX6_about_36 : decode cX6_about 36 = .ok (.ifCond .le 5, 3) := by decide +kernel
theorem dX6_about_39 : decode cX6_about 39 = .ok (.iconst 0, 1) := by decide +kernel
theorem dX6_about_40 : decode cX6_about 40 = .ok (.ireturn, 1) := by decide +kernel
theorem dX6_about_41 : decode cX6_about 41 = .ok (.iload_n 2, 1) := by decide +kernel
theorem dX6_about_42 : decode cX6_about 42 = .ok (.ifCond .ne 16, 3) := by decide +kernel
theorem dX6_about_45 : decode cX6_about 45 = .ok (.aload_n 0, 1) := by decide +kernel
theorem dX6_about_46 : decode cX6_about 46 = .ok (.getfield 13, 3) := by decide +kernel
theorem dX6_about_49 : decode cX6_about 49 = .ok (.sipush 288, 3) := by decide +kernel
theorem dX6_about_52 : decode cX6_about 52 = .ok (.iload_n 1, 1) := by decide +kernel
theorem dX6_about_53 : decode cX6_about 53 = .ok (.iadd, 1) := by decide +kernel
theorem dX6_about_54 : decode cX6_about 54 = .ok (.iaload, 1) := by decide +kernel
theorem dX6_about_55 : decode cX6_about 55 = .ok (.goto 41, 3) := by decide +kernel
theorem dX6_about_58 : decode cX6_about 58 = .ok (.iload_n 2, 1) := by decide +kernel
theorem dX6_about_59 : decode cX6_about 59 = .ok (.iconst 1, 1) := by decide +kernel
theorem dX6_about_60 : decode cX6_about 60 = .ok (.if_icmp .ne 16, 3) := by decide +kernel
theorem dX6_about_63 : decode cX6_about 63 = .ok (.aload_n 0, 1) := by decide +kernel
theorem dX6_about_64 : decode cX6_about 64 = .ok (.getfield 17, 3) := by decide +kernel
theorem dX6_about_67 : decode cX6_about 67 = .ok (.sipush 288, 3) := by decide +kernel
theorem dX6_about_70 : decode cX6_about 70 = .ok (.iload_n 1, 1) := by decide +kernel
theorem dX6_about_71 : decode cX6_about 71 = .ok (.iadd, 1) := by decide +kernel
theorem dX6_about_72 : decode cX6_about 72 = .ok (.iaload, 1) := by decide +kernel
theorem dX6_about_73 : decode cX6_about 73 = .ok (.goto 23, 3) := by decide +kernel
theorem dX6_about_76 : decode cX6_about 76 = .ok (.iload_n 2, 1) := by decide +kernel
theorem dX6_about_77 : decode cX6_about 77 = .ok (.iconst 2, 1) := by decide +kernel
theorem dX6_about_78 : decode cX6_about 78 = .ok (.if_icmp .ne 13, 3) := by decide +kernel
theorem dX6_about_81 : decode cX6_about 81 = .ok (.aload_n 0, 1) := by decide +kernel
theorem dX6_about_82 : decode cX6_about 82 = .ok (.bipush 12, 2) := by decide +kernel
theorem dX6_about_84 : decode cX6_about 84 = .ok (.iload_n 1, 1) := by decide +kernel
theorem dX6_about_85 : decode cX6_about 85 = .ok (.invokevirtual 99, 3) := by decide +kernel
theorem dX6_about_88 : decode cX6_about 88 = .ok (.goto 8, 3) := by decide +kernel
theorem dX6_about_91 : decode cX6_about 91 = .ok (.aload_n 0, 1) := by decide +kernel
theorem dX6_about_92 : decode cX6_about 92 = .ok (.iload_n 1, 1) := by decide +kernel
theorem dX6_about_93 : decode cX6_about 93 = .ok (.invokevirtual 171, 3) := by decide +kernel
theorem dX6_about_96 : decode cX6_about 96 = .ok (.ireturn, 1) := by decide +kernel
set_option maxRecDepth 20000 in
theorem ggX6_child_X6_has : GoodIn wsX6_child wsX6_has := goodIn_r _ [6, 7, 22, 23, 24, 25, 26, 27, 28, 29, 30, 31, 32, 33, 34, 35, 36, 37, 38, 39, 40, 41, 42, 43, 44, 45, 46, 47, 48] (by decide +kernel) (by decide +kernel)
set_option maxRecDepth 20000 in
theorem gX6_child_X6_has : GoodIn wsX6_child (wsV RX6 107 RX6 yX6_has wsX6_has) := goodIn_app (goodIn_of _ (by decide +kernel)) ggX6_child_X6_has
set_option maxRecDepth 20000 in
theorem ggX6_child_X6_children : GoodIn wsX6_child wsX6_children := goodIn_r _ [11, 12, 13, 14, 5, 15, 7, 16, 22, 23, 24, 25, 26, 27, 28, 29, 30, 31, 32, 33, 34, 35, 36, 37, 38, 39, 40, 41, 42, 43, 44, 45, 46, 47, 48] (by decide +kernel) (by decide +kernel)
set_option maxRecDepth 20000 in
theorem gX6_child_X6_children : GoodIn wsX6_child (wsV RX6 99 RX6 yX6_children wsX6_children) := goodIn_app (goodIn_of _ (by decide +kernel)) ggX6_child_X6_children
set_option maxRecDepth 20000 in
theorem ggX6_child_X6_childAt : GoodIn wsX6_child wsX6_childAt := goodIn_r _ [20, 21, 12, 13, 14, 5, 15, 7, 16, 22, 23, 24, 25, 26, 27, 28, 29, 30, 31, 32, 33, 34, 35, 36, 37, 38, 39, 40, 41, 42, 43, 44, 45, 46, 47, 48] (by decide +kernel) (by decide +kernel)
set_option maxRecDepth 20000 in
theorem gX6_child_X6_childAt : GoodIn wsX6_child (wsV RX6 103 RX6 yX6_childAt wsX6_childAt) := goodIn_app (goodIn_of _ (by decide +kernel)) ggX6_child_X6_childAt
theorem dX6_child_0 : decode cX6_child 0 = .ok (.aload_n 0, 1) := by decide +kernel
theorem dX6_child_1 : decode cX6_child 1 = .ok (.aload_n 0, 1) := by decide +kernel
theorem dX6_child_2 : decode cX6_child 2 = .ok (.bipush 12, 2) := by decide +kernel
theorem dX6_child_4 : decode cX6_child 4 = .ok (.iload_n 1, 1) := by decide +kernel
theorem dX6_child_5 : decode cX6_child 5 = .ok (.invokevirtual 107, 3) := by decide +kernel
theorem dX6_child_8 : decode cX6_child 8 = .ok (.ifCond .ne 7, 3) := by decide +kernel
theorem dX6_child_11 : decode cX6_child 11 = .ok (.iconst 1, 1) := by decide +kernel
theorem dX6_child_12 : decode cX6_child 12 = .ok (.goto 23, 3) := by decide +kernel
theorem dX6_child_15 : decode cX6_child 15 = .ok (.iload_n 2, 1) := by decide +kernel
theorem dX6_child_16 : decode cX6_child 16 = .ok (.ifCond .lt 14, 3) := by decide +kernel
theorem dX6_child_19 : decode cX6_child 19 = .ok (.iload_n 2, 1) := by decide +kernel
theorem dX6_child_20 : decode cX6_child 20 = .ok (.aload_n 0, 1) := by decide +kernel
theorem dX6_child_21 : decode cX6_child 21 = .ok (.bipush 12, 2) := by decide +kernel
theorem dX6_child_23 : decode cX6_child 23 = .ok (.iload_n 1, 1) := by decide +kernel
theorem dX6_child_24 : decode cX6_child 24 = .ok (.invokevirtual 99, 3) := by decide +kernel
theorem dX6_child_27 : decode cX6_child 27 = .ok (.if_icmp .lt 7, 3) := by decide +kernel
theorem dX6_child_30 : decode cX6_child 30 = .ok (.iconst 2, 1) := by decide +kernel
theorem dX6_child_31 : decode cX6_child 31 = .ok (.goto 4, 3) := by decide +kernel
theorem dX6_child_34 : decode cX6_child 34 = .ok (.iconst 0, 1) := by decide +kernel
theorem dX6_child_35 : decode cX6_child 35 = .ok (.putfield 82, 3) := by decide +kernel
