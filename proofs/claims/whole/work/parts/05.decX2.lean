set_option maxRecDepth 20000 in
theorem ggX2_init_X4_init : GoodIn wsX2_init wsX4_init := goodIn_r _ [12, 13, 2, 3, 8, 14, 15, 16, 17, 18, 19, 20, 21, 6, 22, 23, 24, 25, 26, 27, 28, 29, 30, 31, 32, 33] (by decide +kernel) (by decide +kernel)
set_option maxRecDepth 20000 in
theorem gX2_init_X4_init : GoodIn wsX2_init (wsX4_init) := ggX2_init_X4_init
theorem dX2_init_0 : decode cX2_init 0 = .ok (.aload_n 0, 1) := by decide +kernel
theorem dX2_init_1 : decode cX2_init 1 = .ok (.invokespecial 3, 3) := by decide +kernel
theorem dX2_init_4 : decode cX2_init 4 = .ok (.aload_n 0, 1) := by decide +kernel
theorem dX2_init_5 : decode cX2_init 5 = .ok (.new 9, 3) := by decide +kernel
theorem dX2_init_8 : decode cX2_init 8 = .ok (.dup, 1) := by decide +kernel
theorem dX2_init_9 : decode cX2_init 9 = .ok (.invokespecial 11, 3) := by decide +kernel
theorem dX2_init_12 : decode cX2_init 12 = .ok (.putfield 12, 3) := by decide +kernel
theorem dX2_init_15 : decode cX2_init 15 = .ok (.aload_n 0, 1) := by decide +kernel
theorem dX2_init_16 : decode cX2_init 16 = .ok (.bipush 24, 2) := by decide +kernel
theorem dX2_init_18 : decode cX2_init 18 = .ok (.newarray .int, 2) := by decide +kernel
theorem dX2_init_20 : decode cX2_init 20 = .ok (.putfield 18, 3) := by decide +kernel
theorem dX2_init_23 : decode cX2_init 23 = .ok (.return_, 1) := by decide +kernel
set_option maxRecDepth 20000 in
theorem ggX2_run_X4_clear : GoodIn wsX2_run wsX4_clear := goodIn_r _ [7, 8, 9, 10, 11, 12, 13, 14, 87, 88, 89, 90, 91, 92] (by decide +kernel) (by decide +kernel)
set_option maxRecDepth 20000 in
theorem gX2_run_X4_clear : GoodIn wsX2_run (wsV RX2 26 RX4 yX4_clear wsX4_clear) := goodIn_app (goodIn_of _ (by decide +kernel)) ggX2_run_X4_clear
set_option maxRecDepth 20000 in
theorem ggX2_run_X4_holds : GoodIn wsX2_run wsX4_holds := goodIn_r _ [18, 9, 87, 88, 89, 90, 91, 92] (by decide +kernel) (by decide +kernel)
set_option maxRecDepth 20000 in
theorem gX2_run_X4_holds : GoodIn wsX2_run (wsV RX2 29 RX4 yX4_holds wsX4_holds) := goodIn_app (goodIn_of _ (by decide +kernel)) ggX2_run_X4_holds
set_option maxRecDepth 20000 in
theorem ggX2_run_X2_settle : GoodIn wsX2_run wsX2_settle := goodIn_r _ [23, 24, 25, 2, 15, 16, 17, 6, 18, 9, 26, 27, 28, 29, 8, 30, 31, 32, 22, 33, 34, 1, 35, 36, 37, 87, 88, 89, 90, 91, 92, 84, 85, 86] (by decide +kernel) (by decide +kernel)
set_option maxRecDepth 20000 in
theorem gX2_run_X2_settle : GoodIn wsX2_run (wsV RX2 33 RX2 yX2_settle wsX2_settle) := goodIn_app (goodIn_of _ (by decide +kernel)) ggX2_run_X2_settle
set_option maxRecDepth 20000 in
theorem ggX2_run_X2_nameThoseWithoutParent : GoodIn wsX2_run wsX2_nameThoseWithoutParent := goodIn_r _ [41, 2, 25, 15, 16, 17, 6, 18, 9, 30, 31, 32, 22, 33, 34, 1, 84, 85, 86, 87, 88, 89, 90, 91, 92] (by decide +kernel) (by decide +kernel)
set_option maxRecDepth 20000 in
theorem gX2_run_X2_nameThoseWithoutParent : GoodIn wsX2_run (wsV RX2 37 RX2 yX2_nameThoseWithoutParent wsX2_nameThoseWithoutParent) := goodIn_app (goodIn_of _ (by decide +kernel)) ggX2_run_X2_nameThoseWithoutParent
set_option maxRecDepth 20000 in
theorem ggX2_run_X2_nameThoseCutOff : GoodIn wsX2_run wsX2_nameThoseCutOff := goodIn_r _ [45, 2, 15, 16, 17, 6, 18, 9, 46, 47, 48, 22, 49, 25, 30, 31, 32, 33, 34, 1, 84, 85, 86, 87, 88, 89, 90, 91, 92] (by decide +kernel) (by decide +kernel)
set_option maxRecDepth 20000 in
theorem gX2_run_X2_nameThoseCutOff : GoodIn wsX2_run (wsV RX2 40 RX2 yX2_nameThoseCutOff wsX2_nameThoseCutOff) := goodIn_app (goodIn_of _ (by decide +kernel)) ggX2_run_X2_nameThoseCutOff
set_option maxRecDepth 20000 in
theorem ggX2_run_X2_arrange : GoodIn wsX2_run wsX2_arrange := goodIn_r _ [53, 2, 54, 55, 56, 57, 6, 58, 59, 60, 61, 62, 63, 64, 10, 65, 66, 67, 68, 69, 70, 71, 72, 73, 74, 75, 76, 22, 77, 78, 79, 80, 81, 82, 83, 25, 84, 85, 86, 87, 88, 89, 90, 91, 92] (by decide +kernel) (by decide +kernel)
set_option maxRecDepth 20000 in
theorem gX2_run_X2_arrange : GoodIn wsX2_run (wsV RX2 43 RX2 yX2_arrange wsX2_arrange) := goodIn_app (goodIn_of _ (by decide +kernel)) ggX2_run_X2_arrange
theorem dX2_run_0 : decode cX2_run 0 = .ok (.aload_n 0, 1) := by decide +kernel
theorem dX2_run_1 : decode cX2_run 1 = .ok (.iconst 0, 1) := by decide +kernel
theorem dX2_run_2 : decode cX2_run 2 = .ok (.putfield 22, 3) := by decide +kernel
theorem dX2_run_5 : decode cX2_run 5 = .ok (.aload_n 0, 1) := by decide +kernel
theorem dX2_run_6 : decode cX2_run 6 = .ok (.getfield 12, 3) := by decide +kernel
theorem dX2_run_9 : decode cX2_run 9 = .ok (.invokevirtual 26, 3) := by decide +kernel
theorem dX2_run_12 : decode cX2_run 12 = .ok (.iconst 0, 1) := by decide +kernel
theorem dX2_run_13 : decode cX2_run 13 = .ok (.istore 4, 2) := by decide +kernel
theorem dX2_run_15 : decode cX2_run 15 = .ok (.iload 4, 2) := by decide +kernel
theorem dX2_run_17 : decode cX2_run 17 = .ok (.bipush 24, 2) := by decide +kernel
theorem dX2_run_19 : decode cX2_run 19 = .ok (.if_icmp .ge 36, 3) := by decide +kernel
theorem dX2_run_22 : decode cX2_run 22 = .ok (.aload_n 1, 1) := by decide +kernel
theorem dX2_run_23 : decode cX2_run 23 = .ok (.iload 4, 2) := by decide +kernel
theorem dX2_run_25 : decode cX2_run 25 = .ok (.invokevirtual 29, 3) := by decide +kernel
theorem dX2_run_28 : decode cX2_run 28 = .ok (.ifCond .ne 12, 3) := by decide +kernel
theorem dX2_run_31 : decode cX2_run 31 = .ok (.aload_n 2, 1) := by decide +kernel
theorem dX2_run_32 : decode cX2_run 32 = .ok (.iload 4, 2) := by decide +kernel
theorem dX2_run_34 : decode cX2_run 34 = .ok (.invokevirtual 29, 3) := by decide +kernel
theorem dX2_run_37 : decode cX2_run 37 = .ok (.ifCond .eq 12, 3) := by decide +kernel
theorem dX2_run_40 : decode cX2_run 40 = .ok (.aload_n 0, 1) := by decide +kernel
theorem dX2_run_41 : decode cX2_run 41 = .ok (.iload 4, 2) := by decide +kernel
theorem dX2_run_43 : decode cX2_run 43 = .ok (.aload_n 1, 1) := by decide +kernel
theorem dX2_run_44 : decode cX2_run 44 = .ok (.aload_n 2, 1) := by decide +kernel
theorem dX2_run_45 : decode cX2_run 45 = .ok (.aload_n 3, 1) := by decide +kernel
theorem dX2_run_46 : decode cX2_run 46 = .ok (.invokevirtual 33, 3) := by decide +kernel
theorem dX2_run_49 : decode cX2_run 49 = .ok (.iinc 4 1, 3) := by decide +kernel
theorem dX2_run_52 : decode cX2_run 52 = .ok (.goto (-37), 3) := by decide +kernel
theorem dX2_run_55 : decode cX2_run 55 = .ok (.aload_n 0, 1) := by decide +kernel
theorem dX2_run_56 : decode cX2_run 56 = .ok (.getfield 22, 3) := by decide +kernel
theorem dX2_run_59 : decode cX2_run 59 = .ok (.ifCond .ne 7, 3) := by decide +kernel
theorem dX2_run_62 : decode cX2_run 62 = .ok (.aload_n 0, 1) := by decide +kernel
theorem dX2_run_63 : decode cX2_run 63 = .ok (.invokevirtual 37, 3) := by decide +kernel
theorem dX2_run_66 : decode cX2_run 66 = .ok (.aload_n 0, 1) := by decide +kernel
theorem dX2_run_67 : decode cX2_run 67 = .ok (.getfield 22, 3) := by decide +kernel
theorem dX2_run_70 : decode cX2_run 70 = .ok (.ifCond .ne 7, 3) := by decide +kernel
theorem dX2_run_73 : decode cX2_run 73 = .ok (.aload_n 0, 1) := by decide +kernel
theorem dX2_run_74 : decode cX2_run 74 = .ok (.invokevirtual 40, 3) := by decide +kernel
theorem dX2_run_77 : decode cX2_run 77 = .ok (.aload_n 0, 1) := by decide +kernel
theorem dX2_run_78 : decode cX2_run 78 = .ok (.getfield 22, 3) := by decide +kernel
theorem dX2_run_81 : decode cX2_run 81 = .ok (.ifCond .ne 9, 3) := by decide +kernel
theorem dX2_run_84 : decode cX2_run 84 = .ok (.aload_n 0, 1) := by decide +kernel
theorem dX2_run_85 : decode cX2_run 85 = .ok (.aload_n 1, 1) := by decide +kernel
theorem dX2_run_86 : decode cX2_run 86 = .ok (.aload_n 2, 1) := by decide +kernel
theorem dX2_run_87 : decode cX2_run 87 = .ok (.invokevirtual 43, 3) := by decide +kernel
theorem dX2_run_90 : decode cX2_run 90 = .ok (.aload_n 0, 1) := by decide +kernel
theorem dX2_run_91 : decode cX2_run 91 = .ok (.getfield 22, 3) := by decide +kernel
theorem dX2_run_94 : decode cX2_run 94 = .ok (.ireturn, 1) := by decide +kernel
set_option maxRecDepth 20000 in
theorem ggX2_settle_X4_holds : GoodIn wsX2_settle wsX4_holds := goodIn_r _ [8, 9, 25, 26, 27, 28, 29, 30] (by decide +kernel) (by decide +kernel)
set_option maxRecDepth 20000 in
theorem gX2_settle_X4_holds : GoodIn wsX2_settle (wsV RX2 29 RX4 yX4_holds wsX4_holds) := goodIn_app (goodIn_of _ (by decide +kernel)) ggX2_settle_X4_holds
set_option maxRecDepth 20000 in
theorem ggX2_settle_X4_hasAsIn : GoodIn wsX2_settle wsX4_hasAsIn := goodIn_r _ [13, 9, 14, 25, 26, 27, 28, 29, 30] (by decide +kernel) (by decide +kernel)
set_option maxRecDepth 20000 in
theorem gX2_settle_X4_hasAsIn : GoodIn wsX2_settle (wsV RX2 47 RX4 yX4_hasAsIn wsX4_hasAsIn) := goodIn_app (goodIn_of _ (by decide +kernel)) ggX2_settle_X4_hasAsIn
set_option maxRecDepth 20000 in
theorem ggX2_settle_X2_name : GoodIn wsX2_settle wsX2_name := goodIn_r _ [19, 20, 21, 31, 32, 33] (by decide +kernel) (by decide +kernel)
set_option maxRecDepth 20000 in
theorem gX2_settle_X2_name : GoodIn wsX2_settle (wsV RX2 51 RX2 yX2_name wsX2_name) := goodIn_app (goodIn_of _ (by decide +kernel)) ggX2_settle_X2_name
set_option maxRecDepth 20000 in
theorem ggX2_settle_X2_agreed : GoodIn wsX2_settle wsX2_agreed := goodIn_r _ [24] (by decide +kernel) (by decide +kernel)
set_option maxRecDepth 20000 in
theorem gX2_settle_X2_agreed : GoodIn wsX2_settle (va_wsS RX2 58 yX2_agreed wsX2_agreed) := goodIn_app (goodIn_of _ (by decide +kernel)) ggX2_settle_X2_agreed
theorem dX2_settle_0 : decode cX2_settle 0 = .ok (.aload_n 2, 1) := by decide +kernel
theorem dX2_settle_1 : decode cX2_settle 1 = .ok (.iload_n 1, 1) := by decide +kernel
theorem dX2_settle_2 : decode cX2_settle 2 = .ok (.invokevirtual 29, 3) := by decide +kernel
theorem dX2_settle_5 : decode cX2_settle 5 = .ok (.ifCond .eq 15, 3) := by decide +kernel
theorem dX2_settle_8 : decode cX2_settle 8 = .ok (.aload_n 3, 1) := by decide +kernel
theorem dX2_settle_9 : decode cX2_settle 9 = .ok (.iload_n 1, 1) := by decide +kernel
theorem dX2_settle_10 : decode cX2_settle 10 = .ok (.invokevirtual 29, 3) := by decide +kernel
theorem dX2_settle_13 : decode cX2_settle 13 = .ok (.ifCond .eq 7, 3) := by decide +kernel
theorem dX2_settle_16 : decode cX2_settle 16 = .ok (.iconst 1, 1) := by decide +kernel
theorem dX2_settle_17 : decode cX2_settle 17 = .ok (.goto 4, 3) := by decide +kernel
theorem dX2_settle_20 : decode cX2_settle 20 = .ok (.iconst 0, 1) := by decide +kernel
theorem dX2_settle_21 : decode cX2_settle 21 = .ok (.istore 5, 2) := by decide +kernel
theorem dX2_settle_23 : decode cX2_settle 23 = .ok (.iload 5, 2) := by decide +kernel
theorem dX2_settle_25 : decode cX2_settle 25 = .ok (.ifCond .ne 45, 3) := by decide +kernel
theorem dX2_settle_28 : decode cX2_settle 28 = .ok (.aload 4, 2) := by decide +kernel
theorem dX2_settle_30 : decode cX2_settle 30 = .ok (.iload_n 1, 1) := by decide +kernel
theorem dX2_settle_31 : decode cX2_settle 31 = .ok (.invokevirtual 29, 3) := by decide +kernel
theorem dX2_settle_34 : decode cX2_settle 34 = .ok (.ifCond .eq 36, 3) := by decide +kernel
theorem dX2_settle_37 : decode cX2_settle 37 = .ok (.aload_n 2, 1) := by decide +kernel
theorem dX2_settle_38 : decode cX2_settle 38 = .ok (.iload_n 1, 1) := by decide +kernel
theorem dX2_settle_39 : decode cX2_settle 39 = .ok (.invokevirtual 29, 3) := by decide +kernel
theorem dX2_settle_42 : decode cX2_settle 42 = .ok (.ifCond .eq 7, 3) := by decide +kernel
theorem dX2_settle_45 : decode cX2_settle 45 = .ok (.aload_n 2, 1) := by decide +kernel
theorem dX2_settle_46 : decode cX2_settle 46 = .ok (.goto 4, 3) := by decide +kernel
theorem dX2_settle_49 : decode cX2_settle 49 = .ok (.aload_n 3, 1) := by decide +kernel
theorem dX2_settle_50 : decode cX2_settle 50 = .ok (.astore 6, 2) := by decide +kernel
theorem dX2_settle_52 : decode cX2_settle 52 = .ok (.aload 6, 2) := by decide +kernel
theorem dX2_settle_54 : decode cX2_settle 54 = .ok (.aload 4, 2) := by decide +kernel
theorem dX2_settle_56 : decode cX2_settle 56 = .ok (.iload_n 1, 1) := by decide +kernel
theorem dX2_settle_57 : decode cX2_settle 57 = .ok (.invokevirtual 47, 3) := by decide +kernel
theorem dX2_settle_60 : decode cX2_settle 60 = .ok (.ifCond .ne 9, 3) := by decide +kernel
theorem dX2_settle_63 : decode cX2_settle 63 = .ok (.aload_n 0, 1) := by decide +kernel
theorem dX2_settle_64 : decode cX2_settle 64 = .ok (.iload_n 1, 1) := by decide +kernel
theorem dX2_settle_65 : decode cX2_settle 65 = .ok (.iconst 1, 1) := by decide +kernel
theorem dX2_settle_66 : decode cX2_settle 66 = .ok (.invokevirtual 51, 3) := by decide +kernel
theorem dX2_settle_69 : decode cX2_settle 69 = .ok (.return_, 1) := by decide +kernel
theorem dX2_settle_70 : decode cX2_settle 70 = .ok (.aload_n 2, 1) := by decide +kernel
theorem dX2_settle_71 : decode cX2_settle 71 = .ok (.getfield 55, 3) := by decide +kernel
theorem dX2_settle_74 : decode cX2_settle 74 = .ok (.iload_n 1, 1) := by decide +kernel
theorem dX2_settle_75 : decode cX2_settle 75 = .ok (.iaload, 1) := by decide +kernel
theorem dX2_settle_76 : decode cX2_settle 76 = .ok (.aload_n 3, 1) := by decide +kernel
theorem dX2_settle_77 : decode cX2_settle 77 = .ok (.getfield 55, 3) := by decide +kernel
theorem dX2_settle_80 : decode cX2_settle 80 = .ok (.iload_n 1, 1) := by decide +kernel
theorem dX2_settle_81 : decode cX2_settle 81 = .ok (.iaload, 1) := by decide +kernel
theorem dX2_settle_82 : decode cX2_settle 82 = .ok (.aload 4, 2) := by decide +kernel
theorem dX2_settle_84 : decode cX2_settle 84 = .ok (.getfield 55, 3) := by decide +kernel
theorem dX2_settle_87 : decode cX2_settle 87 = .ok (.iload_n 1, 1) := by decide +kernel
theorem dX2_settle_88 : decode cX2_settle 88 = .ok (.iaload, 1) := by decide +kernel
theorem dX2_settle_89 : decode cX2_settle 89 = .ok (.invokestatic 58, 3) := by decide +kernel
theorem dX2_settle_92 : decode cX2_settle 92 = .ok (.istore 6, 2) := by decide +kernel
theorem dX2_settle_94 : decode cX2_settle 94 = .ok (.aload_n 2, 1) := by decide +kernel
theorem dX2_settle_95 : decode cX2_settle 95 = .ok (.getfield 62, 3) := by decide +kernel
theorem dX2_settle_98 : decode cX2_settle 98 = .ok (.iload_n 1, 1) := by decide +kernel
theorem dX2_settle_99 : decode cX2_settle 99 = .ok (.iaload, 1) := by decide +kernel
theorem dX2_settle_100 : decode cX2_settle 100 = .ok (.aload_n 3, 1) := by decide +kernel
theorem dX2_settle_101 : decode cX2_settle 101 = .ok (.getfield 62, 3) := by decide +kernel
theorem dX2_settle_104 : decode cX2_settle 104 = .ok (.iload_n 1, 1) := by decide +kernel
theorem dX2_settle_105 : decode cX2_settle 105 = .ok (.iaload, 1) := by decide +kernel
theorem dX2_settle_106 : decode cX2_settle 106 = .ok (.aload 4, 2) := by decide +kernel
theorem dX2_settle_108 : decode cX2_settle 108 = .ok (.getfield 62, 3) := by decide +kernel
theorem dX2_settle_111 : decode cX2_settle 111 = .ok (.iload_n 1, 1) := by decide +kernel
theorem dX2_settle_112 : decode cX2_settle 112 = .ok (.iaload, 1) := by decide +kernel
theorem dX2_settle_113 : decode cX2_settle 113 = .ok (.invokestatic 58, 3) := by decide +kernel
theorem dX2_settle_116 : decode cX2_settle 116 = .ok (.istore 7, 2) := by decide +kernel
theorem dX2_settle_118 : decode cX2_settle 118 = .ok (.iload 6, 2) := by decide +kernel
theorem dX2_settle_120 : decode cX2_settle 120 = .ok (.bipush (-3), 2) := by decide +kernel
theorem dX2_settle_122 : decode cX2_settle 122 = .ok (.if_icmp .ne 12, 3) := by decide +kernel
theorem dX2_settle_125 : decode cX2_settle 125 = .ok (.aload_n 0, 1) := by decide +kernel
theorem dX2_settle_126 : decode cX2_settle 126 = .ok (.iload_n 1, 1) := by decide +kernel
theorem dX2_settle_127 : decode cX2_settle 127 = .ok (.iconst 2, 1) := by decide +kernel
theorem dX2_settle_128 : decode cX2_settle 128 = .ok (.invokevirtual 51, 3) := by decide +kernel
theorem dX2_settle_131 : decode cX2_settle 131 = .ok (.goto 41, 3) := by decide +kernel
theorem dX2_settle_134 : decode cX2_settle 134 = .ok (.iload 7, 2) := by decide +kernel
theorem dX2_settle_136 : decode cX2_settle 136 = .ok (.bipush (-3), 2) := by decide +kernel
theorem dX2_settle_138 : decode cX2_settle 138 = .ok (.if_icmp .ne 12, 3) := by decide +kernel
theorem dX2_settle_141 : decode cX2_settle 141 = .ok (.aload_n 0, 1) := by decide +kernel
theorem dX2_settle_142 : decode cX2_settle 142 = .ok (.iload_n 1, 1) := by decide +kernel
theorem dX2_settle_143 : decode cX2_settle 143 = .ok (.iconst 3, 1) := by decide +kernel
theorem dX2_settle_144 : decode cX2_settle 144 = .ok (.invokevirtual 51, 3) := by decide +kernel
theorem dX2_settle_147 : decode cX2_settle 147 = .ok (.goto 25, 3) := by decide +kernel
theorem dX2_settle_150 : decode cX2_settle 150 = .ok (.aload_n 0, 1) := by decide +kernel
theorem dX2_settle_151 : decode cX2_settle 151 = .ok (.getfield 12, 3) := by decide +kernel
theorem dX2_settle_154 : decode cX2_settle 154 = .ok (.getfield 55, 3) := by decide +kernel
theorem dX2_settle_157 : decode cX2_settle 157 = .ok (.iload_n 1, 1) := by decide +kernel
theorem dX2_settle_158 : decode cX2_settle 158 = .ok (.iload 6, 2) := by decide +kernel
theorem dX2_settle_160 : decode cX2_settle 160 = .ok (.iastore, 1) := by decide +kernel
theorem dX2_settle_161 : decode cX2_settle 161 = .ok (.aload_n 0, 1) := by decide +kernel
theorem dX2_settle_162 : decode cX2_settle 162 = .ok (.getfield 12, 3) := by decide +kernel
theorem dX2_settle_165 : decode cX2_settle 165 = .ok (.getfield 62, 3) := by decide +kernel
theorem dX2_settle_168 : decode cX2_settle 168 = .ok (.iload_n 1, 1) := by decide +kernel
theorem dX2_settle_169 : decode cX2_settle 169 = .ok (.iload 7, 2) := by decide +kernel
theorem dX2_settle_171 : decode cX2_settle 171 = .ok (.iastore, 1) := by decide +kernel
theorem dX2_settle_172 : decode cX2_settle 172 = .ok (.return_, 1) := by decide +kernel
theorem dX2_agreed_0 : decode cX2_agreed 0 = .ok (.iload_n 0, 1) := by decide +kernel
theorem dX2_agreed_1 : decode cX2_agreed 1 = .ok (.iload_n 1, 1) := by decide +kernel
theorem dX2_agreed_2 : decode cX2_agreed 2 = .ok (.if_icmp .eq 9, 3) := by decide +kernel
theorem dX2_agreed_5 : decode cX2_agreed 5 = .ok (.iload_n 1, 1) := by decide +kernel
theorem dX2_agreed_6 : decode cX2_agreed 6 = .ok (.bipush (-2), 2) := by decide +kernel
theorem dX2_agreed_8 : decode cX2_agreed 8 = .ok (.if_icmp .ne 5, 3) := by decide +kernel
theorem dX2_agreed_11 : decode cX2_agreed 11 = .ok (.iload_n 0, 1) := by decide +kernel
theorem dX2_agreed_12 : decode cX2_agreed 12 = .ok (.ireturn, 1) := by decide +kernel
theorem dX2_agreed_13 : decode cX2_agreed 13 = .ok (.iload_n 0, 1) := by decide +kernel
theorem dX2_agreed_14 : decode cX2_agreed 14 = .ok (.bipush (-2), 2) := by decide +kernel
theorem dX2_agreed_16 : decode cX2_agreed 16 = .ok (.if_icmp .eq 8, 3) := by decide +kernel
theorem dX2_agreed_19 : decode cX2_agreed 19 = .ok (.iload_n 0, 1) := by decide +kernel
theorem dX2_agreed_20 : decode cX2_agreed 20 = .ok (.iload_n 2, 1) := by decide +kernel
theorem dX2_agreed_21 : decode cX2_agreed 21 = .ok (.if_icmp .ne 5, 3) := by decide +kernel
theorem dX2_agreed_24 : decode cX2_agreed 24 = .ok (.iload_n 1, 1) := by decide +kernel
theorem dX2_agreed_25 : decode cX2_agreed 25 = .ok (.ireturn, 1) := by decide +kernel
theorem dX2_agreed_26 : decode cX2_agreed 26 = .ok (.iload_n 1, 1) := by decide +kernel
theorem dX2_agreed_27 : decode cX2_agreed 27 = .ok (.iload_n 2, 1) := by decide +kernel
theorem dX2_agreed_28 : decode cX2_agreed 28 = .ok (.if_icmp .ne 7, 3) := by decide +kernel
theorem dX2_agreed_31 : decode cX2_agreed 31 = .ok (.iload_n 0, 1) := by decide +kernel
theorem dX2_agreed_32 : decode cX2_agreed 32 = .ok (.goto 5, 3) := by decide +kernel
theorem dX2_agreed_35 : decode cX2_agreed 35 = .ok (.bipush (-3), 2) := by decide +kernel
theorem dX2_agreed_37 : decode cX2_agreed 37 = .ok (.ireturn, 1) := by decide +kernel
theorem dX2_name_0 : decode cX2_name 0 = .ok (.aload_n 0, 1) := by decide +kernel
theorem dX2_name_1 : decode cX2_name 1 = .ok (.getfield 18, 3) := by decide +kernel
theorem dX2_name_4 : decode cX2_name 4 = .ok (.aload_n 0, 1) := by decide +kernel
theorem dX2_name_5 : decode cX2_name 5 = .ok (.getfield 22, 3) := by decide +kernel
theorem dX2_name_8 : decode cX2_name 8 = .ok (.iload_n 1, 1) := by decide +kernel
theorem dX2_name_9 : decode cX2_name 9 = .ok (.bipush 32, 2) := by decide +kernel
theorem dX2_name_11 : decode cX2_name 11 = .ok (.iload_n 2, 1) := by decide +kernel
theorem dX2_name_12 : decode cX2_name 12 = .ok (.imul, 1) := by decide +kernel
theorem dX2_name_13 : decode cX2_name 13 = .ok (.iadd, 1) := by decide +kernel
theorem dX2_name_14 : decode cX2_name 14 = .ok (.iastore, 1) := by decide +kernel
theorem dX2_name_15 : decode cX2_name 15 = .ok (.aload_n 0, 1) := by decide +kernel
theorem dX2_name_16 : decode cX2_name 16 = .ok (.dup, 1) := by decide +kernel
theorem dX2_name_17 : decode cX2_name 17 = .ok (.getfield 22, 3) := by decide +kernel
theorem dX2_name_20 : decode cX2_name 20 = .ok (.iconst 1, 1) := by decide +kernel
theorem dX2_name_21 : decode cX2_name 21 = .ok (.iadd, 1) := by decide +kernel
theorem dX2_name_22 : decode cX2_name 22 = .ok (.putfield 22, 3) := by decide +kernel
theorem dX2_name_25 : decode cX2_name 25 = .ok (.return_, 1) := by decide +kernel
set_option maxRecDepth 20000 in
theorem ggX2_nameThoseWithoutParent_X4_holds : GoodIn wsX2_nameThoseWithoutParent wsX4_holds := goodIn_r _ [7, 8, 19, 20, 21, 22, 23, 24] (by decide +kernel) (by decide +kernel)
set_option maxRecDepth 20000 in
theorem gX2_nameThoseWithoutParent_X4_holds : GoodIn wsX2_nameThoseWithoutParent (wsV RX2 29 RX4 yX4_holds wsX4_holds) := goodIn_app (goodIn_of _ (by decide +kernel)) ggX2_nameThoseWithoutParent_X4_holds
set_option maxRecDepth 20000 in
theorem ggX2_nameThoseWithoutParent_X2_name : GoodIn wsX2_nameThoseWithoutParent wsX2_name := goodIn_r _ [13, 14, 15, 16, 17, 18] (by decide +kernel) (by decide +kernel)
set_option maxRecDepth 20000 in
theorem gX2_nameThoseWithoutParent_X2_name : GoodIn wsX2_nameThoseWithoutParent (wsV RX2 51 RX2 yX2_name wsX2_name) := goodIn_app (goodIn_of _ (by decide +kernel)) ggX2_nameThoseWithoutParent_X2_name
theorem dX2_nameThoseWithoutParent_0 : decode cX2_nameThoseWithoutParent 0 = .ok (.iconst 1, 1) := by decide +kernel
theorem dX2_nameThoseWithoutParent_1 : decode cX2_nameThoseWithoutParent 1 = .ok (.istore_n 1, 1) := by decide +kernel
theorem dX2_nameThoseWithoutParent_2 : decode cX2_nameThoseWithoutParent 2 = .ok (.iload_n 1, 1) := by decide +kernel
theorem dX2_nameThoseWithoutParent_3 : decode cX2_nameThoseWithoutParent 3 = .ok (.bipush 24, 2) := by decide +kernel
theorem dX2_nameThoseWithoutParent_5 : decode cX2_nameThoseWithoutParent 5 = .ok (.if_icmp .ge 45, 3) := by decide +kernel
theorem dX2_nameThoseWithoutParent_8 : decode cX2_nameThoseWithoutParent 8 = .ok (.aload_n 0, 1) := by decide +kernel
theorem dX2_nameThoseWithoutParent_9 : decode cX2_nameThoseWithoutParent 9 = .ok (.getfield 12, 3) := by decide +kernel
theorem dX2_nameThoseWithoutParent_12 : decode cX2_nameThoseWithoutParent 12 = .ok (.iload_n 1, 1) := by decide +kernel
theorem dX2_nameThoseWithoutParent_13 : decode cX2_nameThoseWithoutParent 13 = .ok (.invokevirtual 29, 3) := by decide +kernel
theorem dX2_nameThoseWithoutParent_16 : decode cX2_nameThoseWithoutParent 16 = .ok (.ifCond .eq 28, 3) := by decide +kernel
theorem dX2_nameThoseWithoutParent_19 : decode cX2_nameThoseWithoutParent 19 = .ok (.aload_n 0, 1) := by decide +kernel
theorem dX2_nameThoseWithoutParent_20 : decode cX2_nameThoseWithoutParent 20 = .ok (.getfield 12, 3) := by decide +kernel
theorem dX2_nameThoseWithoutParent_23 : decode cX2_nameThoseWithoutParent 23 = .ok (.aload_n 0, 1) := by decide +kernel
theorem dX2_nameThoseWithoutParent_24 : decode cX2_nameThoseWithoutParent 24 = .ok (.getfield 12, 3) := by decide +kernel
theorem dX2_nameThoseWithoutParent_27 : decode cX2_nameThoseWithoutParent 27 = .ok (.getfield 62, 3) := by decide +kernel
theorem dX2_nameThoseWithoutParent_30 : decode cX2_nameThoseWithoutParent 30 = .ok (.iload_n 1, 1) := by decide +kernel
theorem dX2_nameThoseWithoutParent_31 : decode cX2_nameThoseWithoutParent 31 = .ok (.iaload, 1) := by decide +kernel
theorem dX2_nameThoseWithoutParent_32 : decode cX2_nameThoseWithoutParent 32 = .ok (.invokevirtual 29, 3) := by decide +kernel
theorem dX2_nameThoseWithoutParent_35 : decode cX2_nameThoseWithoutParent 35 = .ok (.ifCond .ne 9, 3) := by decide +kernel
theorem dX2_nameThoseWithoutParent_38 : decode cX2_nameThoseWithoutParent 38 = .ok (.aload_n 0, 1) := by decide +kernel
theorem dX2_nameThoseWithoutParent_39 : decode cX2_nameThoseWithoutParent 39 = .ok (.iload_n 1, 1) := by decide +kernel
theorem dX2_nameThoseWithoutParent_40 : decode cX2_nameThoseWithoutParent 40 = .ok (.iconst 4, 1) := by decide +kernel
theorem dX2_nameThoseWithoutParent_41 : decode cX2_nameThoseWithoutParent 41 = .ok (.invokevirtual 51, 3) := by decide +kernel
theorem dX2_nameThoseWithoutParent_44 : decode cX2_nameThoseWithoutParent 44 = .ok (.iinc 1 1, 3) := by decide +kernel
theorem dX2_nameThoseWithoutParent_47 : decode cX2_nameThoseWithoutParent 47 = .ok (.goto (-45), 3) := by decide +kernel
theorem dX2_nameThoseWithoutParent_50 : decode cX2_nameThoseWithoutParent 50 = .ok (.return_, 1) := by decide +kernel
set_option maxRecDepth 20000 in
theorem ggX2_nameThoseCutOff_X4_holds : GoodIn wsX2_nameThoseCutOff wsX4_holds := goodIn_r _ [6, 7, 23, 24, 25, 26, 27, 28] (by decide +kernel) (by decide +kernel)
set_option maxRecDepth 20000 in
theorem gX2_nameThoseCutOff_X4_holds : GoodIn wsX2_nameThoseCutOff (wsV RX2 29 RX4 yX4_holds wsX4_holds) := goodIn_app (goodIn_of _ (by decide +kernel)) ggX2_nameThoseCutOff_X4_holds
set_option maxRecDepth 20000 in
theorem ggX2_nameThoseCutOff_X2_comesToRoot : GoodIn wsX2_nameThoseCutOff wsX2_comesToRoot := goodIn_r _ [12, 1, 13, 20, 21, 22, 23, 24, 25, 26, 27, 28] (by decide +kernel) (by decide +kernel)
set_option maxRecDepth 20000 in
theorem gX2_nameThoseCutOff_X2_comesToRoot : GoodIn wsX2_nameThoseCutOff (wsV RX2 65 RX2 yX2_comesToRoot wsX2_comesToRoot) := goodIn_app (goodIn_of _ (by decide +kernel)) ggX2_nameThoseCutOff_X2_comesToRoot
set_option maxRecDepth 20000 in
theorem ggX2_nameThoseCutOff_X2_name : GoodIn wsX2_nameThoseCutOff wsX2_name := goodIn_r _ [17, 18, 19, 20, 21, 22] (by decide +kernel) (by decide +kernel)
set_option maxRecDepth 20000 in
theorem gX2_nameThoseCutOff_X2_name : GoodIn wsX2_nameThoseCutOff (wsV RX2 51 RX2 yX2_name wsX2_name) := goodIn_app (goodIn_of _ (by decide +kernel)) ggX2_nameThoseCutOff_X2_name
theorem dX2_nameThoseCutOff_0 : decode cX2_nameThoseCutOff 0 = .ok (.iconst 1, 1) := by decide +kernel
theorem dX2_nameThoseCutOff_1 : decode cX2_nameThoseCutOff 1 = .ok (.istore_n 1, 1) := by decide +kernel
theorem dX2_nameThoseCutOff_2 : decode cX2_nameThoseCutOff 2 = .ok (.iload_n 1, 1) := by decide +kernel
theorem dX2_nameThoseCutOff_3 : decode cX2_nameThoseCutOff 3 = .ok (.bipush 24, 2) := by decide +kernel
theorem dX2_nameThoseCutOff_5 : decode cX2_nameThoseCutOff 5 = .ok (.if_icmp .ge 34, 3) := by decide +kernel
theorem dX2_nameThoseCutOff_8 : decode cX2_nameThoseCutOff 8 = .ok (.aload_n 0, 1) := by decide +kernel
theorem dX2_nameThoseCutOff_9 : decode cX2_nameThoseCutOff 9 = .ok (.getfield 12, 3) := by decide +kernel
theorem dX2_nameThoseCutOff_12 : decode cX2_nameThoseCutOff 12 = .ok (.iload_n 1, 1) := by decide +kernel
theorem dX2_nameThoseCutOff_13 : decode cX2_nameThoseCutOff 13 = .ok (.invokevirtual 29, 3) := by decide +kernel
theorem dX2_nameThoseCutOff_16 : decode cX2_nameThoseCutOff 16 = .ok (.ifCond .eq 17, 3) := by decide +kernel
theorem dX2_nameThoseCutOff_19 : decode cX2_nameThoseCutOff 19 = .ok (.aload_n 0, 1) := by decide +kernel
theorem dX2_nameThoseCutOff_20 : decode cX2_nameThoseCutOff 20 = .ok (.iload_n 1, 1) := by decide +kernel
theorem dX2_nameThoseCutOff_21 : decode cX2_nameThoseCutOff 21 = .ok (.invokevirtual 65, 3) := by decide +kernel
theorem dX2_nameThoseCutOff_24 : decode cX2_nameThoseCutOff 24 = .ok (.ifCond .ne 9, 3) := by decide +kernel
theorem dX2_nameThoseCutOff_27 : decode cX2_nameThoseCutOff 27 = .ok (.aload_n 0, 1) := by decide +kernel
theorem dX2_nameThoseCutOff_28 : decode cX2_nameThoseCutOff 28 = .ok (.iload_n 1, 1) := by decide +kernel
theorem dX2_nameThoseCutOff_29 : decode cX2_nameThoseCutOff 29 = .ok (.iconst 5, 1) := by decide +kernel
theorem dX2_nameThoseCutOff_30 : decode cX2_nameThoseCutOff 30 = .ok (.invokevirtual 51, 3) := by decide +kernel
theorem dX2_nameThoseCutOff_33 : decode cX2_nameThoseCutOff 33 = .ok (.iinc 1 1, 3) := by decide +kernel
theorem dX2_nameThoseCutOff_36 : decode cX2_nameThoseCutOff 36 = .ok (.goto (-34), 3) := by decide +kernel
theorem dX2_nameThoseCutOff_39 : decode cX2_nameThoseCutOff 39 = .ok (.return_, 1) := by decide +kernel
theorem dX2_comesToRoot_0 : decode cX2_comesToRoot 0 = .ok (.iload_n 1, 1) := by decide +kernel
theorem dX2_comesToRoot_1 : decode cX2_comesToRoot 1 = .ok (.istore_n 2, 1) := by decide +kernel
theorem dX2_comesToRoot_2 : decode cX2_comesToRoot 2 = .ok (.iconst 0, 1) := by decide +kernel
theorem dX2_comesToRoot_3 : decode cX2_comesToRoot 3 = .ok (.istore_n 3, 1) := by decide +kernel
theorem dX2_comesToRoot_4 : decode cX2_comesToRoot 4 = .ok (.iload_n 3, 1) := by decide +kernel
theorem dX2_comesToRoot_5 : decode cX2_comesToRoot 5 = .ok (.bipush 24, 2) := by decide +kernel
theorem dX2_comesToRoot_7 : decode cX2_comesToRoot 7 = .ok (.if_icmp .ge 23, 3) := by decide +kernel
theorem dX2_comesToRoot_10 : decode cX2_comesToRoot 10 = .ok (.iload_n 2, 1) := by decide +kernel
theorem dX2_comesToRoot_11 : decode cX2_comesToRoot 11 = .ok (.ifCond .le 19, 3) := by decide +kernel
theorem dX2_comesToRoot_14 : decode cX2_comesToRoot 14 = .ok (.aload_n 0, 1) := by decide +kernel
theorem dX2_comesToRoot_15 : decode cX2_comesToRoot 15 = .ok (.getfield 12, 3) := by decide +kernel
theorem dX2_comesToRoot_18 : decode cX2_comesToRoot 18 = .ok (.getfield 62, 3) := by decide +kernel
theorem dX2_comesToRoot_21 : decode cX2_comesToRoot 21 = .ok (.iload_n 2, 1) := by decide +kernel
theorem dX2_comesToRoot_22 : decode cX2_comesToRoot 22 = .ok (.iaload, 1) := by decide +kernel
theorem dX2_comesToRoot_23 : decode cX2_comesToRoot 23 = .ok (.istore_n 2, 1) := by decide +kernel
theorem dX2_comesToRoot_24 : decode cX2_comesToRoot 24 = .ok (.iinc 3 1, 3) := by decide +kernel
theorem dX2_comesToRoot_27 : decode cX2_comesToRoot 27 = .ok (.goto (-23), 3) := by decide +kernel
theorem dX2_comesToRoot_30 : decode cX2_comesToRoot 30 = .ok (.iload_n 2, 1) := by decide +kernel
theorem dX2_comesToRoot_31 : decode cX2_comesToRoot 31 = .ok (.ifCond .ne 7, 3) := by decide +kernel
theorem dX2_comesToRoot_34 : decode cX2_comesToRoot 34 = .ok (.iconst 1, 1) := by decide +kernel
theorem dX2_comesToRoot_35 : decode cX2_comesToRoot 35 = .ok (.goto 4, 3) := by decide +kernel
theorem dX2_comesToRoot_38 : decode cX2_comesToRoot 38 = .ok (.iconst 0, 1) := by decide +kernel
theorem dX2_comesToRoot_39 : decode cX2_comesToRoot 39 = .ok (.ireturn, 1) := by decide +kernel
set_option maxRecDepth 20000 in
theorem ggX2_arrange_X4_putInto : GoodIn wsX2_arrange wsX4_putInto := goodIn_r _ [7, 8, 9, 10, 11, 6, 12, 13, 14, 15, 16, 17, 18, 19, 20, 21, 22, 23, 39, 40, 41, 42, 43, 44] (by decide +kernel) (by decide +kernel)
set_option maxRecDepth 20000 in
theorem gX2_arrange_X4_putInto : GoodIn wsX2_arrange (wsV RX2 68 RX4 yX4_putInto wsX4_putInto) := goodIn_app (goodIn_of _ (by decide +kernel)) ggX2_arrange_X4_putInto
set_option maxRecDepth 20000 in
theorem ggX2_arrange_X2_arrangeChildren : GoodIn wsX2_arrange wsX2_arrangeChildren := goodIn_r _ [28, 1, 29, 2, 30, 31, 32, 33, 27, 34, 35, 3, 4, 5, 6, 7, 8, 9, 10, 11, 12, 13, 14, 15, 16, 17, 18, 19, 20, 21, 22, 23, 36, 37, 38, 39, 40, 41, 42, 43, 44] (by decide +kernel) (by decide +kernel)
set_option maxRecDepth 20000 in
theorem gX2_arrange_X2_arrangeChildren : GoodIn wsX2_arrange (wsV RX2 74 RX2 yX2_arrangeChildren wsX2_arrangeChildren) := goodIn_app (goodIn_of _ (by decide +kernel)) ggX2_arrange_X2_arrangeChildren
theorem dX2_arrange_0 : decode cX2_arrange 0 = .ok (.aload_n 0, 1) := by decide +kernel
theorem dX2_arrange_1 : decode cX2_arrange 1 = .ok (.getfield 12, 3) := by decide +kernel
theorem dX2_arrange_4 : decode cX2_arrange 4 = .ok (.iconst 0, 1) := by decide +kernel
theorem dX2_arrange_5 : decode cX2_arrange 5 = .ok (.iconst 0, 1) := by decide +kernel
theorem dX2_arrange_6 : decode cX2_arrange 6 = .ok (.invokevirtual 68, 3) := by decide +kernel
theorem dX2_arrange_9 : decode cX2_arrange 9 = .ok (.iconst 0, 1) := by decide +kernel
theorem dX2_arrange_10 : decode cX2_arrange 10 = .ok (.istore_n 3, 1) := by decide +kernel
theorem dX2_arrange_11 : decode cX2_arrange 11 = .ok (.iload_n 3, 1) := by decide +kernel
theorem dX2_arrange_12 : decode cX2_arrange 12 = .ok (.bipush 24, 2) := by decide +kernel
theorem dX2_arrange_14 : decode cX2_arrange 14 = .ok (.if_icmp .ge 27, 3) := by decide +kernel
theorem dX2_arrange_17 : decode cX2_arrange 17 = .ok (.iload_n 3, 1) := by decide +kernel
theorem dX2_arrange_18 : decode cX2_arrange 18 = .ok (.aload_n 0, 1) := by decide +kernel
theorem dX2_arrange_19 : decode cX2_arrange 19 = .ok (.getfield 12, 3) := by decide +kernel
theorem dX2_arrange_22 : decode cX2_arrange 22 = .ok (.getfield 71, 3) := by decide +kernel
theorem dX2_arrange_25 : decode cX2_arrange 25 = .ok (.if_icmp .ge 16, 3) := by decide +kernel
theorem dX2_arrange_28 : decode cX2_arrange 28 = .ok (.aload_n 0, 1) := by decide +kernel
theorem dX2_arrange_29 : decode cX2_arrange 29 = .ok (.iload_n 3, 1) := by decide +kernel
theorem dX2_arrange_30 : decode cX2_arrange 30 = .ok (.aload_n 1, 1) := by decide +kernel
theorem dX2_arrange_31 : decode cX2_arrange 31 = .ok (.aload_n 2, 1) := by decide +kernel
theorem dX2_arrange_32 : decode cX2_arrange 32 = .ok (.invokevirtual 74, 3) := by decide +kernel
theorem dX2_arrange_35 : decode cX2_arrange 35 = .ok (.iinc 3 1, 3) := by decide +kernel
theorem dX2_arrange_38 : decode cX2_arrange 38 = .ok (.goto (-27), 3) := by decide +kernel
theorem dX2_arrange_41 : decode cX2_arrange 41 = .ok (.return_, 1) := by decide +kernel
set_option maxRecDepth 20000 in
theorem ggX2_arrangeChildren_X2_isChildNowAsIn : GoodIn wsX2_arrangeChildren wsX2_isChildNowAsIn := goodIn_r _ [9, 10, 1, 35, 36, 37, 38, 39, 40, 32, 33, 34] (by decide +kernel) (by decide +kernel)
set_option maxRecDepth 20000 in
theorem gX2_arrangeChildren_X2_isChildNowAsIn : GoodIn wsX2_arrangeChildren (wsV RX2 81 RX2 yX2_isChildNowAsIn wsX2_isChildNowAsIn) := goodIn_app (goodIn_of _ (by decide +kernel)) ggX2_arrangeChildren_X2_isChildNowAsIn
set_option maxRecDepth 20000 in
theorem ggX2_arrangeChildren_X4_putInto : GoodIn wsX2_arrangeChildren wsX4_putInto := goodIn_r _ [15, 16, 17, 18, 19, 14, 20, 21, 22, 23, 24, 25, 26, 27, 28, 29, 30, 31, 35, 36, 37, 38, 39, 40] (by decide +kernel) (by decide +kernel)
set_option maxRecDepth 20000 in
theorem gX2_arrangeChildren_X4_putInto : GoodIn wsX2_arrangeChildren (wsV RX2 68 RX4 yX4_putInto wsX4_putInto) := goodIn_app (goodIn_of _ (by decide +kernel)) ggX2_arrangeChildren_X4_putInto
theorem dX2_arrangeChildren_0 : decode cX2_arrangeChildren 0 = .ok (.aload_n 0, 1) := by decide +kernel
theorem dX2_arrangeChildren_1 : decode cX2_arrangeChildren 1 = .ok (.getfield 12, 3) := by decide +kernel
theorem dX2_arrangeChildren_4 : decode cX2_arrangeChildren 4 = .ok (.getfield 78, 3) := by decide +kernel
theorem dX2_arrangeChildren_7 : decode cX2_arrangeChildren 7 = .ok (.iload_n 1, 1) := by decide +kernel
theorem dX2_arrangeChildren_8 : decode cX2_arrangeChildren 8 = .ok (.iaload, 1) := by decide +kernel
theorem dX2_arrangeChildren_9 : decode cX2_arrangeChildren 9 = .ok (.istore 4, 2) := by decide +kernel
theorem dX2_arrangeChildren_11 : decode cX2_arrangeChildren 11 = .ok (.iload_n 1, 1) := by decide +kernel
theorem dX2_arrangeChildren_12 : decode cX2_arrangeChildren 12 = .ok (.iconst 1, 1) := by decide +kernel
theorem dX2_arrangeChildren_13 : decode cX2_arrangeChildren 13 = .ok (.iadd, 1) := by decide +kernel
theorem dX2_arrangeChildren_14 : decode cX2_arrangeChildren 14 = .ok (.istore 5, 2) := by decide +kernel
theorem dX2_arrangeChildren_16 : decode cX2_arrangeChildren 16 = .ok (.iconst 0, 1) := by decide +kernel
theorem dX2_arrangeChildren_17 : decode cX2_arrangeChildren 17 = .ok (.istore 6, 2) := by decide +kernel
theorem dX2_arrangeChildren_19 : decode cX2_arrangeChildren 19 = .ok (.iload 6, 2) := by decide +kernel
theorem dX2_arrangeChildren_21 : decode cX2_arrangeChildren 21 = .ok (.aload_n 2, 1) := by decide +kernel
theorem dX2_arrangeChildren_22 : decode cX2_arrangeChildren 22 = .ok (.getfield 71, 3) := by decide +kernel
theorem dX2_arrangeChildren_25 : decode cX2_arrangeChildren 25 = .ok (.if_icmp .ge 44, 3) := by decide +kernel
theorem dX2_arrangeChildren_28 : decode cX2_arrangeChildren 28 = .ok (.aload_n 2, 1) := by decide +kernel
theorem dX2_arrangeChildren_29 : decode cX2_arrangeChildren 29 = .ok (.getfield 78, 3) := by decide +kernel
theorem dX2_arrangeChildren_32 : decode cX2_arrangeChildren 32 = .ok (.iload 6, 2) := by decide +kernel
theorem dX2_arrangeChildren_34 : decode cX2_arrangeChildren 34 = .ok (.iaload, 1) := by decide +kernel
theorem dX2_arrangeChildren_35 : decode cX2_arrangeChildren 35 = .ok (.istore 7, 2) := by decide +kernel
theorem dX2_arrangeChildren_37 : decode cX2_arrangeChildren 37 = .ok (.aload_n 0, 1) := by decide +kernel
theorem dX2_arrangeChildren_38 : decode cX2_arrangeChildren 38 = .ok (.aload_n 2, 1) := by decide +kernel
theorem dX2_arrangeChildren_39 : decode cX2_arrangeChildren 39 = .ok (.iload 7, 2) := by decide +kernel
theorem dX2_arrangeChildren_41 : decode cX2_arrangeChildren 41 = .ok (.iload 4, 2) := by decide +kernel
theorem dX2_arrangeChildren_43 : decode cX2_arrangeChildren 43 = .ok (.invokevirtual 81, 3) := by decide +kernel
theorem dX2_arrangeChildren_46 : decode cX2_arrangeChildren 46 = .ok (.ifCond .eq 17, 3) := by decide +kernel
theorem dX2_arrangeChildren_49 : decode cX2_arrangeChildren 49 = .ok (.aload_n 0, 1) := by decide +kernel
theorem dX2_arrangeChildren_50 : decode cX2_arrangeChildren 50 = .ok (.getfield 12, 3) := by decide +kernel
theorem dX2_arrangeChildren_53 : decode cX2_arrangeChildren 53 = .ok (.iload 5, 2) := by decide +kernel
theorem dX2_arrangeChildren_55 : decode cX2_arrangeChildren 55 = .ok (.iload 7, 2) := by decide +kernel
theorem dX2_arrangeChildren_57 : decode cX2_arrangeChildren 57 = .ok (.invokevirtual 68, 3) := by decide +kernel
theorem dX2_arrangeChildren_60 : decode cX2_arrangeChildren 60 = .ok (.iinc 5 1, 3) := by decide +kernel
theorem dX2_arrangeChildren_63 : decode cX2_arrangeChildren 63 = .ok (.iinc 6 1, 3) := by decide +kernel
theorem dX2_arrangeChildren_66 : decode cX2_arrangeChildren 66 = .ok (.goto (-47), 3) := by decide +kernel
theorem dX2_arrangeChildren_69 : decode cX2_arrangeChildren 69 = .ok (.iload_n 1, 1) := by decide +kernel
theorem dX2_arrangeChildren_70 : decode cX2_arrangeChildren 70 = .ok (.iconst 1, 1) := by decide +kernel
theorem dX2_arrangeChildren_71 : decode cX2_arrangeChildren 71 = .ok (.iadd, 1) := by decide +kernel
theorem dX2_arrangeChildren_72 : decode cX2_arrangeChildren 72 = .ok (.istore 5, 2) := by decide +kernel
theorem dX2_arrangeChildren_74 : decode cX2_arrangeChildren 74 = .ok (.iconst 0, 1) := by decide +kernel
theorem dX2_arrangeChildren_75 : decode cX2_arrangeChildren 75 = .ok (.istore 6, 2) := by decide +kernel
theorem dX2_arrangeChildren_77 : decode cX2_arrangeChildren 77 = .ok (.iload 6, 2) := by decide +kernel
theorem dX2_arrangeChildren_79 : decode cX2_arrangeChildren 79 = .ok (.aload_n 3, 1) := by decide +kernel
theorem dX2_arrangeChildren_80 : decode cX2_arrangeChildren 80 = .ok (.getfield 71, 3) := by decide +kernel
theorem dX2_arrangeChildren_83 : decode cX2_arrangeChildren 83 = .ok (.if_icmp .ge 67, 3) := by decide +kernel
theorem dX2_arrangeChildren_86 : decode cX2_arrangeChildren 86 = .ok (.aload_n 3, 1) := by decide +kernel
theorem dX2_arrangeChildren_87 : decode cX2_arrangeChildren 87 = .ok (.getfield 78, 3) := by decide +kernel
theorem dX2_arrangeChildren_90 : decode cX2_arrangeChildren 90 = .ok (.iload 6, 2) := by decide +kernel
theorem dX2_arrangeChildren_92 : decode cX2_arrangeChildren 92 = .ok (.iaload, 1) := by decide +kernel
theorem dX2_arrangeChildren_93 : decode cX2_arrangeChildren 93 = .ok (.istore 7, 2) := by decide +kernel
theorem dX2_arrangeChildren_95 : decode cX2_arrangeChildren 95 = .ok (.aload_n 0, 1) := by decide +kernel
theorem dX2_arrangeChildren_96 : decode cX2_arrangeChildren 96 = .ok (.aload_n 3, 1) := by decide +kernel
theorem dX2_arrangeChildren_97 : decode cX2_arrangeChildren 97 = .ok (.iload 7, 2) := by decide +kernel
theorem dX2_arrangeChildren_99 : decode cX2_arrangeChildren 99 = .ok (.iload 4, 2) := by decide +kernel
theorem dX2_arrangeChildren_101 : decode cX2_arrangeChildren 101 = .ok (.invokevirtual 81, 3) := by decide +kernel
theorem dX2_arrangeChildren_104 : decode cX2_arrangeChildren 104 = .ok (.ifCond .eq 40, 3) := by decide +kernel
theorem dX2_arrangeChildren_107 : decode cX2_arrangeChildren 107 = .ok (.aload_n 0, 1) := by decide +kernel
theorem dX2_arrangeChildren_108 : decode cX2_arrangeChildren 108 = .ok (.aload_n 2, 1) := by decide +kernel
theorem dX2_arrangeChildren_109 : decode cX2_arrangeChildren 109 = .ok (.iload 7, 2) := by decide +kernel
theorem dX2_arrangeChildren_111 : decode cX2_arrangeChildren 111 = .ok (.iload 4, 2) := by decide +kernel
theorem dX2_arrangeChildren_113 : decode cX2_arrangeChildren 113 = .ok (.invokevirtual 81, 3) := by decide +kernel
theorem dX2_arrangeChildren_116 : decode cX2_arrangeChildren 116 = .ok (.ifCond .ne 14, 3) := by decide +kernel
theorem dX2_arrangeChildren_119 : decode cX2_arrangeChildren 119 = .ok (.aload_n 0, 1) := by decide +kernel
theorem dX2_arrangeChildren_120 : decode cX2_arrangeChildren 120 = .ok (.getfield 12, 3) := by decide +kernel
theorem dX2_arrangeChildren_123 : decode cX2_arrangeChildren 123 = .ok (.iload 5, 2) := by decide +kernel
theorem dX2_arrangeChildren_125 : decode cX2_arrangeChildren 125 = .ok (.iload 7, 2) := by decide +kernel
theorem dX2_arrangeChildren_127 : decode cX2_arrangeChildren 127 = .ok (.invokevirtual 68, 3) := by decide +kernel
theorem dX2_arrangeChildren_130 : decode cX2_arrangeChildren 130 = .ok (.aload_n 0, 1) := by decide +kernel
theorem dX2_arrangeChildren_131 : decode cX2_arrangeChildren 131 = .ok (.getfield 12, 3) := by decide +kernel
theorem dX2_arrangeChildren_134 : decode cX2_arrangeChildren 134 = .ok (.getfield 85, 3) := by decide +kernel
theorem dX2_arrangeChildren_137 : decode cX2_arrangeChildren 137 = .ok (.iload 7, 2) := by decide +kernel
theorem dX2_arrangeChildren_139 : decode cX2_arrangeChildren 139 = .ok (.iaload, 1) := by decide +kernel
theorem dX2_arrangeChildren_140 : decode cX2_arrangeChildren 140 = .ok (.iconst 1, 1) := by decide +kernel
theorem dX2_arrangeChildren_141 : decode cX2_arrangeChildren 141 = .ok (.iadd, 1) := by decide +kernel
theorem dX2_arrangeChildren_142 : decode cX2_arrangeChildren 142 = .ok (.istore 5, 2) := by decide +kernel
theorem dX2_arrangeChildren_144 : decode cX2_arrangeChildren 144 = .ok (.iinc 6 1, 3) := by decide +kernel
theorem dX2_arrangeChildren_147 : decode cX2_arrangeChildren 147 = .ok (.goto (-70), 3) := by decide +kernel
theorem dX2_arrangeChildren_150 : decode cX2_arrangeChildren 150 = .ok (.return_, 1) := by decide +kernel
theorem dX2_isChildNowAsIn_0 : decode cX2_isChildNowAsIn 0 = .ok (.aload_n 1, 1) := by decide +kernel
theorem dX2_isChildNowAsIn_1 : decode cX2_isChildNowAsIn 1 = .ok (.getfield 62, 3) := by decide +kernel
theorem dX2_isChildNowAsIn_4 : decode cX2_isChildNowAsIn 4 = .ok (.iload_n 2, 1) := by decide +kernel
theorem dX2_isChildNowAsIn_5 : decode cX2_isChildNowAsIn 5 = .ok (.iaload, 1) := by decide +kernel
theorem dX2_isChildNowAsIn_6 : decode cX2_isChildNowAsIn 6 = .ok (.iload_n 3, 1) := by decide +kernel
theorem dX2_isChildNowAsIn_7 : decode cX2_isChildNowAsIn 7 = .ok (.if_icmp .ne 20, 3) := by decide +kernel
theorem dX2_isChildNowAsIn_10 : decode cX2_isChildNowAsIn 10 = .ok (.aload_n 0, 1) := by decide +kernel
theorem dX2_isChildNowAsIn_11 : decode cX2_isChildNowAsIn 11 = .ok (.getfield 12, 3) := by decide +kernel
theorem dX2_isChildNowAsIn_14 : decode cX2_isChildNowAsIn 14 = .ok (.getfield 62, 3) := by decide +kernel
theorem dX2_isChildNowAsIn_17 : decode cX2_isChildNowAsIn 17 = .ok (.iload_n 2, 1) := by decide +kernel
theorem dX2_isChildNowAsIn_18 : decode cX2_isChildNowAsIn 18 = .ok (.iaload, 1) := by decide +kernel
theorem dX2_isChildNowAsIn_19 : decode cX2_isChildNowAsIn 19 = .ok (.iload_n 3, 1) := by decide +kernel
theorem dX2_isChildNowAsIn_20 : decode cX2_isChildNowAsIn 20 = .ok (.if_icmp .ne 7, 3) := by decide +kernel
theorem dX2_isChildNowAsIn_23 : decode cX2_isChildNowAsIn 23 = .ok (.iconst 1, 1) := by decide +kernel
theorem dX2_isChildNowAsIn_24 : decode cX2_isChildNowAsIn 24 = .ok (.goto 4, 3) := by decide +kernel
theorem dX2_isChildNowAsIn_27 : decode cX2_isChildNowAsIn 27 = .ok (.iconst 0, 1) := by decide +kernel
theorem dX2_isChildNowAsIn_28 : decode cX2_isChildNowAsIn 28 = .ok (.ireturn, 1) := by decide +kernel
