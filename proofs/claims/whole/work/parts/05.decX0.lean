theorem dX0_init_0 : decode cX0_init 0 = .ok (.aload_n 0, 1) := by decide +kernel
theorem dX0_init_1 : decode cX0_init 1 = .ok (.invokespecial 3, 3) := by decide +kernel
theorem dX0_init_4 : decode cX0_init 4 = .ok (.aload_n 0, 1) := by decide +kernel
theorem dX0_init_5 : decode cX0_init 5 = .ok (.bipush 24, 2) := by decide +kernel
theorem dX0_init_7 : decode cX0_init 7 = .ok (.bipush 24, 2) := by decide +kernel
theorem dX0_init_9 : decode cX0_init 9 = .ok (.multianewarray 9 2, 4) := by decide +kernel
theorem dX0_init_13 : decode cX0_init 13 = .ok (.putfield 11, 3) := by decide +kernel
theorem dX0_init_16 : decode cX0_init 16 = .ok (.aload_n 0, 1) := by decide +kernel
theorem dX0_init_17 : decode cX0_init 17 = .ok (.bipush 25, 2) := by decide +kernel
theorem dX0_init_19 : decode cX0_init 19 = .ok (.bipush 25, 2) := by decide +kernel
theorem dX0_init_21 : decode cX0_init 21 = .ok (.multianewarray 9 2, 4) := by decide +kernel
theorem dX0_init_25 : decode cX0_init 25 = .ok (.putfield 16, 3) := by decide +kernel
theorem dX0_init_28 : decode cX0_init 28 = .ok (.aload_n 0, 1) := by decide +kernel
theorem dX0_init_29 : decode cX0_init 29 = .ok (.bipush 24, 2) := by decide +kernel
theorem dX0_init_31 : decode cX0_init 31 = .ok (.newarray .int, 2) := by decide +kernel
theorem dX0_init_33 : decode cX0_init 33 = .ok (.putfield 19, 3) := by decide +kernel
theorem dX0_init_36 : decode cX0_init 36 = .ok (.aload_n 0, 1) := by decide +kernel
theorem dX0_init_37 : decode cX0_init 37 = .ok (.bipush 24, 2) := by decide +kernel
theorem dX0_init_39 : decode cX0_init 39 = .ok (.newarray .int, 2) := by decide +kernel
theorem dX0_init_41 : decode cX0_init 41 = .ok (.putfield 23, 3) := by decide +kernel
theorem dX0_init_44 : decode cX0_init 44 = .ok (.return_, 1) := by decide +kernel
set_option maxRecDepth 20000 in
theorem ggX0_between_X0_noteEnds : GoodIn wsX0_between wsX0_noteEnds := goodIn_r _ [8, 3, 9, 10, 11, 12, 13, 14, 15, 16, 17, 18, 19, 20, 21, 49, 50, 51, 52, 53, 54] (by decide +kernel) (by decide +kernel)
set_option maxRecDepth 20000 in
theorem gX0_between_X0_noteEnds : GoodIn wsX0_between (va_wsS RX0 26 yX0_noteEnds wsX0_noteEnds) := goodIn_app (goodIn_of _ (by decide +kernel)) ggX0_between_X0_noteEnds
set_option maxRecDepth 20000 in
theorem ggX0_between_X0_isWidest : GoodIn wsX0_between wsX0_isWidest := goodIn_r _ [24, 25, 16, 17, 12, 18, 19, 20, 21, 49, 50, 51, 52, 53, 54] (by decide +kernel) (by decide +kernel)
set_option maxRecDepth 20000 in
theorem gX0_between_X0_isWidest : GoodIn wsX0_between (va_wsS RX0 36 yX0_isWidest wsX0_isWidest) := goodIn_app (goodIn_of _ (by decide +kernel)) ggX0_between_X0_isWidest
set_option maxRecDepth 20000 in
theorem ggX0_between_X0_compareWithAll : GoodIn wsX0_between wsX0_compareWithAll := goodIn_r _ [29, 3, 2, 22, 23, 7, 24, 25, 16, 17, 12, 18, 19, 20, 21, 30, 31, 32, 33, 1, 34, 35, 36, 4, 37, 38, 39, 40, 41, 42, 43, 44, 49, 50, 51, 52, 53, 54, 45, 46, 47, 48] (by decide +kernel) (by decide +kernel)
set_option maxRecDepth 20000 in
theorem gX0_between_X0_compareWithAll : GoodIn wsX0_between (wsV RX0 40 RX0 yX0_compareWithAll wsX0_compareWithAll) := goodIn_app (goodIn_of _ (by decide +kernel)) ggX0_between_X0_compareWithAll
theorem dX0_between_0 : decode cX0_between 0 = .ok (.aload_n 1, 1) := by decide +kernel
theorem dX0_between_1 : decode cX0_between 1 = .ok (.aload_n 0, 1) := by decide +kernel
theorem dX0_between_2 : decode cX0_between 2 = .ok (.getfield 19, 3) := by decide +kernel
theorem dX0_between_5 : decode cX0_between 5 = .ok (.invokestatic 26, 3) := by decide +kernel
theorem dX0_between_8 : decode cX0_between 8 = .ok (.aload_n 2, 1) := by decide +kernel
theorem dX0_between_9 : decode cX0_between 9 = .ok (.aload_n 0, 1) := by decide +kernel
theorem dX0_between_10 : decode cX0_between 10 = .ok (.getfield 23, 3) := by decide +kernel
theorem dX0_between_13 : decode cX0_between 13 = .ok (.invokestatic 26, 3) := by decide +kernel
theorem dX0_between_16 : decode cX0_between 16 = .ok (.aload_n 1, 1) := by decide +kernel
theorem dX0_between_17 : decode cX0_between 17 = .ok (.getfield 30, 3) := by decide +kernel
theorem dX0_between_20 : decode cX0_between 20 = .ok (.iconst 1, 1) := by decide +kernel
theorem dX0_between_21 : decode cX0_between 21 = .ok (.isub, 1) := by decide +kernel
theorem dX0_between_22 : decode cX0_between 22 = .ok (.istore_n 3, 1) := by decide +kernel
theorem dX0_between_23 : decode cX0_between 23 = .ok (.iload_n 3, 1) := by decide +kernel
theorem dX0_between_24 : decode cX0_between 24 = .ok (.ifCond .lt 28, 3) := by decide +kernel
theorem dX0_between_27 : decode cX0_between 27 = .ok (.aload_n 1, 1) := by decide +kernel
theorem dX0_between_28 : decode cX0_between 28 = .ok (.aload_n 0, 1) := by decide +kernel
theorem dX0_between_29 : decode cX0_between 29 = .ok (.getfield 19, 3) := by decide +kernel
theorem dX0_between_32 : decode cX0_between 32 = .ok (.iload_n 3, 1) := by decide +kernel
theorem dX0_between_33 : decode cX0_between 33 = .ok (.invokestatic 36, 3) := by decide +kernel
theorem dX0_between_36 : decode cX0_between 36 = .ok (.ifCond .eq 10, 3) := by decide +kernel
theorem dX0_between_39 : decode cX0_between 39 = .ok (.aload_n 0, 1) := by decide +kernel
theorem dX0_between_40 : decode cX0_between 40 = .ok (.aload_n 1, 1) := by decide +kernel
theorem dX0_between_41 : decode cX0_between 41 = .ok (.aload_n 2, 1) := by decide +kernel
theorem dX0_between_42 : decode cX0_between 42 = .ok (.iload_n 3, 1) := by decide +kernel
theorem dX0_between_43 : decode cX0_between 43 = .ok (.invokevirtual 40, 3) := by decide +kernel
theorem dX0_between_46 : decode cX0_between 46 = .ok (.iinc 3 (-1), 3) := by decide +kernel
theorem dX0_between_49 : decode cX0_between 49 = .ok (.goto (-26), 3) := by decide +kernel
theorem dX0_between_52 : decode cX0_between 52 = .ok (.aload_n 0, 1) := by decide +kernel
theorem dX0_between_53 : decode cX0_between 53 = .ok (.getfield 11, 3) := by decide +kernel
theorem dX0_between_56 : decode cX0_between 56 = .ok (.iconst 0, 1) := by decide +kernel
theorem dX0_between_57 : decode cX0_between 57 = .ok (.aaload, 1) := by decide +kernel
theorem dX0_between_58 : decode cX0_between 58 = .ok (.iconst 0, 1) := by decide +kernel
theorem dX0_between_59 : decode cX0_between 59 = .ok (.iaload, 1) := by decide +kernel
theorem dX0_between_60 : decode cX0_between 60 = .ok (.ireturn, 1) := by decide +kernel
set_option maxRecDepth 20000 in
theorem ggX0_compareWithAll_X0_isWidest : GoodIn wsX0_compareWithAll wsX0_isWidest := goodIn_r _ [6, 7, 8, 9, 10, 11, 12, 13, 14, 32, 33, 34, 35, 36, 37] (by decide +kernel) (by decide +kernel)
set_option maxRecDepth 20000 in
theorem gX0_compareWithAll_X0_isWidest : GoodIn wsX0_compareWithAll (va_wsS RX0 36 yX0_isWidest wsX0_isWidest) := goodIn_app (goodIn_of _ (by decide +kernel)) ggX0_compareWithAll_X0_isWidest
set_option maxRecDepth 20000 in
theorem ggX0_compareWithAll_X0_compareParts : GoodIn wsX0_compareWithAll wsX0_compareParts := goodIn_r _ [18, 19, 2, 20, 21, 22, 23, 24, 25, 26, 5, 27, 28, 29, 30, 31, 38, 39, 40, 41, 32, 33, 34, 35, 36, 37] (by decide +kernel) (by decide +kernel)
set_option maxRecDepth 20000 in
theorem gX0_compareWithAll_X0_compareParts : GoodIn wsX0_compareWithAll (wsV RX0 44 RX0 yX0_compareParts wsX0_compareParts) := goodIn_app (goodIn_of _ (by decide +kernel)) ggX0_compareWithAll_X0_compareParts
theorem dX0_compareWithAll_0 : decode cX0_compareWithAll 0 = .ok (.aload_n 2, 1) := by decide +kernel
theorem dX0_compareWithAll_1 : decode cX0_compareWithAll 1 = .ok (.getfield 30, 3) := by decide +kernel
theorem dX0_compareWithAll_4 : decode cX0_compareWithAll 4 = .ok (.iconst 1, 1) := by decide +kernel
theorem dX0_compareWithAll_5 : decode cX0_compareWithAll 5 = .ok (.isub, 1) := by decide +kernel
theorem dX0_compareWithAll_6 : decode cX0_compareWithAll 6 = .ok (.istore 4, 2) := by decide +kernel
theorem dX0_compareWithAll_8 : decode cX0_compareWithAll 8 = .ok (.iload 4, 2) := by decide +kernel
theorem dX0_compareWithAll_10 : decode cX0_compareWithAll 10 = .ok (.ifCond .lt 31, 3) := by decide +kernel
theorem dX0_compareWithAll_13 : decode cX0_compareWithAll 13 = .ok (.aload_n 2, 1) := by decide +kernel
theorem dX0_compareWithAll_14 : decode cX0_compareWithAll 14 = .ok (.aload_n 0, 1) := by decide +kernel
theorem dX0_compareWithAll_15 : decode cX0_compareWithAll 15 = .ok (.getfield 23, 3) := by decide +kernel
theorem dX0_compareWithAll_18 : decode cX0_compareWithAll 18 = .ok (.iload 4, 2) := by decide +kernel
theorem dX0_compareWithAll_20 : decode cX0_compareWithAll 20 = .ok (.invokestatic 36, 3) := by decide +kernel
theorem dX0_compareWithAll_23 : decode cX0_compareWithAll 23 = .ok (.ifCond .eq 12, 3) := by decide +kernel
theorem dX0_compareWithAll_26 : decode cX0_compareWithAll 26 = .ok (.aload_n 0, 1) := by decide +kernel
theorem dX0_compareWithAll_27 : decode cX0_compareWithAll 27 = .ok (.aload_n 1, 1) := by decide +kernel
theorem dX0_compareWithAll_28 : decode cX0_compareWithAll 28 = .ok (.aload_n 2, 1) := by decide +kernel
theorem dX0_compareWithAll_29 : decode cX0_compareWithAll 29 = .ok (.iload_n 3, 1) := by decide +kernel
theorem dX0_compareWithAll_30 : decode cX0_compareWithAll 30 = .ok (.iload 4, 2) := by decide +kernel
theorem dX0_compareWithAll_32 : decode cX0_compareWithAll 32 = .ok (.invokevirtual 44, 3) := by decide +kernel
theorem dX0_compareWithAll_35 : decode cX0_compareWithAll 35 = .ok (.iinc 4 (-1), 3) := by decide +kernel
theorem dX0_compareWithAll_38 : decode cX0_compareWithAll 38 = .ok (.goto (-30), 3) := by decide +kernel
theorem dX0_compareWithAll_41 : decode cX0_compareWithAll 41 = .ok (.return_, 1) := by decide +kernel
set_option maxRecDepth 20000 in
theorem ggX0_noteEnds_X4_endOf : GoodIn wsX0_noteEnds wsX4_endOf := goodIn_r _ [6, 7, 8, 9, 10, 5, 11, 12, 13, 14, 15, 16, 17, 18, 19, 20] (by decide +kernel) (by decide +kernel)
set_option maxRecDepth 20000 in
theorem gX0_noteEnds_X4_endOf : GoodIn wsX0_noteEnds (wsV RX0 48 RX4 yX4_endOf wsX4_endOf) := goodIn_app (goodIn_of _ (by decide +kernel)) ggX0_noteEnds_X4_endOf
theorem dX0_noteEnds_0 : decode cX0_noteEnds 0 = .ok (.iconst 0, 1) := by decide +kernel
theorem dX0_noteEnds_1 : decode cX0_noteEnds 1 = .ok (.istore_n 2, 1) := by decide +kernel
theorem dX0_noteEnds_2 : decode cX0_noteEnds 2 = .ok (.iload_n 2, 1) := by decide +kernel
theorem dX0_noteEnds_3 : decode cX0_noteEnds 3 = .ok (.aload_n 0, 1) := by decide +kernel
theorem dX0_noteEnds_4 : decode cX0_noteEnds 4 = .ok (.getfield 30, 3) := by decide +kernel
theorem dX0_noteEnds_7 : decode cX0_noteEnds 7 = .ok (.if_icmp .ge 17, 3) := by decide +kernel
theorem dX0_noteEnds_10 : decode cX0_noteEnds 10 = .ok (.aload_n 1, 1) := by decide +kernel
theorem dX0_noteEnds_11 : decode cX0_noteEnds 11 = .ok (.iload_n 2, 1) := by decide +kernel
theorem dX0_noteEnds_12 : decode cX0_noteEnds 12 = .ok (.aload_n 0, 1) := by decide +kernel
theorem dX0_noteEnds_13 : decode cX0_noteEnds 13 = .ok (.iload_n 2, 1) := by decide +kernel
theorem dX0_noteEnds_14 : decode cX0_noteEnds 14 = .ok (.invokevirtual 48, 3) := by decide +kernel
theorem dX0_noteEnds_17 : decode cX0_noteEnds 17 = .ok (.iastore, 1) := by decide +kernel
theorem dX0_noteEnds_18 : decode cX0_noteEnds 18 = .ok (.iinc 2 1, 3) := by decide +kernel
theorem dX0_noteEnds_21 : decode cX0_noteEnds 21 = .ok (.goto (-19), 3) := by decide +kernel
theorem dX0_noteEnds_24 : decode cX0_noteEnds 24 = .ok (.return_, 1) := by decide +kernel
set_option maxRecDepth 20000 in
theorem ggX0_isWidest_X4_parentSpot : GoodIn wsX0_isWidest wsX4_parentSpot := goodIn_r _ [5, 6, 7, 8, 9, 10, 11, 12, 13, 14] (by decide +kernel) (by decide +kernel)
set_option maxRecDepth 20000 in
theorem gX0_isWidest_X4_parentSpot : GoodIn wsX0_isWidest (wsV RX0 52 RX4 yX4_parentSpot wsX4_parentSpot) := goodIn_app (goodIn_of _ (by decide +kernel)) ggX0_isWidest_X4_parentSpot
theorem dX0_isWidest_0 : decode cX0_isWidest 0 = .ok (.iload_n 2, 1) := by decide +kernel
theorem dX0_isWidest_1 : decode cX0_isWidest 1 = .ok (.ifCond .eq 16, 3) := by decide +kernel
theorem dX0_isWidest_4 : decode cX0_isWidest 4 = .ok (.aload_n 1, 1) := by decide +kernel
theorem dX0_isWidest_5 : decode cX0_isWidest 5 = .ok (.aload_n 0, 1) := by decide +kernel
theorem dX0_isWidest_6 : decode cX0_isWidest 6 = .ok (.iload_n 2, 1) := by decide +kernel
theorem dX0_isWidest_7 : decode cX0_isWidest 7 = .ok (.invokevirtual 52, 3) := by decide +kernel
theorem dX0_isWidest_10 : decode cX0_isWidest 10 = .ok (.iaload, 1) := by decide +kernel
theorem dX0_isWidest_11 : decode cX0_isWidest 11 = .ok (.aload_n 1, 1) := by decide +kernel
theorem dX0_isWidest_12 : decode cX0_isWidest 12 = .ok (.iload_n 2, 1) := by decide +kernel
theorem dX0_isWidest_13 : decode cX0_isWidest 13 = .ok (.iaload, 1) := by decide +kernel
theorem dX0_isWidest_14 : decode cX0_isWidest 14 = .ok (.if_icmp .eq 7, 3) := by decide +kernel
theorem dX0_isWidest_17 : decode cX0_isWidest 17 = .ok (.iconst 1, 1) := by decide +kernel
theorem dX0_isWidest_18 : decode cX0_isWidest 18 = .ok (.goto 4, 3) := by decide +kernel
theorem dX0_isWidest_21 : decode cX0_isWidest 21 = .ok (.iconst 0, 1) := by decide +kernel
theorem dX0_isWidest_22 : decode cX0_isWidest 22 = .ok (.ireturn, 1) := by decide +kernel
set_option maxRecDepth 20000 in
theorem ggX0_compareParts_X0_least : GoodIn wsX0_compareParts wsX0_least := goodIn_r _ [11, 3, 12, 13, 14, 15, 16, 17, 18, 19] (by decide +kernel) (by decide +kernel)
set_option maxRecDepth 20000 in
theorem gX0_compareParts_X0_least : GoodIn wsX0_compareParts (wsV RX0 61 RX0 yX0_least wsX0_least) := goodIn_app (goodIn_of _ (by decide +kernel)) ggX0_compareParts_X0_least
theorem dX0_compareParts_0 : decode cX0_compareParts 0 = .ok (.aload_n 0, 1) := by decide +kernel
theorem dX0_compareParts_1 : decode cX0_compareParts 1 = .ok (.getfield 19, 3) := by decide +kernel
theorem dX0_compareParts_4 : decode cX0_compareParts 4 = .ok (.iload_n 3, 1) := by decide +kernel
theorem dX0_compareParts_5 : decode cX0_compareParts 5 = .ok (.iaload, 1) := by decide +kernel
theorem dX0_compareParts_6 : decode cX0_compareParts 6 = .ok (.istore 5, 2) := by decide +kernel
theorem dX0_compareParts_8 : decode cX0_compareParts 8 = .ok (.aload_n 0, 1) := by decide +kernel
theorem dX0_compareParts_9 : decode cX0_compareParts 9 = .ok (.getfield 23, 3) := by decide +kernel
theorem dX0_compareParts_12 : decode cX0_compareParts 12 = .ok (.iload 4, 2) := by decide +kernel
theorem dX0_compareParts_14 : decode cX0_compareParts 14 = .ok (.iaload, 1) := by decide +kernel
theorem dX0_compareParts_15 : decode cX0_compareParts 15 = .ok (.istore 6, 2) := by decide +kernel
theorem dX0_compareParts_17 : decode cX0_compareParts 17 = .ok (.iload 5, 2) := by decide +kernel
theorem dX0_compareParts_19 : decode cX0_compareParts 19 = .ok (.istore 7, 2) := by decide +kernel
theorem dX0_compareParts_21 : decode cX0_compareParts 21 = .ok (.iload 7, 2) := by decide +kernel
theorem dX0_compareParts_23 : decode cX0_compareParts 23 = .ok (.iload_n 3, 1) := by decide +kernel
theorem dX0_compareParts_24 : decode cX0_compareParts 24 = .ok (.if_icmp .lt 229, 3) := by decide +kernel
theorem dX0_compareParts_27 : decode cX0_compareParts 27 = .ok (.iload 6, 2) := by decide +kernel
theorem dX0_compareParts_29 : decode cX0_compareParts 29 = .ok (.istore 8, 2) := by decide +kernel
theorem dX0_compareParts_31 : decode cX0_compareParts 31 = .ok (.iload 8, 2) := by decide +kernel
theorem dX0_compareParts_33 : decode cX0_compareParts 33 = .ok (.iload 4, 2) := by decide +kernel
theorem dX0_compareParts_35 : decode cX0_compareParts 35 = .ok (.if_icmp .lt 212, 3) := by decide +kernel
theorem dX0_compareParts_38 : decode cX0_compareParts 38 = .ok (.iload 7, 2) := by decide +kernel
theorem dX0_compareParts_40 : decode cX0_compareParts 40 = .ok (.iload 5, 2) := by decide +kernel
theorem dX0_compareParts_42 : decode cX0_compareParts 42 = .ok (.if_icmp .eq 10, 3) := by decide +kernel
theorem dX0_compareParts_45 : decode cX0_compareParts 45 = .ok (.iload 8, 2) := by decide +kernel
theorem dX0_compareParts_47 : decode cX0_compareParts 47 = .ok (.iload 6, 2) := by decide +kernel
theorem dX0_compareParts_49 : decode cX0_compareParts 49 = .ok (.if_icmp .ne 27, 3) := by decide +kernel
theorem dX0_compareParts_52 : decode cX0_compareParts 52 = .ok (.aload_n 0, 1) := by decide +kernel
theorem dX0_compareParts_53 : decode cX0_compareParts 53 = .ok (.getfield 16, 3) := by decide +kernel
theorem dX0_compareParts_56 : decode cX0_compareParts 56 = .ok (.iload 7, 2) := by decide +kernel
theorem dX0_compareParts_58 : decode cX0_compareParts 58 = .ok (.aaload, 1) := by decide +kernel
theorem dX0_compareParts_59 : decode cX0_compareParts 59 = .ok (.iload 8, 2) := by decide +kernel
theorem dX0_compareParts_61 : decode cX0_compareParts 61 = .ok (.iload 5, 2) := by decide +kernel
theorem dX0_compareParts_63 : decode cX0_compareParts 63 = .ok (.iload 7, 2) := by decide +kernel
theorem dX0_compareParts_65 : decode cX0_compareParts 65 = .ok (.isub, 1) := by decide +kernel
theorem dX0_compareParts_66 : decode cX0_compareParts 66 = .ok (.iload 6, 2) := by decide +kernel
theorem dX0_compareParts_68 : decode cX0_compareParts 68 = .ok (.iadd, 1) := by decide +kernel
theorem dX0_compareParts_69 : decode cX0_compareParts 69 = .ok (.iload 8, 2) := by decide +kernel
theorem dX0_compareParts_71 : decode cX0_compareParts 71 = .ok (.isub, 1) := by decide +kernel
theorem dX0_compareParts_72 : decode cX0_compareParts 72 = .ok (.iastore, 1) := by decide +kernel
theorem dX0_compareParts_73 : decode cX0_compareParts 73 = .ok (.goto 168, 3) := by decide +kernel
theorem dX0_compareParts_76 : decode cX0_compareParts 76 = .ok (.aload_n 0, 1) := by decide +kernel
theorem dX0_compareParts_77 : decode cX0_compareParts 77 = .ok (.getfield 19, 3) := by decide +kernel
theorem dX0_compareParts_80 : decode cX0_compareParts 80 = .ok (.iload 7, 2) := by decide +kernel
theorem dX0_compareParts_82 : decode cX0_compareParts 82 = .ok (.iaload, 1) := by decide +kernel
theorem dX0_compareParts_83 : decode cX0_compareParts 83 = .ok (.iload 5, 2) := by decide +kernel
theorem dX0_compareParts_85 : decode cX0_compareParts 85 = .ok (.if_icmp .ne 107, 3) := by decide +kernel
theorem dX0_compareParts_88 : decode cX0_compareParts 88 = .ok (.aload_n 0, 1) := by decide +kernel
theorem dX0_compareParts_89 : decode cX0_compareParts 89 = .ok (.getfield 23, 3) := by decide +kernel
theorem dX0_compareParts_92 : decode cX0_compareParts 92 = .ok (.iload 8, 2) := by decide +kernel
theorem dX0_compareParts_94 : decode cX0_compareParts 94 = .ok (.iaload, 1) := by decide +kernel
theorem dX0_compareParts_95 : decode cX0_compareParts 95 = .ok (.iload 6, 2) := by decide +kernel
theorem dX0_compareParts_97 : decode cX0_compareParts 97 = .ok (.if_icmp .ne 95, 3) := by decide +kernel
theorem dX0_compareParts_100 : decode cX0_compareParts 100 = .ok (.aload_n 1, 1) := by decide +kernel
theorem dX0_compareParts_101 : decode cX0_compareParts 101 = .ok (.getfield 55, 3) := by decide +kernel
theorem dX0_compareParts_104 : decode cX0_compareParts 104 = .ok (.aload_n 1, 1) := by decide +kernel
theorem dX0_compareParts_105 : decode cX0_compareParts 105 = .ok (.getfield 58, 3) := by decide +kernel
theorem dX0_compareParts_108 : decode cX0_compareParts 108 = .ok (.iload 7, 2) := by decide +kernel
theorem dX0_compareParts_110 : decode cX0_compareParts 110 = .ok (.iaload, 1) := by decide +kernel
theorem dX0_compareParts_111 : decode cX0_compareParts 111 = .ok (.iaload, 1) := by decide +kernel
theorem dX0_compareParts_112 : decode cX0_compareParts 112 = .ok (.aload_n 2, 1) := by decide +kernel
theorem dX0_compareParts_113 : decode cX0_compareParts 113 = .ok (.getfield 55, 3) := by decide +kernel
theorem dX0_compareParts_116 : decode cX0_compareParts 116 = .ok (.aload_n 2, 1) := by decide +kernel
theorem dX0_compareParts_117 : decode cX0_compareParts 117 = .ok (.getfield 58, 3) := by decide +kernel
theorem dX0_compareParts_120 : decode cX0_compareParts 120 = .ok (.iload 8, 2) := by decide +kernel
theorem dX0_compareParts_122 : decode cX0_compareParts 122 = .ok (.iaload, 1) := by decide +kernel
theorem dX0_compareParts_123 : decode cX0_compareParts 123 = .ok (.iaload, 1) := by decide +kernel
theorem dX0_compareParts_124 : decode cX0_compareParts 124 = .ok (.if_icmp .ne 7, 3) := by decide +kernel
theorem dX0_compareParts_127 : decode cX0_compareParts 127 = .ok (.iconst 0, 1) := by decide +kernel
theorem dX0_compareParts_128 : decode cX0_compareParts 128 = .ok (.goto 4, 3) := by decide +kernel
theorem dX0_compareParts_131 : decode cX0_compareParts 131 = .ok (.iconst 1, 1) := by decide +kernel
theorem dX0_compareParts_132 : decode cX0_compareParts 132 = .ok (.istore 9, 2) := by decide +kernel
theorem dX0_compareParts_134 : decode cX0_compareParts 134 = .ok (.aload_n 0, 1) := by decide +kernel
theorem dX0_compareParts_135 : decode cX0_compareParts 135 = .ok (.getfield 16, 3) := by decide +kernel
theorem dX0_compareParts_138 : decode cX0_compareParts 138 = .ok (.iload 7, 2) := by decide +kernel
theorem dX0_compareParts_140 : decode cX0_compareParts 140 = .ok (.aaload, 1) := by decide +kernel
theorem dX0_compareParts_141 : decode cX0_compareParts 141 = .ok (.iload 8, 2) := by decide +kernel
theorem dX0_compareParts_143 : decode cX0_compareParts 143 = .ok (.aload_n 0, 1) := by decide +kernel
theorem dX0_compareParts_144 : decode cX0_compareParts 144 = .ok (.iload 7, 2) := by decide +kernel
theorem dX0_compareParts_146 : decode cX0_compareParts 146 = .ok (.iload 8, 2) := by decide +kernel
theorem dX0_compareParts_148 : decode cX0_compareParts 148 = .ok (.aload_n 0, 1) := by decide +kernel
theorem dX0_compareParts_149 : decode cX0_compareParts 149 = .ok (.getfield 16, 3) := by decide +kernel
theorem dX0_compareParts_152 : decode cX0_compareParts 152 = .ok (.iload 7, 2) := by decide +kernel
theorem dX0_compareParts_154 : decode cX0_compareParts 154 = .ok (.iconst 1, 1) := by decide +kernel
theorem dX0_compareParts_155 : decode cX0_compareParts 155 = .ok (.iadd, 1) := by decide +kernel
theorem dX0_compareParts_156 : decode cX0_compareParts 156 = .ok (.aaload, 1) := by decide +kernel
theorem dX0_compareParts_157 : decode cX0_compareParts 157 = .ok (.iload 8, 2) := by decide +kernel
theorem dX0_compareParts_159 : decode cX0_compareParts 159 = .ok (.iconst 1, 1) := by decide +kernel
theorem dX0_compareParts_160 : decode cX0_compareParts 160 = .ok (.iadd, 1) := by decide +kernel
theorem dX0_compareParts_161 : decode cX0_compareParts 161 = .ok (.iaload, 1) := by decide +kernel
theorem dX0_compareParts_162 : decode cX0_compareParts 162 = .ok (.iload 9, 2) := by decide +kernel
theorem dX0_compareParts_164 : decode cX0_compareParts 164 = .ok (.iadd, 1) := by decide +kernel
theorem dX0_compareParts_165 : decode cX0_compareParts 165 = .ok (.invokevirtual 61, 3) := by decide +kernel
theorem dX0_compareParts_168 : decode cX0_compareParts 168 = .ok (.iastore, 1) := by decide +kernel
theorem dX0_compareParts_169 : decode cX0_compareParts 169 = .ok (.aload_n 0, 1) := by decide +kernel
theorem dX0_compareParts_170 : decode cX0_compareParts 170 = .ok (.getfield 11, 3) := by decide +kernel
theorem dX0_compareParts_173 : decode cX0_compareParts 173 = .ok (.iload 7, 2) := by decide +kernel
theorem dX0_compareParts_175 : decode cX0_compareParts 175 = .ok (.aaload, 1) := by decide +kernel
theorem dX0_compareParts_176 : decode cX0_compareParts 176 = .ok (.iload 8, 2) := by decide +kernel
theorem dX0_compareParts_178 : decode cX0_compareParts 178 = .ok (.aload_n 0, 1) := by decide +kernel
theorem dX0_compareParts_179 : decode cX0_compareParts 179 = .ok (.getfield 16, 3) := by decide +kernel
theorem dX0_compareParts_182 : decode cX0_compareParts 182 = .ok (.iload 7, 2) := by decide +kernel
theorem dX0_compareParts_184 : decode cX0_compareParts 184 = .ok (.aaload, 1) := by decide +kernel
theorem dX0_compareParts_185 : decode cX0_compareParts 185 = .ok (.iload 8, 2) := by decide +kernel
theorem dX0_compareParts_187 : decode cX0_compareParts 187 = .ok (.iaload, 1) := by decide +kernel
theorem dX0_compareParts_188 : decode cX0_compareParts 188 = .ok (.iastore, 1) := by decide +kernel
theorem dX0_compareParts_189 : decode cX0_compareParts 189 = .ok (.goto 52, 3) := by decide +kernel
theorem dX0_compareParts_192 : decode cX0_compareParts 192 = .ok (.aload_n 0, 1) := by decide +kernel
theorem dX0_compareParts_193 : decode cX0_compareParts 193 = .ok (.getfield 16, 3) := by decide +kernel
theorem dX0_compareParts_196 : decode cX0_compareParts 196 = .ok (.iload 7, 2) := by decide +kernel
theorem dX0_compareParts_198 : decode cX0_compareParts 198 = .ok (.aaload, 1) := by decide +kernel
theorem dX0_compareParts_199 : decode cX0_compareParts 199 = .ok (.iload 8, 2) := by decide +kernel
theorem dX0_compareParts_201 : decode cX0_compareParts 201 = .ok (.aload_n 0, 1) := by decide +kernel
theorem dX0_compareParts_202 : decode cX0_compareParts 202 = .ok (.iload 7, 2) := by decide +kernel
theorem dX0_compareParts_204 : decode cX0_compareParts 204 = .ok (.iload 8, 2) := by decide +kernel
theorem dX0_compareParts_206 : decode cX0_compareParts 206 = .ok (.aload_n 0, 1) := by decide +kernel
theorem dX0_compareParts_207 : decode cX0_compareParts 207 = .ok (.getfield 16, 3) := by decide +kernel
theorem dX0_compareParts_210 : decode cX0_compareParts 210 = .ok (.aload_n 0, 1) := by decide +kernel
theorem dX0_compareParts_211 : decode cX0_compareParts 211 = .ok (.getfield 19, 3) := by decide +kernel
theorem dX0_compareParts_214 : decode cX0_compareParts 214 = .ok (.iload 7, 2) := by decide +kernel
theorem dX0_compareParts_216 : decode cX0_compareParts 216 = .ok (.iaload, 1) := by decide +kernel
theorem dX0_compareParts_217 : decode cX0_compareParts 217 = .ok (.aaload, 1) := by decide +kernel
theorem dX0_compareParts_218 : decode cX0_compareParts 218 = .ok (.aload_n 0, 1) := by decide +kernel
theorem dX0_compareParts_219 : decode cX0_compareParts 219 = .ok (.getfield 23, 3) := by decide +kernel
theorem dX0_compareParts_222 : decode cX0_compareParts 222 = .ok (.iload 8, 2) := by decide +kernel
theorem dX0_compareParts_224 : decode cX0_compareParts 224 = .ok (.iaload, 1) := by decide +kernel
theorem dX0_compareParts_225 : decode cX0_compareParts 225 = .ok (.iaload, 1) := by decide +kernel
theorem dX0_compareParts_226 : decode cX0_compareParts 226 = .ok (.aload_n 0, 1) := by decide +kernel
theorem dX0_compareParts_227 : decode cX0_compareParts 227 = .ok (.getfield 11, 3) := by decide +kernel
theorem dX0_compareParts_230 : decode cX0_compareParts 230 = .ok (.iload 7, 2) := by decide +kernel
theorem dX0_compareParts_232 : decode cX0_compareParts 232 = .ok (.aaload, 1) := by decide +kernel
theorem dX0_compareParts_233 : decode cX0_compareParts 233 = .ok (.iload 8, 2) := by decide +kernel
theorem dX0_compareParts_235 : decode cX0_compareParts 235 = .ok (.iaload, 1) := by decide +kernel
theorem dX0_compareParts_236 : decode cX0_compareParts 236 = .ok (.iadd, 1) := by decide +kernel
theorem dX0_compareParts_237 : decode cX0_compareParts 237 = .ok (.invokevirtual 61, 3) := by decide +kernel
theorem dX0_compareParts_240 : decode cX0_compareParts 240 = .ok (.iastore, 1) := by decide +kernel
theorem dX0_compareParts_241 : decode cX0_compareParts 241 = .ok (.iinc 8 (-1), 3) := by decide +kernel
theorem dX0_compareParts_244 : decode cX0_compareParts 244 = .ok (.goto (-213), 3) := by decide +kernel
theorem dX0_compareParts_247 : decode cX0_compareParts 247 = .ok (.iinc 7 (-1), 3) := by decide +kernel
theorem dX0_compareParts_250 : decode cX0_compareParts 250 = .ok (.goto (-229), 3) := by decide +kernel
theorem dX0_compareParts_253 : decode cX0_compareParts 253 = .ok (.return_, 1) := by decide +kernel
theorem dX0_least_0 : decode cX0_least 0 = .ok (.aload_n 0, 1) := by decide +kernel
theorem dX0_least_1 : decode cX0_least 1 = .ok (.getfield 16, 3) := by decide +kernel
theorem dX0_least_4 : decode cX0_least 4 = .ok (.iload_n 1, 1) := by decide +kernel
theorem dX0_least_5 : decode cX0_least 5 = .ok (.iconst 1, 1) := by decide +kernel
theorem dX0_least_6 : decode cX0_least 6 = .ok (.iadd, 1) := by decide +kernel
theorem dX0_least_7 : decode cX0_least 7 = .ok (.aaload, 1) := by decide +kernel
theorem dX0_least_8 : decode cX0_least 8 = .ok (.iload_n 2, 1) := by decide +kernel
theorem dX0_least_9 : decode cX0_least 9 = .ok (.iaload, 1) := by decide +kernel
theorem dX0_least_10 : decode cX0_least 10 = .ok (.aload_n 0, 1) := by decide +kernel
theorem dX0_least_11 : decode cX0_least 11 = .ok (.getfield 16, 3) := by decide +kernel
theorem dX0_least_14 : decode cX0_least 14 = .ok (.iload_n 1, 1) := by decide +kernel
theorem dX0_least_15 : decode cX0_least 15 = .ok (.aaload, 1) := by decide +kernel
theorem dX0_least_16 : decode cX0_least 16 = .ok (.iload_n 2, 1) := by decide +kernel
theorem dX0_least_17 : decode cX0_least 17 = .ok (.iconst 1, 1) := by decide +kernel
theorem dX0_least_18 : decode cX0_least 18 = .ok (.iadd, 1) := by decide +kernel
theorem dX0_least_19 : decode cX0_least 19 = .ok (.iaload, 1) := by decide +kernel
theorem dX0_least_20 : decode cX0_least 20 = .ok (.invokestatic 65, 3) := by decide +kernel
theorem dX0_least_23 : decode cX0_least 23 = .ok (.iconst 1, 1) := by decide +kernel
theorem dX0_least_24 : decode cX0_least 24 = .ok (.iadd, 1) := by decide +kernel
theorem dX0_least_25 : decode cX0_least 25 = .ok (.istore 4, 2) := by decide +kernel
theorem dX0_least_27 : decode cX0_least 27 = .ok (.iload 4, 2) := by decide +kernel
theorem dX0_least_29 : decode cX0_least 29 = .ok (.iload_n 3, 1) := by decide +kernel
theorem dX0_least_30 : decode cX0_least 30 = .ok (.invokestatic 65, 3) := by decide +kernel
theorem dX0_least_33 : decode cX0_least 33 = .ok (.ireturn, 1) := by decide +kernel
