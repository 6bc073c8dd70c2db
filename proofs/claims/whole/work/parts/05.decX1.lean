set_option maxRecDepth 20000 in
theorem ggX1_init_X4_init : GoodIn wsX1_init wsX4_init := goodIn_r _ [14, 15, 2, 3, 6, 16, 17, 18, 19, 20, 21, 22, 23, 11, 24, 25, 26, 27, 28, 29, 35, 36, 37, 38, 39, 40] (by decide +kernel) (by decide +kernel)
set_option maxRecDepth 20000 in
theorem gX1_init_X4_init : GoodIn wsX1_init (wsX4_init) := ggX1_init_X4_init
theorem dX1_init_0 : decode cX1_init 0 = .ok (.aload_n 0, 1) := by decide +kernel
theorem dX1_init_1 : decode cX1_init 1 = .ok (.invokespecial 3, 3) := by decide +kernel
theorem dX1_init_4 : decode cX1_init 4 = .ok (.aload_n 0, 1) := by decide +kernel
theorem dX1_init_5 : decode cX1_init 5 = .ok (.bipush 12, 2) := by decide +kernel
theorem dX1_init_7 : decode cX1_init 7 = .ok (.anewarray 9, 3) := by decide +kernel
theorem dX1_init_10 : decode cX1_init 10 = .ok (.putfield 11, 3) := by decide +kernel
theorem dX1_init_13 : decode cX1_init 13 = .ok (.aload_n 0, 1) := by decide +kernel
theorem dX1_init_14 : decode cX1_init 14 = .ok (.bipush 12, 2) := by decide +kernel
theorem dX1_init_16 : decode cX1_init 16 = .ok (.newarray .int, 2) := by decide +kernel
theorem dX1_init_18 : decode cX1_init 18 = .ok (.putfield 17, 3) := by decide +kernel
theorem dX1_init_21 : decode cX1_init 21 = .ok (.aload_n 0, 1) := by decide +kernel
theorem dX1_init_22 : decode cX1_init 22 = .ok (.bipush 12, 2) := by decide +kernel
theorem dX1_init_24 : decode cX1_init 24 = .ok (.newarray .int, 2) := by decide +kernel
theorem dX1_init_26 : decode cX1_init 26 = .ok (.putfield 21, 3) := by decide +kernel
theorem dX1_init_29 : decode cX1_init 29 = .ok (.aload_n 0, 1) := by decide +kernel
theorem dX1_init_30 : decode cX1_init 30 = .ok (.bipush 12, 2) := by decide +kernel
theorem dX1_init_32 : decode cX1_init 32 = .ok (.newarray .int, 2) := by decide +kernel
theorem dX1_init_34 : decode cX1_init 34 = .ok (.putfield 24, 3) := by decide +kernel
theorem dX1_init_37 : decode cX1_init 37 = .ok (.iconst 0, 1) := by decide +kernel
theorem dX1_init_38 : decode cX1_init 38 = .ok (.istore_n 1, 1) := by decide +kernel
theorem dX1_init_39 : decode cX1_init 39 = .ok (.iload_n 1, 1) := by decide +kernel
theorem dX1_init_40 : decode cX1_init 40 = .ok (.bipush 12, 2) := by decide +kernel
theorem dX1_init_42 : decode cX1_init 42 = .ok (.if_icmp .ge 22, 3) := by decide +kernel
theorem dX1_init_45 : decode cX1_init 45 = .ok (.aload_n 0, 1) := by decide +kernel
theorem dX1_init_46 : decode cX1_init 46 = .ok (.getfield 11, 3) := by decide +kernel
theorem dX1_init_49 : decode cX1_init 49 = .ok (.iload_n 1, 1) := by decide +kernel
theorem dX1_init_50 : decode cX1_init 50 = .ok (.new 9, 3) := by decide +kernel
theorem dX1_init_53 : decode cX1_init 53 = .ok (.dup, 1) := by decide +kernel
theorem dX1_init_54 : decode cX1_init 54 = .ok (.invokespecial 27, 3) := by decide +kernel
theorem dX1_init_57 : decode cX1_init 57 = .ok (.aastore, 1) := by decide +kernel
theorem dX1_init_58 : decode cX1_init 58 = .ok (.iinc 1 1, 3) := by decide +kernel
theorem dX1_init_61 : decode cX1_init 61 = .ok (.goto (-22), 3) := by decide +kernel
theorem dX1_init_64 : decode cX1_init 64 = .ok (.return_, 1) := by decide +kernel
set_option maxRecDepth 20000 in
theorem ggX1_record_X4_copyFrom : GoodIn wsX1_record wsX4_copyFrom := goodIn_r _ [10, 11, 12, 13, 14, 15, 16, 17, 18, 19, 30, 31, 32, 33, 34, 35] (by decide +kernel) (by decide +kernel)
set_option maxRecDepth 20000 in
theorem gX1_record_X4_copyFrom : GoodIn wsX1_record (wsV RX1 32 RX4 yX4_copyFrom wsX4_copyFrom) := goodIn_app (goodIn_of _ (by decide +kernel)) ggX1_record_X4_copyFrom
set_option maxRecDepth 20000 in
theorem ggX1_record_X1_reachOf : GoodIn wsX1_record wsX1_reachOf := goodIn_r _ [24, 5, 25, 26, 27, 28, 29] (by decide +kernel) (by decide +kernel)
set_option maxRecDepth 20000 in
theorem gX1_record_X1_reachOf : GoodIn wsX1_record (wsV RX1 36 RX1 yX1_reachOf wsX1_reachOf) := goodIn_app (goodIn_of _ (by decide +kernel)) ggX1_record_X1_reachOf
theorem dX1_record_0 : decode cX1_record 0 = .ok (.aload_n 0, 1) := by decide +kernel
theorem dX1_record_1 : decode cX1_record 1 = .ok (.getfield 28, 3) := by decide +kernel
theorem dX1_record_4 : decode cX1_record 4 = .ok (.istore 4, 2) := by decide +kernel
theorem dX1_record_6 : decode cX1_record 6 = .ok (.aload_n 0, 1) := by decide +kernel
theorem dX1_record_7 : decode cX1_record 7 = .ok (.dup, 1) := by decide +kernel
theorem dX1_record_8 : decode cX1_record 8 = .ok (.getfield 28, 3) := by decide +kernel
theorem dX1_record_11 : decode cX1_record 11 = .ok (.iconst 1, 1) := by decide +kernel
theorem dX1_record_12 : decode cX1_record 12 = .ok (.iadd, 1) := by decide +kernel
theorem dX1_record_13 : decode cX1_record 13 = .ok (.putfield 28, 3) := by decide +kernel
theorem dX1_record_16 : decode cX1_record 16 = .ok (.aload_n 0, 1) := by decide +kernel
theorem dX1_record_17 : decode cX1_record 17 = .ok (.getfield 11, 3) := by decide +kernel
theorem dX1_record_20 : decode cX1_record 20 = .ok (.iload 4, 2) := by decide +kernel
theorem dX1_record_22 : decode cX1_record 22 = .ok (.aaload, 1) := by decide +kernel
theorem dX1_record_23 : decode cX1_record 23 = .ok (.aload_n 1, 1) := by decide +kernel
theorem dX1_record_24 : decode cX1_record 24 = .ok (.invokevirtual 32, 3) := by decide +kernel
theorem dX1_record_27 : decode cX1_record 27 = .ok (.aload_n 0, 1) := by decide +kernel
theorem dX1_record_28 : decode cX1_record 28 = .ok (.getfield 17, 3) := by decide +kernel
theorem dX1_record_31 : decode cX1_record 31 = .ok (.iload 4, 2) := by decide +kernel
theorem dX1_record_33 : decode cX1_record 33 = .ok (.iload_n 2, 1) := by decide +kernel
theorem dX1_record_34 : decode cX1_record 34 = .ok (.iastore, 1) := by decide +kernel
theorem dX1_record_35 : decode cX1_record 35 = .ok (.aload_n 0, 1) := by decide +kernel
theorem dX1_record_36 : decode cX1_record 36 = .ok (.getfield 21, 3) := by decide +kernel
theorem dX1_record_39 : decode cX1_record 39 = .ok (.iload 4, 2) := by decide +kernel
theorem dX1_record_41 : decode cX1_record 41 = .ok (.iload_n 3, 1) := by decide +kernel
theorem dX1_record_42 : decode cX1_record 42 = .ok (.iastore, 1) := by decide +kernel
theorem dX1_record_43 : decode cX1_record 43 = .ok (.aload_n 0, 1) := by decide +kernel
theorem dX1_record_44 : decode cX1_record 44 = .ok (.getfield 24, 3) := by decide +kernel
theorem dX1_record_47 : decode cX1_record 47 = .ok (.iload 4, 2) := by decide +kernel
theorem dX1_record_49 : decode cX1_record 49 = .ok (.iconst 1, 1) := by decide +kernel
theorem dX1_record_50 : decode cX1_record 50 = .ok (.iload 4, 2) := by decide +kernel
theorem dX1_record_52 : decode cX1_record 52 = .ok (.ishl, 1) := by decide +kernel
theorem dX1_record_53 : decode cX1_record 53 = .ok (.aload_n 0, 1) := by decide +kernel
theorem dX1_record_54 : decode cX1_record 54 = .ok (.iload_n 2, 1) := by decide +kernel
theorem dX1_record_55 : decode cX1_record 55 = .ok (.invokevirtual 36, 3) := by decide +kernel
theorem dX1_record_58 : decode cX1_record 58 = .ok (.ior, 1) := by decide +kernel
theorem dX1_record_59 : decode cX1_record 59 = .ok (.aload_n 0, 1) := by decide +kernel
theorem dX1_record_60 : decode cX1_record 60 = .ok (.iload_n 3, 1) := by decide +kernel
theorem dX1_record_61 : decode cX1_record 61 = .ok (.invokevirtual 36, 3) := by decide +kernel
theorem dX1_record_64 : decode cX1_record 64 = .ok (.ior, 1) := by decide +kernel
theorem dX1_record_65 : decode cX1_record 65 = .ok (.iastore, 1) := by decide +kernel
theorem dX1_record_66 : decode cX1_record 66 = .ok (.iload 4, 2) := by decide +kernel
theorem dX1_record_68 : decode cX1_record 68 = .ok (.ireturn, 1) := by decide +kernel
theorem dX1_reachOf_0 : decode cX1_reachOf 0 = .ok (.iload_n 1, 1) := by decide +kernel
theorem dX1_reachOf_1 : decode cX1_reachOf 1 = .ok (.iconst (-1), 1) := by decide +kernel
theorem dX1_reachOf_2 : decode cX1_reachOf 2 = .ok (.if_icmp .ne 7, 3) := by decide +kernel
theorem dX1_reachOf_5 : decode cX1_reachOf 5 = .ok (.iconst 0, 1) := by decide +kernel
theorem dX1_reachOf_6 : decode cX1_reachOf 6 = .ok (.goto 9, 3) := by decide +kernel
theorem dX1_reachOf_9 : decode cX1_reachOf 9 = .ok (.aload_n 0, 1) := by decide +kernel
theorem dX1_reachOf_10 : decode cX1_reachOf 10 = .ok (.getfield 24, 3) := by decide +kernel
theorem dX1_reachOf_13 : decode cX1_reachOf 13 = .ok (.iload_n 1, 1) := by decide +kernel
theorem dX1_reachOf_14 : decode cX1_reachOf 14 = .ok (.iaload, 1) := by decide +kernel
theorem dX1_reachOf_15 : decode cX1_reachOf 15 = .ok (.ireturn, 1) := by decide +kernel
set_option maxRecDepth 20000 in
theorem ggX1_baseOf_X5_isIn : GoodIn wsX1_baseOf wsX5_isIn := goodIn_r _ [5] (by decide +kernel) (by decide +kernel)
set_option maxRecDepth 20000 in
theorem gX1_baseOf_X5_isIn_n40 : GoodIn wsX1_baseOf (wsX5_isIn) := ggX1_baseOf_X5_isIn
set_option maxRecDepth 20000 in
theorem ggX1_baseOf_X1_isReachedFromAnother : GoodIn wsX1_baseOf wsX1_isReachedFromAnother := goodIn_r _ [10, 2, 1, 3, 4, 5, 11, 12, 13, 14, 15] (by decide +kernel) (by decide +kernel)
set_option maxRecDepth 20000 in
theorem gX1_baseOf_X1_isReachedFromAnother : GoodIn wsX1_baseOf (wsV RX1 44 RX1 yX1_isReachedFromAnother wsX1_isReachedFromAnother) := goodIn_app (goodIn_of _ (by decide +kernel)) ggX1_baseOf_X1_isReachedFromAnother
theorem dX1_baseOf_0 : decode cX1_baseOf 0 = .ok (.aload_n 0, 1) := by decide +kernel
theorem dX1_baseOf_1 : decode cX1_baseOf 1 = .ok (.getfield 24, 3) := by decide +kernel
theorem dX1_baseOf_4 : decode cX1_baseOf 4 = .ok (.iload_n 1, 1) := by decide +kernel
theorem dX1_baseOf_5 : decode cX1_baseOf 5 = .ok (.iaload, 1) := by decide +kernel
theorem dX1_baseOf_6 : decode cX1_baseOf 6 = .ok (.aload_n 0, 1) := by decide +kernel
theorem dX1_baseOf_7 : decode cX1_baseOf 7 = .ok (.getfield 24, 3) := by decide +kernel
theorem dX1_baseOf_10 : decode cX1_baseOf 10 = .ok (.iload_n 2, 1) := by decide +kernel
theorem dX1_baseOf_11 : decode cX1_baseOf 11 = .ok (.iaload, 1) := by decide +kernel
theorem dX1_baseOf_12 : decode cX1_baseOf 12 = .ok (.iand, 1) := by decide +kernel
theorem dX1_baseOf_13 : decode cX1_baseOf 13 = .ok (.istore_n 3, 1) := by decide +kernel
theorem dX1_baseOf_14 : decode cX1_baseOf 14 = .ok (.iconst 0, 1) := by decide +kernel
theorem dX1_baseOf_15 : decode cX1_baseOf 15 = .ok (.istore 4, 2) := by decide +kernel
theorem dX1_baseOf_17 : decode cX1_baseOf 17 = .ok (.iload 4, 2) := by decide +kernel
theorem dX1_baseOf_19 : decode cX1_baseOf 19 = .ok (.aload_n 0, 1) := by decide +kernel
theorem dX1_baseOf_20 : decode cX1_baseOf 20 = .ok (.getfield 28, 3) := by decide +kernel
theorem dX1_baseOf_23 : decode cX1_baseOf 23 = .ok (.if_icmp .ge 31, 3) := by decide +kernel
theorem dX1_baseOf_26 : decode cX1_baseOf 26 = .ok (.iload_n 3, 1) := by decide +kernel
theorem dX1_baseOf_27 : decode cX1_baseOf 27 = .ok (.iload 4, 2) := by decide +kernel
theorem dX1_baseOf_29 : decode cX1_baseOf 29 = .ok (.invokestatic 40, 3) := by decide +kernel
theorem dX1_baseOf_32 : decode cX1_baseOf 32 = .ok (.ifCond .eq 16, 3) := by decide +kernel
theorem dX1_baseOf_35 : decode cX1_baseOf 35 = .ok (.aload_n 0, 1) := by decide +kernel
theorem dX1_baseOf_36 : decode cX1_baseOf 36 = .ok (.iload 4, 2) := by decide +kernel
theorem dX1_baseOf_38 : decode cX1_baseOf 38 = .ok (.iload_n 3, 1) := by decide +kernel
theorem dX1_baseOf_39 : decode cX1_baseOf 39 = .ok (.invokevirtual 44, 3) := by decide +kernel
theorem dX1_baseOf_42 : decode cX1_baseOf 42 = .ok (.ifCond .ne 6, 3) := by decide +kernel
theorem dX1_baseOf_45 : decode cX1_baseOf 45 = .ok (.iload 4, 2) := by decide +kernel
theorem dX1_baseOf_47 : decode cX1_baseOf 47 = .ok (.ireturn, 1) := by decide +kernel
theorem dX1_baseOf_48 : decode cX1_baseOf 48 = .ok (.iinc 4 1, 3) := by decide +kernel
theorem dX1_baseOf_51 : decode cX1_baseOf 51 = .ok (.goto (-34), 3) := by decide +kernel
theorem dX1_baseOf_54 : decode cX1_baseOf 54 = .ok (.iconst 0, 1) := by decide +kernel
theorem dX1_baseOf_55 : decode cX1_baseOf 55 = .ok (.ireturn, 1) := by decide +kernel
set_option maxRecDepth 20000 in
theorem ggX1_isReachedFromAnother_X5_isIn : GoodIn wsX1_isReachedFromAnother wsX5_isIn := goodIn_r _ [5] (by decide +kernel) (by decide +kernel)
set_option maxRecDepth 20000 in
theorem gX1_isReachedFromAnother_X5_isIn_n40 : GoodIn wsX1_isReachedFromAnother (wsX5_isIn) := ggX1_isReachedFromAnother_X5_isIn
theorem dX1_isReachedFromAnother_0 : decode cX1_isReachedFromAnother 0 = .ok (.iconst 0, 1) := by decide +kernel
theorem dX1_isReachedFromAnother_1 : decode cX1_isReachedFromAnother 1 = .ok (.istore_n 3, 1) := by decide +kernel
theorem dX1_isReachedFromAnother_2 : decode cX1_isReachedFromAnother 2 = .ok (.iload_n 3, 1) := by decide +kernel
theorem dX1_isReachedFromAnother_3 : decode cX1_isReachedFromAnother 3 = .ok (.aload_n 0, 1) := by decide +kernel
theorem dX1_isReachedFromAnother_4 : decode cX1_isReachedFromAnother 4 = .ok (.getfield 28, 3) := by decide +kernel
theorem dX1_isReachedFromAnother_7 : decode cX1_isReachedFromAnother 7 = .ok (.if_icmp .ge 37, 3) := by decide +kernel
theorem dX1_isReachedFromAnother_10 : decode cX1_isReachedFromAnother 10 = .ok (.iload_n 3, 1) := by decide +kernel
theorem dX1_isReachedFromAnother_11 : decode cX1_isReachedFromAnother 11 = .ok (.iload_n 1, 1) := by decide +kernel
theorem dX1_isReachedFromAnother_12 : decode cX1_isReachedFromAnother 12 = .ok (.if_icmp .eq 26, 3) := by decide +kernel
theorem dX1_isReachedFromAnother_15 : decode cX1_isReachedFromAnother 15 = .ok (.iload_n 2, 1) := by decide +kernel
theorem dX1_isReachedFromAnother_16 : decode cX1_isReachedFromAnother 16 = .ok (.iload_n 3, 1) := by decide +kernel
theorem dX1_isReachedFromAnother_17 : decode cX1_isReachedFromAnother 17 = .ok (.invokestatic 40, 3) := by decide +kernel
theorem dX1_isReachedFromAnother_20 : decode cX1_isReachedFromAnother 20 = .ok (.ifCond .eq 18, 3) := by decide +kernel
theorem dX1_isReachedFromAnother_23 : decode cX1_isReachedFromAnother 23 = .ok (.aload_n 0, 1) := by decide +kernel
theorem dX1_isReachedFromAnother_24 : decode cX1_isReachedFromAnother 24 = .ok (.getfield 24, 3) := by decide +kernel
theorem dX1_isReachedFromAnother_27 : decode cX1_isReachedFromAnother 27 = .ok (.iload_n 3, 1) := by decide +kernel
theorem dX1_isReachedFromAnother_28 : decode cX1_isReachedFromAnother 28 = .ok (.iaload, 1) := by decide +kernel
theorem dX1_isReachedFromAnother_29 : decode cX1_isReachedFromAnother 29 = .ok (.iload_n 1, 1) := by decide +kernel
theorem dX1_isReachedFromAnother_30 : decode cX1_isReachedFromAnother 30 = .ok (.invokestatic 40, 3) := by decide +kernel
theorem dX1_isReachedFromAnother_33 : decode cX1_isReachedFromAnother 33 = .ok (.ifCond .eq 5, 3) := by decide +kernel
theorem dX1_isReachedFromAnother_36 : decode cX1_isReachedFromAnother 36 = .ok (.iconst 1, 1) := by decide +kernel
theorem dX1_isReachedFromAnother_37 : decode cX1_isReachedFromAnother 37 = .ok (.ireturn, 1) := by decide +kernel
theorem dX1_isReachedFromAnother_38 : decode cX1_isReachedFromAnother 38 = .ok (.iinc 3 1, 3) := by decide +kernel
theorem dX1_isReachedFromAnother_41 : decode cX1_isReachedFromAnother 41 = .ok (.goto (-39), 3) := by decide +kernel
theorem dX1_isReachedFromAnother_44 : decode cX1_isReachedFromAnother 44 = .ok (.iconst 0, 1) := by decide +kernel
theorem dX1_isReachedFromAnother_45 : decode cX1_isReachedFromAnother 45 = .ok (.ireturn, 1) := by decide +kernel
