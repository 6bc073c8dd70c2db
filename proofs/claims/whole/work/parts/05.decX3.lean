set_option maxRecDepth 20000 in
theorem ggX3_follow_X3_alongAxis : GoodIn wsX3_follow wsX3_alongAxis := goodIn_r _ [4, 5, 6, 3, 7, 8, 9, 10, 11, 12, 13, 14, 15, 16, 17, 18, 19, 24, 25, 26, 27, 28, 29] (by decide +kernel) (by decide +kernel)
set_option maxRecDepth 20000 in
theorem gX3_follow_X3_alongAxis : GoodIn wsX3_follow (va_wsS RX3 11 yX3_alongAxis wsX3_alongAxis) := goodIn_app (goodIn_of _ (by decide +kernel)) ggX3_follow_X3_alongAxis
set_option maxRecDepth 20000 in
theorem ggX3_follow_X3_labelled : GoodIn wsX3_follow wsX3_labelled := goodIn_r _ [22, 8, 9, 23, 24, 25, 26, 27, 28, 29] (by decide +kernel) (by decide +kernel)
set_option maxRecDepth 20000 in
theorem gX3_follow_X3_labelled : GoodIn wsX3_follow (va_wsS RX3 15 yX3_labelled wsX3_labelled) := goodIn_app (goodIn_of _ (by decide +kernel)) ggX3_follow_X3_labelled
theorem dX3_follow_0 : decode cX3_follow 0 = .ok (.iconst 1, 1) := by decide +kernel
theorem dX3_follow_1 : decode cX3_follow 1 = .ok (.istore_n 2, 1) := by decide +kernel
theorem dX3_follow_2 : decode cX3_follow 2 = .ok (.iconst 0, 1) := by decide +kernel
theorem dX3_follow_3 : decode cX3_follow 3 = .ok (.istore_n 3, 1) := by decide +kernel
theorem dX3_follow_4 : decode cX3_follow 4 = .ok (.iload_n 3, 1) := by decide +kernel
theorem dX3_follow_5 : decode cX3_follow 5 = .ok (.bipush 6, 2) := by decide +kernel
theorem dX3_follow_7 : decode cX3_follow 7 = .ok (.if_icmp .ge 50, 3) := by decide +kernel
theorem dX3_follow_10 : decode cX3_follow 10 = .ok (.iload_n 0, 1) := by decide +kernel
theorem dX3_follow_11 : decode cX3_follow 11 = .ok (.iload_n 3, 1) := by decide +kernel
theorem dX3_follow_12 : decode cX3_follow 12 = .ok (.iconst 5, 1) := by decide +kernel
theorem dX3_follow_13 : decode cX3_follow 13 = .ok (.imul, 1) := by decide +kernel
theorem dX3_follow_14 : decode cX3_follow 14 = .ok (.ishr, 1) := by decide +kernel
theorem dX3_follow_15 : decode cX3_follow 15 = .ok (.istore 4, 2) := by decide +kernel
theorem dX3_follow_17 : decode cX3_follow 17 = .ok (.iload 4, 2) := by decide +kernel
theorem dX3_follow_19 : decode cX3_follow 19 = .ok (.iconst 3, 1) := by decide +kernel
theorem dX3_follow_20 : decode cX3_follow 20 = .ok (.iand, 1) := by decide +kernel
theorem dX3_follow_21 : decode cX3_follow 21 = .ok (.istore 5, 2) := by decide +kernel
theorem dX3_follow_23 : decode cX3_follow 23 = .ok (.iload 5, 2) := by decide +kernel
theorem dX3_follow_25 : decode cX3_follow 25 = .ok (.ifCond .ne 6, 3) := by decide +kernel
theorem dX3_follow_28 : decode cX3_follow 28 = .ok (.goto 29, 3) := by decide +kernel
theorem dX3_follow_31 : decode cX3_follow 31 = .ok (.iload 5, 2) := by decide +kernel
theorem dX3_follow_33 : decode cX3_follow 33 = .ok (.iload_n 2, 1) := by decide +kernel
theorem dX3_follow_34 : decode cX3_follow 34 = .ok (.aload_n 1, 1) := by decide +kernel
theorem dX3_follow_35 : decode cX3_follow 35 = .ok (.invokestatic 11, 3) := by decide +kernel
theorem dX3_follow_38 : decode cX3_follow 38 = .ok (.iload 4, 2) := by decide +kernel
theorem dX3_follow_40 : decode cX3_follow 40 = .ok (.iconst 2, 1) := by decide +kernel
theorem dX3_follow_41 : decode cX3_follow 41 = .ok (.ishr, 1) := by decide +kernel
theorem dX3_follow_42 : decode cX3_follow 42 = .ok (.bipush 7, 2) := by decide +kernel
theorem dX3_follow_44 : decode cX3_follow 44 = .ok (.iand, 1) := by decide +kernel
theorem dX3_follow_45 : decode cX3_follow 45 = .ok (.aload_n 1, 1) := by decide +kernel
theorem dX3_follow_46 : decode cX3_follow 46 = .ok (.invokestatic 15, 3) := by decide +kernel
theorem dX3_follow_49 : decode cX3_follow 49 = .ok (.iand, 1) := by decide +kernel
theorem dX3_follow_50 : decode cX3_follow 50 = .ok (.istore_n 2, 1) := by decide +kernel
theorem dX3_follow_51 : decode cX3_follow 51 = .ok (.iinc 3 1, 3) := by decide +kernel
theorem dX3_follow_54 : decode cX3_follow 54 = .ok (.goto (-50), 3) := by decide +kernel
theorem dX3_follow_57 : decode cX3_follow 57 = .ok (.iload_n 2, 1) := by decide +kernel
theorem dX3_follow_58 : decode cX3_follow 58 = .ok (.ireturn, 1) := by decide +kernel
set_option maxRecDepth 20000 in
theorem ggX3_alongAxis_X3_childrenOf : GoodIn wsX3_alongAxis wsX3_childrenOf := goodIn_r _ [4, 5, 6, 7, 8, 9, 10, 17, 18, 19, 20, 21, 22] (by decide +kernel) (by decide +kernel)
set_option maxRecDepth 20000 in
theorem gX3_alongAxis_X3_childrenOf : GoodIn wsX3_alongAxis (va_wsS RX3 19 yX3_childrenOf wsX3_childrenOf) := goodIn_app (goodIn_of _ (by decide +kernel)) ggX3_alongAxis_X3_childrenOf
set_option maxRecDepth 20000 in
theorem ggX3_alongAxis_X3_below : GoodIn wsX3_alongAxis wsX3_below := goodIn_r _ [13, 5, 6, 7, 8, 9, 10, 17, 18, 19, 20, 21, 22] (by decide +kernel) (by decide +kernel)
set_option maxRecDepth 20000 in
theorem gX3_alongAxis_X3_below : GoodIn wsX3_alongAxis (va_wsS RX3 22 yX3_below wsX3_below) := goodIn_app (goodIn_of _ (by decide +kernel)) ggX3_alongAxis_X3_below
set_option maxRecDepth 20000 in
theorem ggX3_alongAxis_X3_behind : GoodIn wsX3_alongAxis wsX3_behind := goodIn_r _ [16, 5, 6, 7, 8, 9, 10, 17, 18, 19, 20, 21, 22] (by decide +kernel) (by decide +kernel)
set_option maxRecDepth 20000 in
theorem gX3_alongAxis_X3_behind : GoodIn wsX3_alongAxis (va_wsS RX3 25 yX3_behind wsX3_behind) := goodIn_app (goodIn_of _ (by decide +kernel)) ggX3_alongAxis_X3_behind
theorem dX3_alongAxis_0 : decode cX3_alongAxis 0 = .ok (.iload_n 0, 1) := by decide +kernel
theorem dX3_alongAxis_1 : decode cX3_alongAxis 1 = .ok (.iconst 1, 1) := by decide +kernel
theorem dX3_alongAxis_2 : decode cX3_alongAxis 2 = .ok (.if_icmp .ne 9, 3) := by decide +kernel
theorem dX3_alongAxis_5 : decode cX3_alongAxis 5 = .ok (.iload_n 1, 1) := by decide +kernel
theorem dX3_alongAxis_6 : decode cX3_alongAxis 6 = .ok (.aload_n 2, 1) := by decide +kernel
theorem dX3_alongAxis_7 : decode cX3_alongAxis 7 = .ok (.invokestatic 19, 3) := by decide +kernel
theorem dX3_alongAxis_10 : decode cX3_alongAxis 10 = .ok (.ireturn, 1) := by decide +kernel
theorem dX3_alongAxis_11 : decode cX3_alongAxis 11 = .ok (.iload_n 0, 1) := by decide +kernel
theorem dX3_alongAxis_12 : decode cX3_alongAxis 12 = .ok (.iconst 2, 1) := by decide +kernel
theorem dX3_alongAxis_13 : decode cX3_alongAxis 13 = .ok (.if_icmp .ne 11, 3) := by decide +kernel
theorem dX3_alongAxis_16 : decode cX3_alongAxis 16 = .ok (.iload_n 1, 1) := by decide +kernel
theorem dX3_alongAxis_17 : decode cX3_alongAxis 17 = .ok (.aload_n 2, 1) := by decide +kernel
theorem dX3_alongAxis_18 : decode cX3_alongAxis 18 = .ok (.invokestatic 22, 3) := by decide +kernel
theorem dX3_alongAxis_21 : decode cX3_alongAxis 21 = .ok (.goto 8, 3) := by decide +kernel
theorem dX3_alongAxis_24 : decode cX3_alongAxis 24 = .ok (.iload_n 1, 1) := by decide +kernel
theorem dX3_alongAxis_25 : decode cX3_alongAxis 25 = .ok (.aload_n 2, 1) := by decide +kernel
theorem dX3_alongAxis_26 : decode cX3_alongAxis 26 = .ok (.invokestatic 25, 3) := by decide +kernel
theorem dX3_alongAxis_29 : decode cX3_alongAxis 29 = .ok (.ireturn, 1) := by decide +kernel
set_option maxRecDepth 20000 in
theorem ggX3_childrenOf_X5_isIn : GoodIn wsX3_childrenOf wsX5_isIn := goodIn_r _ [6] (by decide +kernel) (by decide +kernel)
set_option maxRecDepth 20000 in
theorem gX3_childrenOf_X5_isIn_n41 : GoodIn wsX3_childrenOf (wsX5_isIn) := ggX3_childrenOf_X5_isIn
theorem dX3_childrenOf_0 : decode cX3_childrenOf 0 = .ok (.iconst 0, 1) := by decide +kernel
theorem dX3_childrenOf_1 : decode cX3_childrenOf 1 = .ok (.istore_n 2, 1) := by decide +kernel
theorem dX3_childrenOf_2 : decode cX3_childrenOf 2 = .ok (.iconst 1, 1) := by decide +kernel
theorem dX3_childrenOf_3 : decode cX3_childrenOf 3 = .ok (.istore_n 3, 1) := by decide +kernel
theorem dX3_childrenOf_4 : decode cX3_childrenOf 4 = .ok (.iload_n 3, 1) := by decide +kernel
theorem dX3_childrenOf_5 : decode cX3_childrenOf 5 = .ok (.aload_n 1, 1) := by decide +kernel
theorem dX3_childrenOf_6 : decode cX3_childrenOf 6 = .ok (.getfield 28, 3) := by decide +kernel
theorem dX3_childrenOf_9 : decode cX3_childrenOf 9 = .ok (.if_icmp .ge 38, 3) := by decide +kernel
theorem dX3_childrenOf_12 : decode cX3_childrenOf 12 = .ok (.aload_n 1, 1) := by decide +kernel
theorem dX3_childrenOf_13 : decode cX3_childrenOf 13 = .ok (.getfield 34, 3) := by decide +kernel
theorem dX3_childrenOf_16 : decode cX3_childrenOf 16 = .ok (.iload_n 3, 1) := by decide +kernel
theorem dX3_childrenOf_17 : decode cX3_childrenOf 17 = .ok (.iaload, 1) := by decide +kernel
theorem dX3_childrenOf_18 : decode cX3_childrenOf 18 = .ok (.istore 4, 2) := by decide +kernel
theorem dX3_childrenOf_20 : decode cX3_childrenOf 20 = .ok (.iload_n 0, 1) := by decide +kernel
theorem dX3_childrenOf_21 : decode cX3_childrenOf 21 = .ok (.aload_n 1, 1) := by decide +kernel
theorem dX3_childrenOf_22 : decode cX3_childrenOf 22 = .ok (.getfield 38, 3) := by decide +kernel
theorem dX3_childrenOf_25 : decode cX3_childrenOf 25 = .ok (.iload 4, 2) := by decide +kernel
theorem dX3_childrenOf_27 : decode cX3_childrenOf 27 = .ok (.iaload, 1) := by decide +kernel
theorem dX3_childrenOf_28 : decode cX3_childrenOf 28 = .ok (.invokestatic 41, 3) := by decide +kernel
theorem dX3_childrenOf_31 : decode cX3_childrenOf 31 = .ok (.ifCond .eq 10, 3) := by decide +kernel
theorem dX3_childrenOf_34 : decode cX3_childrenOf 34 = .ok (.iload_n 2, 1) := by decide +kernel
theorem dX3_childrenOf_35 : decode cX3_childrenOf 35 = .ok (.iconst 1, 1) := by decide +kernel
theorem dX3_childrenOf_36 : decode cX3_childrenOf 36 = .ok (.iload 4, 2) := by decide +kernel
theorem dX3_childrenOf_38 : decode cX3_childrenOf 38 = .ok (.ishl, 1) := by decide +kernel
theorem dX3_childrenOf_39 : decode cX3_childrenOf 39 = .ok (.ior, 1) := by decide +kernel
theorem dX3_childrenOf_40 : decode cX3_childrenOf 40 = .ok (.istore_n 2, 1) := by decide +kernel
theorem dX3_childrenOf_41 : decode cX3_childrenOf 41 = .ok (.iinc 3 1, 3) := by decide +kernel
theorem dX3_childrenOf_44 : decode cX3_childrenOf 44 = .ok (.goto (-40), 3) := by decide +kernel
theorem dX3_childrenOf_47 : decode cX3_childrenOf 47 = .ok (.iload_n 2, 1) := by decide +kernel
theorem dX3_childrenOf_48 : decode cX3_childrenOf 48 = .ok (.ireturn, 1) := by decide +kernel
set_option maxRecDepth 20000 in
theorem ggX3_below_X5_isIn : GoodIn wsX3_below wsX5_isIn := goodIn_r _ [6] (by decide +kernel) (by decide +kernel)
set_option maxRecDepth 20000 in
theorem gX3_below_X5_isIn_n41 : GoodIn wsX3_below (wsX5_isIn) := ggX3_below_X5_isIn
theorem dX3_below_0 : decode cX3_below 0 = .ok (.iconst 0, 1) := by decide +kernel
theorem dX3_below_1 : decode cX3_below 1 = .ok (.istore_n 2, 1) := by decide +kernel
theorem dX3_below_2 : decode cX3_below 2 = .ok (.iconst 1, 1) := by decide +kernel
theorem dX3_below_3 : decode cX3_below 3 = .ok (.istore_n 3, 1) := by decide +kernel
theorem dX3_below_4 : decode cX3_below 4 = .ok (.iload_n 3, 1) := by decide +kernel
theorem dX3_below_5 : decode cX3_below 5 = .ok (.aload_n 1, 1) := by decide +kernel
theorem dX3_below_6 : decode cX3_below 6 = .ok (.getfield 28, 3) := by decide +kernel
theorem dX3_below_9 : decode cX3_below 9 = .ok (.if_icmp .ge 40, 3) := by decide +kernel
theorem dX3_below_12 : decode cX3_below 12 = .ok (.aload_n 1, 1) := by decide +kernel
theorem dX3_below_13 : decode cX3_below 13 = .ok (.getfield 34, 3) := by decide +kernel
theorem dX3_below_16 : decode cX3_below 16 = .ok (.iload_n 3, 1) := by decide +kernel
theorem dX3_below_17 : decode cX3_below 17 = .ok (.iaload, 1) := by decide +kernel
theorem dX3_below_18 : decode cX3_below 18 = .ok (.istore 4, 2) := by decide +kernel
theorem dX3_below_20 : decode cX3_below 20 = .ok (.iload_n 0, 1) := by decide +kernel
theorem dX3_below_21 : decode cX3_below 21 = .ok (.iload_n 2, 1) := by decide +kernel
theorem dX3_below_22 : decode cX3_below 22 = .ok (.ior, 1) := by decide +kernel
theorem dX3_below_23 : decode cX3_below 23 = .ok (.aload_n 1, 1) := by decide +kernel
theorem dX3_below_24 : decode cX3_below 24 = .ok (.getfield 38, 3) := by decide +kernel
theorem dX3_below_27 : decode cX3_below 27 = .ok (.iload 4, 2) := by decide +kernel
theorem dX3_below_29 : decode cX3_below 29 = .ok (.iaload, 1) := by decide +kernel
theorem dX3_below_30 : decode cX3_below 30 = .ok (.invokestatic 41, 3) := by decide +kernel
theorem dX3_below_33 : decode cX3_below 33 = .ok (.ifCond .eq 10, 3) := by decide +kernel
theorem dX3_below_36 : decode cX3_below 36 = .ok (.iload_n 2, 1) := by decide +kernel
theorem dX3_below_37 : decode cX3_below 37 = .ok (.iconst 1, 1) := by decide +kernel
theorem dX3_below_38 : decode cX3_below 38 = .ok (.iload 4, 2) := by decide +kernel
theorem dX3_below_40 : decode cX3_below 40 = .ok (.ishl, 1) := by decide +kernel
theorem dX3_below_41 : decode cX3_below 41 = .ok (.ior, 1) := by decide +kernel
theorem dX3_below_42 : decode cX3_below 42 = .ok (.istore_n 2, 1) := by decide +kernel
theorem dX3_below_43 : decode cX3_below 43 = .ok (.iinc 3 1, 3) := by decide +kernel
theorem dX3_below_46 : decode cX3_below 46 = .ok (.goto (-42), 3) := by decide +kernel
theorem dX3_below_49 : decode cX3_below 49 = .ok (.iload_n 2, 1) := by decide +kernel
theorem dX3_below_50 : decode cX3_below 50 = .ok (.ireturn, 1) := by decide +kernel
set_option maxRecDepth 20000 in
theorem ggX3_behind_X5_isIn : GoodIn wsX3_behind wsX5_isIn := goodIn_r _ [6] (by decide +kernel) (by decide +kernel)
set_option maxRecDepth 20000 in
theorem gX3_behind_X5_isIn_n41 : GoodIn wsX3_behind (wsX5_isIn) := ggX3_behind_X5_isIn
theorem dX3_behind_0 : decode cX3_behind 0 = .ok (.iconst 0, 1) := by decide +kernel
theorem dX3_behind_1 : decode cX3_behind 1 = .ok (.istore_n 2, 1) := by decide +kernel
theorem dX3_behind_2 : decode cX3_behind 2 = .ok (.iconst 0, 1) := by decide +kernel
theorem dX3_behind_3 : decode cX3_behind 3 = .ok (.istore_n 3, 1) := by decide +kernel
theorem dX3_behind_4 : decode cX3_behind 4 = .ok (.iconst 1, 1) := by decide +kernel
theorem dX3_behind_5 : decode cX3_behind 5 = .ok (.istore 4, 2) := by decide +kernel
theorem dX3_behind_7 : decode cX3_behind 7 = .ok (.iload 4, 2) := by decide +kernel
theorem dX3_behind_9 : decode cX3_behind 9 = .ok (.aload_n 1, 1) := by decide +kernel
theorem dX3_behind_10 : decode cX3_behind 10 = .ok (.getfield 28, 3) := by decide +kernel
theorem dX3_behind_13 : decode cX3_behind 13 = .ok (.if_icmp .ge 59, 3) := by decide +kernel
theorem dX3_behind_16 : decode cX3_behind 16 = .ok (.aload_n 1, 1) := by decide +kernel
theorem dX3_behind_17 : decode cX3_behind 17 = .ok (.getfield 34, 3) := by decide +kernel
theorem dX3_behind_20 : decode cX3_behind 20 = .ok (.iload 4, 2) := by decide +kernel
theorem dX3_behind_22 : decode cX3_behind 22 = .ok (.iaload, 1) := by decide +kernel
theorem dX3_behind_23 : decode cX3_behind 23 = .ok (.istore 5, 2) := by decide +kernel
theorem dX3_behind_25 : decode cX3_behind 25 = .ok (.aload_n 1, 1) := by decide +kernel
theorem dX3_behind_26 : decode cX3_behind 26 = .ok (.getfield 38, 3) := by decide +kernel
theorem dX3_behind_29 : decode cX3_behind 29 = .ok (.iload 5, 2) := by decide +kernel
theorem dX3_behind_31 : decode cX3_behind 31 = .ok (.iaload, 1) := by decide +kernel
theorem dX3_behind_32 : decode cX3_behind 32 = .ok (.istore 6, 2) := by decide +kernel
theorem dX3_behind_34 : decode cX3_behind 34 = .ok (.iload_n 3, 1) := by decide +kernel
theorem dX3_behind_35 : decode cX3_behind 35 = .ok (.iload 6, 2) := by decide +kernel
theorem dX3_behind_37 : decode cX3_behind 37 = .ok (.invokestatic 41, 3) := by decide +kernel
theorem dX3_behind_40 : decode cX3_behind 40 = .ok (.ifCond .eq 10, 3) := by decide +kernel
theorem dX3_behind_43 : decode cX3_behind 43 = .ok (.iload_n 2, 1) := by decide +kernel
theorem dX3_behind_44 : decode cX3_behind 44 = .ok (.iconst 1, 1) := by decide +kernel
theorem dX3_behind_45 : decode cX3_behind 45 = .ok (.iload 5, 2) := by decide +kernel
theorem dX3_behind_47 : decode cX3_behind 47 = .ok (.ishl, 1) := by decide +kernel
theorem dX3_behind_48 : decode cX3_behind 48 = .ok (.ior, 1) := by decide +kernel
theorem dX3_behind_49 : decode cX3_behind 49 = .ok (.istore_n 2, 1) := by decide +kernel
theorem dX3_behind_50 : decode cX3_behind 50 = .ok (.iload_n 0, 1) := by decide +kernel
theorem dX3_behind_51 : decode cX3_behind 51 = .ok (.iload 5, 2) := by decide +kernel
theorem dX3_behind_53 : decode cX3_behind 53 = .ok (.invokestatic 41, 3) := by decide +kernel
theorem dX3_behind_56 : decode cX3_behind 56 = .ok (.ifCond .eq 10, 3) := by decide +kernel
theorem dX3_behind_59 : decode cX3_behind 59 = .ok (.iload_n 3, 1) := by decide +kernel
theorem dX3_behind_60 : decode cX3_behind 60 = .ok (.iconst 1, 1) := by decide +kernel
theorem dX3_behind_61 : decode cX3_behind 61 = .ok (.iload 6, 2) := by decide +kernel
theorem dX3_behind_63 : decode cX3_behind 63 = .ok (.ishl, 1) := by decide +kernel
theorem dX3_behind_64 : decode cX3_behind 64 = .ok (.ior, 1) := by decide +kernel
theorem dX3_behind_65 : decode cX3_behind 65 = .ok (.istore_n 3, 1) := by decide +kernel
theorem dX3_behind_66 : decode cX3_behind 66 = .ok (.iinc 4 1, 3) := by decide +kernel
theorem dX3_behind_69 : decode cX3_behind 69 = .ok (.goto (-62), 3) := by decide +kernel
theorem dX3_behind_72 : decode cX3_behind 72 = .ok (.iload_n 2, 1) := by decide +kernel
theorem dX3_behind_73 : decode cX3_behind 73 = .ok (.ireturn, 1) := by decide +kernel
theorem dX3_labelled_0 : decode cX3_labelled 0 = .ok (.iconst 0, 1) := by decide +kernel
theorem dX3_labelled_1 : decode cX3_labelled 1 = .ok (.istore_n 2, 1) := by decide +kernel
theorem dX3_labelled_2 : decode cX3_labelled 2 = .ok (.iconst 0, 1) := by decide +kernel
theorem dX3_labelled_3 : decode cX3_labelled 3 = .ok (.istore_n 3, 1) := by decide +kernel
theorem dX3_labelled_4 : decode cX3_labelled 4 = .ok (.iload_n 3, 1) := by decide +kernel
theorem dX3_labelled_5 : decode cX3_labelled 5 = .ok (.aload_n 1, 1) := by decide +kernel
theorem dX3_labelled_6 : decode cX3_labelled 6 = .ok (.getfield 28, 3) := by decide +kernel
theorem dX3_labelled_9 : decode cX3_labelled 9 = .ok (.if_icmp .ge 41, 3) := by decide +kernel
theorem dX3_labelled_12 : decode cX3_labelled 12 = .ok (.aload_n 1, 1) := by decide +kernel
theorem dX3_labelled_13 : decode cX3_labelled 13 = .ok (.getfield 34, 3) := by decide +kernel
theorem dX3_labelled_16 : decode cX3_labelled 16 = .ok (.iload_n 3, 1) := by decide +kernel
theorem dX3_labelled_17 : decode cX3_labelled 17 = .ok (.iaload, 1) := by decide +kernel
theorem dX3_labelled_18 : decode cX3_labelled 18 = .ok (.istore 4, 2) := by decide +kernel
theorem dX3_labelled_20 : decode cX3_labelled 20 = .ok (.iload_n 0, 1) := by decide +kernel
theorem dX3_labelled_21 : decode cX3_labelled 21 = .ok (.bipush 6, 2) := by decide +kernel
theorem dX3_labelled_23 : decode cX3_labelled 23 = .ok (.if_icmp .ge 14, 3) := by decide +kernel
theorem dX3_labelled_26 : decode cX3_labelled 26 = .ok (.aload_n 1, 1) := by decide +kernel
theorem dX3_labelled_27 : decode cX3_labelled 27 = .ok (.getfield 45, 3) := by decide +kernel
theorem dX3_labelled_30 : decode cX3_labelled 30 = .ok (.iload 4, 2) := by decide +kernel
theorem dX3_labelled_32 : decode cX3_labelled 32 = .ok (.iaload, 1) := by decide +kernel
theorem dX3_labelled_33 : decode cX3_labelled 33 = .ok (.iload_n 0, 1) := by decide +kernel
theorem dX3_labelled_34 : decode cX3_labelled 34 = .ok (.if_icmp .ne 10, 3) := by decide +kernel
theorem dX3_labelled_37 : decode cX3_labelled 37 = .ok (.iload_n 2, 1) := by decide +kernel
theorem dX3_labelled_38 : decode cX3_labelled 38 = .ok (.iconst 1, 1) := by decide +kernel
theorem dX3_labelled_39 : decode cX3_labelled 39 = .ok (.iload 4, 2) := by decide +kernel
theorem dX3_labelled_41 : decode cX3_labelled 41 = .ok (.ishl, 1) := by decide +kernel
theorem dX3_labelled_42 : decode cX3_labelled 42 = .ok (.ior, 1) := by decide +kernel
theorem dX3_labelled_43 : decode cX3_labelled 43 = .ok (.istore_n 2, 1) := by decide +kernel
theorem dX3_labelled_44 : decode cX3_labelled 44 = .ok (.iinc 3 1, 3) := by decide +kernel
theorem dX3_labelled_47 : decode cX3_labelled 47 = .ok (.goto (-43), 3) := by decide +kernel
theorem dX3_labelled_50 : decode cX3_labelled 50 = .ok (.iload_n 2, 1) := by decide +kernel
theorem dX3_labelled_51 : decode cX3_labelled 51 = .ok (.ireturn, 1) := by decide +kernel
