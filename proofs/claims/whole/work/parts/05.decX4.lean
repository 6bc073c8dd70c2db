set_option maxRecDepth 20000 in
theorem ggX4_init_X4_clear : GoodIn wsX4_init wsX4_clear := goodIn_r _ [14, 7, 8, 15, 16, 17, 18, 19, 20, 21, 22, 23, 24, 25] (by decide +kernel) (by decide +kernel)
set_option maxRecDepth 20000 in
theorem gX4_init_X4_clear : GoodIn wsX4_init (wsV RX4 27 RX4 yX4_clear wsX4_clear) := goodIn_app (goodIn_of _ (by decide +kernel)) ggX4_init_X4_clear
theorem dX4_init_0 : decode cX4_init 0 = .ok (.aload_n 0, 1) := by decide +kernel
theorem dX4_init_1 : decode cX4_init 1 = .ok (.invokespecial 3, 3) := by decide +kernel
theorem dX4_init_4 : decode cX4_init 4 = .ok (.aload_n 0, 1) := by decide +kernel
theorem dX4_init_5 : decode cX4_init 5 = .ok (.bipush 24, 2) := by decide +kernel
theorem dX4_init_7 : decode cX4_init 7 = .ok (.newarray .int, 2) := by decide +kernel
theorem dX4_init_9 : decode cX4_init 9 = .ok (.putfield 9, 3) := by decide +kernel
theorem dX4_init_12 : decode cX4_init 12 = .ok (.aload_n 0, 1) := by decide +kernel
theorem dX4_init_13 : decode cX4_init 13 = .ok (.bipush 24, 2) := by decide +kernel
theorem dX4_init_15 : decode cX4_init 15 = .ok (.newarray .int, 2) := by decide +kernel
theorem dX4_init_17 : decode cX4_init 17 = .ok (.putfield 15, 3) := by decide +kernel
theorem dX4_init_20 : decode cX4_init 20 = .ok (.aload_n 0, 1) := by decide +kernel
theorem dX4_init_21 : decode cX4_init 21 = .ok (.bipush 24, 2) := by decide +kernel
theorem dX4_init_23 : decode cX4_init 23 = .ok (.newarray .int, 2) := by decide +kernel
theorem dX4_init_25 : decode cX4_init 25 = .ok (.putfield 18, 3) := by decide +kernel
theorem dX4_init_28 : decode cX4_init 28 = .ok (.aload_n 0, 1) := by decide +kernel
theorem dX4_init_29 : decode cX4_init 29 = .ok (.bipush 24, 2) := by decide +kernel
theorem dX4_init_31 : decode cX4_init 31 = .ok (.newarray .int, 2) := by decide +kernel
theorem dX4_init_33 : decode cX4_init 33 = .ok (.putfield 21, 3) := by decide +kernel
theorem dX4_init_36 : decode cX4_init 36 = .ok (.aload_n 0, 1) := by decide +kernel
theorem dX4_init_37 : decode cX4_init 37 = .ok (.bipush 24, 2) := by decide +kernel
theorem dX4_init_39 : decode cX4_init 39 = .ok (.newarray .int, 2) := by decide +kernel
theorem dX4_init_41 : decode cX4_init 41 = .ok (.putfield 24, 3) := by decide +kernel
theorem dX4_init_44 : decode cX4_init 44 = .ok (.aload_n 0, 1) := by decide +kernel
theorem dX4_init_45 : decode cX4_init 45 = .ok (.invokevirtual 27, 3) := by decide +kernel
theorem dX4_init_48 : decode cX4_init 48 = .ok (.return_, 1) := by decide +kernel
set_option maxRecDepth 20000 in
theorem ggX4_clear_J7_fill_53178 : GoodIn wsX4_clear wsJ7_fill_53178 := goodIn_r _ [7] (by decide +kernel) (by decide +kernel)
set_option maxRecDepth 20000 in
theorem gX4_clear_J7_fill_53178 : GoodIn wsX4_clear (va_wsS RX4 30 yJ7_fill_53178 wsJ7_fill_53178) := goodIn_app (goodIn_of _ (by decide +kernel)) ggX4_clear_J7_fill_53178
theorem dX4_clear_0 : decode cX4_clear 0 = .ok (.aload_n 0, 1) := by decide +kernel
theorem dX4_clear_1 : decode cX4_clear 1 = .ok (.getfield 18, 3) := by decide +kernel
theorem dX4_clear_4 : decode cX4_clear 4 = .ok (.bipush (-2), 2) := by decide +kernel
theorem dX4_clear_6 : decode cX4_clear 6 = .ok (.invokestatic 30, 3) := by decide +kernel
theorem dX4_clear_9 : decode cX4_clear 9 = .ok (.aload_n 0, 1) := by decide +kernel
theorem dX4_clear_10 : decode cX4_clear 10 = .ok (.getfield 21, 3) := by decide +kernel
theorem dX4_clear_13 : decode cX4_clear 13 = .ok (.bipush (-2), 2) := by decide +kernel
theorem dX4_clear_15 : decode cX4_clear 15 = .ok (.invokestatic 30, 3) := by decide +kernel
theorem dX4_clear_18 : decode cX4_clear 18 = .ok (.aload_n 0, 1) := by decide +kernel
theorem dX4_clear_19 : decode cX4_clear 19 = .ok (.iconst 0, 1) := by decide +kernel
theorem dX4_clear_20 : decode cX4_clear 20 = .ok (.putfield 36, 3) := by decide +kernel
theorem dX4_clear_23 : decode cX4_clear 23 = .ok (.return_, 1) := by decide +kernel
theorem dX4_copyFrom_0 : decode cX4_copyFrom 0 = .ok (.aload_n 1, 1) := by decide +kernel
theorem dX4_copyFrom_1 : decode cX4_copyFrom 1 = .ok (.getfield 9, 3) := by decide +kernel
theorem dX4_copyFrom_4 : decode cX4_copyFrom 4 = .ok (.iconst 0, 1) := by decide +kernel
theorem dX4_copyFrom_5 : decode cX4_copyFrom 5 = .ok (.aload_n 0, 1) := by decide +kernel
theorem dX4_copyFrom_6 : decode cX4_copyFrom 6 = .ok (.getfield 9, 3) := by decide +kernel
theorem dX4_copyFrom_9 : decode cX4_copyFrom 9 = .ok (.iconst 0, 1) := by decide +kernel
theorem dX4_copyFrom_10 : decode cX4_copyFrom 10 = .ok (.bipush 24, 2) := by decide +kernel
theorem dX4_copyFrom_12 : decode cX4_copyFrom 12 = .ok (.invokestatic 40, 3) := by decide +kernel
theorem dX4_copyFrom_15 : decode cX4_copyFrom 15 = .ok (.aload_n 1, 1) := by decide +kernel
theorem dX4_copyFrom_16 : decode cX4_copyFrom 16 = .ok (.getfield 15, 3) := by decide +kernel
theorem dX4_copyFrom_19 : decode cX4_copyFrom 19 = .ok (.iconst 0, 1) := by decide +kernel
theorem dX4_copyFrom_20 : decode cX4_copyFrom 20 = .ok (.aload_n 0, 1) := by decide +kernel
theorem dX4_copyFrom_21 : decode cX4_copyFrom 21 = .ok (.getfield 15, 3) := by decide +kernel
theorem dX4_copyFrom_24 : decode cX4_copyFrom 24 = .ok (.iconst 0, 1) := by decide +kernel
theorem dX4_copyFrom_25 : decode cX4_copyFrom 25 = .ok (.bipush 24, 2) := by decide +kernel
theorem dX4_copyFrom_27 : decode cX4_copyFrom 27 = .ok (.invokestatic 40, 3) := by decide +kernel
theorem dX4_copyFrom_30 : decode cX4_copyFrom 30 = .ok (.aload_n 1, 1) := by decide +kernel
theorem dX4_copyFrom_31 : decode cX4_copyFrom 31 = .ok (.getfield 18, 3) := by decide +kernel
theorem dX4_copyFrom_34 : decode cX4_copyFrom 34 = .ok (.iconst 0, 1) := by decide +kernel
theorem dX4_copyFrom_35 : decode cX4_copyFrom 35 = .ok (.aload_n 0, 1) := by decide +kernel
theorem dX4_copyFrom_36 : decode cX4_copyFrom 36 = .ok (.getfield 18, 3) := by decide +kernel
theorem dX4_copyFrom_39 : decode cX4_copyFrom 39 = .ok (.iconst 0, 1) := by decide +kernel
theorem dX4_copyFrom_40 : decode cX4_copyFrom 40 = .ok (.bipush 24, 2) := by decide +kernel
theorem dX4_copyFrom_42 : decode cX4_copyFrom 42 = .ok (.invokestatic 40, 3) := by decide +kernel
theorem dX4_copyFrom_45 : decode cX4_copyFrom 45 = .ok (.aload_n 1, 1) := by decide +kernel
theorem dX4_copyFrom_46 : decode cX4_copyFrom 46 = .ok (.getfield 21, 3) := by decide +kernel
theorem dX4_copyFrom_49 : decode cX4_copyFrom 49 = .ok (.iconst 0, 1) := by decide +kernel
theorem dX4_copyFrom_50 : decode cX4_copyFrom 50 = .ok (.aload_n 0, 1) := by decide +kernel
theorem dX4_copyFrom_51 : decode cX4_copyFrom 51 = .ok (.getfield 21, 3) := by decide +kernel
theorem dX4_copyFrom_54 : decode cX4_copyFrom 54 = .ok (.iconst 0, 1) := by decide +kernel
theorem dX4_copyFrom_55 : decode cX4_copyFrom 55 = .ok (.bipush 24, 2) := by decide +kernel
theorem dX4_copyFrom_57 : decode cX4_copyFrom 57 = .ok (.invokestatic 40, 3) := by decide +kernel
theorem dX4_copyFrom_60 : decode cX4_copyFrom 60 = .ok (.aload_n 0, 1) := by decide +kernel
theorem dX4_copyFrom_61 : decode cX4_copyFrom 61 = .ok (.aload_n 1, 1) := by decide +kernel
theorem dX4_copyFrom_62 : decode cX4_copyFrom 62 = .ok (.getfield 36, 3) := by decide +kernel
theorem dX4_copyFrom_65 : decode cX4_copyFrom 65 = .ok (.putfield 36, 3) := by decide +kernel
theorem dX4_copyFrom_68 : decode cX4_copyFrom 68 = .ok (.return_, 1) := by decide +kernel
set_option maxRecDepth 20000 in
theorem ggX4_isSameAs_X4_hasAsIn : GoodIn wsX4_isSameAs wsX4_hasAsIn := goodIn_r _ [7, 8, 9, 10, 11, 12, 13, 14, 15] (by decide +kernel) (by decide +kernel)
set_option maxRecDepth 20000 in
theorem gX4_isSameAs_X4_hasAsIn : GoodIn wsX4_isSameAs (wsV RX4 46 RX4 yX4_hasAsIn wsX4_hasAsIn) := goodIn_app (goodIn_of _ (by decide +kernel)) ggX4_isSameAs_X4_hasAsIn
theorem dX4_isSameAs_0 : decode cX4_isSameAs 0 = .ok (.aload_n 0, 1) := by decide +kernel
theorem dX4_isSameAs_1 : decode cX4_isSameAs 1 = .ok (.getfield 36, 3) := by decide +kernel
theorem dX4_isSameAs_4 : decode cX4_isSameAs 4 = .ok (.aload_n 1, 1) := by decide +kernel
theorem dX4_isSameAs_5 : decode cX4_isSameAs 5 = .ok (.getfield 36, 3) := by decide +kernel
theorem dX4_isSameAs_8 : decode cX4_isSameAs 8 = .ok (.if_icmp .eq 5, 3) := by decide +kernel
theorem dX4_isSameAs_11 : decode cX4_isSameAs 11 = .ok (.iconst 0, 1) := by decide +kernel
theorem dX4_isSameAs_12 : decode cX4_isSameAs 12 = .ok (.ireturn, 1) := by decide +kernel
theorem dX4_isSameAs_13 : decode cX4_isSameAs 13 = .ok (.iconst 0, 1) := by decide +kernel
theorem dX4_isSameAs_14 : decode cX4_isSameAs 14 = .ok (.istore_n 2, 1) := by decide +kernel
theorem dX4_isSameAs_15 : decode cX4_isSameAs 15 = .ok (.iload_n 2, 1) := by decide +kernel
theorem dX4_isSameAs_16 : decode cX4_isSameAs 16 = .ok (.aload_n 0, 1) := by decide +kernel
theorem dX4_isSameAs_17 : decode cX4_isSameAs 17 = .ok (.getfield 36, 3) := by decide +kernel
theorem dX4_isSameAs_20 : decode cX4_isSameAs 20 = .ok (.if_icmp .ge 37, 3) := by decide +kernel
theorem dX4_isSameAs_23 : decode cX4_isSameAs 23 = .ok (.aload_n 0, 1) := by decide +kernel
theorem dX4_isSameAs_24 : decode cX4_isSameAs 24 = .ok (.getfield 9, 3) := by decide +kernel
theorem dX4_isSameAs_27 : decode cX4_isSameAs 27 = .ok (.iload_n 2, 1) := by decide +kernel
theorem dX4_isSameAs_28 : decode cX4_isSameAs 28 = .ok (.iaload, 1) := by decide +kernel
theorem dX4_isSameAs_29 : decode cX4_isSameAs 29 = .ok (.istore_n 3, 1) := by decide +kernel
theorem dX4_isSameAs_30 : decode cX4_isSameAs 30 = .ok (.aload_n 1, 1) := by decide +kernel
theorem dX4_isSameAs_31 : decode cX4_isSameAs 31 = .ok (.getfield 9, 3) := by decide +kernel
theorem dX4_isSameAs_34 : decode cX4_isSameAs 34 = .ok (.iload_n 2, 1) := by decide +kernel
theorem dX4_isSameAs_35 : decode cX4_isSameAs 35 = .ok (.iaload, 1) := by decide +kernel
theorem dX4_isSameAs_36 : decode cX4_isSameAs 36 = .ok (.iload_n 3, 1) := by decide +kernel
theorem dX4_isSameAs_37 : decode cX4_isSameAs 37 = .ok (.if_icmp .ne 12, 3) := by decide +kernel
theorem dX4_isSameAs_40 : decode cX4_isSameAs 40 = .ok (.aload_n 0, 1) := by decide +kernel
theorem dX4_isSameAs_41 : decode cX4_isSameAs 41 = .ok (.aload_n 1, 1) := by decide +kernel
theorem dX4_isSameAs_42 : decode cX4_isSameAs 42 = .ok (.iload_n 3, 1) := by decide +kernel
theorem dX4_isSameAs_43 : decode cX4_isSameAs 43 = .ok (.invokevirtual 46, 3) := by decide +kernel
theorem dX4_isSameAs_46 : decode cX4_isSameAs 46 = .ok (.ifCond .ne 5, 3) := by decide +kernel
theorem dX4_isSameAs_49 : decode cX4_isSameAs 49 = .ok (.iconst 0, 1) := by decide +kernel
theorem dX4_isSameAs_50 : decode cX4_isSameAs 50 = .ok (.ireturn, 1) := by decide +kernel
theorem dX4_isSameAs_51 : decode cX4_isSameAs 51 = .ok (.iinc 2 1, 3) := by decide +kernel
theorem dX4_isSameAs_54 : decode cX4_isSameAs 54 = .ok (.goto (-39), 3) := by decide +kernel
theorem dX4_isSameAs_57 : decode cX4_isSameAs 57 = .ok (.iconst 1, 1) := by decide +kernel
theorem dX4_isSameAs_58 : decode cX4_isSameAs 58 = .ok (.ireturn, 1) := by decide +kernel
theorem dX4_hasAsIn_0 : decode cX4_hasAsIn 0 = .ok (.aload_n 0, 1) := by decide +kernel
theorem dX4_hasAsIn_1 : decode cX4_hasAsIn 1 = .ok (.getfield 21, 3) := by decide +kernel
theorem dX4_hasAsIn_4 : decode cX4_hasAsIn 4 = .ok (.iload_n 2, 1) := by decide +kernel
theorem dX4_hasAsIn_5 : decode cX4_hasAsIn 5 = .ok (.iaload, 1) := by decide +kernel
theorem dX4_hasAsIn_6 : decode cX4_hasAsIn 6 = .ok (.aload_n 1, 1) := by decide +kernel
theorem dX4_hasAsIn_7 : decode cX4_hasAsIn 7 = .ok (.getfield 21, 3) := by decide +kernel
theorem dX4_hasAsIn_10 : decode cX4_hasAsIn 10 = .ok (.iload_n 2, 1) := by decide +kernel
theorem dX4_hasAsIn_11 : decode cX4_hasAsIn 11 = .ok (.iaload, 1) := by decide +kernel
theorem dX4_hasAsIn_12 : decode cX4_hasAsIn 12 = .ok (.if_icmp .ne 22, 3) := by decide +kernel
theorem dX4_hasAsIn_15 : decode cX4_hasAsIn 15 = .ok (.aload_n 0, 1) := by decide +kernel
theorem dX4_hasAsIn_16 : decode cX4_hasAsIn 16 = .ok (.getfield 18, 3) := by decide +kernel
theorem dX4_hasAsIn_19 : decode cX4_hasAsIn 19 = .ok (.iload_n 2, 1) := by decide +kernel
theorem dX4_hasAsIn_20 : decode cX4_hasAsIn 20 = .ok (.iaload, 1) := by decide +kernel
theorem dX4_hasAsIn_21 : decode cX4_hasAsIn 21 = .ok (.aload_n 1, 1) := by decide +kernel
theorem dX4_hasAsIn_22 : decode cX4_hasAsIn 22 = .ok (.getfield 18, 3) := by decide +kernel
theorem dX4_hasAsIn_25 : decode cX4_hasAsIn 25 = .ok (.iload_n 2, 1) := by decide +kernel
theorem dX4_hasAsIn_26 : decode cX4_hasAsIn 26 = .ok (.iaload, 1) := by decide +kernel
theorem dX4_hasAsIn_27 : decode cX4_hasAsIn 27 = .ok (.if_icmp .ne 7, 3) := by decide +kernel
theorem dX4_hasAsIn_30 : decode cX4_hasAsIn 30 = .ok (.iconst 1, 1) := by decide +kernel
theorem dX4_hasAsIn_31 : decode cX4_hasAsIn 31 = .ok (.goto 4, 3) := by decide +kernel
theorem dX4_hasAsIn_34 : decode cX4_hasAsIn 34 = .ok (.iconst 0, 1) := by decide +kernel
theorem dX4_hasAsIn_35 : decode cX4_hasAsIn 35 = .ok (.ireturn, 1) := by decide +kernel
theorem dX4_holds_0 : decode cX4_holds 0 = .ok (.iload_n 1, 1) := by decide +kernel
theorem dX4_holds_1 : decode cX4_holds 1 = .ok (.ifCond .lt 24, 3) := by decide +kernel
theorem dX4_holds_4 : decode cX4_holds 4 = .ok (.iload_n 1, 1) := by decide +kernel
theorem dX4_holds_5 : decode cX4_holds 5 = .ok (.bipush 24, 2) := by decide +kernel
theorem dX4_holds_7 : decode cX4_holds 7 = .ok (.if_icmp .ge 18, 3) := by decide +kernel
theorem dX4_holds_10 : decode cX4_holds 10 = .ok (.aload_n 0, 1) := by decide +kernel
theorem dX4_holds_11 : decode cX4_holds 11 = .ok (.getfield 21, 3) := by decide +kernel
theorem dX4_holds_14 : decode cX4_holds 14 = .ok (.iload_n 1, 1) := by decide +kernel
theorem dX4_holds_15 : decode cX4_holds 15 = .ok (.iaload, 1) := by decide +kernel
theorem dX4_holds_16 : decode cX4_holds 16 = .ok (.bipush (-2), 2) := by decide +kernel
theorem dX4_holds_18 : decode cX4_holds 18 = .ok (.if_icmp .eq 7, 3) := by decide +kernel
theorem dX4_holds_21 : decode cX4_holds 21 = .ok (.iconst 1, 1) := by decide +kernel
theorem dX4_holds_22 : decode cX4_holds 22 = .ok (.goto 4, 3) := by decide +kernel
theorem dX4_holds_25 : decode cX4_holds 25 = .ok (.iconst 0, 1) := by decide +kernel
theorem dX4_holds_26 : decode cX4_holds 26 = .ok (.ireturn, 1) := by decide +kernel
set_option maxRecDepth 20000 in
theorem ggX4_isWithin_X4_endOf : GoodIn wsX4_isWithin wsX4_endOf := goodIn_r _ [6, 7, 8, 9, 10, 5, 11, 12, 13, 1, 14, 15, 16, 17, 18, 19] (by decide +kernel) (by decide +kernel)
set_option maxRecDepth 20000 in
theorem gX4_isWithin_X4_endOf : GoodIn wsX4_isWithin (wsV RX4 50 RX4 yX4_endOf wsX4_endOf) := goodIn_app (goodIn_of _ (by decide +kernel)) ggX4_isWithin_X4_endOf
theorem dX4_isWithin_0 : decode cX4_isWithin 0 = .ok (.aload_n 0, 1) := by decide +kernel
theorem dX4_isWithin_1 : decode cX4_isWithin 1 = .ok (.getfield 15, 3) := by decide +kernel
theorem dX4_isWithin_4 : decode cX4_isWithin 4 = .ok (.iload_n 1, 1) := by decide +kernel
theorem dX4_isWithin_5 : decode cX4_isWithin 5 = .ok (.iaload, 1) := by decide +kernel
theorem dX4_isWithin_6 : decode cX4_isWithin 6 = .ok (.aload_n 0, 1) := by decide +kernel
theorem dX4_isWithin_7 : decode cX4_isWithin 7 = .ok (.getfield 15, 3) := by decide +kernel
theorem dX4_isWithin_10 : decode cX4_isWithin 10 = .ok (.iload_n 2, 1) := by decide +kernel
theorem dX4_isWithin_11 : decode cX4_isWithin 11 = .ok (.iaload, 1) := by decide +kernel
theorem dX4_isWithin_12 : decode cX4_isWithin 12 = .ok (.if_icmp .lt 26, 3) := by decide +kernel
theorem dX4_isWithin_15 : decode cX4_isWithin 15 = .ok (.aload_n 0, 1) := by decide +kernel
theorem dX4_isWithin_16 : decode cX4_isWithin 16 = .ok (.getfield 15, 3) := by decide +kernel
theorem dX4_isWithin_19 : decode cX4_isWithin 19 = .ok (.iload_n 1, 1) := by decide +kernel
theorem dX4_isWithin_20 : decode cX4_isWithin 20 = .ok (.iaload, 1) := by decide +kernel
theorem dX4_isWithin_21 : decode cX4_isWithin 21 = .ok (.aload_n 0, 1) := by decide +kernel
theorem dX4_isWithin_22 : decode cX4_isWithin 22 = .ok (.aload_n 0, 1) := by decide +kernel
theorem dX4_isWithin_23 : decode cX4_isWithin 23 = .ok (.getfield 15, 3) := by decide +kernel
theorem dX4_isWithin_26 : decode cX4_isWithin 26 = .ok (.iload_n 2, 1) := by decide +kernel
theorem dX4_isWithin_27 : decode cX4_isWithin 27 = .ok (.iaload, 1) := by decide +kernel
theorem dX4_isWithin_28 : decode cX4_isWithin 28 = .ok (.invokevirtual 50, 3) := by decide +kernel
theorem dX4_isWithin_31 : decode cX4_isWithin 31 = .ok (.if_icmp .ge 7, 3) := by decide +kernel
theorem dX4_isWithin_34 : decode cX4_isWithin 34 = .ok (.iconst 1, 1) := by decide +kernel
theorem dX4_isWithin_35 : decode cX4_isWithin 35 = .ok (.goto 4, 3) := by decide +kernel
theorem dX4_isWithin_38 : decode cX4_isWithin 38 = .ok (.iconst 0, 1) := by decide +kernel
theorem dX4_isWithin_39 : decode cX4_isWithin 39 = .ok (.ireturn, 1) := by decide +kernel
theorem dX4_childCount_0 : decode cX4_childCount 0 = .ok (.iconst 0, 1) := by decide +kernel
theorem dX4_childCount_1 : decode cX4_childCount 1 = .ok (.istore_n 2, 1) := by decide +kernel
theorem dX4_childCount_2 : decode cX4_childCount 2 = .ok (.aload_n 0, 1) := by decide +kernel
theorem dX4_childCount_3 : decode cX4_childCount 3 = .ok (.getfield 15, 3) := by decide +kernel
theorem dX4_childCount_6 : decode cX4_childCount 6 = .ok (.iload_n 1, 1) := by decide +kernel
theorem dX4_childCount_7 : decode cX4_childCount 7 = .ok (.iaload, 1) := by decide +kernel
theorem dX4_childCount_8 : decode cX4_childCount 8 = .ok (.iconst 1, 1) := by decide +kernel
theorem dX4_childCount_9 : decode cX4_childCount 9 = .ok (.iadd, 1) := by decide +kernel
theorem dX4_childCount_10 : decode cX4_childCount 10 = .ok (.istore_n 3, 1) := by decide +kernel
theorem dX4_childCount_11 : decode cX4_childCount 11 = .ok (.iload_n 3, 1) := by decide +kernel
theorem dX4_childCount_12 : decode cX4_childCount 12 = .ok (.aload_n 0, 1) := by decide +kernel
theorem dX4_childCount_13 : decode cX4_childCount 13 = .ok (.getfield 36, 3) := by decide +kernel
theorem dX4_childCount_16 : decode cX4_childCount 16 = .ok (.if_icmp .ge 27, 3) := by decide +kernel
theorem dX4_childCount_19 : decode cX4_childCount 19 = .ok (.aload_n 0, 1) := by decide +kernel
theorem dX4_childCount_20 : decode cX4_childCount 20 = .ok (.getfield 18, 3) := by decide +kernel
theorem dX4_childCount_23 : decode cX4_childCount 23 = .ok (.aload_n 0, 1) := by decide +kernel
theorem dX4_childCount_24 : decode cX4_childCount 24 = .ok (.getfield 9, 3) := by decide +kernel
theorem dX4_childCount_27 : decode cX4_childCount 27 = .ok (.iload_n 3, 1) := by decide +kernel
theorem dX4_childCount_28 : decode cX4_childCount 28 = .ok (.iaload, 1) := by decide +kernel
theorem dX4_childCount_29 : decode cX4_childCount 29 = .ok (.iaload, 1) := by decide +kernel
theorem dX4_childCount_30 : decode cX4_childCount 30 = .ok (.iload_n 1, 1) := by decide +kernel
theorem dX4_childCount_31 : decode cX4_childCount 31 = .ok (.if_icmp .ne 6, 3) := by decide +kernel
theorem dX4_childCount_34 : decode cX4_childCount 34 = .ok (.iinc 2 1, 3) := by decide +kernel
theorem dX4_childCount_37 : decode cX4_childCount 37 = .ok (.iinc 3 1, 3) := by decide +kernel
theorem dX4_childCount_40 : decode cX4_childCount 40 = .ok (.goto (-29), 3) := by decide +kernel
theorem dX4_childCount_43 : decode cX4_childCount 43 = .ok (.iload_n 2, 1) := by decide +kernel
theorem dX4_childCount_44 : decode cX4_childCount 44 = .ok (.ireturn, 1) := by decide +kernel
set_option maxRecDepth 20000 in
theorem ggX4_slotFor_X4_endOf : GoodIn wsX4_slotFor wsX4_endOf := goodIn_r _ [9, 2, 10, 11, 12, 8, 13, 3, 4, 1, 14, 15, 16, 17, 18, 19] (by decide +kernel) (by decide +kernel)
set_option maxRecDepth 20000 in
theorem gX4_slotFor_X4_endOf : GoodIn wsX4_slotFor (wsV RX4 50 RX4 yX4_endOf wsX4_endOf) := goodIn_app (goodIn_of _ (by decide +kernel)) ggX4_slotFor_X4_endOf
theorem dX4_slotFor_0 : decode cX4_slotFor 0 = .ok (.iconst 0, 1) := by decide +kernel
theorem dX4_slotFor_1 : decode cX4_slotFor 1 = .ok (.istore_n 3, 1) := by decide +kernel
theorem dX4_slotFor_2 : decode cX4_slotFor 2 = .ok (.aload_n 0, 1) := by decide +kernel
theorem dX4_slotFor_3 : decode cX4_slotFor 3 = .ok (.getfield 15, 3) := by decide +kernel
theorem dX4_slotFor_6 : decode cX4_slotFor 6 = .ok (.iload_n 1, 1) := by decide +kernel
theorem dX4_slotFor_7 : decode cX4_slotFor 7 = .ok (.iaload, 1) := by decide +kernel
theorem dX4_slotFor_8 : decode cX4_slotFor 8 = .ok (.iconst 1, 1) := by decide +kernel
theorem dX4_slotFor_9 : decode cX4_slotFor 9 = .ok (.iadd, 1) := by decide +kernel
theorem dX4_slotFor_10 : decode cX4_slotFor 10 = .ok (.istore 4, 2) := by decide +kernel
theorem dX4_slotFor_12 : decode cX4_slotFor 12 = .ok (.iload 4, 2) := by decide +kernel
theorem dX4_slotFor_14 : decode cX4_slotFor 14 = .ok (.aload_n 0, 1) := by decide +kernel
theorem dX4_slotFor_15 : decode cX4_slotFor 15 = .ok (.getfield 36, 3) := by decide +kernel
theorem dX4_slotFor_18 : decode cX4_slotFor 18 = .ok (.if_icmp .ge 36, 3) := by decide +kernel
theorem dX4_slotFor_21 : decode cX4_slotFor 21 = .ok (.aload_n 0, 1) := by decide +kernel
theorem dX4_slotFor_22 : decode cX4_slotFor 22 = .ok (.getfield 18, 3) := by decide +kernel
theorem dX4_slotFor_25 : decode cX4_slotFor 25 = .ok (.aload_n 0, 1) := by decide +kernel
theorem dX4_slotFor_26 : decode cX4_slotFor 26 = .ok (.getfield 9, 3) := by decide +kernel
theorem dX4_slotFor_29 : decode cX4_slotFor 29 = .ok (.iload 4, 2) := by decide +kernel
theorem dX4_slotFor_31 : decode cX4_slotFor 31 = .ok (.iaload, 1) := by decide +kernel
theorem dX4_slotFor_32 : decode cX4_slotFor 32 = .ok (.iaload, 1) := by decide +kernel
theorem dX4_slotFor_33 : decode cX4_slotFor 33 = .ok (.iload_n 1, 1) := by decide +kernel
theorem dX4_slotFor_34 : decode cX4_slotFor 34 = .ok (.if_icmp .ne 14, 3) := by decide +kernel
theorem dX4_slotFor_37 : decode cX4_slotFor 37 = .ok (.iload_n 3, 1) := by decide +kernel
theorem dX4_slotFor_38 : decode cX4_slotFor 38 = .ok (.iload_n 2, 1) := by decide +kernel
theorem dX4_slotFor_39 : decode cX4_slotFor 39 = .ok (.if_icmp .ne 6, 3) := by decide +kernel
theorem dX4_slotFor_42 : decode cX4_slotFor 42 = .ok (.iload 4, 2) := by decide +kernel
theorem dX4_slotFor_44 : decode cX4_slotFor 44 = .ok (.ireturn, 1) := by decide +kernel
theorem dX4_slotFor_45 : decode cX4_slotFor 45 = .ok (.iinc 3 1, 3) := by decide +kernel
theorem dX4_slotFor_48 : decode cX4_slotFor 48 = .ok (.iinc 4 1, 3) := by decide +kernel
theorem dX4_slotFor_51 : decode cX4_slotFor 51 = .ok (.goto (-39), 3) := by decide +kernel
theorem dX4_slotFor_54 : decode cX4_slotFor 54 = .ok (.aload_n 0, 1) := by decide +kernel
theorem dX4_slotFor_55 : decode cX4_slotFor 55 = .ok (.aload_n 0, 1) := by decide +kernel
theorem dX4_slotFor_56 : decode cX4_slotFor 56 = .ok (.getfield 15, 3) := by decide +kernel
theorem dX4_slotFor_59 : decode cX4_slotFor 59 = .ok (.iload_n 1, 1) := by decide +kernel
theorem dX4_slotFor_60 : decode cX4_slotFor 60 = .ok (.iaload, 1) := by decide +kernel
theorem dX4_slotFor_61 : decode cX4_slotFor 61 = .ok (.invokevirtual 50, 3) := by decide +kernel
theorem dX4_slotFor_64 : decode cX4_slotFor 64 = .ok (.ireturn, 1) := by decide +kernel
set_option maxRecDepth 20000 in
theorem ggX4_endOf_X4_parentSpot : GoodIn wsX4_endOf wsX4_parentSpot := goodIn_r _ [6, 7, 8, 9, 10, 11, 12, 13, 14, 15] (by decide +kernel) (by decide +kernel)
set_option maxRecDepth 20000 in
theorem gX4_endOf_X4_parentSpot : GoodIn wsX4_endOf (wsV RX4 54 RX4 yX4_parentSpot wsX4_parentSpot) := goodIn_app (goodIn_of _ (by decide +kernel)) ggX4_endOf_X4_parentSpot
theorem dX4_endOf_0 : decode cX4_endOf 0 = .ok (.iload_n 1, 1) := by decide +kernel
theorem dX4_endOf_1 : decode cX4_endOf 1 = .ok (.iconst 1, 1) := by decide +kernel
theorem dX4_endOf_2 : decode cX4_endOf 2 = .ok (.iadd, 1) := by decide +kernel
theorem dX4_endOf_3 : decode cX4_endOf 3 = .ok (.istore_n 2, 1) := by decide +kernel
theorem dX4_endOf_4 : decode cX4_endOf 4 = .ok (.iload_n 2, 1) := by decide +kernel
theorem dX4_endOf_5 : decode cX4_endOf 5 = .ok (.aload_n 0, 1) := by decide +kernel
theorem dX4_endOf_6 : decode cX4_endOf 6 = .ok (.getfield 36, 3) := by decide +kernel
theorem dX4_endOf_9 : decode cX4_endOf 9 = .ok (.if_icmp .ge 20, 3) := by decide +kernel
theorem dX4_endOf_12 : decode cX4_endOf 12 = .ok (.aload_n 0, 1) := by decide +kernel
theorem dX4_endOf_13 : decode cX4_endOf 13 = .ok (.iload_n 2, 1) := by decide +kernel
theorem dX4_endOf_14 : decode cX4_endOf 14 = .ok (.invokevirtual 54, 3) := by decide +kernel
theorem dX4_endOf_17 : decode cX4_endOf 17 = .ok (.iload_n 1, 1) := by decide +kernel
theorem dX4_endOf_18 : decode cX4_endOf 18 = .ok (.if_icmp .ge 5, 3) := by decide +kernel
theorem dX4_endOf_21 : decode cX4_endOf 21 = .ok (.iload_n 2, 1) := by decide +kernel
theorem dX4_endOf_22 : decode cX4_endOf 22 = .ok (.ireturn, 1) := by decide +kernel
theorem dX4_endOf_23 : decode cX4_endOf 23 = .ok (.iinc 2 1, 3) := by decide +kernel
theorem dX4_endOf_26 : decode cX4_endOf 26 = .ok (.goto (-22), 3) := by decide +kernel
theorem dX4_endOf_29 : decode cX4_endOf 29 = .ok (.aload_n 0, 1) := by decide +kernel
theorem dX4_endOf_30 : decode cX4_endOf 30 = .ok (.getfield 36, 3) := by decide +kernel
theorem dX4_endOf_33 : decode cX4_endOf 33 = .ok (.ireturn, 1) := by decide +kernel
theorem dX4_parentSpot_0 : decode cX4_parentSpot 0 = .ok (.aload_n 0, 1) := by decide +kernel
theorem dX4_parentSpot_1 : decode cX4_parentSpot 1 = .ok (.getfield 18, 3) := by decide +kernel
theorem dX4_parentSpot_4 : decode cX4_parentSpot 4 = .ok (.aload_n 0, 1) := by decide +kernel
theorem dX4_parentSpot_5 : decode cX4_parentSpot 5 = .ok (.getfield 9, 3) := by decide +kernel
theorem dX4_parentSpot_8 : decode cX4_parentSpot 8 = .ok (.iload_n 1, 1) := by decide +kernel
theorem dX4_parentSpot_9 : decode cX4_parentSpot 9 = .ok (.iaload, 1) := by decide +kernel
theorem dX4_parentSpot_10 : decode cX4_parentSpot 10 = .ok (.iaload, 1) := by decide +kernel
theorem dX4_parentSpot_11 : decode cX4_parentSpot 11 = .ok (.istore_n 2, 1) := by decide +kernel
theorem dX4_parentSpot_12 : decode cX4_parentSpot 12 = .ok (.iload_n 2, 1) := by decide +kernel
theorem dX4_parentSpot_13 : decode cX4_parentSpot 13 = .ok (.ifCond .ge 7, 3) := by decide +kernel
theorem dX4_parentSpot_16 : decode cX4_parentSpot 16 = .ok (.iconst (-1), 1) := by decide +kernel
theorem dX4_parentSpot_17 : decode cX4_parentSpot 17 = .ok (.goto 9, 3) := by decide +kernel
theorem dX4_parentSpot_20 : decode cX4_parentSpot 20 = .ok (.aload_n 0, 1) := by decide +kernel
theorem dX4_parentSpot_21 : decode cX4_parentSpot 21 = .ok (.getfield 15, 3) := by decide +kernel
theorem dX4_parentSpot_24 : decode cX4_parentSpot 24 = .ok (.iload_n 2, 1) := by decide +kernel
theorem dX4_parentSpot_25 : decode cX4_parentSpot 25 = .ok (.iaload, 1) := by decide +kernel
theorem dX4_parentSpot_26 : decode cX4_parentSpot 26 = .ok (.ireturn, 1) := by decide +kernel
set_option maxRecDepth 20000 in
theorem ggX4_plant_X4_putInto : GoodIn wsX4_plant wsX4_putInto := goodIn_r _ [7, 8, 9, 10, 11, 6, 12, 13, 14, 15, 16, 17, 18, 19, 20, 21, 22, 23, 24, 25, 26, 27, 28, 29] (by decide +kernel) (by decide +kernel)
set_option maxRecDepth 20000 in
theorem gX4_plant_X4_putInto : GoodIn wsX4_plant (wsV RX4 57 RX4 yX4_putInto wsX4_putInto) := goodIn_app (goodIn_of _ (by decide +kernel)) ggX4_plant_X4_putInto
theorem dX4_plant_0 : decode cX4_plant 0 = .ok (.aload_n 0, 1) := by decide +kernel
theorem dX4_plant_1 : decode cX4_plant 1 = .ok (.getfield 18, 3) := by decide +kernel
theorem dX4_plant_4 : decode cX4_plant 4 = .ok (.iload_n 1, 1) := by decide +kernel
theorem dX4_plant_5 : decode cX4_plant 5 = .ok (.iconst (-1), 1) := by decide +kernel
theorem dX4_plant_6 : decode cX4_plant 6 = .ok (.iastore, 1) := by decide +kernel
theorem dX4_plant_7 : decode cX4_plant 7 = .ok (.aload_n 0, 1) := by decide +kernel
theorem dX4_plant_8 : decode cX4_plant 8 = .ok (.getfield 21, 3) := by decide +kernel
theorem dX4_plant_11 : decode cX4_plant 11 = .ok (.iload_n 1, 1) := by decide +kernel
theorem dX4_plant_12 : decode cX4_plant 12 = .ok (.iload_n 2, 1) := by decide +kernel
theorem dX4_plant_13 : decode cX4_plant 13 = .ok (.iastore, 1) := by decide +kernel
theorem dX4_plant_14 : decode cX4_plant 14 = .ok (.aload_n 0, 1) := by decide +kernel
theorem dX4_plant_15 : decode cX4_plant 15 = .ok (.iconst 0, 1) := by decide +kernel
theorem dX4_plant_16 : decode cX4_plant 16 = .ok (.iload_n 1, 1) := by decide +kernel
theorem dX4_plant_17 : decode cX4_plant 17 = .ok (.invokevirtual 57, 3) := by decide +kernel
theorem dX4_plant_20 : decode cX4_plant 20 = .ok (.return_, 1) := by decide +kernel
set_option maxRecDepth 20000 in
theorem ggX4_attach_X4_slotFor : GoodIn wsX4_attach wsX4_slotFor := goodIn_r _ [7, 8, 9, 1, 10, 11, 12, 13, 6, 14, 15, 16, 17, 18, 36, 37, 38, 39, 40, 41] (by decide +kernel) (by decide +kernel)
set_option maxRecDepth 20000 in
theorem gX4_attach_X4_slotFor : GoodIn wsX4_attach (wsV RX4 61 RX4 yX4_slotFor wsX4_slotFor) := goodIn_app (goodIn_of _ (by decide +kernel)) ggX4_attach_X4_slotFor
set_option maxRecDepth 20000 in
theorem ggX4_attach_X4_putInto : GoodIn wsX4_attach wsX4_putInto := goodIn_r _ [22, 23, 24, 25, 26, 6, 27, 10, 9, 28, 29, 30, 31, 32, 33, 34, 35, 8, 36, 37, 38, 39, 40, 41] (by decide +kernel) (by decide +kernel)
set_option maxRecDepth 20000 in
theorem gX4_attach_X4_putInto : GoodIn wsX4_attach (wsV RX4 57 RX4 yX4_putInto wsX4_putInto) := goodIn_app (goodIn_of _ (by decide +kernel)) ggX4_attach_X4_putInto
theorem dX4_attach_0 : decode cX4_attach 0 = .ok (.aload_n 0, 1) := by decide +kernel
theorem dX4_attach_1 : decode cX4_attach 1 = .ok (.getfield 18, 3) := by decide +kernel
theorem dX4_attach_4 : decode cX4_attach 4 = .ok (.iload_n 1, 1) := by decide +kernel
theorem dX4_attach_5 : decode cX4_attach 5 = .ok (.iload_n 3, 1) := by decide +kernel
theorem dX4_attach_6 : decode cX4_attach 6 = .ok (.iastore, 1) := by decide +kernel
theorem dX4_attach_7 : decode cX4_attach 7 = .ok (.aload_n 0, 1) := by decide +kernel
theorem dX4_attach_8 : decode cX4_attach 8 = .ok (.getfield 21, 3) := by decide +kernel
theorem dX4_attach_11 : decode cX4_attach 11 = .ok (.iload_n 1, 1) := by decide +kernel
theorem dX4_attach_12 : decode cX4_attach 12 = .ok (.iload_n 2, 1) := by decide +kernel
theorem dX4_attach_13 : decode cX4_attach 13 = .ok (.iastore, 1) := by decide +kernel
theorem dX4_attach_14 : decode cX4_attach 14 = .ok (.aload_n 0, 1) := by decide +kernel
theorem dX4_attach_15 : decode cX4_attach 15 = .ok (.aload_n 0, 1) := by decide +kernel
theorem dX4_attach_16 : decode cX4_attach 16 = .ok (.iload_n 3, 1) := by decide +kernel
theorem dX4_attach_17 : decode cX4_attach 17 = .ok (.iload 4, 2) := by decide +kernel
theorem dX4_attach_19 : decode cX4_attach 19 = .ok (.invokevirtual 61, 3) := by decide +kernel
theorem dX4_attach_22 : decode cX4_attach 22 = .ok (.iload_n 1, 1) := by decide +kernel
theorem dX4_attach_23 : decode cX4_attach 23 = .ok (.invokevirtual 57, 3) := by decide +kernel
theorem dX4_attach_26 : decode cX4_attach 26 = .ok (.return_, 1) := by decide +kernel
set_option maxRecDepth 20000 in
theorem ggX4_prune_X4_takeOut : GoodIn wsX4_prune wsX4_takeOut := goodIn_r _ [8, 9, 10, 2, 11, 12, 13, 14, 15, 16, 17, 18, 7, 19, 20, 21, 22, 23, 1, 24, 25, 26, 27, 28, 29, 30, 31, 32, 33] (by decide +kernel) (by decide +kernel)
set_option maxRecDepth 20000 in
theorem gX4_prune_X4_takeOut : GoodIn wsX4_prune (wsV RX4 65 RX4 yX4_takeOut wsX4_takeOut) := goodIn_app (goodIn_of _ (by decide +kernel)) ggX4_prune_X4_takeOut
theorem dX4_prune_0 : decode cX4_prune 0 = .ok (.aload_n 0, 1) := by decide +kernel
theorem dX4_prune_1 : decode cX4_prune 1 = .ok (.iload_n 1, 1) := by decide +kernel
theorem dX4_prune_2 : decode cX4_prune 2 = .ok (.invokevirtual 65, 3) := by decide +kernel
theorem dX4_prune_5 : decode cX4_prune 5 = .ok (.istore_n 2, 1) := by decide +kernel
theorem dX4_prune_6 : decode cX4_prune 6 = .ok (.iconst 0, 1) := by decide +kernel
theorem dX4_prune_7 : decode cX4_prune 7 = .ok (.istore_n 3, 1) := by decide +kernel
theorem dX4_prune_8 : decode cX4_prune 8 = .ok (.iload_n 3, 1) := by decide +kernel
theorem dX4_prune_9 : decode cX4_prune 9 = .ok (.iload_n 2, 1) := by decide +kernel
theorem dX4_prune_10 : decode cX4_prune 10 = .ok (.if_icmp .ge 35, 3) := by decide +kernel
theorem dX4_prune_13 : decode cX4_prune 13 = .ok (.aload_n 0, 1) := by decide +kernel
theorem dX4_prune_14 : decode cX4_prune 14 = .ok (.getfield 18, 3) := by decide +kernel
theorem dX4_prune_17 : decode cX4_prune 17 = .ok (.aload_n 0, 1) := by decide +kernel
theorem dX4_prune_18 : decode cX4_prune 18 = .ok (.getfield 24, 3) := by decide +kernel
theorem dX4_prune_21 : decode cX4_prune 21 = .ok (.iload_n 3, 1) := by decide +kernel
theorem dX4_prune_22 : decode cX4_prune 22 = .ok (.iaload, 1) := by decide +kernel
theorem dX4_prune_23 : decode cX4_prune 23 = .ok (.bipush (-2), 2) := by decide +kernel
theorem dX4_prune_25 : decode cX4_prune 25 = .ok (.iastore, 1) := by decide +kernel
theorem dX4_prune_26 : decode cX4_prune 26 = .ok (.aload_n 0, 1) := by decide +kernel
theorem dX4_prune_27 : decode cX4_prune 27 = .ok (.getfield 21, 3) := by decide +kernel
theorem dX4_prune_30 : decode cX4_prune 30 = .ok (.aload_n 0, 1) := by decide +kernel
theorem dX4_prune_31 : decode cX4_prune 31 = .ok (.getfield 24, 3) := by decide +kernel
theorem dX4_prune_34 : decode cX4_prune 34 = .ok (.iload_n 3, 1) := by decide +kernel
theorem dX4_prune_35 : decode cX4_prune 35 = .ok (.iaload, 1) := by decide +kernel
theorem dX4_prune_36 : decode cX4_prune 36 = .ok (.bipush (-2), 2) := by decide +kernel
theorem dX4_prune_38 : decode cX4_prune 38 = .ok (.iastore, 1) := by decide +kernel
theorem dX4_prune_39 : decode cX4_prune 39 = .ok (.iinc 3 1, 3) := by decide +kernel
theorem dX4_prune_42 : decode cX4_prune 42 = .ok (.goto (-34), 3) := by decide +kernel
theorem dX4_prune_45 : decode cX4_prune 45 = .ok (.iload_n 2, 1) := by decide +kernel
theorem dX4_prune_46 : decode cX4_prune 46 = .ok (.ireturn, 1) := by decide +kernel
set_option maxRecDepth 20000 in
theorem ggX4_transplant_X4_takeOut : GoodIn wsX4_transplant wsX4_takeOut := goodIn_r _ [6, 7, 8, 9, 10, 11, 12, 13, 14, 15, 16, 17, 5, 18, 19, 20, 21, 22, 1, 23, 24, 25, 26, 35, 36, 37, 38, 39, 40] (by decide +kernel) (by decide +kernel)
set_option maxRecDepth 20000 in
theorem gX4_transplant_X4_takeOut : GoodIn wsX4_transplant (wsV RX4 65 RX4 yX4_takeOut wsX4_takeOut) := goodIn_app (goodIn_of _ (by decide +kernel)) ggX4_transplant_X4_takeOut
set_option maxRecDepth 20000 in
theorem ggX4_transplant_X4_slotFor : GoodIn wsX4_transplant wsX4_slotFor := goodIn_r _ [30, 7, 14, 1, 8, 15, 16, 17, 5, 18, 19, 20, 21, 22, 35, 36, 37, 38, 39, 40] (by decide +kernel) (by decide +kernel)
set_option maxRecDepth 20000 in
theorem gX4_transplant_X4_slotFor : GoodIn wsX4_transplant (wsV RX4 61 RX4 yX4_slotFor wsX4_slotFor) := goodIn_app (goodIn_of _ (by decide +kernel)) ggX4_transplant_X4_slotFor
set_option maxRecDepth 20000 in
theorem ggX4_transplant_X4_putCarried : GoodIn wsX4_transplant wsX4_putCarried := goodIn_r _ [34, 8, 14, 10, 11, 12, 13, 9, 23, 24, 25, 5, 26, 7, 35, 36, 37, 38, 39, 40] (by decide +kernel) (by decide +kernel)
set_option maxRecDepth 20000 in
theorem gX4_transplant_X4_putCarried : GoodIn wsX4_transplant (wsV RX4 68 RX4 yX4_putCarried wsX4_putCarried) := goodIn_app (goodIn_of _ (by decide +kernel)) ggX4_transplant_X4_putCarried
theorem dX4_transplant_0 : decode cX4_transplant 0 = .ok (.aload_n 0, 1) := by decide +kernel
theorem dX4_transplant_1 : decode cX4_transplant 1 = .ok (.iload_n 1, 1) := by decide +kernel
theorem dX4_transplant_2 : decode cX4_transplant 2 = .ok (.invokevirtual 65, 3) := by decide +kernel
theorem dX4_transplant_5 : decode cX4_transplant 5 = .ok (.istore 4, 2) := by decide +kernel
theorem dX4_transplant_7 : decode cX4_transplant 7 = .ok (.aload_n 0, 1) := by decide +kernel
theorem dX4_transplant_8 : decode cX4_transplant 8 = .ok (.iload_n 2, 1) := by decide +kernel
theorem dX4_transplant_9 : decode cX4_transplant 9 = .ok (.iload_n 3, 1) := by decide +kernel
theorem dX4_transplant_10 : decode cX4_transplant 10 = .ok (.invokevirtual 61, 3) := by decide +kernel
theorem dX4_transplant_13 : decode cX4_transplant 13 = .ok (.istore 5, 2) := by decide +kernel
theorem dX4_transplant_15 : decode cX4_transplant 15 = .ok (.aload_n 0, 1) := by decide +kernel
theorem dX4_transplant_16 : decode cX4_transplant 16 = .ok (.getfield 18, 3) := by decide +kernel
theorem dX4_transplant_19 : decode cX4_transplant 19 = .ok (.iload_n 1, 1) := by decide +kernel
theorem dX4_transplant_20 : decode cX4_transplant 20 = .ok (.iload_n 2, 1) := by decide +kernel
theorem dX4_transplant_21 : decode cX4_transplant 21 = .ok (.iastore, 1) := by decide +kernel
theorem dX4_transplant_22 : decode cX4_transplant 22 = .ok (.aload_n 0, 1) := by decide +kernel
theorem dX4_transplant_23 : decode cX4_transplant 23 = .ok (.iload 5, 2) := by decide +kernel
theorem dX4_transplant_25 : decode cX4_transplant 25 = .ok (.iload 4, 2) := by decide +kernel
theorem dX4_transplant_27 : decode cX4_transplant 27 = .ok (.invokevirtual 68, 3) := by decide +kernel
theorem dX4_transplant_30 : decode cX4_transplant 30 = .ok (.return_, 1) := by decide +kernel
set_option maxRecDepth 20000 in
theorem ggX4_putInto_X4_putCarried : GoodIn wsX4_putInto wsX4_putCarried := goodIn_r _ [6, 7, 8, 9, 10, 11, 12, 1, 13, 14, 15, 5, 16, 17, 18, 19, 20, 21, 22, 23] (by decide +kernel) (by decide +kernel)
set_option maxRecDepth 20000 in
theorem gX4_putInto_X4_putCarried : GoodIn wsX4_putInto (wsV RX4 68 RX4 yX4_putCarried wsX4_putCarried) := goodIn_app (goodIn_of _ (by decide +kernel)) ggX4_putInto_X4_putCarried
theorem dX4_putInto_0 : decode cX4_putInto 0 = .ok (.aload_n 0, 1) := by decide +kernel
theorem dX4_putInto_1 : decode cX4_putInto 1 = .ok (.getfield 24, 3) := by decide +kernel
theorem dX4_putInto_4 : decode cX4_putInto 4 = .ok (.iconst 0, 1) := by decide +kernel
theorem dX4_putInto_5 : decode cX4_putInto 5 = .ok (.iload_n 2, 1) := by decide +kernel
theorem dX4_putInto_6 : decode cX4_putInto 6 = .ok (.iastore, 1) := by decide +kernel
theorem dX4_putInto_7 : decode cX4_putInto 7 = .ok (.aload_n 0, 1) := by decide +kernel
theorem dX4_putInto_8 : decode cX4_putInto 8 = .ok (.iload_n 1, 1) := by decide +kernel
theorem dX4_putInto_9 : decode cX4_putInto 9 = .ok (.iconst 1, 1) := by decide +kernel
theorem dX4_putInto_10 : decode cX4_putInto 10 = .ok (.invokevirtual 68, 3) := by decide +kernel
theorem dX4_putInto_13 : decode cX4_putInto 13 = .ok (.return_, 1) := by decide +kernel
set_option maxRecDepth 20000 in
theorem ggX4_takeOut_X4_endOf : GoodIn wsX4_takeOut wsX4_endOf := goodIn_r _ [13, 8, 14, 15, 16, 12, 17, 18, 2, 1, 23, 24, 25, 26, 27, 28] (by decide +kernel) (by decide +kernel)
set_option maxRecDepth 20000 in
theorem gX4_takeOut_X4_endOf : GoodIn wsX4_takeOut (wsV RX4 50 RX4 yX4_endOf wsX4_endOf) := goodIn_app (goodIn_of _ (by decide +kernel)) ggX4_takeOut_X4_endOf
set_option maxRecDepth 20000 in
theorem ggX4_takeOut_X4_renumberFrom : GoodIn wsX4_takeOut wsX4_renumberFrom := goodIn_r _ [22, 8, 1, 2, 23, 24, 25, 26, 27, 28] (by decide +kernel) (by decide +kernel)
set_option maxRecDepth 20000 in
theorem gX4_takeOut_X4_renumberFrom : GoodIn wsX4_takeOut (wsV RX4 71 RX4 yX4_renumberFrom wsX4_renumberFrom) := goodIn_app (goodIn_of _ (by decide +kernel)) ggX4_takeOut_X4_renumberFrom
theorem dX4_takeOut_0 : decode cX4_takeOut 0 = .ok (.aload_n 0, 1) := by decide +kernel
theorem dX4_takeOut_1 : decode cX4_takeOut 1 = .ok (.getfield 15, 3) := by decide +kernel
theorem dX4_takeOut_4 : decode cX4_takeOut 4 = .ok (.iload_n 1, 1) := by decide +kernel
theorem dX4_takeOut_5 : decode cX4_takeOut 5 = .ok (.iaload, 1) := by decide +kernel
theorem dX4_takeOut_6 : decode cX4_takeOut 6 = .ok (.istore_n 2, 1) := by decide +kernel
theorem dX4_takeOut_7 : decode cX4_takeOut 7 = .ok (.aload_n 0, 1) := by decide +kernel
theorem dX4_takeOut_8 : decode cX4_takeOut 8 = .ok (.iload_n 2, 1) := by decide +kernel
theorem dX4_takeOut_9 : decode cX4_takeOut 9 = .ok (.invokevirtual 50, 3) := by decide +kernel
theorem dX4_takeOut_12 : decode cX4_takeOut 12 = .ok (.istore_n 3, 1) := by decide +kernel
theorem dX4_takeOut_13 : decode cX4_takeOut 13 = .ok (.aload_n 0, 1) := by decide +kernel
theorem dX4_takeOut_14 : decode cX4_takeOut 14 = .ok (.getfield 9, 3) := by decide +kernel
theorem dX4_takeOut_17 : decode cX4_takeOut 17 = .ok (.iload_n 2, 1) := by decide +kernel
theorem dX4_takeOut_18 : decode cX4_takeOut 18 = .ok (.aload_n 0, 1) := by decide +kernel
theorem dX4_takeOut_19 : decode cX4_takeOut 19 = .ok (.getfield 24, 3) := by decide +kernel
theorem dX4_takeOut_22 : decode cX4_takeOut 22 = .ok (.iconst 0, 1) := by decide +kernel
theorem dX4_takeOut_23 : decode cX4_takeOut 23 = .ok (.iload_n 3, 1) := by decide +kernel
theorem dX4_takeOut_24 : decode cX4_takeOut 24 = .ok (.iload_n 2, 1) := by decide +kernel
theorem dX4_takeOut_25 : decode cX4_takeOut 25 = .ok (.isub, 1) := by decide +kernel
theorem dX4_takeOut_26 : decode cX4_takeOut 26 = .ok (.invokestatic 40, 3) := by decide +kernel
theorem dX4_takeOut_29 : decode cX4_takeOut 29 = .ok (.aload_n 0, 1) := by decide +kernel
theorem dX4_takeOut_30 : decode cX4_takeOut 30 = .ok (.getfield 9, 3) := by decide +kernel
theorem dX4_takeOut_33 : decode cX4_takeOut 33 = .ok (.iload_n 3, 1) := by decide +kernel
theorem dX4_takeOut_34 : decode cX4_takeOut 34 = .ok (.aload_n 0, 1) := by decide +kernel
theorem dX4_takeOut_35 : decode cX4_takeOut 35 = .ok (.getfield 9, 3) := by decide +kernel
theorem dX4_takeOut_38 : decode cX4_takeOut 38 = .ok (.iload_n 2, 1) := by decide +kernel
theorem dX4_takeOut_39 : decode cX4_takeOut 39 = .ok (.aload_n 0, 1) := by decide +kernel
theorem dX4_takeOut_40 : decode cX4_takeOut 40 = .ok (.getfield 36, 3) := by decide +kernel
theorem dX4_takeOut_43 : decode cX4_takeOut 43 = .ok (.iload_n 3, 1) := by decide +kernel
theorem dX4_takeOut_44 : decode cX4_takeOut 44 = .ok (.isub, 1) := by decide +kernel
theorem dX4_takeOut_45 : decode cX4_takeOut 45 = .ok (.invokestatic 40, 3) := by decide +kernel
theorem dX4_takeOut_48 : decode cX4_takeOut 48 = .ok (.aload_n 0, 1) := by decide +kernel
theorem dX4_takeOut_49 : decode cX4_takeOut 49 = .ok (.dup, 1) := by decide +kernel
theorem dX4_takeOut_50 : decode cX4_takeOut 50 = .ok (.getfield 36, 3) := by decide +kernel
theorem dX4_takeOut_53 : decode cX4_takeOut 53 = .ok (.iload_n 3, 1) := by decide +kernel
theorem dX4_takeOut_54 : decode cX4_takeOut 54 = .ok (.iload_n 2, 1) := by decide +kernel
theorem dX4_takeOut_55 : decode cX4_takeOut 55 = .ok (.isub, 1) := by decide +kernel
theorem dX4_takeOut_56 : decode cX4_takeOut 56 = .ok (.isub, 1) := by decide +kernel
theorem dX4_takeOut_57 : decode cX4_takeOut 57 = .ok (.putfield 36, 3) := by decide +kernel
theorem dX4_takeOut_60 : decode cX4_takeOut 60 = .ok (.aload_n 0, 1) := by decide +kernel
theorem dX4_takeOut_61 : decode cX4_takeOut 61 = .ok (.iload_n 2, 1) := by decide +kernel
theorem dX4_takeOut_62 : decode cX4_takeOut 62 = .ok (.invokevirtual 71, 3) := by decide +kernel
theorem dX4_takeOut_65 : decode cX4_takeOut 65 = .ok (.iload_n 3, 1) := by decide +kernel
theorem dX4_takeOut_66 : decode cX4_takeOut 66 = .ok (.iload_n 2, 1) := by decide +kernel
theorem dX4_takeOut_67 : decode cX4_takeOut 67 = .ok (.isub, 1) := by decide +kernel
theorem dX4_takeOut_68 : decode cX4_takeOut 68 = .ok (.ireturn, 1) := by decide +kernel
set_option maxRecDepth 20000 in
theorem ggX4_putCarried_X4_renumberFrom : GoodIn wsX4_putCarried wsX4_renumberFrom := goodIn_r _ [12, 2, 13, 1, 14, 15, 16, 17, 18, 19] (by decide +kernel) (by decide +kernel)
set_option maxRecDepth 20000 in
theorem gX4_putCarried_X4_renumberFrom : GoodIn wsX4_putCarried (wsV RX4 71 RX4 yX4_renumberFrom wsX4_renumberFrom) := goodIn_app (goodIn_of _ (by decide +kernel)) ggX4_putCarried_X4_renumberFrom
theorem dX4_putCarried_0 : decode cX4_putCarried 0 = .ok (.aload_n 0, 1) := by decide +kernel
theorem dX4_putCarried_1 : decode cX4_putCarried 1 = .ok (.getfield 9, 3) := by decide +kernel
theorem dX4_putCarried_4 : decode cX4_putCarried 4 = .ok (.iload_n 1, 1) := by decide +kernel
theorem dX4_putCarried_5 : decode cX4_putCarried 5 = .ok (.aload_n 0, 1) := by decide +kernel
theorem dX4_putCarried_6 : decode cX4_putCarried 6 = .ok (.getfield 9, 3) := by decide +kernel
theorem dX4_putCarried_9 : decode cX4_putCarried 9 = .ok (.iload_n 1, 1) := by decide +kernel
theorem dX4_putCarried_10 : decode cX4_putCarried 10 = .ok (.iload_n 2, 1) := by decide +kernel
theorem dX4_putCarried_11 : decode cX4_putCarried 11 = .ok (.iadd, 1) := by decide +kernel
theorem dX4_putCarried_12 : decode cX4_putCarried 12 = .ok (.aload_n 0, 1) := by decide +kernel
theorem dX4_putCarried_13 : decode cX4_putCarried 13 = .ok (.getfield 36, 3) := by decide +kernel
theorem dX4_putCarried_16 : decode cX4_putCarried 16 = .ok (.iload_n 1, 1) := by decide +kernel
theorem dX4_putCarried_17 : decode cX4_putCarried 17 = .ok (.isub, 1) := by decide +kernel
theorem dX4_putCarried_18 : decode cX4_putCarried 18 = .ok (.invokestatic 40, 3) := by decide +kernel
theorem dX4_putCarried_21 : decode cX4_putCarried 21 = .ok (.aload_n 0, 1) := by decide +kernel
theorem dX4_putCarried_22 : decode cX4_putCarried 22 = .ok (.getfield 24, 3) := by decide +kernel
theorem dX4_putCarried_25 : decode cX4_putCarried 25 = .ok (.iconst 0, 1) := by decide +kernel
theorem dX4_putCarried_26 : decode cX4_putCarried 26 = .ok (.aload_n 0, 1) := by decide +kernel
theorem dX4_putCarried_27 : decode cX4_putCarried 27 = .ok (.getfield 9, 3) := by decide +kernel
theorem dX4_putCarried_30 : decode cX4_putCarried 30 = .ok (.iload_n 1, 1) := by decide +kernel
theorem dX4_putCarried_31 : decode cX4_putCarried 31 = .ok (.iload_n 2, 1) := by decide +kernel
theorem dX4_putCarried_32 : decode cX4_putCarried 32 = .ok (.invokestatic 40, 3) := by decide +kernel
theorem dX4_putCarried_35 : decode cX4_putCarried 35 = .ok (.aload_n 0, 1) := by decide +kernel
theorem dX4_putCarried_36 : decode cX4_putCarried 36 = .ok (.dup, 1) := by decide +kernel
theorem dX4_putCarried_37 : decode cX4_putCarried 37 = .ok (.getfield 36, 3) := by decide +kernel
theorem dX4_putCarried_40 : decode cX4_putCarried 40 = .ok (.iload_n 2, 1) := by decide +kernel
theorem dX4_putCarried_41 : decode cX4_putCarried 41 = .ok (.iadd, 1) := by decide +kernel
theorem dX4_putCarried_42 : decode cX4_putCarried 42 = .ok (.putfield 36, 3) := by decide +kernel
theorem dX4_putCarried_45 : decode cX4_putCarried 45 = .ok (.aload_n 0, 1) := by decide +kernel
theorem dX4_putCarried_46 : decode cX4_putCarried 46 = .ok (.iload_n 1, 1) := by decide +kernel
theorem dX4_putCarried_47 : decode cX4_putCarried 47 = .ok (.invokevirtual 71, 3) := by decide +kernel
theorem dX4_putCarried_50 : decode cX4_putCarried 50 = .ok (.return_, 1) := by decide +kernel
theorem dX4_renumberFrom_0 : decode cX4_renumberFrom 0 = .ok (.iload_n 1, 1) := by decide +kernel
theorem dX4_renumberFrom_1 : decode cX4_renumberFrom 1 = .ok (.istore_n 2, 1) := by decide +kernel
theorem dX4_renumberFrom_2 : decode cX4_renumberFrom 2 = .ok (.iload_n 2, 1) := by decide +kernel
theorem dX4_renumberFrom_3 : decode cX4_renumberFrom 3 = .ok (.aload_n 0, 1) := by decide +kernel
theorem dX4_renumberFrom_4 : decode cX4_renumberFrom 4 = .ok (.getfield 36, 3) := by decide +kernel
theorem dX4_renumberFrom_7 : decode cX4_renumberFrom 7 = .ok (.if_icmp .ge 21, 3) := by decide +kernel
theorem dX4_renumberFrom_10 : decode cX4_renumberFrom 10 = .ok (.aload_n 0, 1) := by decide +kernel
theorem dX4_renumberFrom_11 : decode cX4_renumberFrom 11 = .ok (.getfield 15, 3) := by decide +kernel
theorem dX4_renumberFrom_14 : decode cX4_renumberFrom 14 = .ok (.aload_n 0, 1) := by decide +kernel
theorem dX4_renumberFrom_15 : decode cX4_renumberFrom 15 = .ok (.getfield 9, 3) := by decide +kernel
theorem dX4_renumberFrom_18 : decode cX4_renumberFrom 18 = .ok (.iload_n 2, 1) := by decide +kernel
theorem dX4_renumberFrom_19 : decode cX4_renumberFrom 19 = .ok (.iaload, 1) := by decide +kernel
theorem dX4_renumberFrom_20 : decode cX4_renumberFrom 20 = .ok (.iload_n 2, 1) := by decide +kernel
theorem dX4_renumberFrom_21 : decode cX4_renumberFrom 21 = .ok (.iastore, 1) := by decide +kernel
theorem dX4_renumberFrom_22 : decode cX4_renumberFrom 22 = .ok (.iinc 2 1, 3) := by decide +kernel
theorem dX4_renumberFrom_25 : decode cX4_renumberFrom 25 = .ok (.goto (-23), 3) := by decide +kernel
theorem dX4_renumberFrom_28 : decode cX4_renumberFrom 28 = .ok (.return_, 1) := by decide +kernel
set_option maxRecDepth 20000 in
theorem ggX4_pick_X5_isIn : GoodIn wsX4_pick wsX5_isIn := goodIn_r _ [5] (by decide +kernel) (by decide +kernel)
set_option maxRecDepth 20000 in
theorem gX4_pick_X5_isIn_n75 : GoodIn wsX4_pick (wsX5_isIn) := ggX4_pick_X5_isIn
theorem dX4_pick_0 : decode cX4_pick 0 = .ok (.iconst 0, 1) := by decide +kernel
theorem dX4_pick_1 : decode cX4_pick 1 = .ok (.istore_n 3, 1) := by decide +kernel
theorem dX4_pick_2 : decode cX4_pick 2 = .ok (.iconst 0, 1) := by decide +kernel
theorem dX4_pick_3 : decode cX4_pick 3 = .ok (.istore 4, 2) := by decide +kernel
theorem dX4_pick_5 : decode cX4_pick 5 = .ok (.iload 4, 2) := by decide +kernel
theorem dX4_pick_7 : decode cX4_pick 7 = .ok (.aload_n 0, 1) := by decide +kernel
theorem dX4_pick_8 : decode cX4_pick 8 = .ok (.getfield 36, 3) := by decide +kernel
theorem dX4_pick_11 : decode cX4_pick 11 = .ok (.if_icmp .ge 39, 3) := by decide +kernel
theorem dX4_pick_14 : decode cX4_pick 14 = .ok (.iload_n 1, 1) := by decide +kernel
theorem dX4_pick_15 : decode cX4_pick 15 = .ok (.aload_n 0, 1) := by decide +kernel
theorem dX4_pick_16 : decode cX4_pick 16 = .ok (.getfield 9, 3) := by decide +kernel
theorem dX4_pick_19 : decode cX4_pick 19 = .ok (.iload 4, 2) := by decide +kernel
theorem dX4_pick_21 : decode cX4_pick 21 = .ok (.iaload, 1) := by decide +kernel
theorem dX4_pick_22 : decode cX4_pick 22 = .ok (.invokestatic 75, 3) := by decide +kernel
theorem dX4_pick_25 : decode cX4_pick 25 = .ok (.ifCond .eq 19, 3) := by decide +kernel
theorem dX4_pick_28 : decode cX4_pick 28 = .ok (.iload_n 3, 1) := by decide +kernel
theorem dX4_pick_29 : decode cX4_pick 29 = .ok (.iload_n 2, 1) := by decide +kernel
theorem dX4_pick_30 : decode cX4_pick 30 = .ok (.if_icmp .ne 11, 3) := by decide +kernel
theorem dX4_pick_33 : decode cX4_pick 33 = .ok (.aload_n 0, 1) := by decide +kernel
theorem dX4_pick_34 : decode cX4_pick 34 = .ok (.getfield 9, 3) := by decide +kernel
theorem dX4_pick_37 : decode cX4_pick 37 = .ok (.iload 4, 2) := by decide +kernel
theorem dX4_pick_39 : decode cX4_pick 39 = .ok (.iaload, 1) := by decide +kernel
theorem dX4_pick_40 : decode cX4_pick 40 = .ok (.ireturn, 1) := by decide +kernel
theorem dX4_pick_41 : decode cX4_pick 41 = .ok (.iinc 3 1, 3) := by decide +kernel
theorem dX4_pick_44 : decode cX4_pick 44 = .ok (.iinc 4 1, 3) := by decide +kernel
theorem dX4_pick_47 : decode cX4_pick 47 = .ok (.goto (-42), 3) := by decide +kernel
theorem dX4_pick_50 : decode cX4_pick 50 = .ok (.iconst (-1), 1) := by decide +kernel
theorem dX4_pick_51 : decode cX4_pick 51 = .ok (.ireturn, 1) := by decide +kernel
set_option maxRecDepth 20000 in
theorem ggX4_firstAlike_X4_areAlike : GoodIn wsX4_firstAlike wsX4_areAlike := goodIn_r _ [7, 8, 2, 9, 10, 11, 6, 12, 13, 14, 15, 16, 17, 18, 1, 19, 20, 21, 22, 23, 24] (by decide +kernel) (by decide +kernel)
set_option maxRecDepth 20000 in
theorem gX4_firstAlike_X4_areAlike : GoodIn wsX4_firstAlike (wsV RX4 79 RX4 yX4_areAlike wsX4_areAlike) := goodIn_app (goodIn_of _ (by decide +kernel)) ggX4_firstAlike_X4_areAlike
theorem dX4_firstAlike_0 : decode cX4_firstAlike 0 = .ok (.iconst 0, 1) := by decide +kernel
theorem dX4_firstAlike_1 : decode cX4_firstAlike 1 = .ok (.istore_n 2, 1) := by decide +kernel
theorem dX4_firstAlike_2 : decode cX4_firstAlike 2 = .ok (.iload_n 2, 1) := by decide +kernel
theorem dX4_firstAlike_3 : decode cX4_firstAlike 3 = .ok (.aload_n 0, 1) := by decide +kernel
theorem dX4_firstAlike_4 : decode cX4_firstAlike 4 = .ok (.getfield 15, 3) := by decide +kernel
theorem dX4_firstAlike_7 : decode cX4_firstAlike 7 = .ok (.iload_n 1, 1) := by decide +kernel
theorem dX4_firstAlike_8 : decode cX4_firstAlike 8 = .ok (.iaload, 1) := by decide +kernel
theorem dX4_firstAlike_9 : decode cX4_firstAlike 9 = .ok (.if_icmp .ge 30, 3) := by decide +kernel
theorem dX4_firstAlike_12 : decode cX4_firstAlike 12 = .ok (.aload_n 0, 1) := by decide +kernel
theorem dX4_firstAlike_13 : decode cX4_firstAlike 13 = .ok (.iload_n 2, 1) := by decide +kernel
theorem dX4_firstAlike_14 : decode cX4_firstAlike 14 = .ok (.aload_n 0, 1) := by decide +kernel
theorem dX4_firstAlike_15 : decode cX4_firstAlike 15 = .ok (.getfield 15, 3) := by decide +kernel
theorem dX4_firstAlike_18 : decode cX4_firstAlike 18 = .ok (.iload_n 1, 1) := by decide +kernel
theorem dX4_firstAlike_19 : decode cX4_firstAlike 19 = .ok (.iaload, 1) := by decide +kernel
theorem dX4_firstAlike_20 : decode cX4_firstAlike 20 = .ok (.invokevirtual 79, 3) := by decide +kernel
theorem dX4_firstAlike_23 : decode cX4_firstAlike 23 = .ok (.ifCond .eq 10, 3) := by decide +kernel
theorem dX4_firstAlike_26 : decode cX4_firstAlike 26 = .ok (.aload_n 0, 1) := by decide +kernel
theorem dX4_firstAlike_27 : decode cX4_firstAlike 27 = .ok (.getfield 9, 3) := by decide +kernel
theorem dX4_firstAlike_30 : decode cX4_firstAlike 30 = .ok (.iload_n 2, 1) := by decide +kernel
theorem dX4_firstAlike_31 : decode cX4_firstAlike 31 = .ok (.iaload, 1) := by decide +kernel
theorem dX4_firstAlike_32 : decode cX4_firstAlike 32 = .ok (.ireturn, 1) := by decide +kernel
theorem dX4_firstAlike_33 : decode cX4_firstAlike 33 = .ok (.iinc 2 1, 3) := by decide +kernel
theorem dX4_firstAlike_36 : decode cX4_firstAlike 36 = .ok (.goto (-34), 3) := by decide +kernel
theorem dX4_firstAlike_39 : decode cX4_firstAlike 39 = .ok (.iload_n 1, 1) := by decide +kernel
theorem dX4_firstAlike_40 : decode cX4_firstAlike 40 = .ok (.ireturn, 1) := by decide +kernel
set_option maxRecDepth 20000 in
theorem ggX4_areAlike_X4_endOf : GoodIn wsX4_areAlike wsX4_endOf := goodIn_r _ [7, 8, 9, 10, 11, 6, 12, 13, 2, 14, 15, 16, 17, 18, 19, 20] (by decide +kernel) (by decide +kernel)
set_option maxRecDepth 20000 in
theorem gX4_areAlike_X4_endOf : GoodIn wsX4_areAlike (wsV RX4 50 RX4 yX4_endOf wsX4_endOf) := goodIn_app (goodIn_of _ (by decide +kernel)) ggX4_areAlike_X4_endOf
set_option maxRecDepth 20000 in
theorem ggX4_areAlike_X4_parentSpot : GoodIn wsX4_areAlike wsX4_parentSpot := goodIn_r _ [12, 13, 2, 14, 15, 16, 17, 18, 19, 20] (by decide +kernel) (by decide +kernel)
set_option maxRecDepth 20000 in
theorem gX4_areAlike_X4_parentSpot : GoodIn wsX4_areAlike (wsV RX4 54 RX4 yX4_parentSpot wsX4_parentSpot) := goodIn_app (goodIn_of _ (by decide +kernel)) ggX4_areAlike_X4_parentSpot
theorem dX4_areAlike_0 : decode cX4_areAlike 0 = .ok (.aload_n 0, 1) := by decide +kernel
theorem dX4_areAlike_1 : decode cX4_areAlike 1 = .ok (.iload_n 1, 1) := by decide +kernel
theorem dX4_areAlike_2 : decode cX4_areAlike 2 = .ok (.invokevirtual 50, 3) := by decide +kernel
theorem dX4_areAlike_5 : decode cX4_areAlike 5 = .ok (.iload_n 1, 1) := by decide +kernel
theorem dX4_areAlike_6 : decode cX4_areAlike 6 = .ok (.isub, 1) := by decide +kernel
theorem dX4_areAlike_7 : decode cX4_areAlike 7 = .ok (.istore_n 3, 1) := by decide +kernel
theorem dX4_areAlike_8 : decode cX4_areAlike 8 = .ok (.aload_n 0, 1) := by decide +kernel
theorem dX4_areAlike_9 : decode cX4_areAlike 9 = .ok (.iload_n 2, 1) := by decide +kernel
theorem dX4_areAlike_10 : decode cX4_areAlike 10 = .ok (.invokevirtual 50, 3) := by decide +kernel
theorem dX4_areAlike_13 : decode cX4_areAlike 13 = .ok (.iload_n 2, 1) := by decide +kernel
theorem dX4_areAlike_14 : decode cX4_areAlike 14 = .ok (.isub, 1) := by decide +kernel
theorem dX4_areAlike_15 : decode cX4_areAlike 15 = .ok (.iload_n 3, 1) := by decide +kernel
theorem dX4_areAlike_16 : decode cX4_areAlike 16 = .ok (.if_icmp .ne 28, 3) := by decide +kernel
theorem dX4_areAlike_19 : decode cX4_areAlike 19 = .ok (.aload_n 0, 1) := by decide +kernel
theorem dX4_areAlike_20 : decode cX4_areAlike 20 = .ok (.getfield 21, 3) := by decide +kernel
theorem dX4_areAlike_23 : decode cX4_areAlike 23 = .ok (.aload_n 0, 1) := by decide +kernel
theorem dX4_areAlike_24 : decode cX4_areAlike 24 = .ok (.getfield 9, 3) := by decide +kernel
theorem dX4_areAlike_27 : decode cX4_areAlike 27 = .ok (.iload_n 1, 1) := by decide +kernel
theorem dX4_areAlike_28 : decode cX4_areAlike 28 = .ok (.iaload, 1) := by decide +kernel
theorem dX4_areAlike_29 : decode cX4_areAlike 29 = .ok (.iaload, 1) := by decide +kernel
theorem dX4_areAlike_30 : decode cX4_areAlike 30 = .ok (.aload_n 0, 1) := by decide +kernel
theorem dX4_areAlike_31 : decode cX4_areAlike 31 = .ok (.getfield 21, 3) := by decide +kernel
theorem dX4_areAlike_34 : decode cX4_areAlike 34 = .ok (.aload_n 0, 1) := by decide +kernel
theorem dX4_areAlike_35 : decode cX4_areAlike 35 = .ok (.getfield 9, 3) := by decide +kernel
theorem dX4_areAlike_38 : decode cX4_areAlike 38 = .ok (.iload_n 2, 1) := by decide +kernel
theorem dX4_areAlike_39 : decode cX4_areAlike 39 = .ok (.iaload, 1) := by decide +kernel
theorem dX4_areAlike_40 : decode cX4_areAlike 40 = .ok (.iaload, 1) := by decide +kernel
theorem dX4_areAlike_41 : decode cX4_areAlike 41 = .ok (.if_icmp .eq 5, 3) := by decide +kernel
theorem dX4_areAlike_44 : decode cX4_areAlike 44 = .ok (.iconst 0, 1) := by decide +kernel
theorem dX4_areAlike_45 : decode cX4_areAlike 45 = .ok (.ireturn, 1) := by decide +kernel
theorem dX4_areAlike_46 : decode cX4_areAlike 46 = .ok (.iconst 1, 1) := by decide +kernel
theorem dX4_areAlike_47 : decode cX4_areAlike 47 = .ok (.istore 4, 2) := by decide +kernel
theorem dX4_areAlike_49 : decode cX4_areAlike 49 = .ok (.iload 4, 2) := by decide +kernel
theorem dX4_areAlike_51 : decode cX4_areAlike 51 = .ok (.iload_n 3, 1) := by decide +kernel
theorem dX4_areAlike_52 : decode cX4_areAlike 52 = .ok (.if_icmp .ge 89, 3) := by decide +kernel
theorem dX4_areAlike_55 : decode cX4_areAlike 55 = .ok (.aload_n 0, 1) := by decide +kernel
theorem dX4_areAlike_56 : decode cX4_areAlike 56 = .ok (.getfield 21, 3) := by decide +kernel
theorem dX4_areAlike_59 : decode cX4_areAlike 59 = .ok (.aload_n 0, 1) := by decide +kernel
theorem dX4_areAlike_60 : decode cX4_areAlike 60 = .ok (.getfield 9, 3) := by decide +kernel
theorem dX4_areAlike_63 : decode cX4_areAlike 63 = .ok (.iload_n 1, 1) := by decide +kernel
theorem dX4_areAlike_64 : decode cX4_areAlike 64 = .ok (.iload 4, 2) := by decide +kernel
theorem dX4_areAlike_66 : decode cX4_areAlike 66 = .ok (.iadd, 1) := by decide +kernel
theorem dX4_areAlike_67 : decode cX4_areAlike 67 = .ok (.iaload, 1) := by decide +kernel
theorem dX4_areAlike_68 : decode cX4_areAlike 68 = .ok (.iaload, 1) := by decide +kernel
theorem dX4_areAlike_69 : decode cX4_areAlike 69 = .ok (.aload_n 0, 1) := by decide +kernel
theorem dX4_areAlike_70 : decode cX4_areAlike 70 = .ok (.getfield 21, 3) := by decide +kernel
theorem dX4_areAlike_73 : decode cX4_areAlike 73 = .ok (.aload_n 0, 1) := by decide +kernel
theorem dX4_areAlike_74 : decode cX4_areAlike 74 = .ok (.getfield 9, 3) := by decide +kernel
theorem dX4_areAlike_77 : decode cX4_areAlike 77 = .ok (.iload_n 2, 1) := by decide +kernel
theorem dX4_areAlike_78 : decode cX4_areAlike 78 = .ok (.iload 4, 2) := by decide +kernel
theorem dX4_areAlike_80 : decode cX4_areAlike 80 = .ok (.iadd, 1) := by decide +kernel
theorem dX4_areAlike_81 : decode cX4_areAlike 81 = .ok (.iaload, 1) := by decide +kernel
theorem dX4_areAlike_82 : decode cX4_areAlike 82 = .ok (.iaload, 1) := by decide +kernel
theorem dX4_areAlike_83 : decode cX4_areAlike 83 = .ok (.if_icmp .ne 7, 3) := by decide +kernel
theorem dX4_areAlike_86 : decode cX4_areAlike 86 = .ok (.iconst 1, 1) := by decide +kernel
theorem dX4_areAlike_87 : decode cX4_areAlike 87 = .ok (.goto 4, 3) := by decide +kernel
theorem dX4_areAlike_90 : decode cX4_areAlike 90 = .ok (.iconst 0, 1) := by decide +kernel
theorem dX4_areAlike_91 : decode cX4_areAlike 91 = .ok (.istore 5, 2) := by decide +kernel
theorem dX4_areAlike_93 : decode cX4_areAlike 93 = .ok (.aload_n 0, 1) := by decide +kernel
theorem dX4_areAlike_94 : decode cX4_areAlike 94 = .ok (.iload_n 1, 1) := by decide +kernel
theorem dX4_areAlike_95 : decode cX4_areAlike 95 = .ok (.iload 4, 2) := by decide +kernel
theorem dX4_areAlike_97 : decode cX4_areAlike 97 = .ok (.iadd, 1) := by decide +kernel
theorem dX4_areAlike_98 : decode cX4_areAlike 98 = .ok (.invokevirtual 54, 3) := by decide +kernel
theorem dX4_areAlike_101 : decode cX4_areAlike 101 = .ok (.iload_n 1, 1) := by decide +kernel
theorem dX4_areAlike_102 : decode cX4_areAlike 102 = .ok (.isub, 1) := by decide +kernel
theorem dX4_areAlike_103 : decode cX4_areAlike 103 = .ok (.aload_n 0, 1) := by decide +kernel
theorem dX4_areAlike_104 : decode cX4_areAlike 104 = .ok (.iload_n 2, 1) := by decide +kernel
theorem dX4_areAlike_105 : decode cX4_areAlike 105 = .ok (.iload 4, 2) := by decide +kernel
theorem dX4_areAlike_107 : decode cX4_areAlike 107 = .ok (.iadd, 1) := by decide +kernel
theorem dX4_areAlike_108 : decode cX4_areAlike 108 = .ok (.invokevirtual 54, 3) := by decide +kernel
theorem dX4_areAlike_111 : decode cX4_areAlike 111 = .ok (.iload_n 2, 1) := by decide +kernel
theorem dX4_areAlike_112 : decode cX4_areAlike 112 = .ok (.isub, 1) := by decide +kernel
theorem dX4_areAlike_113 : decode cX4_areAlike 113 = .ok (.if_icmp .ne 7, 3) := by decide +kernel
theorem dX4_areAlike_116 : decode cX4_areAlike 116 = .ok (.iconst 1, 1) := by decide +kernel
theorem dX4_areAlike_117 : decode cX4_areAlike 117 = .ok (.goto 4, 3) := by decide +kernel
theorem dX4_areAlike_120 : decode cX4_areAlike 120 = .ok (.iconst 0, 1) := by decide +kernel
theorem dX4_areAlike_121 : decode cX4_areAlike 121 = .ok (.istore 6, 2) := by decide +kernel
theorem dX4_areAlike_123 : decode cX4_areAlike 123 = .ok (.iload 5, 2) := by decide +kernel
theorem dX4_areAlike_125 : decode cX4_areAlike 125 = .ok (.ifCond .eq 8, 3) := by decide +kernel
theorem dX4_areAlike_128 : decode cX4_areAlike 128 = .ok (.iload 6, 2) := by decide +kernel
theorem dX4_areAlike_130 : decode cX4_areAlike 130 = .ok (.ifCond .ne 5, 3) := by decide +kernel
theorem dX4_areAlike_133 : decode cX4_areAlike 133 = .ok (.iconst 0, 1) := by decide +kernel
theorem dX4_areAlike_134 : decode cX4_areAlike 134 = .ok (.ireturn, 1) := by decide +kernel
theorem dX4_areAlike_135 : decode cX4_areAlike 135 = .ok (.iinc 4 1, 3) := by decide +kernel
theorem dX4_areAlike_138 : decode cX4_areAlike 138 = .ok (.goto (-89), 3) := by decide +kernel
theorem dX4_areAlike_141 : decode cX4_areAlike 141 = .ok (.iconst 1, 1) := by decide +kernel
theorem dX4_areAlike_142 : decode cX4_areAlike 142 = .ok (.ireturn, 1) := by decide +kernel
