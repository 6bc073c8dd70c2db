set_option maxRecDepth 20000 in
theorem ggX5_init_X4_init : GoodIn wsX5_init wsX4_init := goodIn_r _ [25, 26, 2, 3, 27, 28, 29, 30, 31, 32, 33, 34, 35, 6, 36, 37, 38, 39, 40, 41, 100, 101, 102, 103, 104, 105] (by decide +kernel) (by decide +kernel)
set_option maxRecDepth 20000 in
theorem gX5_init_X4_init : GoodIn wsX5_init (wsX4_init) := ggX5_init_X4_init
set_option maxRecDepth 20000 in
theorem ggX5_init_X1_init : GoodIn wsX5_init wsX1_init := goodIn_r _ [44, 45, 2, 3, 46, 47, 27, 48, 49, 50, 5, 6, 51, 24, 25, 26, 28, 29, 30, 31, 32, 33, 34, 35, 36, 37, 38, 39, 40, 41, 113, 114, 115, 116, 117, 100, 101, 102, 103, 104, 105] (by decide +kernel) (by decide +kernel)
set_option maxRecDepth 20000 in
theorem gX5_init_X1_init : GoodIn wsX5_init (wsX1_init) := ggX5_init_X1_init
set_option maxRecDepth 20000 in
theorem ggX5_init_X2_init : GoodIn wsX5_init wsX2_init := goodIn_r _ [53, 54, 2, 3, 55, 5, 6, 56, 27, 57, 58, 24, 25, 26, 28, 29, 30, 31, 32, 33, 34, 35, 36, 37, 38, 39, 40, 41, 100, 101, 102, 103, 104, 105, 118, 119, 120] (by decide +kernel) (by decide +kernel)
set_option maxRecDepth 20000 in
theorem gX5_init_X2_init_n25 : GoodIn wsX5_init (wsX2_init) := ggX5_init_X2_init
set_option maxRecDepth 20000 in
theorem ggX5_init_X0_init : GoodIn wsX5_init wsX0_init := goodIn_r _ [60, 61, 2, 3, 62, 27, 63, 64, 65, 66, 121, 122, 123, 124] (by decide +kernel) (by decide +kernel)
set_option maxRecDepth 20000 in
theorem gX5_init_X0_init_n32 : GoodIn wsX5_init (wsX0_init) := ggX5_init_X0_init
set_option maxRecDepth 20000 in
theorem ggX5_init_X4_plant : GoodIn wsX5_init wsX4_plant := goodIn_r _ [70, 30, 31, 71, 72, 73, 6, 74, 32, 75, 76, 77, 78, 28, 37, 79, 80, 81, 82, 83, 84, 85, 86, 29, 100, 101, 102, 103, 104, 105] (by decide +kernel) (by decide +kernel)
set_option maxRecDepth 20000 in
theorem gX5_init_X4_plant : GoodIn wsX5_init (wsV RX5 37 RX4 yX4_plant wsX4_plant) := goodIn_app (goodIn_of _ (by decide +kernel)) ggX5_init_X4_plant
set_option maxRecDepth 20000 in
theorem ggX5_init_X1_record : GoodIn wsX5_init wsX1_record := goodIn_r _ [90, 91, 47, 48, 49, 50, 92, 93, 94, 6, 95, 28, 79, 80, 81, 82, 29, 30, 31, 37, 96, 97, 98, 10, 99, 113, 114, 115, 116, 117, 100, 101, 102, 103, 104, 105] (by decide +kernel) (by decide +kernel)
set_option maxRecDepth 20000 in
theorem gX5_init_X1_record : GoodIn wsX5_init (wsV RX5 45 RX1 yX1_record wsX1_record) := goodIn_app (goodIn_of _ (by decide +kernel)) ggX5_init_X1_record
theorem dX5_init_0 : decode cX5_init 0 = .ok (.aload_n 0, 1) := by decide +kernel
theorem dX5_init_1 : decode cX5_init 1 = .ok (.invokespecial 1, 3) := by decide +kernel
theorem dX5_init_4 : decode cX5_init 4 = .ok (.aload_n 0, 1) := by decide +kernel
theorem dX5_init_5 : decode cX5_init 5 = .ok (.new 7, 3) := by decide +kernel
theorem dX5_init_8 : decode cX5_init 8 = .ok (.dup, 1) := by decide +kernel
theorem dX5_init_9 : decode cX5_init 9 = .ok (.invokespecial 9, 3) := by decide +kernel
theorem dX5_init_12 : decode cX5_init 12 = .ok (.putfield 10, 3) := by decide +kernel
theorem dX5_init_15 : decode cX5_init 15 = .ok (.aload_n 0, 1) := by decide +kernel
theorem dX5_init_16 : decode cX5_init 16 = .ok (.new 16, 3) := by decide +kernel
theorem dX5_init_19 : decode cX5_init 19 = .ok (.dup, 1) := by decide +kernel
theorem dX5_init_20 : decode cX5_init 20 = .ok (.invokespecial 18, 3) := by decide +kernel
theorem dX5_init_23 : decode cX5_init 23 = .ok (.putfield 19, 3) := by decide +kernel
theorem dX5_init_26 : decode cX5_init 26 = .ok (.aload_n 0, 1) := by decide +kernel
theorem dX5_init_27 : decode cX5_init 27 = .ok (.new 23, 3) := by decide +kernel
theorem dX5_init_30 : decode cX5_init 30 = .ok (.dup, 1) := by decide +kernel
theorem dX5_init_31 : decode cX5_init 31 = .ok (.invokespecial 25, 3) := by decide +kernel
theorem dX5_init_34 : decode cX5_init 34 = .ok (.putfield 26, 3) := by decide +kernel
theorem dX5_init_37 : decode cX5_init 37 = .ok (.aload_n 0, 1) := by decide +kernel
theorem dX5_init_38 : decode cX5_init 38 = .ok (.new 30, 3) := by decide +kernel
theorem dX5_init_41 : decode cX5_init 41 = .ok (.dup, 1) := by decide +kernel
theorem dX5_init_42 : decode cX5_init 42 = .ok (.invokespecial 32, 3) := by decide +kernel
theorem dX5_init_45 : decode cX5_init 45 = .ok (.putfield 33, 3) := by decide +kernel
theorem dX5_init_48 : decode cX5_init 48 = .ok (.aload_n 0, 1) := by decide +kernel
theorem dX5_init_49 : decode cX5_init 49 = .ok (.getfield 10, 3) := by decide +kernel
theorem dX5_init_52 : decode cX5_init 52 = .ok (.iconst 0, 1) := by decide +kernel
theorem dX5_init_53 : decode cX5_init 53 = .ok (.iconst 0, 1) := by decide +kernel
theorem dX5_init_54 : decode cX5_init 54 = .ok (.invokevirtual 37, 3) := by decide +kernel
theorem dX5_init_57 : decode cX5_init 57 = .ok (.aload_n 0, 1) := by decide +kernel
theorem dX5_init_58 : decode cX5_init 58 = .ok (.iconst 1, 1) := by decide +kernel
theorem dX5_init_59 : decode cX5_init 59 = .ok (.putfield 41, 3) := by decide +kernel
theorem dX5_init_62 : decode cX5_init 62 = .ok (.aload_n 0, 1) := by decide +kernel
theorem dX5_init_63 : decode cX5_init 63 = .ok (.aload_n 0, 1) := by decide +kernel
theorem dX5_init_64 : decode cX5_init 64 = .ok (.getfield 19, 3) := by decide +kernel
theorem dX5_init_67 : decode cX5_init 67 = .ok (.aload_n 0, 1) := by decide +kernel
theorem dX5_init_68 : decode cX5_init 68 = .ok (.getfield 10, 3) := by decide +kernel
theorem dX5_init_71 : decode cX5_init 71 = .ok (.iconst (-1), 1) := by decide +kernel
theorem dX5_init_72 : decode cX5_init 72 = .ok (.iconst (-1), 1) := by decide +kernel
theorem dX5_init_73 : decode cX5_init 73 = .ok (.invokevirtual 45, 3) := by decide +kernel
theorem dX5_init_76 : decode cX5_init 76 = .ok (.putfield 49, 3) := by decide +kernel
theorem dX5_init_79 : decode cX5_init 79 = .ok (.aload_n 0, 1) := by decide +kernel
theorem dX5_init_80 : decode cX5_init 80 = .ok (.iconst (-1), 1) := by decide +kernel
theorem dX5_init_81 : decode cX5_init 81 = .ok (.putfield 52, 3) := by decide +kernel
theorem dX5_init_84 : decode cX5_init 84 = .ok (.return_, 1) := by decide +kernel
set_option maxRecDepth 20000 in
theorem ggX5_insert_X5_requireNode : GoodIn wsX5_insert wsX5_requireNode := goodIn_ca (goodIn_r _ [9, 10, 11, 3, 12, 13, 14, 15, 16, 17, 69, 70, 71, 72, 73, 74, 75, 76, 77, 78, 79, 80, 81] (by decide +kernel) (by decide +kernel)) (goodIn_sub (fun _ h => List.mem_cons_of_mem _ (List.mem_append_left _ (List.mem_append_left _ (List.mem_append_right _ h)))) (by decide +kernel))
set_option maxRecDepth 20000 in
theorem gX5_insert_X5_requireNode : GoodIn wsX5_insert (wsV RX5 55 RX5 yX5_requireNode wsX5_requireNode) := goodIn_app (goodIn_of _ (by decide +kernel)) ggX5_insert_X5_requireNode
set_option maxRecDepth 20000 in
theorem ggX5_insert_X4_childCount : GoodIn wsX5_insert wsX4_childCount := goodIn_r _ [21, 22, 23, 24, 25, 76, 77, 78, 79, 80, 81] (by decide +kernel) (by decide +kernel)
set_option maxRecDepth 20000 in
theorem gX5_insert_X4_childCount : GoodIn wsX5_insert (wsV RX5 59 RX4 yX4_childCount wsX4_childCount) := goodIn_app (goodIn_of _ (by decide +kernel)) ggX5_insert_X4_childCount
set_option maxRecDepth 20000 in
theorem ggX5_insert_X5_requirePlace : GoodIn wsX5_insert wsX5_requirePlace := goodIn_ca (goodIn_r _ [28, 29, 30] (by decide +kernel) (by decide +kernel)) (goodIn_sub (fun _ h => List.mem_cons_of_mem _ (List.mem_append_left _ (List.mem_append_right _ h))) (by decide +kernel))
set_option maxRecDepth 20000 in
theorem gX5_insert_X5_requirePlace : GoodIn wsX5_insert (va_wsS RX5 63 yX5_requirePlace wsX5_requirePlace) := goodIn_app (goodIn_of _ (by decide +kernel)) ggX5_insert_X5_requirePlace
set_option maxRecDepth 20000 in
theorem ggX5_insert_X5_requireLabel : GoodIn wsX5_insert wsX5_requireLabel := goodIn_ca (goodIn_r _ [33, 34, 35] (by decide +kernel) (by decide +kernel)) (goodIn_sub (fun _ h => List.mem_cons_of_mem _ (List.mem_append_right _ h)) (by decide +kernel))
set_option maxRecDepth 20000 in
theorem gX5_insert_X5_requireLabel : GoodIn wsX5_insert (va_wsS RX5 66 yX5_requireLabel wsX5_requireLabel) := goodIn_app (goodIn_of _ (by decide +kernel)) ggX5_insert_X5_requireLabel
set_option maxRecDepth 20000 in
theorem ggX5_insert_X4_attach : GoodIn wsX5_insert wsX4_attach := goodIn_r _ [39, 24, 17, 40, 41, 42, 15, 43, 22, 23, 25, 44, 45, 46, 47, 48, 49, 50, 51, 52, 53, 54, 55, 56, 57, 58, 59, 60, 61, 62, 63, 64, 65, 66, 67, 68, 76, 77, 78, 79, 80, 81] (by decide +kernel) (by decide +kernel)
set_option maxRecDepth 20000 in
theorem gX5_insert_X4_attach : GoodIn wsX5_insert (wsV RX5 76 RX4 yX4_attach wsX4_attach) := goodIn_app (goodIn_of _ (by decide +kernel)) ggX5_insert_X4_attach
theorem dX5_insert_0 : decode cX5_insert 0 = .ok (.aload_n 0, 1) := by decide +kernel
theorem dX5_insert_1 : decode cX5_insert 1 = .ok (.iload_n 1, 1) := by decide +kernel
theorem dX5_insert_2 : decode cX5_insert 2 = .ok (.invokevirtual 55, 3) := by decide +kernel
theorem dX5_insert_5 : decode cX5_insert 5 = .ok (.iload_n 2, 1) := by decide +kernel
theorem dX5_insert_6 : decode cX5_insert 6 = .ok (.aload_n 0, 1) := by decide +kernel
theorem dX5_insert_7 : decode cX5_insert 7 = .ok (.getfield 10, 3) := by decide +kernel
theorem dX5_insert_10 : decode cX5_insert 10 = .ok (.iload_n 1, 1) := by decide +kernel
theorem dX5_insert_11 : decode cX5_insert 11 = .ok (.invokevirtual 59, 3) := by decide +kernel
theorem dX5_insert_14 : decode cX5_insert 14 = .ok (.invokestatic 63, 3) := by decide +kernel
theorem dX5_insert_17 : decode cX5_insert 17 = .ok (.iload_n 3, 1) := by decide +kernel
theorem dX5_insert_18 : decode cX5_insert 18 = .ok (.invokestatic 66, 3) := by decide +kernel
theorem dX5_insert_21 : decode cX5_insert 21 = .ok (.aload_n 0, 1) := by decide +kernel
theorem dX5_insert_22 : decode cX5_insert 22 = .ok (.getfield 41, 3) := by decide +kernel
theorem dX5_insert_25 : decode cX5_insert 25 = .ok (.bipush 24, 2) := by decide +kernel
theorem dX5_insert_27 : decode cX5_insert 27 = .ok (.if_icmp .lt 13, 3) := by decide +kernel
theorem dX5_insert_30 : decode cX5_insert 30 = .ok (.new 69, 3) := by decide +kernel
theorem dX5_insert_33 : decode cX5_insert 33 = .ok (.dup, 1) := by decide +kernel
theorem dX5_insert_34 : decode cX5_insert 34 = .ok (.ldc 71, 2) := by decide +kernel
theorem dX5_insert_36 : decode cX5_insert 36 = .ok (.invokespecial 73, 3) := by decide +kernel
theorem dX5_insert_39 : decode cX5_insert 39 = .ok (.athrow, 1) := by decide +kernel
theorem dX5_insert_40 : decode cX5_insert 40 = .ok (.aload_n 0, 1) := by decide +kernel
theorem dX5_insert_41 : decode cX5_insert 41 = .ok (.getfield 41, 3) := by decide +kernel
theorem dX5_insert_44 : decode cX5_insert 44 = .ok (.istore 4, 2) := by decide +kernel
theorem dX5_insert_46 : decode cX5_insert 46 = .ok (.aload_n 0, 1) := by decide +kernel
theorem dX5_insert_47 : decode cX5_insert 47 = .ok (.dup, 1) := by decide +kernel
theorem dX5_insert_48 : decode cX5_insert 48 = .ok (.getfield 41, 3) := by decide +kernel
theorem dX5_insert_51 : decode cX5_insert 51 = .ok (.iconst 1, 1) := by decide +kernel
theorem dX5_insert_52 : decode cX5_insert 52 = .ok (.iadd, 1) := by decide +kernel
theorem dX5_insert_53 : decode cX5_insert 53 = .ok (.putfield 41, 3) := by decide +kernel
theorem dX5_insert_56 : decode cX5_insert 56 = .ok (.aload_n 0, 1) := by decide +kernel
theorem dX5_insert_57 : decode cX5_insert 57 = .ok (.getfield 10, 3) := by decide +kernel
theorem dX5_insert_60 : decode cX5_insert 60 = .ok (.iload 4, 2) := by decide +kernel
theorem dX5_insert_62 : decode cX5_insert 62 = .ok (.iload_n 3, 1) := by decide +kernel
theorem dX5_insert_63 : decode cX5_insert 63 = .ok (.iload_n 1, 1) := by decide +kernel
theorem dX5_insert_64 : decode cX5_insert 64 = .ok (.iload_n 2, 1) := by decide +kernel
theorem dX5_insert_65 : decode cX5_insert 65 = .ok (.invokevirtual 76, 3) := by decide +kernel
theorem dX5_insert_68 : decode cX5_insert 68 = .ok (.iload 4, 2) := by decide +kernel
theorem dX5_insert_70 : decode cX5_insert 70 = .ok (.ireturn, 1) := by decide +kernel
set_option maxRecDepth 20000 in
theorem ggX5_delete_X5_requireNode : GoodIn wsX5_delete wsX5_requireNode := goodIn_ca (goodIn_r _ [8, 9, 10, 3, 11, 12, 13, 14, 15, 16, 46, 47, 48, 49, 50, 51, 52, 53, 54, 55, 56, 57, 58] (by decide +kernel) (by decide +kernel)) (goodIn_sub (fun _ h => List.mem_cons_of_mem _ (List.mem_append_right _ h)) (by decide +kernel))
set_option maxRecDepth 20000 in
theorem gX5_delete_X5_requireNode : GoodIn wsX5_delete (wsV RX5 55 RX5 yX5_requireNode wsX5_requireNode) := goodIn_app (goodIn_of _ (by decide +kernel)) ggX5_delete_X5_requireNode
set_option maxRecDepth 20000 in
theorem ggX5_delete_X4_prune : GoodIn wsX5_delete wsX4_prune := goodIn_r _ [20, 21, 22, 16, 23, 24, 25, 14, 26, 27, 28, 29, 30, 31, 32, 33, 34, 35, 36, 37, 38, 39, 40, 41, 42, 43, 44, 45, 53, 54, 55, 56, 57, 58] (by decide +kernel) (by decide +kernel)
set_option maxRecDepth 20000 in
theorem gX5_delete_X4_prune : GoodIn wsX5_delete (wsV RX5 85 RX4 yX4_prune wsX4_prune) := goodIn_app (goodIn_of _ (by decide +kernel)) ggX5_delete_X4_prune
theorem dX5_delete_0 : decode cX5_delete 0 = .ok (.aload_n 0, 1) := by decide +kernel
theorem dX5_delete_1 : decode cX5_delete 1 = .ok (.iload_n 1, 1) := by decide +kernel
theorem dX5_delete_2 : decode cX5_delete 2 = .ok (.invokevirtual 55, 3) := by decide +kernel
theorem dX5_delete_5 : decode cX5_delete 5 = .ok (.iload_n 1, 1) := by decide +kernel
theorem dX5_delete_6 : decode cX5_delete 6 = .ok (.ifCond .ne 13, 3) := by decide +kernel
theorem dX5_delete_9 : decode cX5_delete 9 = .ok (.new 80, 3) := by decide +kernel
theorem dX5_delete_12 : decode cX5_delete 12 = .ok (.dup, 1) := by decide +kernel
theorem dX5_delete_13 : decode cX5_delete 13 = .ok (.ldc 82, 2) := by decide +kernel
theorem dX5_delete_15 : decode cX5_delete 15 = .ok (.invokespecial 84, 3) := by decide +kernel
theorem dX5_delete_18 : decode cX5_delete 18 = .ok (.athrow, 1) := by decide +kernel
theorem dX5_delete_19 : decode cX5_delete 19 = .ok (.aload_n 0, 1) := by decide +kernel
theorem dX5_delete_20 : decode cX5_delete 20 = .ok (.getfield 10, 3) := by decide +kernel
theorem dX5_delete_23 : decode cX5_delete 23 = .ok (.iload_n 1, 1) := by decide +kernel
theorem dX5_delete_24 : decode cX5_delete 24 = .ok (.invokevirtual 85, 3) := by decide +kernel
theorem dX5_delete_27 : decode cX5_delete 27 = .ok (.ireturn, 1) := by decide +kernel
set_option maxRecDepth 20000 in
theorem ggX5_move_X5_requireNode : GoodIn wsX5_move wsX5_requireNode := goodIn_ca (goodIn_r _ [9, 10, 11, 3, 12, 13, 14, 15, 16, 17, 68, 69, 70, 71, 72, 73, 74, 75, 76, 77, 78, 79, 80] (by decide +kernel) (by decide +kernel)) (goodIn_sub (fun _ h => List.mem_cons_of_mem _ (List.mem_append_left _ (List.mem_append_right _ h))) (by decide +kernel))
set_option maxRecDepth 20000 in
theorem gX5_move_X5_requireNode : GoodIn wsX5_move (wsV RX5 55 RX5 yX5_requireNode wsX5_requireNode) := goodIn_app (goodIn_of _ (by decide +kernel)) ggX5_move_X5_requireNode
set_option maxRecDepth 20000 in
theorem ggX5_move_X4_isWithin : GoodIn wsX5_move wsX4_isWithin := goodIn_r _ [21, 22, 23, 24, 25, 15, 26, 27, 28, 29, 30, 31, 32, 33, 75, 76, 77, 78, 79, 80] (by decide +kernel) (by decide +kernel)
set_option maxRecDepth 20000 in
theorem gX5_move_X4_isWithin : GoodIn wsX5_move (wsV RX5 88 RX4 yX4_isWithin wsX4_isWithin) := goodIn_app (goodIn_of _ (by decide +kernel)) ggX5_move_X4_isWithin
set_option maxRecDepth 20000 in
theorem ggX5_move_X4_childCount : GoodIn wsX5_move wsX4_childCount := goodIn_r _ [37, 22, 27, 32, 33, 75, 76, 77, 78, 79, 80] (by decide +kernel) (by decide +kernel)
set_option maxRecDepth 20000 in
theorem gX5_move_X4_childCount : GoodIn wsX5_move (wsV RX5 59 RX4 yX4_childCount wsX4_childCount) := goodIn_app (goodIn_of _ (by decide +kernel)) ggX5_move_X4_childCount
set_option maxRecDepth 20000 in
theorem ggX5_move_X5_requirePlace : GoodIn wsX5_move wsX5_requirePlace := goodIn_ca (goodIn_r _ [40, 41, 42] (by decide +kernel) (by decide +kernel)) (goodIn_sub (fun _ h => List.mem_cons_of_mem _ (List.mem_append_right _ h)) (by decide +kernel))
set_option maxRecDepth 20000 in
theorem gX5_move_X5_requirePlace : GoodIn wsX5_move (va_wsS RX5 63 yX5_requirePlace wsX5_requirePlace) := goodIn_app (goodIn_of _ (by decide +kernel)) ggX5_move_X5_requirePlace
set_option maxRecDepth 20000 in
theorem ggX5_move_X4_transplant : GoodIn wsX5_move wsX4_transplant := goodIn_r _ [46, 32, 47, 48, 49, 15, 50, 22, 33, 51, 52, 53, 54, 55, 27, 23, 24, 25, 26, 28, 29, 30, 31, 56, 57, 58, 59, 60, 61, 62, 63, 64, 65, 66, 67, 75, 76, 77, 78, 79, 80] (by decide +kernel) (by decide +kernel)
set_option maxRecDepth 20000 in
theorem gX5_move_X4_transplant : GoodIn wsX5_move (wsV RX5 98 RX4 yX4_transplant wsX4_transplant) := goodIn_app (goodIn_of _ (by decide +kernel)) ggX5_move_X4_transplant
theorem dX5_move_0 : decode cX5_move 0 = .ok (.aload_n 0, 1) := by decide +kernel
theorem dX5_move_1 : decode cX5_move 1 = .ok (.iload_n 1, 1) := by decide +kernel
theorem dX5_move_2 : decode cX5_move 2 = .ok (.invokevirtual 55, 3) := by decide +kernel
theorem dX5_move_5 : decode cX5_move 5 = .ok (.aload_n 0, 1) := by decide +kernel
theorem dX5_move_6 : decode cX5_move 6 = .ok (.iload_n 2, 1) := by decide +kernel
theorem dX5_move_7 : decode cX5_move 7 = .ok (.invokevirtual 55, 3) := by decide +kernel
theorem dX5_move_10 : decode cX5_move 10 = .ok (.aload_n 0, 1) := by decide +kernel
theorem dX5_move_11 : decode cX5_move 11 = .ok (.getfield 10, 3) := by decide +kernel
theorem dX5_move_14 : decode cX5_move 14 = .ok (.iload_n 2, 1) := by decide +kernel
theorem dX5_move_15 : decode cX5_move 15 = .ok (.iload_n 1, 1) := by decide +kernel
theorem dX5_move_16 : decode cX5_move 16 = .ok (.invokevirtual 88, 3) := by decide +kernel
theorem dX5_move_19 : decode cX5_move 19 = .ok (.ifCond .eq 13, 3) := by decide +kernel
theorem dX5_move_22 : decode cX5_move 22 = .ok (.new 80, 3) := by decide +kernel
theorem dX5_move_25 : decode cX5_move 25 = .ok (.dup, 1) := by decide +kernel
theorem dX5_move_26 : decode cX5_move 26 = .ok (.ldc 92, 2) := by decide +kernel
theorem dX5_move_28 : decode cX5_move 28 = .ok (.invokespecial 84, 3) := by decide +kernel
theorem dX5_move_31 : decode cX5_move 31 = .ok (.athrow, 1) := by decide +kernel
theorem dX5_move_32 : decode cX5_move 32 = .ok (.iload_n 3, 1) := by decide +kernel
theorem dX5_move_33 : decode cX5_move 33 = .ok (.aload_n 0, 1) := by decide +kernel
theorem dX5_move_34 : decode cX5_move 34 = .ok (.getfield 10, 3) := by decide +kernel
theorem dX5_move_37 : decode cX5_move 37 = .ok (.iload_n 2, 1) := by decide +kernel
theorem dX5_move_38 : decode cX5_move 38 = .ok (.invokevirtual 59, 3) := by decide +kernel
theorem dX5_move_41 : decode cX5_move 41 = .ok (.aload_n 0, 1) := by decide +kernel
theorem dX5_move_42 : decode cX5_move 42 = .ok (.getfield 10, 3) := by decide +kernel
theorem dX5_move_45 : decode cX5_move 45 = .ok (.getfield 94, 3) := by decide +kernel
theorem dX5_move_48 : decode cX5_move 48 = .ok (.iload_n 1, 1) := by decide +kernel
theorem dX5_move_49 : decode cX5_move 49 = .ok (.iaload, 1) := by decide +kernel
theorem dX5_move_50 : decode cX5_move 50 = .ok (.iload_n 2, 1) := by decide +kernel
theorem dX5_move_51 : decode cX5_move 51 = .ok (.if_icmp .ne 7, 3) := by decide +kernel
theorem dX5_move_54 : decode cX5_move 54 = .ok (.iconst 1, 1) := by decide +kernel
theorem dX5_move_55 : decode cX5_move 55 = .ok (.goto 4, 3) := by decide +kernel
theorem dX5_move_58 : decode cX5_move 58 = .ok (.iconst 0, 1) := by decide +kernel
theorem dX5_move_59 : decode cX5_move 59 = .ok (.isub, 1) := by decide +kernel
theorem dX5_move_60 : decode cX5_move 60 = .ok (.invokestatic 63, 3) := by decide +kernel
theorem dX5_move_63 : decode cX5_move 63 = .ok (.aload_n 0, 1) := by decide +kernel
theorem dX5_move_64 : decode cX5_move 64 = .ok (.getfield 10, 3) := by decide +kernel
theorem dX5_move_67 : decode cX5_move 67 = .ok (.iload_n 1, 1) := by decide +kernel
theorem dX5_move_68 : decode cX5_move 68 = .ok (.iload_n 2, 1) := by decide +kernel
theorem dX5_move_69 : decode cX5_move 69 = .ok (.iload_n 3, 1) := by decide +kernel
theorem dX5_move_70 : decode cX5_move 70 = .ok (.invokevirtual 98, 3) := by decide +kernel
theorem dX5_move_73 : decode cX5_move 73 = .ok (.return_, 1) := by decide +kernel
set_option maxRecDepth 20000 in
theorem ggX5_relabel_X5_requireNode : GoodIn wsX5_relabel wsX5_requireNode := goodIn_ca (goodIn_r _ [7, 8, 9, 1, 10, 11, 12, 13, 14, 15, 21, 22, 23, 24, 25, 26, 27, 28, 29, 30, 31, 32, 33] (by decide +kernel) (by decide +kernel)) (goodIn_sub (fun _ h => List.mem_cons_of_mem _ (List.mem_append_left _ (List.mem_append_right _ h))) (by decide +kernel))
set_option maxRecDepth 20000 in
theorem gX5_relabel_X5_requireNode : GoodIn wsX5_relabel (wsV RX5 55 RX5 yX5_requireNode wsX5_requireNode) := goodIn_app (goodIn_of _ (by decide +kernel)) ggX5_relabel_X5_requireNode
set_option maxRecDepth 20000 in
theorem ggX5_relabel_X5_requireLabel : GoodIn wsX5_relabel wsX5_requireLabel := goodIn_ca (goodIn_r _ [18, 19, 20] (by decide +kernel) (by decide +kernel)) (goodIn_sub (fun _ h => List.mem_cons_of_mem _ (List.mem_append_right _ h)) (by decide +kernel))
set_option maxRecDepth 20000 in
theorem gX5_relabel_X5_requireLabel : GoodIn wsX5_relabel (va_wsS RX5 66 yX5_requireLabel wsX5_requireLabel) := goodIn_app (goodIn_of _ (by decide +kernel)) ggX5_relabel_X5_requireLabel
theorem dX5_relabel_0 : decode cX5_relabel 0 = .ok (.aload_n 0, 1) := by decide +kernel
theorem dX5_relabel_1 : decode cX5_relabel 1 = .ok (.iload_n 1, 1) := by decide +kernel
theorem dX5_relabel_2 : decode cX5_relabel 2 = .ok (.invokevirtual 55, 3) := by decide +kernel
theorem dX5_relabel_5 : decode cX5_relabel 5 = .ok (.iload_n 2, 1) := by decide +kernel
theorem dX5_relabel_6 : decode cX5_relabel 6 = .ok (.invokestatic 66, 3) := by decide +kernel
theorem dX5_relabel_9 : decode cX5_relabel 9 = .ok (.aload_n 0, 1) := by decide +kernel
theorem dX5_relabel_10 : decode cX5_relabel 10 = .ok (.getfield 10, 3) := by decide +kernel
theorem dX5_relabel_13 : decode cX5_relabel 13 = .ok (.getfield 102, 3) := by decide +kernel
theorem dX5_relabel_16 : decode cX5_relabel 16 = .ok (.iload_n 1, 1) := by decide +kernel
theorem dX5_relabel_17 : decode cX5_relabel 17 = .ok (.iload_n 2, 1) := by decide +kernel
theorem dX5_relabel_18 : decode cX5_relabel 18 = .ok (.iastore, 1) := by decide +kernel
theorem dX5_relabel_19 : decode cX5_relabel 19 = .ok (.return_, 1) := by decide +kernel
set_option maxRecDepth 20000 in
theorem ggX5_commit_X1_record : GoodIn wsX5_commit wsX1_record := goodIn_r _ [12, 13, 14, 15, 16, 17, 18, 19, 20, 21, 22, 23, 24, 25, 26, 27, 28, 29, 30, 31, 32, 33, 34, 11, 35, 43, 44, 45, 46, 47, 48, 49, 50, 51, 52, 53] (by decide +kernel) (by decide +kernel)
set_option maxRecDepth 20000 in
theorem gX5_commit_X1_record : GoodIn wsX5_commit (wsV RX5 45 RX1 yX1_record wsX1_record) := goodIn_app (goodIn_of _ (by decide +kernel)) ggX5_commit_X1_record
theorem dX5_commit_0 : decode cX5_commit 0 = .ok (.aload_n 0, 1) := by decide +kernel
theorem dX5_commit_1 : decode cX5_commit 1 = .ok (.getfield 19, 3) := by decide +kernel
theorem dX5_commit_4 : decode cX5_commit 4 = .ok (.getfield 105, 3) := by decide +kernel
theorem dX5_commit_7 : decode cX5_commit 7 = .ok (.bipush 12, 2) := by decide +kernel
theorem dX5_commit_9 : decode cX5_commit 9 = .ok (.if_icmp .lt 13, 3) := by decide +kernel
theorem dX5_commit_12 : decode cX5_commit 12 = .ok (.new 69, 3) := by decide +kernel
theorem dX5_commit_15 : decode cX5_commit 15 = .ok (.dup, 1) := by decide +kernel
theorem dX5_commit_16 : decode cX5_commit 16 = .ok (.ldc 108, 2) := by decide +kernel
theorem dX5_commit_18 : decode cX5_commit 18 = .ok (.invokespecial 73, 3) := by decide +kernel
theorem dX5_commit_21 : decode cX5_commit 21 = .ok (.athrow, 1) := by decide +kernel
theorem dX5_commit_22 : decode cX5_commit 22 = .ok (.aload_n 0, 1) := by decide +kernel
theorem dX5_commit_23 : decode cX5_commit 23 = .ok (.aload_n 0, 1) := by decide +kernel
theorem dX5_commit_24 : decode cX5_commit 24 = .ok (.getfield 19, 3) := by decide +kernel
theorem dX5_commit_27 : decode cX5_commit 27 = .ok (.aload_n 0, 1) := by decide +kernel
theorem dX5_commit_28 : decode cX5_commit 28 = .ok (.getfield 10, 3) := by decide +kernel
theorem dX5_commit_31 : decode cX5_commit 31 = .ok (.aload_n 0, 1) := by decide +kernel
theorem dX5_commit_32 : decode cX5_commit 32 = .ok (.getfield 49, 3) := by decide +kernel
theorem dX5_commit_35 : decode cX5_commit 35 = .ok (.aload_n 0, 1) := by decide +kernel
theorem dX5_commit_36 : decode cX5_commit 36 = .ok (.getfield 52, 3) := by decide +kernel
theorem dX5_commit_39 : decode cX5_commit 39 = .ok (.invokevirtual 45, 3) := by decide +kernel
theorem dX5_commit_42 : decode cX5_commit 42 = .ok (.putfield 49, 3) := by decide +kernel
theorem dX5_commit_45 : decode cX5_commit 45 = .ok (.aload_n 0, 1) := by decide +kernel
theorem dX5_commit_46 : decode cX5_commit 46 = .ok (.iconst (-1), 1) := by decide +kernel
theorem dX5_commit_47 : decode cX5_commit 47 = .ok (.putfield 52, 3) := by decide +kernel
theorem dX5_commit_50 : decode cX5_commit 50 = .ok (.aload_n 0, 1) := by decide +kernel
theorem dX5_commit_51 : decode cX5_commit 51 = .ok (.getfield 49, 3) := by decide +kernel
theorem dX5_commit_54 : decode cX5_commit 54 = .ok (.ireturn, 1) := by decide +kernel
set_option maxRecDepth 20000 in
theorem ggX5_checkout_X5_requireCommit : GoodIn wsX5_checkout wsX5_requireCommit := goodIn_ca (goodIn_r _ [10, 11, 12, 2, 13, 28, 29, 30, 31, 32, 33, 34, 35, 36, 37, 38, 39] (by decide +kernel) (by decide +kernel)) (goodIn_sub (fun _ h => List.mem_cons_of_mem _ (List.mem_append_right _ h)) (by decide +kernel))
set_option maxRecDepth 20000 in
theorem gX5_checkout_X5_requireCommit : GoodIn wsX5_checkout (wsV RX5 110 RX5 yX5_requireCommit wsX5_requireCommit) := goodIn_app (goodIn_of _ (by decide +kernel)) ggX5_checkout_X5_requireCommit
set_option maxRecDepth 20000 in
theorem ggX5_checkout_X4_copyFrom : GoodIn wsX5_checkout wsX4_copyFrom := goodIn_r _ [18, 19, 20, 21, 22, 23, 24, 25, 26, 27, 40, 41, 42, 43, 44, 45] (by decide +kernel) (by decide +kernel)
set_option maxRecDepth 20000 in
theorem gX5_checkout_X4_copyFrom : GoodIn wsX5_checkout (wsV RX5 117 RX4 yX4_copyFrom wsX4_copyFrom) := goodIn_app (goodIn_of _ (by decide +kernel)) ggX5_checkout_X4_copyFrom
theorem dX5_checkout_0 : decode cX5_checkout 0 = .ok (.aload_n 0, 1) := by decide +kernel
theorem dX5_checkout_1 : decode cX5_checkout 1 = .ok (.iload_n 1, 1) := by decide +kernel
theorem dX5_checkout_2 : decode cX5_checkout 2 = .ok (.invokevirtual 110, 3) := by decide +kernel
theorem dX5_checkout_5 : decode cX5_checkout 5 = .ok (.aload_n 0, 1) := by decide +kernel
theorem dX5_checkout_6 : decode cX5_checkout 6 = .ok (.getfield 10, 3) := by decide +kernel
theorem dX5_checkout_9 : decode cX5_checkout 9 = .ok (.aload_n 0, 1) := by decide +kernel
theorem dX5_checkout_10 : decode cX5_checkout 10 = .ok (.getfield 19, 3) := by decide +kernel
theorem dX5_checkout_13 : decode cX5_checkout 13 = .ok (.getfield 113, 3) := by decide +kernel
theorem dX5_checkout_16 : decode cX5_checkout 16 = .ok (.iload_n 1, 1) := by decide +kernel
theorem dX5_checkout_17 : decode cX5_checkout 17 = .ok (.aaload, 1) := by decide +kernel
theorem dX5_checkout_18 : decode cX5_checkout 18 = .ok (.invokevirtual 117, 3) := by decide +kernel
theorem dX5_checkout_21 : decode cX5_checkout 21 = .ok (.aload_n 0, 1) := by decide +kernel
theorem dX5_checkout_22 : decode cX5_checkout 22 = .ok (.iload_n 1, 1) := by decide +kernel
theorem dX5_checkout_23 : decode cX5_checkout 23 = .ok (.putfield 49, 3) := by decide +kernel
theorem dX5_checkout_26 : decode cX5_checkout 26 = .ok (.aload_n 0, 1) := by decide +kernel
theorem dX5_checkout_27 : decode cX5_checkout 27 = .ok (.iconst (-1), 1) := by decide +kernel
theorem dX5_checkout_28 : decode cX5_checkout 28 = .ok (.putfield 52, 3) := by decide +kernel
theorem dX5_checkout_31 : decode cX5_checkout 31 = .ok (.return_, 1) := by decide +kernel
set_option maxRecDepth 20000 in
theorem ggX5_base_X5_requireCommit : GoodIn wsX5_base wsX5_requireCommit := goodIn_ca (goodIn_r _ [6, 7, 8, 1, 9, 23, 24, 25, 26, 27, 28, 29, 30, 31, 32, 33, 34] (by decide +kernel) (by decide +kernel)) (goodIn_sub (fun _ h => List.mem_cons_of_mem _ (List.mem_append_right _ h)) (by decide +kernel))
set_option maxRecDepth 20000 in
theorem gX5_base_X5_requireCommit : GoodIn wsX5_base (wsV RX5 110 RX5 yX5_requireCommit wsX5_requireCommit) := goodIn_app (goodIn_of _ (by decide +kernel)) ggX5_base_X5_requireCommit
set_option maxRecDepth 20000 in
theorem ggX5_base_X1_baseOf : GoodIn wsX5_base wsX1_baseOf := goodIn_r _ [14, 15, 16, 17, 5, 18, 19, 20, 21, 13, 22, 30, 31, 32, 33, 34] (by decide +kernel) (by decide +kernel)
set_option maxRecDepth 20000 in
theorem gX5_base_X1_baseOf : GoodIn wsX5_base (wsV RX5 121 RX1 yX1_baseOf wsX1_baseOf) := goodIn_app (goodIn_of _ (by decide +kernel)) ggX5_base_X1_baseOf
theorem dX5_base_0 : decode cX5_base 0 = .ok (.aload_n 0, 1) := by decide +kernel
theorem dX5_base_1 : decode cX5_base 1 = .ok (.iload_n 1, 1) := by decide +kernel
theorem dX5_base_2 : decode cX5_base 2 = .ok (.invokevirtual 110, 3) := by decide +kernel
theorem dX5_base_5 : decode cX5_base 5 = .ok (.aload_n 0, 1) := by decide +kernel
theorem dX5_base_6 : decode cX5_base 6 = .ok (.iload_n 2, 1) := by decide +kernel
theorem dX5_base_7 : decode cX5_base 7 = .ok (.invokevirtual 110, 3) := by decide +kernel
theorem dX5_base_10 : decode cX5_base 10 = .ok (.aload_n 0, 1) := by decide +kernel
theorem dX5_base_11 : decode cX5_base 11 = .ok (.getfield 19, 3) := by decide +kernel
theorem dX5_base_14 : decode cX5_base 14 = .ok (.iload_n 1, 1) := by decide +kernel
theorem dX5_base_15 : decode cX5_base 15 = .ok (.iload_n 2, 1) := by decide +kernel
theorem dX5_base_16 : decode cX5_base 16 = .ok (.invokevirtual 121, 3) := by decide +kernel
theorem dX5_base_19 : decode cX5_base 19 = .ok (.ireturn, 1) := by decide +kernel
set_option maxRecDepth 20000 in
theorem ggX5_merge_X5_requireCommit : GoodIn wsX5_merge wsX5_requireCommit := goodIn_ca (goodIn_r _ [14, 15, 16, 3, 17, 127, 128, 129, 130, 131, 132, 133, 134, 135, 136, 137, 138] (by decide +kernel) (by decide +kernel)) (goodIn_sub (fun _ h => List.mem_cons_of_mem _ (List.mem_append_right _ h)) (by decide +kernel))
set_option maxRecDepth 20000 in
theorem gX5_merge_X5_requireCommit : GoodIn wsX5_merge (wsV RX5 110 RX5 yX5_requireCommit wsX5_requireCommit) := goodIn_app (goodIn_of _ (by decide +kernel)) ggX5_merge_X5_requireCommit
set_option maxRecDepth 20000 in
theorem ggX5_merge_X4_isSameAs : GoodIn wsX5_merge wsX4_isSameAs := goodIn_r _ [22, 23, 24, 25, 26, 27, 21, 28, 29, 30, 142, 143, 144, 145, 146, 147] (by decide +kernel) (by decide +kernel)
set_option maxRecDepth 20000 in
theorem gX5_merge_X4_isSameAs : GoodIn wsX5_merge (wsV RX5 125 RX4 yX4_isSameAs wsX4_isSameAs) := goodIn_app (goodIn_of _ (by decide +kernel)) ggX5_merge_X4_isSameAs
set_option maxRecDepth 20000 in
theorem ggX5_merge_X1_baseOf : GoodIn wsX5_merge wsX1_baseOf := goodIn_r _ [35, 36, 37, 38, 13, 39, 40, 41, 42, 34, 43, 134, 135, 136, 137, 138] (by decide +kernel) (by decide +kernel)
set_option maxRecDepth 20000 in
theorem gX5_merge_X1_baseOf : GoodIn wsX5_merge (wsV RX5 121 RX1 yX1_baseOf wsX1_baseOf) := goodIn_app (goodIn_of _ (by decide +kernel)) ggX5_merge_X1_baseOf
set_option maxRecDepth 20000 in
theorem ggX5_merge_X2_run : GoodIn wsX5_merge wsX2_run := goodIn_r _ [48, 49, 50, 51, 52, 53, 21, 54, 30, 29, 23, 55, 56, 57, 58, 59, 60, 61, 62, 63, 64, 65, 47, 66, 67, 68, 69, 26, 27, 28, 70, 71, 72, 73, 74, 75, 76, 77, 78, 79, 80, 81, 82, 83, 84, 85, 86, 87, 88, 89, 90, 91, 92, 93, 94, 95, 96, 97, 98, 99, 100, 101, 102, 103, 24, 104, 105, 106, 107, 108, 109, 110, 111, 112, 113, 114, 115, 116, 117, 118, 119, 120, 121, 122, 139, 140, 141, 142, 143, 144, 145, 146, 147] (by decide +kernel) (by decide +kernel)
set_option maxRecDepth 20000 in
theorem gX5_merge_X2_run : GoodIn wsX5_merge (wsV RX5 134 RX2 yX2_run wsX2_run) := goodIn_app (goodIn_of _ (by decide +kernel)) ggX5_merge_X2_run
set_option maxRecDepth 20000 in
theorem ggX5_merge_X4_copyFrom : GoodIn wsX5_merge wsX4_copyFrom := goodIn_r _ [126, 24, 104, 105, 106, 107, 112, 30, 29, 23, 142, 143, 144, 145, 146, 147] (by decide +kernel) (by decide +kernel)
set_option maxRecDepth 20000 in
theorem gX5_merge_X4_copyFrom : GoodIn wsX5_merge (wsV RX5 117 RX4 yX4_copyFrom wsX4_copyFrom) := goodIn_app (goodIn_of _ (by decide +kernel)) ggX5_merge_X4_copyFrom
theorem dX5_merge_0 : decode cX5_merge 0 = .ok (.aload_n 0, 1) := by decide +kernel
theorem dX5_merge_1 : decode cX5_merge 1 = .ok (.iload_n 1, 1) := by decide +kernel
theorem dX5_merge_2 : decode cX5_merge 2 = .ok (.invokevirtual 110, 3) := by decide +kernel
theorem dX5_merge_5 : decode cX5_merge 5 = .ok (.aload_n 0, 1) := by decide +kernel
theorem dX5_merge_6 : decode cX5_merge 6 = .ok (.getfield 19, 3) := by decide +kernel
theorem dX5_merge_9 : decode cX5_merge 9 = .ok (.getfield 113, 3) := by decide +kernel
theorem dX5_merge_12 : decode cX5_merge 12 = .ok (.aload_n 0, 1) := by decide +kernel
theorem dX5_merge_13 : decode cX5_merge 13 = .ok (.getfield 49, 3) := by decide +kernel
theorem dX5_merge_16 : decode cX5_merge 16 = .ok (.aaload, 1) := by decide +kernel
theorem dX5_merge_17 : decode cX5_merge 17 = .ok (.astore_n 2, 1) := by decide +kernel
theorem dX5_merge_18 : decode cX5_merge 18 = .ok (.aload_n 0, 1) := by decide +kernel
theorem dX5_merge_19 : decode cX5_merge 19 = .ok (.getfield 52, 3) := by decide +kernel
theorem dX5_merge_22 : decode cX5_merge 22 = .ok (.iconst (-1), 1) := by decide +kernel
theorem dX5_merge_23 : decode cX5_merge 23 = .ok (.if_icmp .ne 14, 3) := by decide +kernel
theorem dX5_merge_26 : decode cX5_merge 26 = .ok (.aload_n 0, 1) := by decide +kernel
theorem dX5_merge_27 : decode cX5_merge 27 = .ok (.getfield 10, 3) := by decide +kernel
theorem dX5_merge_30 : decode cX5_merge 30 = .ok (.aload_n 2, 1) := by decide +kernel
theorem dX5_merge_31 : decode cX5_merge 31 = .ok (.invokevirtual 125, 3) := by decide +kernel
theorem dX5_merge_34 : decode cX5_merge 34 = .ok (.ifCond .ne 13, 3) := by decide +kernel
theorem dX5_merge_37 : decode cX5_merge 37 = .ok (.new 129, 3) := by decide +kernel
theorem dX5_merge_40 : decode cX5_merge 40 = .ok (.dup, 1) := by decide +kernel
theorem dX5_merge_41 : decode cX5_merge 41 = .ok (.ldc 131, 2) := by decide +kernel
theorem dX5_merge_43 : decode cX5_merge 43 = .ok (.invokespecial 133, 3) := by decide +kernel
theorem dX5_merge_46 : decode cX5_merge 46 = .ok (.athrow, 1) := by decide +kernel
theorem dX5_merge_47 : decode cX5_merge 47 = .ok (.aload_n 0, 1) := by decide +kernel
theorem dX5_merge_48 : decode cX5_merge 48 = .ok (.getfield 26, 3) := by decide +kernel
theorem dX5_merge_51 : decode cX5_merge 51 = .ok (.aload_n 2, 1) := by decide +kernel
theorem dX5_merge_52 : decode cX5_merge 52 = .ok (.aload_n 0, 1) := by decide +kernel
theorem dX5_merge_53 : decode cX5_merge 53 = .ok (.getfield 19, 3) := by decide +kernel
theorem dX5_merge_56 : decode cX5_merge 56 = .ok (.getfield 113, 3) := by decide +kernel
theorem dX5_merge_59 : decode cX5_merge 59 = .ok (.iload_n 1, 1) := by decide +kernel
theorem dX5_merge_60 : decode cX5_merge 60 = .ok (.aaload, 1) := by decide +kernel
theorem dX5_merge_61 : decode cX5_merge 61 = .ok (.aload_n 0, 1) := by decide +kernel
theorem dX5_merge_62 : decode cX5_merge 62 = .ok (.getfield 19, 3) := by decide +kernel
theorem dX5_merge_65 : decode cX5_merge 65 = .ok (.getfield 113, 3) := by decide +kernel
theorem dX5_merge_68 : decode cX5_merge 68 = .ok (.aload_n 0, 1) := by decide +kernel
theorem dX5_merge_69 : decode cX5_merge 69 = .ok (.getfield 19, 3) := by decide +kernel
theorem dX5_merge_72 : decode cX5_merge 72 = .ok (.aload_n 0, 1) := by decide +kernel
theorem dX5_merge_73 : decode cX5_merge 73 = .ok (.getfield 49, 3) := by decide +kernel
theorem dX5_merge_76 : decode cX5_merge 76 = .ok (.iload_n 1, 1) := by decide +kernel
theorem dX5_merge_77 : decode cX5_merge 77 = .ok (.invokevirtual 121, 3) := by decide +kernel
theorem dX5_merge_80 : decode cX5_merge 80 = .ok (.aaload, 1) := by decide +kernel
theorem dX5_merge_81 : decode cX5_merge 81 = .ok (.invokevirtual 134, 3) := by decide +kernel
theorem dX5_merge_84 : decode cX5_merge 84 = .ok (.istore_n 3, 1) := by decide +kernel
theorem dX5_merge_85 : decode cX5_merge 85 = .ok (.iload_n 3, 1) := by decide +kernel
theorem dX5_merge_86 : decode cX5_merge 86 = .ok (.ifCond .ne 22, 3) := by decide +kernel
theorem dX5_merge_89 : decode cX5_merge 89 = .ok (.aload_n 0, 1) := by decide +kernel
theorem dX5_merge_90 : decode cX5_merge 90 = .ok (.getfield 10, 3) := by decide +kernel
theorem dX5_merge_93 : decode cX5_merge 93 = .ok (.aload_n 0, 1) := by decide +kernel
theorem dX5_merge_94 : decode cX5_merge 94 = .ok (.getfield 26, 3) := by decide +kernel
theorem dX5_merge_97 : decode cX5_merge 97 = .ok (.getfield 138, 3) := by decide +kernel
theorem dX5_merge_100 : decode cX5_merge 100 = .ok (.invokevirtual 117, 3) := by decide +kernel
theorem dX5_merge_103 : decode cX5_merge 103 = .ok (.aload_n 0, 1) := by decide +kernel
theorem dX5_merge_104 : decode cX5_merge 104 = .ok (.iload_n 1, 1) := by decide +kernel
theorem dX5_merge_105 : decode cX5_merge 105 = .ok (.putfield 52, 3) := by decide +kernel
theorem dX5_merge_108 : decode cX5_merge 108 = .ok (.iload_n 3, 1) := by decide +kernel
theorem dX5_merge_109 : decode cX5_merge 109 = .ok (.ireturn, 1) := by decide +kernel
theorem dX5_conflict_0 : decode cX5_conflict 0 = .ok (.iload_n 1, 1) := by decide +kernel
theorem dX5_conflict_1 : decode cX5_conflict 1 = .ok (.ifCond .lt 14, 3) := by decide +kernel
theorem dX5_conflict_4 : decode cX5_conflict 4 = .ok (.iload_n 1, 1) := by decide +kernel
theorem dX5_conflict_5 : decode cX5_conflict 5 = .ok (.aload_n 0, 1) := by decide +kernel
theorem dX5_conflict_6 : decode cX5_conflict 6 = .ok (.getfield 26, 3) := by decide +kernel
theorem dX5_conflict_9 : decode cX5_conflict 9 = .ok (.getfield 141, 3) := by decide +kernel
theorem dX5_conflict_12 : decode cX5_conflict 12 = .ok (.if_icmp .lt 13, 3) := by decide +kernel
theorem dX5_conflict_15 : decode cX5_conflict 15 = .ok (.new 144, 3) := by decide +kernel
theorem dX5_conflict_18 : decode cX5_conflict 18 = .ok (.dup, 1) := by decide +kernel
theorem dX5_conflict_19 : decode cX5_conflict 19 = .ok (.ldc 146, 2) := by decide +kernel
theorem dX5_conflict_21 : decode cX5_conflict 21 = .ok (.invokespecial 148, 3) := by decide +kernel
theorem dX5_conflict_24 : decode cX5_conflict 24 = .ok (.athrow, 1) := by decide +kernel
theorem dX5_conflict_25 : decode cX5_conflict 25 = .ok (.aload_n 0, 1) := by decide +kernel
theorem dX5_conflict_26 : decode cX5_conflict 26 = .ok (.getfield 26, 3) := by decide +kernel
theorem dX5_conflict_29 : decode cX5_conflict 29 = .ok (.getfield 149, 3) := by decide +kernel
theorem dX5_conflict_32 : decode cX5_conflict 32 = .ok (.iload_n 1, 1) := by decide +kernel
theorem dX5_conflict_33 : decode cX5_conflict 33 = .ok (.iaload, 1) := by decide +kernel
theorem dX5_conflict_34 : decode cX5_conflict 34 = .ok (.ireturn, 1) := by decide +kernel
set_option maxRecDepth 20000 in
theorem ggX5_about_X5_requireNode : GoodIn wsX5_about wsX5_requireNode := goodIn_ca (goodIn_r _ [11, 12, 13, 3, 14, 15, 16, 17, 18, 19, 28, 29, 30, 31, 32, 33, 34, 35, 36, 37, 38, 39, 40] (by decide +kernel) (by decide +kernel)) (goodIn_sub (fun _ h => List.mem_cons_of_mem _ (List.mem_append_right _ h)) (by decide +kernel))
set_option maxRecDepth 20000 in
theorem gX5_about_X5_requireNode : GoodIn wsX5_about (wsV RX5 55 RX5 yX5_requireNode wsX5_requireNode) := goodIn_app (goodIn_of _ (by decide +kernel)) ggX5_about_X5_requireNode
set_option maxRecDepth 20000 in
theorem ggX5_about_X4_childCount : GoodIn wsX5_about wsX4_childCount := goodIn_r _ [23, 24, 25, 26, 27, 35, 36, 37, 38, 39, 40] (by decide +kernel) (by decide +kernel)
set_option maxRecDepth 20000 in
theorem gX5_about_X4_childCount : GoodIn wsX5_about (wsV RX5 59 RX4 yX4_childCount wsX4_childCount) := goodIn_app (goodIn_of _ (by decide +kernel)) ggX5_about_X4_childCount
theorem dX5_about_0 : decode cX5_about 0 = .ok (.aload_n 0, 1) := by decide +kernel
theorem dX5_about_1 : decode cX5_about 1 = .ok (.iload_n 1, 1) := by decide +kernel
theorem dX5_about_2 : decode cX5_about 2 = .ok (.invokevirtual 55, 3) := by decide +kernel
theorem dX5_about_5 : decode cX5_about 5 = .ok (.iload_n 2, 1) := by decide +kernel
theorem dX5_about_6 : decode cX5_about 6 = .ok (.tableswitch 69 0 3 #[30, 40, 50, 59], 30) := by decide +kernel
theorem dX5_about_36 : decode cX5_about 36 = .ok (.aload_n 0, 1) := by decide +kernel
theorem dX5_about_37 : decode cX5_about 37 = .ok (.getfield 10, 3) := by decide +kernel
theorem dX5_about_40 : decode cX5_about 40 = .ok (.getfield 102, 3) := by decide +kernel
theorem dX5_about_43 : decode cX5_about 43 = .ok (.iload_n 1, 1) := by decide +kernel
theorem dX5_about_44 : decode cX5_about 44 = .ok (.iaload, 1) := by decide +kernel
theorem dX5_about_45 : decode cX5_about 45 = .ok (.ireturn, 1) := by decide +kernel
theorem dX5_about_46 : decode cX5_about 46 = .ok (.aload_n 0, 1) := by decide +kernel
theorem dX5_about_47 : decode cX5_about 47 = .ok (.getfield 10, 3) := by decide +kernel
theorem dX5_about_50 : decode cX5_about 50 = .ok (.getfield 94, 3) := by decide +kernel
theorem dX5_about_53 : decode cX5_about 53 = .ok (.iload_n 1, 1) := by decide +kernel
theorem dX5_about_54 : decode cX5_about 54 = .ok (.iaload, 1) := by decide +kernel
theorem dX5_about_55 : decode cX5_about 55 = .ok (.ireturn, 1) := by decide +kernel
theorem dX5_about_56 : decode cX5_about 56 = .ok (.aload_n 0, 1) := by decide +kernel
theorem dX5_about_57 : decode cX5_about 57 = .ok (.getfield 10, 3) := by decide +kernel
theorem dX5_about_60 : decode cX5_about 60 = .ok (.iload_n 1, 1) := by decide +kernel
theorem dX5_about_61 : decode cX5_about 61 = .ok (.invokevirtual 59, 3) := by decide +kernel
theorem dX5_about_64 : decode cX5_about 64 = .ok (.ireturn, 1) := by decide +kernel
theorem dX5_about_65 : decode cX5_about 65 = .ok (.aload_n 0, 1) := by decide +kernel
theorem dX5_about_66 : decode cX5_about 66 = .ok (.getfield 10, 3) := by decide +kernel
theorem dX5_about_69 : decode cX5_about 69 = .ok (.getfield 152, 3) := by decide +kernel
theorem dX5_about_72 : decode cX5_about 72 = .ok (.iload_n 1, 1) := by decide +kernel
theorem dX5_about_73 : decode cX5_about 73 = .ok (.iaload, 1) := by decide +kernel
theorem dX5_about_74 : decode cX5_about 74 = .ok (.ireturn, 1) := by decide +kernel
theorem dX5_about_75 : decode cX5_about 75 = .ok (.new 155, 3) := by decide +kernel
theorem dX5_about_78 : decode cX5_about 78 = .ok (.dup, 1) := by decide +kernel
theorem dX5_about_79 : decode cX5_about 79 = .ok (.ldc 157, 2) := by decide +kernel
theorem dX5_about_81 : decode cX5_about 81 = .ok (.invokespecial 159, 3) := by decide +kernel
theorem dX5_about_84 : decode cX5_about 84 = .ok (.athrow, 1) := by decide +kernel
set_option maxRecDepth 20000 in
theorem ggX5_child_X5_requireNode : GoodIn wsX5_child wsX5_requireNode := goodIn_ca (goodIn_r _ [7, 8, 9, 1, 10, 11, 12, 13, 14, 15, 41, 42, 43, 44, 45, 46, 47, 48, 49, 50, 51, 52, 53] (by decide +kernel) (by decide +kernel)) (goodIn_sub (fun _ h => List.mem_cons_of_mem _ (List.mem_append_left _ (List.mem_append_right _ h))) (by decide +kernel))
set_option maxRecDepth 20000 in
theorem gX5_child_X5_requireNode : GoodIn wsX5_child (wsV RX5 55 RX5 yX5_requireNode wsX5_requireNode) := goodIn_app (goodIn_of _ (by decide +kernel)) ggX5_child_X5_requireNode
set_option maxRecDepth 20000 in
theorem ggX5_child_X4_childCount : GoodIn wsX5_child wsX4_childCount := goodIn_r _ [19, 20, 21, 22, 23, 48, 49, 50, 51, 52, 53] (by decide +kernel) (by decide +kernel)
set_option maxRecDepth 20000 in
theorem gX5_child_X4_childCount : GoodIn wsX5_child (wsV RX5 59 RX4 yX4_childCount wsX4_childCount) := goodIn_app (goodIn_of _ (by decide +kernel)) ggX5_child_X4_childCount
set_option maxRecDepth 20000 in
theorem ggX5_child_X5_requirePlace : GoodIn wsX5_child wsX5_requirePlace := goodIn_ca (goodIn_r _ [26, 27, 28] (by decide +kernel) (by decide +kernel)) (goodIn_sub (fun _ h => List.mem_cons_of_mem _ (List.mem_append_right _ h)) (by decide +kernel))
set_option maxRecDepth 20000 in
theorem gX5_child_X5_requirePlace : GoodIn wsX5_child (va_wsS RX5 63 yX5_requirePlace wsX5_requirePlace) := goodIn_app (goodIn_of _ (by decide +kernel)) ggX5_child_X5_requirePlace
set_option maxRecDepth 20000 in
theorem ggX5_child_X4_slotFor : GoodIn wsX5_child wsX4_slotFor := goodIn_r _ [32, 20, 21, 22, 23, 33, 34, 35, 13, 36, 37, 38, 39, 40, 48, 49, 50, 51, 52, 53] (by decide +kernel) (by decide +kernel)
set_option maxRecDepth 20000 in
theorem gX5_child_X4_slotFor : GoodIn wsX5_child (wsV RX5 163 RX4 yX4_slotFor wsX4_slotFor) := goodIn_app (goodIn_of _ (by decide +kernel)) ggX5_child_X4_slotFor
theorem dX5_child_0 : decode cX5_child 0 = .ok (.aload_n 0, 1) := by decide +kernel
theorem dX5_child_1 : decode cX5_child 1 = .ok (.iload_n 1, 1) := by decide +kernel
theorem dX5_child_2 : decode cX5_child 2 = .ok (.invokevirtual 55, 3) := by decide +kernel
theorem dX5_child_5 : decode cX5_child 5 = .ok (.iload_n 2, 1) := by decide +kernel
theorem dX5_child_6 : decode cX5_child 6 = .ok (.aload_n 0, 1) := by decide +kernel
theorem dX5_child_7 : decode cX5_child 7 = .ok (.getfield 10, 3) := by decide +kernel
theorem dX5_child_10 : decode cX5_child 10 = .ok (.iload_n 1, 1) := by decide +kernel
theorem dX5_child_11 : decode cX5_child 11 = .ok (.invokevirtual 59, 3) := by decide +kernel
theorem dX5_child_14 : decode cX5_child 14 = .ok (.iconst 1, 1) := by decide +kernel
theorem dX5_child_15 : decode cX5_child 15 = .ok (.isub, 1) := by decide +kernel
theorem dX5_child_16 : decode cX5_child 16 = .ok (.invokestatic 63, 3) := by decide +kernel
theorem dX5_child_19 : decode cX5_child 19 = .ok (.aload_n 0, 1) := by decide +kernel
theorem dX5_child_20 : decode cX5_child 20 = .ok (.getfield 10, 3) := by decide +kernel
theorem dX5_child_23 : decode cX5_child 23 = .ok (.getfield 160, 3) := by decide +kernel
theorem dX5_child_26 : decode cX5_child 26 = .ok (.aload_n 0, 1) := by decide +kernel
theorem dX5_child_27 : decode cX5_child 27 = .ok (.getfield 10, 3) := by decide +kernel
theorem dX5_child_30 : decode cX5_child 30 = .ok (.iload_n 1, 1) := by decide +kernel
theorem dX5_child_31 : decode cX5_child 31 = .ok (.iload_n 2, 1) := by decide +kernel
theorem dX5_child_32 : decode cX5_child 32 = .ok (.invokevirtual 163, 3) := by decide +kernel
theorem dX5_child_35 : decode cX5_child 35 = .ok (.iaload, 1) := by decide +kernel
theorem dX5_child_36 : decode cX5_child 36 = .ok (.ireturn, 1) := by decide +kernel
theorem dX5_nodes_0 : decode cX5_nodes 0 = .ok (.iload_n 1, 1) := by decide +kernel
theorem dX5_nodes_1 : decode cX5_nodes 1 = .ok (.ifCond .eq 10, 3) := by decide +kernel
theorem dX5_nodes_4 : decode cX5_nodes 4 = .ok (.aload_n 0, 1) := by decide +kernel
theorem dX5_nodes_5 : decode cX5_nodes 5 = .ok (.getfield 41, 3) := by decide +kernel
theorem dX5_nodes_8 : decode cX5_nodes 8 = .ok (.goto 10, 3) := by decide +kernel
theorem dX5_nodes_11 : decode cX5_nodes 11 = .ok (.aload_n 0, 1) := by decide +kernel
theorem dX5_nodes_12 : decode cX5_nodes 12 = .ok (.getfield 10, 3) := by decide +kernel
theorem dX5_nodes_15 : decode cX5_nodes 15 = .ok (.getfield 166, 3) := by decide +kernel
theorem dX5_nodes_18 : decode cX5_nodes 18 = .ok (.ireturn, 1) := by decide +kernel
set_option maxRecDepth 20000 in
theorem ggX5_count_X3_follow : GoodIn wsX5_count wsX3_follow := goodIn_r _ [5, 6, 7, 4, 8, 9, 10, 11, 12, 13, 14, 15, 16, 17, 18, 19, 20, 21, 22, 23, 24, 25, 26, 27, 42, 43, 44, 45, 46, 47] (by decide +kernel) (by decide +kernel)
set_option maxRecDepth 20000 in
theorem gX5_count_X3_follow : GoodIn wsX5_count (va_wsS RX5 167 yX3_follow wsX3_follow) := goodIn_app (goodIn_of _ (by decide +kernel)) ggX5_count_X3_follow
set_option maxRecDepth 20000 in
theorem ggX5_count_J6_bitCount_0f7a4 : GoodIn wsX5_count wsJ6_bitCount_0f7a4 := goodIn_r _ [31, 32, 33, 34] (by decide +kernel) (by decide +kernel)
set_option maxRecDepth 20000 in
theorem gX5_count_J6_bitCount_0f7a4 : GoodIn wsX5_count (va_wsS RX5 173 yJ6_bitCount_0f7a4 wsJ6_bitCount_0f7a4) := goodIn_app (goodIn_of _ (by decide +kernel)) ggX5_count_J6_bitCount_0f7a4
theorem dX5_count_0 : decode cX5_count 0 = .ok (.iload_n 1, 1) := by decide +kernel
theorem dX5_count_1 : decode cX5_count 1 = .ok (.aload_n 0, 1) := by decide +kernel
theorem dX5_count_2 : decode cX5_count 2 = .ok (.getfield 10, 3) := by decide +kernel
theorem dX5_count_5 : decode cX5_count 5 = .ok (.invokestatic 167, 3) := by decide +kernel
theorem dX5_count_8 : decode cX5_count 8 = .ok (.invokestatic 173, 3) := by decide +kernel
theorem dX5_count_11 : decode cX5_count 11 = .ok (.ireturn, 1) := by decide +kernel
set_option maxRecDepth 20000 in
theorem ggX5_find_X3_follow : GoodIn wsX5_find wsX3_follow := goodIn_r _ [7, 8, 9, 6, 10, 11, 12, 13, 14, 15, 16, 17, 18, 19, 20, 21, 22, 23, 24, 25, 26, 27, 28, 29, 51, 52, 53, 54, 55, 56] (by decide +kernel) (by decide +kernel)
set_option maxRecDepth 20000 in
theorem gX5_find_X3_follow : GoodIn wsX5_find (va_wsS RX5 167 yX3_follow wsX3_follow) := goodIn_app (goodIn_of _ (by decide +kernel)) ggX5_find_X3_follow
set_option maxRecDepth 20000 in
theorem ggX5_find_J6_bitCount_0f7a4 : GoodIn wsX5_find wsJ6_bitCount_0f7a4 := goodIn_r _ [33, 34, 35, 36] (by decide +kernel) (by decide +kernel)
set_option maxRecDepth 20000 in
theorem gX5_find_J6_bitCount_0f7a4 : GoodIn wsX5_find (va_wsS RX5 173 yJ6_bitCount_0f7a4 wsJ6_bitCount_0f7a4) := goodIn_app (goodIn_of _ (by decide +kernel)) ggX5_find_J6_bitCount_0f7a4
set_option maxRecDepth 20000 in
theorem ggX5_find_X4_pick : GoodIn wsX5_find wsX4_pick := goodIn_r _ [41, 42, 43, 17, 18, 19, 51, 52, 53, 54, 55, 56] (by decide +kernel) (by decide +kernel)
set_option maxRecDepth 20000 in
theorem gX5_find_X4_pick : GoodIn wsX5_find (wsV RX5 180 RX4 yX4_pick wsX4_pick) := goodIn_app (goodIn_of _ (by decide +kernel)) ggX5_find_X4_pick
theorem dX5_find_0 : decode cX5_find 0 = .ok (.iload_n 1, 1) := by decide +kernel
theorem dX5_find_1 : decode cX5_find 1 = .ok (.aload_n 0, 1) := by decide +kernel
theorem dX5_find_2 : decode cX5_find 2 = .ok (.getfield 10, 3) := by decide +kernel
theorem dX5_find_5 : decode cX5_find 5 = .ok (.invokestatic 167, 3) := by decide +kernel
theorem dX5_find_8 : decode cX5_find 8 = .ok (.istore_n 3, 1) := by decide +kernel
theorem dX5_find_9 : decode cX5_find 9 = .ok (.iload_n 2, 1) := by decide +kernel
theorem dX5_find_10 : decode cX5_find 10 = .ok (.ifCond .lt 11, 3) := by decide +kernel
theorem dX5_find_13 : decode cX5_find 13 = .ok (.iload_n 2, 1) := by decide +kernel
theorem dX5_find_14 : decode cX5_find 14 = .ok (.iload_n 3, 1) := by decide +kernel
theorem dX5_find_15 : decode cX5_find 15 = .ok (.invokestatic 173, 3) := by decide +kernel
theorem dX5_find_18 : decode cX5_find 18 = .ok (.if_icmp .lt 13, 3) := by decide +kernel
theorem dX5_find_21 : decode cX5_find 21 = .ok (.new 144, 3) := by decide +kernel
theorem dX5_find_24 : decode cX5_find 24 = .ok (.dup, 1) := by decide +kernel
theorem dX5_find_25 : decode cX5_find 25 = .ok (.ldc 178, 2) := by decide +kernel
theorem dX5_find_27 : decode cX5_find 27 = .ok (.invokespecial 148, 3) := by decide +kernel
theorem dX5_find_30 : decode cX5_find 30 = .ok (.athrow, 1) := by decide +kernel
theorem dX5_find_31 : decode cX5_find 31 = .ok (.aload_n 0, 1) := by decide +kernel
theorem dX5_find_32 : decode cX5_find 32 = .ok (.getfield 10, 3) := by decide +kernel
theorem dX5_find_35 : decode cX5_find 35 = .ok (.iload_n 3, 1) := by decide +kernel
theorem dX5_find_36 : decode cX5_find 36 = .ok (.iload_n 2, 1) := by decide +kernel
theorem dX5_find_37 : decode cX5_find 37 = .ok (.invokevirtual 180, 3) := by decide +kernel
theorem dX5_find_40 : decode cX5_find 40 = .ok (.ireturn, 1) := by decide +kernel
set_option maxRecDepth 20000 in
theorem ggX5_alike_X5_requireNode : GoodIn wsX5_alike wsX5_requireNode := goodIn_ca (goodIn_r _ [6, 7, 8, 1, 9, 10, 11, 12, 13, 14, 35, 36, 37, 38, 39, 40, 41, 42, 43, 44, 45, 46, 47] (by decide +kernel) (by decide +kernel)) (goodIn_sub (fun _ h => List.mem_cons_of_mem _ (List.mem_append_right _ h)) (by decide +kernel))
set_option maxRecDepth 20000 in
theorem gX5_alike_X5_requireNode : GoodIn wsX5_alike (wsV RX5 55 RX5 yX5_requireNode wsX5_requireNode) := goodIn_app (goodIn_of _ (by decide +kernel)) ggX5_alike_X5_requireNode
set_option maxRecDepth 20000 in
theorem ggX5_alike_X4_firstAlike : GoodIn wsX5_alike wsX4_firstAlike := goodIn_r _ [18, 19, 20, 21, 22, 23, 12, 24, 14, 25, 26, 27, 28, 29, 30, 31, 32, 33, 34, 42, 43, 44, 45, 46, 47] (by decide +kernel) (by decide +kernel)
set_option maxRecDepth 20000 in
theorem gX5_alike_X4_firstAlike : GoodIn wsX5_alike (wsV RX5 183 RX4 yX4_firstAlike wsX4_firstAlike) := goodIn_app (goodIn_of _ (by decide +kernel)) ggX5_alike_X4_firstAlike
theorem dX5_alike_0 : decode cX5_alike 0 = .ok (.aload_n 0, 1) := by decide +kernel
theorem dX5_alike_1 : decode cX5_alike 1 = .ok (.iload_n 1, 1) := by decide +kernel
theorem dX5_alike_2 : decode cX5_alike 2 = .ok (.invokevirtual 55, 3) := by decide +kernel
theorem dX5_alike_5 : decode cX5_alike 5 = .ok (.aload_n 0, 1) := by decide +kernel
theorem dX5_alike_6 : decode cX5_alike 6 = .ok (.getfield 10, 3) := by decide +kernel
theorem dX5_alike_9 : decode cX5_alike 9 = .ok (.iload_n 1, 1) := by decide +kernel
theorem dX5_alike_10 : decode cX5_alike 10 = .ok (.invokevirtual 183, 3) := by decide +kernel
theorem dX5_alike_13 : decode cX5_alike 13 = .ok (.ireturn, 1) := by decide +kernel
set_option maxRecDepth 20000 in
theorem ggX5_distance_X5_requireCommit : GoodIn wsX5_distance wsX5_requireCommit := goodIn_ca (goodIn_r _ [8, 9, 10, 2, 11, 60, 61, 62, 63, 64, 65, 66, 67, 68, 69, 70, 71] (by decide +kernel) (by decide +kernel)) (goodIn_sub (fun _ h => List.mem_cons_of_mem _ (List.mem_append_right _ h)) (by decide +kernel))
set_option maxRecDepth 20000 in
theorem gX5_distance_X5_requireCommit : GoodIn wsX5_distance (wsV RX5 110 RX5 yX5_requireCommit wsX5_requireCommit) := goodIn_app (goodIn_of _ (by decide +kernel)) ggX5_distance_X5_requireCommit
set_option maxRecDepth 20000 in
theorem ggX5_distance_X0_between : GoodIn wsX5_distance wsX0_between := goodIn_r _ [16, 17, 18, 19, 20, 21, 22, 15, 23, 24, 25, 26, 27, 28, 29, 30, 31, 32, 33, 34, 35, 36, 37, 38, 39, 40, 41, 42, 43, 44, 45, 46, 47, 48, 49, 50, 51, 52, 53, 54, 55, 56, 57, 58, 59, 72, 73, 74, 75, 76, 77, 78, 79, 80, 81] (by decide +kernel) (by decide +kernel)
set_option maxRecDepth 20000 in
theorem gX5_distance_X0_between : GoodIn wsX5_distance (wsV RX5 186 RX0 yX0_between wsX0_between) := goodIn_app (goodIn_of _ (by decide +kernel)) ggX5_distance_X0_between
theorem dX5_distance_0 : decode cX5_distance 0 = .ok (.aload_n 0, 1) := by decide +kernel
theorem dX5_distance_1 : decode cX5_distance 1 = .ok (.iload_n 1, 1) := by decide +kernel
theorem dX5_distance_2 : decode cX5_distance 2 = .ok (.invokevirtual 110, 3) := by decide +kernel
theorem dX5_distance_5 : decode cX5_distance 5 = .ok (.aload_n 0, 1) := by decide +kernel
theorem dX5_distance_6 : decode cX5_distance 6 = .ok (.iload_n 2, 1) := by decide +kernel
theorem dX5_distance_7 : decode cX5_distance 7 = .ok (.invokevirtual 110, 3) := by decide +kernel
theorem dX5_distance_10 : decode cX5_distance 10 = .ok (.aload_n 0, 1) := by decide +kernel
theorem dX5_distance_11 : decode cX5_distance 11 = .ok (.getfield 33, 3) := by decide +kernel
theorem dX5_distance_14 : decode cX5_distance 14 = .ok (.aload_n 0, 1) := by decide +kernel
theorem dX5_distance_15 : decode cX5_distance 15 = .ok (.getfield 19, 3) := by decide +kernel
theorem dX5_distance_18 : decode cX5_distance 18 = .ok (.getfield 113, 3) := by decide +kernel
theorem dX5_distance_21 : decode cX5_distance 21 = .ok (.iload_n 1, 1) := by decide +kernel
theorem dX5_distance_22 : decode cX5_distance 22 = .ok (.aaload, 1) := by decide +kernel
theorem dX5_distance_23 : decode cX5_distance 23 = .ok (.aload_n 0, 1) := by decide +kernel
theorem dX5_distance_24 : decode cX5_distance 24 = .ok (.getfield 19, 3) := by decide +kernel
theorem dX5_distance_27 : decode cX5_distance 27 = .ok (.getfield 113, 3) := by decide +kernel
theorem dX5_distance_30 : decode cX5_distance 30 = .ok (.iload_n 2, 1) := by decide +kernel
theorem dX5_distance_31 : decode cX5_distance 31 = .ok (.aaload, 1) := by decide +kernel
theorem dX5_distance_32 : decode cX5_distance 32 = .ok (.invokevirtual 186, 3) := by decide +kernel
theorem dX5_distance_35 : decode cX5_distance 35 = .ok (.ireturn, 1) := by decide +kernel
theorem dX5_state_0 : decode cX5_state 0 = .ok (.iload_n 1, 1) := by decide +kernel
theorem dX5_state_1 : decode cX5_state 1 = .ok (.tableswitch 45 0 2 #[27, 35, 40], 27) := by decide +kernel
theorem dX5_state_28 : decode cX5_state 28 = .ok (.aload_n 0, 1) := by decide +kernel
theorem dX5_state_29 : decode cX5_state 29 = .ok (.getfield 19, 3) := by decide +kernel
theorem dX5_state_32 : decode cX5_state 32 = .ok (.getfield 105, 3) := by decide +kernel
theorem dX5_state_35 : decode cX5_state 35 = .ok (.ireturn, 1) := by decide +kernel
theorem dX5_state_36 : decode cX5_state 36 = .ok (.aload_n 0, 1) := by decide +kernel
theorem dX5_state_37 : decode cX5_state 37 = .ok (.getfield 49, 3) := by decide +kernel
theorem dX5_state_40 : decode cX5_state 40 = .ok (.ireturn, 1) := by decide +kernel
theorem dX5_state_41 : decode cX5_state 41 = .ok (.aload_n 0, 1) := by decide +kernel
theorem dX5_state_42 : decode cX5_state 42 = .ok (.getfield 52, 3) := by decide +kernel
theorem dX5_state_45 : decode cX5_state 45 = .ok (.ireturn, 1) := by decide +kernel
theorem dX5_state_46 : decode cX5_state 46 = .ok (.new 80, 3) := by decide +kernel
theorem dX5_state_49 : decode cX5_state 49 = .ok (.dup, 1) := by decide +kernel
theorem dX5_state_50 : decode cX5_state 50 = .ok (.ldc 190, 2) := by decide +kernel
theorem dX5_state_52 : decode cX5_state 52 = .ok (.invokespecial 84, 3) := by decide +kernel
theorem dX5_state_55 : decode cX5_state 55 = .ok (.athrow, 1) := by decide +kernel
set_option maxRecDepth 20000 in
theorem ggX5_above_X5_requireCommit : GoodIn wsX5_above wsX5_requireCommit := goodIn_ca (goodIn_r _ [8, 9, 10, 1, 11, 17, 18, 19, 20, 21, 22, 23, 24, 25, 26, 27, 28] (by decide +kernel) (by decide +kernel)) (goodIn_sub (fun _ h => List.mem_cons_of_mem _ (List.mem_append_left _ (List.mem_append_right _ h))) (by decide +kernel))
set_option maxRecDepth 20000 in
theorem gX5_above_X5_requireCommit : GoodIn wsX5_above (wsV RX5 110 RX5 yX5_requireCommit wsX5_requireCommit) := goodIn_app (goodIn_of _ (by decide +kernel)) ggX5_above_X5_requireCommit
set_option maxRecDepth 20000 in
theorem ggX5_above_X5_requirePlace : GoodIn wsX5_above wsX5_requirePlace := goodIn_ca (goodIn_r _ [14, 15, 16] (by decide +kernel) (by decide +kernel)) (goodIn_sub (fun _ h => List.mem_cons_of_mem _ (List.mem_append_right _ h)) (by decide +kernel))
set_option maxRecDepth 20000 in
theorem gX5_above_X5_requirePlace : GoodIn wsX5_above (va_wsS RX5 63 yX5_requirePlace wsX5_requirePlace) := goodIn_app (goodIn_of _ (by decide +kernel)) ggX5_above_X5_requirePlace
theorem dX5_above_0 : decode cX5_above 0 = .ok (.aload_n 0, 1) := by decide +kernel
theorem dX5_above_1 : decode cX5_above 1 = .ok (.iload_n 1, 1) := by decide +kernel
theorem dX5_above_2 : decode cX5_above 2 = .ok (.invokevirtual 110, 3) := by decide +kernel
theorem dX5_above_5 : decode cX5_above 5 = .ok (.iload_n 2, 1) := by decide +kernel
theorem dX5_above_6 : decode cX5_above 6 = .ok (.iconst 1, 1) := by decide +kernel
theorem dX5_above_7 : decode cX5_above 7 = .ok (.invokestatic 63, 3) := by decide +kernel
theorem dX5_above_10 : decode cX5_above 10 = .ok (.iload_n 2, 1) := by decide +kernel
theorem dX5_above_11 : decode cX5_above 11 = .ok (.ifCond .ne 15, 3) := by decide +kernel
theorem dX5_above_14 : decode cX5_above 14 = .ok (.aload_n 0, 1) := by decide +kernel
theorem dX5_above_15 : decode cX5_above 15 = .ok (.getfield 19, 3) := by decide +kernel
theorem dX5_above_18 : decode cX5_above 18 = .ok (.getfield 192, 3) := by decide +kernel
theorem dX5_above_21 : decode cX5_above 21 = .ok (.iload_n 1, 1) := by decide +kernel
theorem dX5_above_22 : decode cX5_above 22 = .ok (.iaload, 1) := by decide +kernel
theorem dX5_above_23 : decode cX5_above 23 = .ok (.goto 12, 3) := by decide +kernel
theorem dX5_above_26 : decode cX5_above 26 = .ok (.aload_n 0, 1) := by decide +kernel
theorem dX5_above_27 : decode cX5_above 27 = .ok (.getfield 19, 3) := by decide +kernel
theorem dX5_above_30 : decode cX5_above 30 = .ok (.getfield 195, 3) := by decide +kernel
theorem dX5_above_33 : decode cX5_above 33 = .ok (.iload_n 1, 1) := by decide +kernel
theorem dX5_above_34 : decode cX5_above 34 = .ok (.iaload, 1) := by decide +kernel
theorem dX5_above_35 : decode cX5_above 35 = .ok (.ireturn, 1) := by decide +kernel
set_option maxRecDepth 20000 in
theorem ggX5_requireNode_X4_holds : GoodIn wsX5_requireNode wsX4_holds := goodIn_r _ [8, 9, 17, 18, 19, 20, 21, 22] (by decide +kernel) (by decide +kernel)
set_option maxRecDepth 20000 in
theorem gX5_requireNode_X4_holds : GoodIn wsX5_requireNode (wsV RX5 198 RX4 yX4_holds wsX4_holds) := goodIn_app (goodIn_of _ (by decide +kernel)) ggX5_requireNode_X4_holds
theorem dX5_requireNode_0 : decode cX5_requireNode 0 = .ok (.aload_n 0, 1) := by decide +kernel
theorem dX5_requireNode_1 : decode cX5_requireNode 1 = .ok (.getfield 10, 3) := by decide +kernel
theorem dX5_requireNode_4 : decode cX5_requireNode 4 = .ok (.iload_n 1, 1) := by decide +kernel
theorem dX5_requireNode_5 : decode cX5_requireNode 5 = .ok (.invokevirtual 198, 3) := by decide +kernel
theorem dX5_requireNode_8 : decode cX5_requireNode 8 = .ok (.ifCond .ne 13, 3) := by decide +kernel
theorem dX5_requireNode_11 : decode cX5_requireNode 11 = .ok (.new 144, 3) := by decide +kernel
theorem dX5_requireNode_14 : decode cX5_requireNode 14 = .ok (.dup, 1) := by decide +kernel
theorem dX5_requireNode_15 : decode cX5_requireNode 15 = .ok (.ldc 202, 2) := by decide +kernel
theorem dX5_requireNode_17 : decode cX5_requireNode 17 = .ok (.invokespecial 148, 3) := by decide +kernel
theorem dX5_requireNode_20 : decode cX5_requireNode 20 = .ok (.athrow, 1) := by decide +kernel
theorem dX5_requireNode_21 : decode cX5_requireNode 21 = .ok (.return_, 1) := by decide +kernel
theorem dX5_requireCommit_0 : decode cX5_requireCommit 0 = .ok (.iload_n 1, 1) := by decide +kernel
theorem dX5_requireCommit_1 : decode cX5_requireCommit 1 = .ok (.ifCond .lt 14, 3) := by decide +kernel
theorem dX5_requireCommit_4 : decode cX5_requireCommit 4 = .ok (.iload_n 1, 1) := by decide +kernel
theorem dX5_requireCommit_5 : decode cX5_requireCommit 5 = .ok (.aload_n 0, 1) := by decide +kernel
theorem dX5_requireCommit_6 : decode cX5_requireCommit 6 = .ok (.getfield 19, 3) := by decide +kernel
theorem dX5_requireCommit_9 : decode cX5_requireCommit 9 = .ok (.getfield 105, 3) := by decide +kernel
theorem dX5_requireCommit_12 : decode cX5_requireCommit 12 = .ok (.if_icmp .lt 13, 3) := by decide +kernel
theorem dX5_requireCommit_15 : decode cX5_requireCommit 15 = .ok (.new 144, 3) := by decide +kernel
theorem dX5_requireCommit_18 : decode cX5_requireCommit 18 = .ok (.dup, 1) := by decide +kernel
theorem dX5_requireCommit_19 : decode cX5_requireCommit 19 = .ok (.ldc 204, 2) := by decide +kernel
theorem dX5_requireCommit_21 : decode cX5_requireCommit 21 = .ok (.invokespecial 148, 3) := by decide +kernel
theorem dX5_requireCommit_24 : decode cX5_requireCommit 24 = .ok (.athrow, 1) := by decide +kernel
theorem dX5_requireCommit_25 : decode cX5_requireCommit 25 = .ok (.return_, 1) := by decide +kernel
theorem dX5_requirePlace_0 : decode cX5_requirePlace 0 = .ok (.iload_n 0, 1) := by decide +kernel
theorem dX5_requirePlace_1 : decode cX5_requirePlace 1 = .ok (.ifCond .lt 8, 3) := by decide +kernel
theorem dX5_requirePlace_4 : decode cX5_requirePlace 4 = .ok (.iload_n 0, 1) := by decide +kernel
theorem dX5_requirePlace_5 : decode cX5_requirePlace 5 = .ok (.iload_n 1, 1) := by decide +kernel
theorem dX5_requirePlace_6 : decode cX5_requirePlace 6 = .ok (.if_icmp .le 13, 3) := by decide +kernel
theorem dX5_requirePlace_9 : decode cX5_requirePlace 9 = .ok (.new 155, 3) := by decide +kernel
theorem dX5_requirePlace_12 : decode cX5_requirePlace 12 = .ok (.dup, 1) := by decide +kernel
theorem dX5_requirePlace_13 : decode cX5_requirePlace 13 = .ok (.ldc 206, 2) := by decide +kernel
theorem dX5_requirePlace_15 : decode cX5_requirePlace 15 = .ok (.invokespecial 159, 3) := by decide +kernel
theorem dX5_requirePlace_18 : decode cX5_requirePlace 18 = .ok (.athrow, 1) := by decide +kernel
theorem dX5_requirePlace_19 : decode cX5_requirePlace 19 = .ok (.return_, 1) := by decide +kernel
theorem dX5_requireLabel_0 : decode cX5_requireLabel 0 = .ok (.iload_n 0, 1) := by decide +kernel
theorem dX5_requireLabel_1 : decode cX5_requireLabel 1 = .ok (.ifCond .lt 9, 3) := by decide +kernel
theorem dX5_requireLabel_4 : decode cX5_requireLabel 4 = .ok (.iload_n 0, 1) := by decide +kernel
theorem dX5_requireLabel_5 : decode cX5_requireLabel 5 = .ok (.bipush 6, 2) := by decide +kernel
theorem dX5_requireLabel_7 : decode cX5_requireLabel 7 = .ok (.if_icmp .lt 13, 3) := by decide +kernel
theorem dX5_requireLabel_10 : decode cX5_requireLabel 10 = .ok (.new 80, 3) := by decide +kernel
theorem dX5_requireLabel_13 : decode cX5_requireLabel 13 = .ok (.dup, 1) := by decide +kernel
theorem dX5_requireLabel_14 : decode cX5_requireLabel 14 = .ok (.ldc 208, 2) := by decide +kernel
theorem dX5_requireLabel_16 : decode cX5_requireLabel 16 = .ok (.invokespecial 84, 3) := by decide +kernel
theorem dX5_requireLabel_19 : decode cX5_requireLabel 19 = .ok (.athrow, 1) := by decide +kernel
theorem dX5_requireLabel_20 : decode cX5_requireLabel 20 = .ok (.return_, 1) := by decide +kernel
theorem dX5_isIn_0 : decode cX5_isIn 0 = .ok (.iload_n 0, 1) := by decide +kernel
theorem dX5_isIn_1 : decode cX5_isIn 1 = .ok (.iload_n 1, 1) := by decide +kernel
theorem dX5_isIn_2 : decode cX5_isIn 2 = .ok (.ishr, 1) := by decide +kernel
theorem dX5_isIn_3 : decode cX5_isIn 3 = .ok (.iconst 1, 1) := by decide +kernel
theorem dX5_isIn_4 : decode cX5_isIn 4 = .ok (.iand, 1) := by decide +kernel
theorem dX5_isIn_5 : decode cX5_isIn 5 = .ok (.ifCond .eq 7, 3) := by decide +kernel
theorem dX5_isIn_8 : decode cX5_isIn 8 = .ok (.iconst 1, 1) := by decide +kernel
theorem dX5_isIn_9 : decode cX5_isIn 9 = .ok (.goto 4, 3) := by decide +kernel
theorem dX5_isIn_12 : decode cX5_isIn 12 = .ok (.iconst 0, 1) := by decide +kernel
theorem dX5_isIn_13 : decode cX5_isIn 13 = .ok (.ireturn, 1) := by decide +kernel
