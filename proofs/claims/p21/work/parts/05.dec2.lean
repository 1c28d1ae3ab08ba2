theorem dX2_init_0 : decode cX2_init 0 = .ok (.aload_n 0, 1) := by decide +kernel
theorem dX2_init_1 : decode cX2_init 1 = .ok (.invokespecial 1, 3) := by decide +kernel
theorem dX2_init_4 : decode cX2_init 4 = .ok (.aload_n 0, 1) := by decide +kernel
theorem dX2_init_5 : decode cX2_init 5 = .ok (.bipush 20, 2) := by decide +kernel
theorem dX2_init_7 : decode cX2_init 7 = .ok (.anewarray 9, 3) := by decide +kernel
theorem dX2_init_10 : decode cX2_init 10 = .ok (.putfield 11, 3) := by decide +kernel
theorem dX2_init_13 : decode cX2_init 13 = .ok (.aload_n 0, 1) := by decide +kernel
theorem dX2_init_14 : decode cX2_init 14 = .ok (.iconst 0, 1) := by decide +kernel
theorem dX2_init_15 : decode cX2_init 15 = .ok (.putfield 15, 3) := by decide +kernel
theorem dX2_init_18 : decode cX2_init 18 = .ok (.aload_n 0, 1) := by decide +kernel
theorem dX2_init_19 : decode cX2_init 19 = .ok (.new 19, 3) := by decide +kernel
theorem dX2_init_22 : decode cX2_init 22 = .ok (.dup, 1) := by decide +kernel
theorem dX2_init_23 : decode cX2_init 23 = .ok (.invokespecial 21, 3) := by decide +kernel
theorem dX2_init_26 : decode cX2_init 26 = .ok (.putfield 22, 3) := by decide +kernel
theorem dX2_init_29 : decode cX2_init 29 = .ok (.aload_n 0, 1) := by decide +kernel
theorem dX2_init_30 : decode cX2_init 30 = .ok (.iconst 0, 1) := by decide +kernel
theorem dX2_init_31 : decode cX2_init 31 = .ok (.putfield 26, 3) := by decide +kernel
theorem dX2_init_34 : decode cX2_init 34 = .ok (.aload_n 0, 1) := by decide +kernel
theorem dX2_init_35 : decode cX2_init 35 = .ok (.iconst 0, 1) := by decide +kernel
theorem dX2_init_36 : decode cX2_init 36 = .ok (.putfield 30, 3) := by decide +kernel
theorem dX2_init_39 : decode cX2_init 39 = .ok (.aload_n 0, 1) := by decide +kernel
theorem dX2_init_40 : decode cX2_init 40 = .ok (.iconst 0, 1) := by decide +kernel
theorem dX2_init_41 : decode cX2_init 41 = .ok (.putfield 33, 3) := by decide +kernel
theorem dX2_init_44 : decode cX2_init 44 = .ok (.aload_n 0, 1) := by decide +kernel
theorem dX2_init_45 : decode cX2_init 45 = .ok (.iconst 0, 1) := by decide +kernel
theorem dX2_init_46 : decode cX2_init 46 = .ok (.putfield 36, 3) := by decide +kernel
theorem dX2_init_49 : decode cX2_init 49 = .ok (.iconst 0, 1) := by decide +kernel
theorem dX2_init_50 : decode cX2_init 50 = .ok (.istore_n 1, 1) := by decide +kernel
theorem dX2_init_51 : decode cX2_init 51 = .ok (.iload_n 1, 1) := by decide +kernel
theorem dX2_init_52 : decode cX2_init 52 = .ok (.bipush 20, 2) := by decide +kernel
theorem dX2_init_54 : decode cX2_init 54 = .ok (.if_icmp .ge 23, 3) := by decide +kernel
theorem dX2_init_57 : decode cX2_init 57 = .ok (.aload_n 0, 1) := by decide +kernel
theorem dX2_init_58 : decode cX2_init 58 = .ok (.getfield 11, 3) := by decide +kernel
theorem dX2_init_61 : decode cX2_init 61 = .ok (.iload_n 1, 1) := by decide +kernel
theorem dX2_init_62 : decode cX2_init 62 = .ok (.new 9, 3) := by decide +kernel
theorem dX2_init_65 : decode cX2_init 65 = .ok (.dup, 1) := by decide +kernel
theorem dX2_init_66 : decode cX2_init 66 = .ok (.iload_n 1, 1) := by decide +kernel
theorem dX2_init_67 : decode cX2_init 67 = .ok (.invokespecial 39, 3) := by decide +kernel
theorem dX2_init_70 : decode cX2_init 70 = .ok (.aastore, 1) := by decide +kernel
theorem dX2_init_71 : decode cX2_init 71 = .ok (.iinc 1 1, 3) := by decide +kernel
theorem dX2_init_74 : decode cX2_init 74 = .ok (.goto (-23), 3) := by decide +kernel
theorem dX2_init_77 : decode cX2_init 77 = .ok (.return_, 1) := by decide +kernel
set_option maxRecDepth 20000 in
theorem ggX2_add_X2_checkRange : GoodIn wsX2_add wsX2_checkRange := goodIn_ca (goodIn_r _ [12, 13, 14] (by decide +kernel) (by decide +kernel)) (goodIn_sub (fun _ h => List.mem_cons_of_mem _ (List.mem_append_right _ h)) (by decide +kernel))
set_option maxRecDepth 20000 in
theorem gX2_add_X2_checkRange : GoodIn wsX2_add (wsV RX2 42 RX2 yX2_checkRange wsX2_checkRange) := goodIn_app (goodIn_of _ (by decide +kernel)) ggX2_add_X2_checkRange
set_option maxRecDepth 20000 in
theorem ggX2_add_X2_checkNoStart : GoodIn wsX2_add wsX2_checkNoStart := goodIn_ca (goodIn_r _ [18, 1, 2, 19, 20, 21, 22, 23, 24, 25, 26] (by decide +kernel) (by decide +kernel)) (goodIn_sub (fun _ h => List.mem_cons_of_mem _ (List.mem_append_left _ (List.mem_append_right _ h))) (by decide +kernel))
set_option maxRecDepth 20000 in
theorem gX2_add_X2_checkNoStart : GoodIn wsX2_add (wsV RX2 53 RX2 yX2_checkNoStart wsX2_checkNoStart) := goodIn_app (goodIn_of _ (by decide +kernel)) ggX2_add_X2_checkNoStart
theorem dX2_add_0 : decode cX2_add 0 = .ok (.aload_n 0, 1) := by decide +kernel
theorem dX2_add_1 : decode cX2_add 1 = .ok (.iload_n 1, 1) := by decide +kernel
theorem dX2_add_2 : decode cX2_add 2 = .ok (.iconst 1, 1) := by decide +kernel
theorem dX2_add_3 : decode cX2_add 3 = .ok (.bipush 100, 2) := by decide +kernel
theorem dX2_add_5 : decode cX2_add 5 = .ok (.invokevirtual 42, 3) := by decide +kernel
theorem dX2_add_8 : decode cX2_add 8 = .ok (.aload_n 0, 1) := by decide +kernel
theorem dX2_add_9 : decode cX2_add 9 = .ok (.iload_n 2, 1) := by decide +kernel
theorem dX2_add_10 : decode cX2_add 10 = .ok (.iconst 0, 1) := by decide +kernel
theorem dX2_add_11 : decode cX2_add 11 = .ok (.iconst 3, 1) := by decide +kernel
theorem dX2_add_12 : decode cX2_add 12 = .ok (.invokevirtual 42, 3) := by decide +kernel
theorem dX2_add_15 : decode cX2_add 15 = .ok (.aload_n 0, 1) := by decide +kernel
theorem dX2_add_16 : decode cX2_add 16 = .ok (.getfield 15, 3) := by decide +kernel
theorem dX2_add_19 : decode cX2_add 19 = .ok (.bipush 20, 2) := by decide +kernel
theorem dX2_add_21 : decode cX2_add 21 = .ok (.if_icmp .lt 13, 3) := by decide +kernel
theorem dX2_add_24 : decode cX2_add 24 = .ok (.new 46, 3) := by decide +kernel
theorem dX2_add_27 : decode cX2_add 27 = .ok (.dup, 1) := by decide +kernel
theorem dX2_add_28 : decode cX2_add 28 = .ok (.ldc 48, 2) := by decide +kernel
theorem dX2_add_30 : decode cX2_add 30 = .ok (.invokespecial 50, 3) := by decide +kernel
theorem dX2_add_33 : decode cX2_add 33 = .ok (.athrow, 1) := by decide +kernel
theorem dX2_add_34 : decode cX2_add 34 = .ok (.aload_n 0, 1) := by decide +kernel
theorem dX2_add_35 : decode cX2_add 35 = .ok (.invokevirtual 53, 3) := by decide +kernel
theorem dX2_add_38 : decode cX2_add 38 = .ok (.aload_n 0, 1) := by decide +kernel
theorem dX2_add_39 : decode cX2_add 39 = .ok (.getfield 11, 3) := by decide +kernel
theorem dX2_add_42 : decode cX2_add 42 = .ok (.aload_n 0, 1) := by decide +kernel
theorem dX2_add_43 : decode cX2_add 43 = .ok (.getfield 15, 3) := by decide +kernel
theorem dX2_add_46 : decode cX2_add 46 = .ok (.aaload, 1) := by decide +kernel
theorem dX2_add_47 : decode cX2_add 47 = .ok (.astore_n 3, 1) := by decide +kernel
theorem dX2_add_48 : decode cX2_add 48 = .ok (.aload_n 3, 1) := by decide +kernel
theorem dX2_add_49 : decode cX2_add 49 = .ok (.iload_n 1, 1) := by decide +kernel
theorem dX2_add_50 : decode cX2_add 50 = .ok (.putfield 56, 3) := by decide +kernel
theorem dX2_add_53 : decode cX2_add 53 = .ok (.aload_n 3, 1) := by decide +kernel
theorem dX2_add_54 : decode cX2_add 54 = .ok (.iload_n 2, 1) := by decide +kernel
theorem dX2_add_55 : decode cX2_add 55 = .ok (.putfield 59, 3) := by decide +kernel
theorem dX2_add_58 : decode cX2_add 58 = .ok (.aload_n 0, 1) := by decide +kernel
theorem dX2_add_59 : decode cX2_add 59 = .ok (.dup, 1) := by decide +kernel
theorem dX2_add_60 : decode cX2_add 60 = .ok (.getfield 15, 3) := by decide +kernel
theorem dX2_add_63 : decode cX2_add 63 = .ok (.iconst 1, 1) := by decide +kernel
theorem dX2_add_64 : decode cX2_add 64 = .ok (.iadd, 1) := by decide +kernel
theorem dX2_add_65 : decode cX2_add 65 = .ok (.putfield 15, 3) := by decide +kernel
theorem dX2_add_68 : decode cX2_add 68 = .ok (.aload_n 3, 1) := by decide +kernel
theorem dX2_add_69 : decode cX2_add 69 = .ok (.getfield 62, 3) := by decide +kernel
theorem dX2_add_72 : decode cX2_add 72 = .ok (.ireturn, 1) := by decide +kernel
set_option maxRecDepth 20000 in
theorem ggX2_need_X2_unitAt : GoodIn wsX2_need wsX2_unitAt := goodIn_ca (goodIn_r _ [8, 9, 10, 11, 12, 46, 47, 48, 49, 50, 51, 52] (by decide +kernel) (by decide +kernel)) (goodIn_sub (fun _ h => List.mem_cons_of_mem _ (List.mem_append_right _ h)) (by decide +kernel))
set_option maxRecDepth 20000 in
theorem gX2_need_X2_unitAt : GoodIn wsX2_need (wsV RX2 65 RX2 yX2_unitAt wsX2_unitAt) := goodIn_app (goodIn_of _ (by decide +kernel)) ggX2_need_X2_unitAt
set_option maxRecDepth 20000 in
theorem ggX2_need_X2_reaches : GoodIn wsX2_need wsX2_reaches := goodIn_r _ [16, 11, 12, 3, 17, 18, 19, 20, 21, 22, 23, 24, 25, 26, 7, 27, 46, 47, 48, 49, 50, 51, 52, 33, 34, 35, 36, 37, 38, 39, 40, 41, 42, 43, 44, 45] (by decide +kernel) (by decide +kernel)
set_option maxRecDepth 20000 in
theorem gX2_need_X2_reaches : GoodIn wsX2_need (wsV RX2 69 RX2 yX2_reaches wsX2_reaches) := goodIn_app (goodIn_of _ (by decide +kernel)) ggX2_need_X2_reaches
set_option maxRecDepth 20000 in
theorem ggX2_need_X2_checkNoStart : GoodIn wsX2_need wsX2_checkNoStart := goodIn_ca (goodIn_r _ [31, 1, 2, 32, 46, 47, 48, 49, 50, 51, 52] (by decide +kernel) (by decide +kernel)) (goodIn_sub (fun _ h => List.mem_cons_of_mem _ (List.mem_append_left _ (List.mem_append_right _ h))) (by decide +kernel))
set_option maxRecDepth 20000 in
theorem gX2_need_X2_checkNoStart : GoodIn wsX2_need (wsV RX2 53 RX2 yX2_checkNoStart wsX2_checkNoStart) := goodIn_app (goodIn_of _ (by decide +kernel)) ggX2_need_X2_checkNoStart
set_option maxRecDepth 20000 in
theorem ggX2_need_X2_contains : GoodIn wsX2_need wsX2_contains := goodIn_r _ [27, 18, 19, 20, 21, 22, 23, 33, 34, 35, 36, 37, 38, 39, 40, 41, 42, 43, 44, 45] (by decide +kernel) (by decide +kernel)
set_option maxRecDepth 20000 in
theorem gX2_need_X2_contains : GoodIn wsX2_need (wsV RX2 78 RX2 yX2_contains wsX2_contains) := goodIn_app (goodIn_of _ (by decide +kernel)) ggX2_need_X2_contains
set_option maxRecDepth 20000 in
theorem ggX2_need_X0_bit : GoodIn wsX2_need wsX0_bit := goodIn_r _ [22, 23, 33, 34, 35, 36, 37, 38, 39, 40, 41, 42, 43, 44, 45] (by decide +kernel) (by decide +kernel)
set_option maxRecDepth 20000 in
theorem gX2_need_X0_bit : GoodIn wsX2_need (wsV RX2 82 RX0 yX0_bit wsX0_bit) := goodIn_app (goodIn_of _ (by decide +kernel)) ggX2_need_X0_bit
theorem dX2_need_0 : decode cX2_need 0 = .ok (.aload_n 0, 1) := by decide +kernel
theorem dX2_need_1 : decode cX2_need 1 = .ok (.iload_n 1, 1) := by decide +kernel
theorem dX2_need_2 : decode cX2_need 2 = .ok (.invokevirtual 65, 3) := by decide +kernel
theorem dX2_need_5 : decode cX2_need 5 = .ok (.astore_n 3, 1) := by decide +kernel
theorem dX2_need_6 : decode cX2_need 6 = .ok (.aload_n 0, 1) := by decide +kernel
theorem dX2_need_7 : decode cX2_need 7 = .ok (.iload_n 2, 1) := by decide +kernel
theorem dX2_need_8 : decode cX2_need 8 = .ok (.invokevirtual 65, 3) := by decide +kernel
theorem dX2_need_11 : decode cX2_need 11 = .ok (.astore 4, 2) := by decide +kernel
theorem dX2_need_13 : decode cX2_need 13 = .ok (.aload_n 0, 1) := by decide +kernel
theorem dX2_need_14 : decode cX2_need 14 = .ok (.aload 4, 2) := by decide +kernel
theorem dX2_need_16 : decode cX2_need 16 = .ok (.aload_n 3, 1) := by decide +kernel
theorem dX2_need_17 : decode cX2_need 17 = .ok (.iconst 0, 1) := by decide +kernel
theorem dX2_need_18 : decode cX2_need 18 = .ok (.invokevirtual 69, 3) := by decide +kernel
theorem dX2_need_21 : decode cX2_need 21 = .ok (.ifCond .eq 13, 3) := by decide +kernel
theorem dX2_need_24 : decode cX2_need 24 = .ok (.new 46, 3) := by decide +kernel
theorem dX2_need_27 : decode cX2_need 27 = .ok (.dup, 1) := by decide +kernel
theorem dX2_need_28 : decode cX2_need 28 = .ok (.ldc 73, 2) := by decide +kernel
theorem dX2_need_30 : decode cX2_need 30 = .ok (.invokespecial 50, 3) := by decide +kernel
theorem dX2_need_33 : decode cX2_need 33 = .ok (.athrow, 1) := by decide +kernel
theorem dX2_need_34 : decode cX2_need 34 = .ok (.aload_n 0, 1) := by decide +kernel
theorem dX2_need_35 : decode cX2_need 35 = .ok (.invokevirtual 53, 3) := by decide +kernel
theorem dX2_need_38 : decode cX2_need 38 = .ok (.aload_n 0, 1) := by decide +kernel
theorem dX2_need_39 : decode cX2_need 39 = .ok (.aload_n 3, 1) := by decide +kernel
theorem dX2_need_40 : decode cX2_need 40 = .ok (.getfield 75, 3) := by decide +kernel
theorem dX2_need_43 : decode cX2_need 43 = .ok (.aload 4, 2) := by decide +kernel
theorem dX2_need_45 : decode cX2_need 45 = .ok (.invokevirtual 78, 3) := by decide +kernel
theorem dX2_need_48 : decode cX2_need 48 = .ok (.istore 5, 2) := by decide +kernel
theorem dX2_need_50 : decode cX2_need 50 = .ok (.aload_n 3, 1) := by decide +kernel
theorem dX2_need_51 : decode cX2_need 51 = .ok (.dup, 1) := by decide +kernel
theorem dX2_need_52 : decode cX2_need 52 = .ok (.getfield 75, 3) := by decide +kernel
theorem dX2_need_55 : decode cX2_need 55 = .ok (.aload 4, 2) := by decide +kernel
theorem dX2_need_57 : decode cX2_need 57 = .ok (.invokevirtual 82, 3) := by decide +kernel
theorem dX2_need_60 : decode cX2_need 60 = .ok (.ior, 1) := by decide +kernel
theorem dX2_need_61 : decode cX2_need 61 = .ok (.putfield 75, 3) := by decide +kernel
theorem dX2_need_64 : decode cX2_need 64 = .ok (.iload 5, 2) := by decide +kernel
theorem dX2_need_66 : decode cX2_need 66 = .ok (.ireturn, 1) := by decide +kernel
set_option maxRecDepth 20000 in
theorem ggX2_wish_X2_unitAt : GoodIn wsX2_wish wsX2_unitAt := goodIn_ca (goodIn_r _ [11, 12, 13, 14, 15, 131, 132, 133, 134, 135, 136, 137] (by decide +kernel) (by decide +kernel)) (goodIn_sub (fun _ h => List.mem_cons_of_mem _ (List.mem_append_left _ (List.mem_append_left _ (List.mem_append_right _ h)))) (by decide +kernel))
set_option maxRecDepth 20000 in
theorem gX2_wish_X2_unitAt : GoodIn wsX2_wish (wsV RX2 65 RX2 yX2_unitAt wsX2_unitAt) := goodIn_app (goodIn_of _ (by decide +kernel)) ggX2_wish_X2_unitAt
set_option maxRecDepth 20000 in
theorem ggX2_wish_X2_checkRange : GoodIn wsX2_wish wsX2_checkRange := goodIn_ca (goodIn_r _ [19, 20, 21] (by decide +kernel) (by decide +kernel)) (goodIn_sub (fun _ h => List.mem_cons_of_mem _ (List.mem_append_left _ (List.mem_append_right _ h))) (by decide +kernel))
set_option maxRecDepth 20000 in
theorem gX2_wish_X2_checkRange : GoodIn wsX2_wish (wsV RX2 42 RX2 yX2_checkRange wsX2_checkRange) := goodIn_app (goodIn_of _ (by decide +kernel)) ggX2_wish_X2_checkRange
set_option maxRecDepth 20000 in
theorem ggX2_wish_X2_checkDifferent : GoodIn wsX2_wish wsX2_checkDifferent := goodIn_ca (goodIn_r _ [25, 20, 21] (by decide +kernel) (by decide +kernel)) (goodIn_sub (fun _ h => List.mem_cons_of_mem _ (List.mem_append_left _ (List.mem_append_right _ h))) (by decide +kernel))
set_option maxRecDepth 20000 in
theorem gX2_wish_X2_checkDifferent : GoodIn wsX2_wish (wsV RX2 86 RX2 yX2_checkDifferent wsX2_checkDifferent) := goodIn_app (goodIn_of _ (by decide +kernel)) ggX2_wish_X2_checkDifferent
set_option maxRecDepth 20000 in
theorem ggX2_wish_X2_checkNoStart : GoodIn wsX2_wish wsX2_checkNoStart := goodIn_ca (goodIn_r _ [29, 30, 31, 32, 131, 132, 133, 134, 135, 136, 137] (by decide +kernel) (by decide +kernel)) (goodIn_sub (fun _ h => List.mem_cons_of_mem _ (List.mem_append_right _ h)) (by decide +kernel))
set_option maxRecDepth 20000 in
theorem gX2_wish_X2_checkNoStart : GoodIn wsX2_wish (wsV RX2 53 RX2 yX2_checkNoStart wsX2_checkNoStart) := goodIn_app (goodIn_of _ (by decide +kernel)) ggX2_wish_X2_checkNoStart
set_option maxRecDepth 20000 in
theorem ggX2_wish_X2_findWish : GoodIn wsX2_wish wsX2_findWish := goodIn_r _ [36, 1, 37, 38, 39, 40, 41, 42, 43, 44, 45, 46, 47, 48, 49, 50, 51, 52, 53, 54, 55, 56, 57, 58, 59, 60, 61, 62, 131, 132, 133, 134, 135, 136, 137, 138, 139, 140, 154, 155, 156] (by decide +kernel) (by decide +kernel)
set_option maxRecDepth 20000 in
theorem gX2_wish_X2_findWish : GoodIn wsX2_wish (wsV RX2 90 RX2 yX2_findWish wsX2_findWish) := goodIn_app (goodIn_of _ (by decide +kernel)) ggX2_wish_X2_findWish
set_option maxRecDepth 20000 in
theorem ggX2_wish_X1_init : GoodIn wsX2_wish wsX1_init := goodIn_r _ [65, 66, 67, 68, 69, 70, 71, 138, 139, 140] (by decide +kernel) (by decide +kernel)
set_option maxRecDepth 20000 in
theorem gX2_wish_X1_init : GoodIn wsX2_wish (wsX1_init) := ggX2_wish_X1_init
set_option maxRecDepth 20000 in
theorem ggX2_wish_Jx4a65c_add_9ea2d : GoodIn wsX2_wish wsJx4a65c_add_9ea2d := goodIn_r _ [75, 76, 77, 62, 45, 78, 79, 80, 43, 81, 82, 83, 84, 85, 86, 87, 88, 89, 90, 91, 92, 93, 94, 95, 96, 97, 98, 99, 100, 101, 102, 103, 104, 105, 106, 107, 108, 109, 110, 111, 112, 113, 114, 115, 116, 117, 118, 119, 120, 121, 122, 123, 124, 154, 155, 156] (by decide +kernel) (by decide +kernel)
set_option maxRecDepth 20000 in
theorem gX2_wish_Jx4a65c_add_9ea2d : GoodIn wsX2_wish (wsV RX2 99 RJx4a65c yJx4a65c_add_9ea2d wsJx4a65c_add_9ea2d) := goodIn_app (goodIn_of _ (by decide +kernel)) ggX2_wish_Jx4a65c_add_9ea2d
set_option maxRecDepth 20000 in
theorem ggX2_wish_X0_bit : GoodIn wsX2_wish wsX0_bit := goodIn_r _ [129, 130, 141, 142, 143, 144, 145, 146, 147, 148, 149, 150, 151, 152, 153] (by decide +kernel) (by decide +kernel)
set_option maxRecDepth 20000 in
theorem gX2_wish_X0_bit : GoodIn wsX2_wish (wsV RX2 82 RX0 yX0_bit wsX0_bit) := goodIn_app (goodIn_of _ (by decide +kernel)) ggX2_wish_X0_bit
theorem dX2_wish_0 : decode cX2_wish 0 = .ok (.aload_n 0, 1) := by decide +kernel
theorem dX2_wish_1 : decode cX2_wish 1 = .ok (.iload_n 1, 1) := by decide +kernel
theorem dX2_wish_2 : decode cX2_wish 2 = .ok (.invokevirtual 65, 3) := by decide +kernel
theorem dX2_wish_5 : decode cX2_wish 5 = .ok (.astore 4, 2) := by decide +kernel
theorem dX2_wish_7 : decode cX2_wish 7 = .ok (.aload_n 0, 1) := by decide +kernel
theorem dX2_wish_8 : decode cX2_wish 8 = .ok (.iload_n 2, 1) := by decide +kernel
theorem dX2_wish_9 : decode cX2_wish 9 = .ok (.invokevirtual 65, 3) := by decide +kernel
theorem dX2_wish_12 : decode cX2_wish 12 = .ok (.astore 5, 2) := by decide +kernel
theorem dX2_wish_14 : decode cX2_wish 14 = .ok (.aload_n 0, 1) := by decide +kernel
theorem dX2_wish_15 : decode cX2_wish 15 = .ok (.iload_n 3, 1) := by decide +kernel
theorem dX2_wish_16 : decode cX2_wish 16 = .ok (.iconst 1, 1) := by decide +kernel
theorem dX2_wish_17 : decode cX2_wish 17 = .ok (.bipush 100, 2) := by decide +kernel
theorem dX2_wish_19 : decode cX2_wish 19 = .ok (.invokevirtual 42, 3) := by decide +kernel
theorem dX2_wish_22 : decode cX2_wish 22 = .ok (.aload_n 0, 1) := by decide +kernel
theorem dX2_wish_23 : decode cX2_wish 23 = .ok (.aload 4, 2) := by decide +kernel
theorem dX2_wish_25 : decode cX2_wish 25 = .ok (.aload 5, 2) := by decide +kernel
theorem dX2_wish_27 : decode cX2_wish 27 = .ok (.invokevirtual 86, 3) := by decide +kernel
theorem dX2_wish_30 : decode cX2_wish 30 = .ok (.aload_n 0, 1) := by decide +kernel
theorem dX2_wish_31 : decode cX2_wish 31 = .ok (.invokevirtual 53, 3) := by decide +kernel
theorem dX2_wish_34 : decode cX2_wish 34 = .ok (.aload_n 0, 1) := by decide +kernel
theorem dX2_wish_35 : decode cX2_wish 35 = .ok (.aload 4, 2) := by decide +kernel
theorem dX2_wish_37 : decode cX2_wish 37 = .ok (.aload 5, 2) := by decide +kernel
theorem dX2_wish_39 : decode cX2_wish 39 = .ok (.invokevirtual 90, 3) := by decide +kernel
theorem dX2_wish_42 : decode cX2_wish 42 = .ok (.astore 6, 2) := by decide +kernel
theorem dX2_wish_44 : decode cX2_wish 44 = .ok (.aload 6, 2) := by decide +kernel
theorem dX2_wish_46 : decode cX2_wish 46 = .ok (.ifnonnull 40, 3) := by decide +kernel
theorem dX2_wish_49 : decode cX2_wish 49 = .ok (.aload_n 0, 1) := by decide +kernel
theorem dX2_wish_50 : decode cX2_wish 50 = .ok (.getfield 22, 3) := by decide +kernel
theorem dX2_wish_53 : decode cX2_wish 53 = .ok (.new 94, 3) := by decide +kernel
theorem dX2_wish_56 : decode cX2_wish 56 = .ok (.dup, 1) := by decide +kernel
theorem dX2_wish_57 : decode cX2_wish 57 = .ok (.aload 4, 2) := by decide +kernel
theorem dX2_wish_59 : decode cX2_wish 59 = .ok (.aload 5, 2) := by decide +kernel
theorem dX2_wish_61 : decode cX2_wish 61 = .ok (.iload_n 3, 1) := by decide +kernel
theorem dX2_wish_62 : decode cX2_wish 62 = .ok (.invokespecial 96, 3) := by decide +kernel
theorem dX2_wish_65 : decode cX2_wish 65 = .ok (.invokevirtual 99, 3) := by decide +kernel
theorem dX2_wish_68 : decode cX2_wish 68 = .ok (.pop, 1) := by decide +kernel
theorem dX2_wish_69 : decode cX2_wish 69 = .ok (.aload 4, 2) := by decide +kernel
theorem dX2_wish_71 : decode cX2_wish 71 = .ok (.dup, 1) := by decide +kernel
theorem dX2_wish_72 : decode cX2_wish 72 = .ok (.getfield 103, 3) := by decide +kernel
theorem dX2_wish_75 : decode cX2_wish 75 = .ok (.aload 5, 2) := by decide +kernel
theorem dX2_wish_77 : decode cX2_wish 77 = .ok (.invokevirtual 82, 3) := by decide +kernel
theorem dX2_wish_80 : decode cX2_wish 80 = .ok (.ior, 1) := by decide +kernel
theorem dX2_wish_81 : decode cX2_wish 81 = .ok (.putfield 103, 3) := by decide +kernel
theorem dX2_wish_84 : decode cX2_wish 84 = .ok (.iconst 0, 1) := by decide +kernel
theorem dX2_wish_85 : decode cX2_wish 85 = .ok (.ireturn, 1) := by decide +kernel
theorem dX2_wish_86 : decode cX2_wish 86 = .ok (.aload 6, 2) := by decide +kernel
theorem dX2_wish_88 : decode cX2_wish 88 = .ok (.getfield 106, 3) := by decide +kernel
theorem dX2_wish_91 : decode cX2_wish 91 = .ok (.istore 7, 2) := by decide +kernel
theorem dX2_wish_93 : decode cX2_wish 93 = .ok (.aload 6, 2) := by decide +kernel
theorem dX2_wish_95 : decode cX2_wish 95 = .ok (.iload_n 3, 1) := by decide +kernel
theorem dX2_wish_96 : decode cX2_wish 96 = .ok (.putfield 106, 3) := by decide +kernel
theorem dX2_wish_99 : decode cX2_wish 99 = .ok (.iload 7, 2) := by decide +kernel
theorem dX2_wish_101 : decode cX2_wish 101 = .ok (.ireturn, 1) := by decide +kernel
set_option maxRecDepth 20000 in
theorem ggX2_standIn_X2_unitAt : GoodIn wsX2_standIn wsX2_unitAt := goodIn_ca (goodIn_r _ [7, 8, 9, 10, 11, 38, 39, 40, 41, 42, 43, 44] (by decide +kernel) (by decide +kernel)) (goodIn_sub (fun _ h => List.mem_cons_of_mem _ (List.mem_append_left _ (List.mem_append_left _ (List.mem_append_right _ h)))) (by decide +kernel))
set_option maxRecDepth 20000 in
theorem gX2_standIn_X2_unitAt : GoodIn wsX2_standIn (wsV RX2 65 RX2 yX2_unitAt wsX2_unitAt) := goodIn_app (goodIn_of _ (by decide +kernel)) ggX2_standIn_X2_unitAt
set_option maxRecDepth 20000 in
theorem ggX2_standIn_X2_checkDifferent : GoodIn wsX2_standIn wsX2_checkDifferent := goodIn_ca (goodIn_r _ [15, 16, 17] (by decide +kernel) (by decide +kernel)) (goodIn_sub (fun _ h => List.mem_cons_of_mem _ (List.mem_append_left _ (List.mem_append_right _ h))) (by decide +kernel))
set_option maxRecDepth 20000 in
theorem gX2_standIn_X2_checkDifferent : GoodIn wsX2_standIn (wsV RX2 86 RX2 yX2_checkDifferent wsX2_checkDifferent) := goodIn_app (goodIn_of _ (by decide +kernel)) ggX2_standIn_X2_checkDifferent
set_option maxRecDepth 20000 in
theorem ggX2_standIn_X2_checkNoStart : GoodIn wsX2_standIn wsX2_checkNoStart := goodIn_ca (goodIn_r _ [21, 22, 23, 24, 38, 39, 40, 41, 42, 43, 44] (by decide +kernel) (by decide +kernel)) (goodIn_sub (fun _ h => List.mem_cons_of_mem _ (List.mem_append_right _ h)) (by decide +kernel))
set_option maxRecDepth 20000 in
theorem gX2_standIn_X2_checkNoStart : GoodIn wsX2_standIn (wsV RX2 53 RX2 yX2_checkNoStart wsX2_checkNoStart) := goodIn_app (goodIn_of _ (by decide +kernel)) ggX2_standIn_X2_checkNoStart
theorem dX2_standIn_0 : decode cX2_standIn 0 = .ok (.aload_n 0, 1) := by decide +kernel
theorem dX2_standIn_1 : decode cX2_standIn 1 = .ok (.iload_n 1, 1) := by decide +kernel
theorem dX2_standIn_2 : decode cX2_standIn 2 = .ok (.invokevirtual 65, 3) := by decide +kernel
theorem dX2_standIn_5 : decode cX2_standIn 5 = .ok (.astore_n 3, 1) := by decide +kernel
theorem dX2_standIn_6 : decode cX2_standIn 6 = .ok (.iload_n 2, 1) := by decide +kernel
theorem dX2_standIn_7 : decode cX2_standIn 7 = .ok (.iconst (-1), 1) := by decide +kernel
theorem dX2_standIn_8 : decode cX2_standIn 8 = .ok (.if_icmp .ne 7, 3) := by decide +kernel
theorem dX2_standIn_11 : decode cX2_standIn 11 = .ok (.aconst_null, 1) := by decide +kernel
theorem dX2_standIn_12 : decode cX2_standIn 12 = .ok (.goto 8, 3) := by decide +kernel
theorem dX2_standIn_15 : decode cX2_standIn 15 = .ok (.aload_n 0, 1) := by decide +kernel
theorem dX2_standIn_16 : decode cX2_standIn 16 = .ok (.iload_n 2, 1) := by decide +kernel
theorem dX2_standIn_17 : decode cX2_standIn 17 = .ok (.invokevirtual 65, 3) := by decide +kernel
theorem dX2_standIn_20 : decode cX2_standIn 20 = .ok (.astore 4, 2) := by decide +kernel
theorem dX2_standIn_22 : decode cX2_standIn 22 = .ok (.aload_n 0, 1) := by decide +kernel
theorem dX2_standIn_23 : decode cX2_standIn 23 = .ok (.aload_n 3, 1) := by decide +kernel
theorem dX2_standIn_24 : decode cX2_standIn 24 = .ok (.aload 4, 2) := by decide +kernel
theorem dX2_standIn_26 : decode cX2_standIn 26 = .ok (.invokevirtual 86, 3) := by decide +kernel
theorem dX2_standIn_29 : decode cX2_standIn 29 = .ok (.aload_n 0, 1) := by decide +kernel
theorem dX2_standIn_30 : decode cX2_standIn 30 = .ok (.invokevirtual 53, 3) := by decide +kernel
theorem dX2_standIn_33 : decode cX2_standIn 33 = .ok (.aload_n 3, 1) := by decide +kernel
theorem dX2_standIn_34 : decode cX2_standIn 34 = .ok (.getfield 109, 3) := by decide +kernel
theorem dX2_standIn_37 : decode cX2_standIn 37 = .ok (.ifnonnull 7, 3) := by decide +kernel
theorem dX2_standIn_40 : decode cX2_standIn 40 = .ok (.iconst (-1), 1) := by decide +kernel
theorem dX2_standIn_41 : decode cX2_standIn 41 = .ok (.goto 10, 3) := by decide +kernel
theorem dX2_standIn_44 : decode cX2_standIn 44 = .ok (.aload_n 3, 1) := by decide +kernel
theorem dX2_standIn_45 : decode cX2_standIn 45 = .ok (.getfield 109, 3) := by decide +kernel
theorem dX2_standIn_48 : decode cX2_standIn 48 = .ok (.getfield 62, 3) := by decide +kernel
theorem dX2_standIn_51 : decode cX2_standIn 51 = .ok (.istore 5, 2) := by decide +kernel
theorem dX2_standIn_53 : decode cX2_standIn 53 = .ok (.aload_n 3, 1) := by decide +kernel
theorem dX2_standIn_54 : decode cX2_standIn 54 = .ok (.aload 4, 2) := by decide +kernel
theorem dX2_standIn_56 : decode cX2_standIn 56 = .ok (.putfield 109, 3) := by decide +kernel
theorem dX2_standIn_59 : decode cX2_standIn 59 = .ok (.iload 5, 2) := by decide +kernel
theorem dX2_standIn_61 : decode cX2_standIn 61 = .ok (.ireturn, 1) := by decide +kernel
set_option maxRecDepth 20000 in
theorem ggX2_hold_X2_unitAt : GoodIn wsX2_hold wsX2_unitAt := goodIn_ca (goodIn_r _ [6, 7, 8, 9, 10, 31, 32, 33, 34, 35, 36, 37] (by decide +kernel) (by decide +kernel)) (goodIn_sub (fun _ h => List.mem_cons_of_mem _ (List.mem_append_left _ (List.mem_append_right _ h))) (by decide +kernel))
set_option maxRecDepth 20000 in
theorem gX2_hold_X2_unitAt : GoodIn wsX2_hold (wsV RX2 65 RX2 yX2_unitAt wsX2_unitAt) := goodIn_app (goodIn_of _ (by decide +kernel)) ggX2_hold_X2_unitAt
set_option maxRecDepth 20000 in
theorem ggX2_hold_X2_checkNoStart : GoodIn wsX2_hold wsX2_checkNoStart := goodIn_ca (goodIn_r _ [14, 15, 16, 17, 31, 32, 33, 34, 35, 36, 37] (by decide +kernel) (by decide +kernel)) (goodIn_sub (fun _ h => List.mem_cons_of_mem _ (List.mem_append_right _ h)) (by decide +kernel))
set_option maxRecDepth 20000 in
theorem gX2_hold_X2_checkNoStart : GoodIn wsX2_hold (wsV RX2 53 RX2 yX2_checkNoStart wsX2_checkNoStart) := goodIn_app (goodIn_of _ (by decide +kernel)) ggX2_hold_X2_checkNoStart
theorem dX2_hold_0 : decode cX2_hold 0 = .ok (.aload_n 0, 1) := by decide +kernel
theorem dX2_hold_1 : decode cX2_hold 1 = .ok (.iload_n 1, 1) := by decide +kernel
theorem dX2_hold_2 : decode cX2_hold 2 = .ok (.invokevirtual 65, 3) := by decide +kernel
theorem dX2_hold_5 : decode cX2_hold 5 = .ok (.astore_n 3, 1) := by decide +kernel
theorem dX2_hold_6 : decode cX2_hold 6 = .ok (.aload_n 0, 1) := by decide +kernel
theorem dX2_hold_7 : decode cX2_hold 7 = .ok (.invokevirtual 53, 3) := by decide +kernel
theorem dX2_hold_10 : decode cX2_hold 10 = .ok (.aload_n 3, 1) := by decide +kernel
theorem dX2_hold_11 : decode cX2_hold 11 = .ok (.getfield 113, 3) := by decide +kernel
theorem dX2_hold_14 : decode cX2_hold 14 = .ok (.istore 4, 2) := by decide +kernel
theorem dX2_hold_16 : decode cX2_hold 16 = .ok (.aload_n 3, 1) := by decide +kernel
theorem dX2_hold_17 : decode cX2_hold 17 = .ok (.iload_n 2, 1) := by decide +kernel
theorem dX2_hold_18 : decode cX2_hold 18 = .ok (.putfield 113, 3) := by decide +kernel
theorem dX2_hold_21 : decode cX2_hold 21 = .ok (.iload 4, 2) := by decide +kernel
theorem dX2_hold_23 : decode cX2_hold 23 = .ok (.ireturn, 1) := by decide +kernel
set_option maxRecDepth 20000 in
theorem ggX2_setFaults_X2_unitAt : GoodIn wsX2_setFaults wsX2_unitAt := goodIn_ca (goodIn_r _ [6, 7, 8, 9, 10, 30, 31, 32, 33, 34, 35, 36] (by decide +kernel) (by decide +kernel)) (goodIn_sub (fun _ h => List.mem_cons_of_mem _ (List.mem_append_left _ (List.mem_append_right _ h))) (by decide +kernel))
set_option maxRecDepth 20000 in
theorem gX2_setFaults_X2_unitAt : GoodIn wsX2_setFaults (wsV RX2 65 RX2 yX2_unitAt wsX2_unitAt) := goodIn_app (goodIn_of _ (by decide +kernel)) ggX2_setFaults_X2_unitAt
set_option maxRecDepth 20000 in
theorem ggX2_setFaults_X2_checkRange : GoodIn wsX2_setFaults wsX2_checkRange := goodIn_ca (goodIn_r _ [14, 15, 16] (by decide +kernel) (by decide +kernel)) (goodIn_sub (fun _ h => List.mem_cons_of_mem _ (List.mem_append_right _ h)) (by decide +kernel))
set_option maxRecDepth 20000 in
theorem gX2_setFaults_X2_checkRange : GoodIn wsX2_setFaults (wsV RX2 42 RX2 yX2_checkRange wsX2_checkRange) := goodIn_app (goodIn_of _ (by decide +kernel)) ggX2_setFaults_X2_checkRange
theorem dX2_setFaults_0 : decode cX2_setFaults 0 = .ok (.aload_n 0, 1) := by decide +kernel
theorem dX2_setFaults_1 : decode cX2_setFaults 1 = .ok (.iload_n 1, 1) := by decide +kernel
theorem dX2_setFaults_2 : decode cX2_setFaults 2 = .ok (.invokevirtual 65, 3) := by decide +kernel
theorem dX2_setFaults_5 : decode cX2_setFaults 5 = .ok (.astore_n 3, 1) := by decide +kernel
theorem dX2_setFaults_6 : decode cX2_setFaults 6 = .ok (.aload_n 0, 1) := by decide +kernel
theorem dX2_setFaults_7 : decode cX2_setFaults 7 = .ok (.iload_n 2, 1) := by decide +kernel
theorem dX2_setFaults_8 : decode cX2_setFaults 8 = .ok (.iconst 0, 1) := by decide +kernel
theorem dX2_setFaults_9 : decode cX2_setFaults 9 = .ok (.bipush 10, 2) := by decide +kernel
theorem dX2_setFaults_11 : decode cX2_setFaults 11 = .ok (.invokevirtual 42, 3) := by decide +kernel
theorem dX2_setFaults_14 : decode cX2_setFaults 14 = .ok (.aload_n 3, 1) := by decide +kernel
theorem dX2_setFaults_15 : decode cX2_setFaults 15 = .ok (.getfield 116, 3) := by decide +kernel
theorem dX2_setFaults_18 : decode cX2_setFaults 18 = .ok (.istore 4, 2) := by decide +kernel
theorem dX2_setFaults_20 : decode cX2_setFaults 20 = .ok (.aload_n 3, 1) := by decide +kernel
theorem dX2_setFaults_21 : decode cX2_setFaults 21 = .ok (.iload_n 2, 1) := by decide +kernel
theorem dX2_setFaults_22 : decode cX2_setFaults 22 = .ok (.putfield 116, 3) := by decide +kernel
theorem dX2_setFaults_25 : decode cX2_setFaults 25 = .ok (.iload 4, 2) := by decide +kernel
theorem dX2_setFaults_27 : decode cX2_setFaults 27 = .ok (.ireturn, 1) := by decide +kernel
set_option maxRecDepth 20000 in
theorem ggX2_setTime_X2_unitAt : GoodIn wsX2_setTime wsX2_unitAt := goodIn_ca (goodIn_r _ [6, 7, 8, 9, 10, 30, 31, 32, 33, 34, 35, 36] (by decide +kernel) (by decide +kernel)) (goodIn_sub (fun _ h => List.mem_cons_of_mem _ (List.mem_append_left _ (List.mem_append_right _ h))) (by decide +kernel))
set_option maxRecDepth 20000 in
theorem gX2_setTime_X2_unitAt : GoodIn wsX2_setTime (wsV RX2 65 RX2 yX2_unitAt wsX2_unitAt) := goodIn_app (goodIn_of _ (by decide +kernel)) ggX2_setTime_X2_unitAt
set_option maxRecDepth 20000 in
theorem ggX2_setTime_X2_checkRange : GoodIn wsX2_setTime wsX2_checkRange := goodIn_ca (goodIn_r _ [14, 15, 16] (by decide +kernel) (by decide +kernel)) (goodIn_sub (fun _ h => List.mem_cons_of_mem _ (List.mem_append_right _ h)) (by decide +kernel))
set_option maxRecDepth 20000 in
theorem gX2_setTime_X2_checkRange : GoodIn wsX2_setTime (wsV RX2 42 RX2 yX2_checkRange wsX2_checkRange) := goodIn_app (goodIn_of _ (by decide +kernel)) ggX2_setTime_X2_checkRange
theorem dX2_setTime_0 : decode cX2_setTime 0 = .ok (.aload_n 0, 1) := by decide +kernel
theorem dX2_setTime_1 : decode cX2_setTime 1 = .ok (.iload_n 1, 1) := by decide +kernel
theorem dX2_setTime_2 : decode cX2_setTime 2 = .ok (.invokevirtual 65, 3) := by decide +kernel
theorem dX2_setTime_5 : decode cX2_setTime 5 = .ok (.astore_n 3, 1) := by decide +kernel
theorem dX2_setTime_6 : decode cX2_setTime 6 = .ok (.aload_n 0, 1) := by decide +kernel
theorem dX2_setTime_7 : decode cX2_setTime 7 = .ok (.iload_n 2, 1) := by decide +kernel
theorem dX2_setTime_8 : decode cX2_setTime 8 = .ok (.iconst 1, 1) := by decide +kernel
theorem dX2_setTime_9 : decode cX2_setTime 9 = .ok (.bipush 100, 2) := by decide +kernel
theorem dX2_setTime_11 : decode cX2_setTime 11 = .ok (.invokevirtual 42, 3) := by decide +kernel
theorem dX2_setTime_14 : decode cX2_setTime 14 = .ok (.aload_n 3, 1) := by decide +kernel
theorem dX2_setTime_15 : decode cX2_setTime 15 = .ok (.getfield 56, 3) := by decide +kernel
theorem dX2_setTime_18 : decode cX2_setTime 18 = .ok (.istore 4, 2) := by decide +kernel
theorem dX2_setTime_20 : decode cX2_setTime 20 = .ok (.aload_n 3, 1) := by decide +kernel
theorem dX2_setTime_21 : decode cX2_setTime 21 = .ok (.iload_n 2, 1) := by decide +kernel
theorem dX2_setTime_22 : decode cX2_setTime 22 = .ok (.putfield 56, 3) := by decide +kernel
theorem dX2_setTime_25 : decode cX2_setTime 25 = .ok (.iload 4, 2) := by decide +kernel
theorem dX2_setTime_27 : decode cX2_setTime 27 = .ok (.ireturn, 1) := by decide +kernel
theorem dX2_units_0 : decode cX2_units 0 = .ok (.aload_n 0, 1) := by decide +kernel
theorem dX2_units_1 : decode cX2_units 1 = .ok (.getfield 15, 3) := by decide +kernel
theorem dX2_units_4 : decode cX2_units 4 = .ok (.ireturn, 1) := by decide +kernel
set_option maxRecDepth 20000 in
theorem ggX2_learned_X2_unitAt : GoodIn wsX2_learned wsX2_unitAt := goodIn_ca (goodIn_r _ [6, 7, 8, 9, 10, 24, 25, 26, 27, 28, 29, 30] (by decide +kernel) (by decide +kernel)) (goodIn_sub (fun _ h => List.mem_cons_of_mem _ (List.mem_append_right _ h)) (by decide +kernel))
set_option maxRecDepth 20000 in
theorem gX2_learned_X2_unitAt : GoodIn wsX2_learned (wsV RX2 65 RX2 yX2_unitAt wsX2_unitAt) := goodIn_app (goodIn_of _ (by decide +kernel)) ggX2_learned_X2_unitAt
theorem dX2_learned_0 : decode cX2_learned 0 = .ok (.aload_n 0, 1) := by decide +kernel
theorem dX2_learned_1 : decode cX2_learned 1 = .ok (.iload_n 1, 1) := by decide +kernel
theorem dX2_learned_2 : decode cX2_learned 2 = .ok (.invokevirtual 65, 3) := by decide +kernel
theorem dX2_learned_5 : decode cX2_learned 5 = .ok (.getfield 119, 3) := by decide +kernel
theorem dX2_learned_8 : decode cX2_learned 8 = .ok (.ireturn, 1) := by decide +kernel
set_option maxRecDepth 20000 in
theorem ggX2_faults_X2_unitAt : GoodIn wsX2_faults wsX2_unitAt := goodIn_ca (goodIn_r _ [6, 7, 8, 9, 10, 24, 25, 26, 27, 28, 29, 30] (by decide +kernel) (by decide +kernel)) (goodIn_sub (fun _ h => List.mem_cons_of_mem _ (List.mem_append_right _ h)) (by decide +kernel))
set_option maxRecDepth 20000 in
theorem gX2_faults_X2_unitAt : GoodIn wsX2_faults (wsV RX2 65 RX2 yX2_unitAt wsX2_unitAt) := goodIn_app (goodIn_of _ (by decide +kernel)) ggX2_faults_X2_unitAt
theorem dX2_faults_0 : decode cX2_faults 0 = .ok (.aload_n 0, 1) := by decide +kernel
theorem dX2_faults_1 : decode cX2_faults 1 = .ok (.iload_n 1, 1) := by decide +kernel
theorem dX2_faults_2 : decode cX2_faults 2 = .ok (.invokevirtual 65, 3) := by decide +kernel
theorem dX2_faults_5 : decode cX2_faults 5 = .ok (.getfield 116, 3) := by decide +kernel
theorem dX2_faults_8 : decode cX2_faults 8 = .ok (.ireturn, 1) := by decide +kernel
set_option maxRecDepth 20000 in
theorem ggX2_begin_X2_checkRange : GoodIn wsX2_begin wsX2_checkRange := goodIn_ca (goodIn_r _ [11, 12, 13] (by decide +kernel) (by decide +kernel)) (goodIn_sub (fun _ h => List.mem_cons_of_mem _ (List.mem_append_left _ (List.mem_append_right _ h))) (by decide +kernel))
set_option maxRecDepth 20000 in
theorem gX2_begin_X2_checkRange : GoodIn wsX2_begin (wsV RX2 42 RX2 yX2_checkRange wsX2_checkRange) := goodIn_app (goodIn_of _ (by decide +kernel)) ggX2_begin_X2_checkRange
set_option maxRecDepth 20000 in
theorem ggX2_begin_X2_checkNoStart : GoodIn wsX2_begin wsX2_checkNoStart := goodIn_ca (goodIn_r _ [17, 18, 19, 5, 101, 102, 103, 104, 105, 106, 107] (by decide +kernel) (by decide +kernel)) (goodIn_sub (fun _ h => List.mem_cons_of_mem _ (List.mem_append_right _ h)) (by decide +kernel))
set_option maxRecDepth 20000 in
theorem gX2_begin_X2_checkNoStart : GoodIn wsX2_begin (wsV RX2 53 RX2 yX2_checkNoStart wsX2_checkNoStart) := goodIn_app (goodIn_of _ (by decide +kernel)) ggX2_begin_X2_checkNoStart
set_option maxRecDepth 20000 in
theorem ggX2_begin_X2_cutLoops : GoodIn wsX2_begin wsX2_cutLoops := goodIn_r _ [23, 24, 25, 26, 27, 28, 29, 30, 31, 32, 10, 33, 34, 35, 36, 37, 38, 39, 40, 41, 42, 43, 44, 45, 46, 47, 48, 49, 50, 51, 52, 53, 54, 55, 56, 57, 58, 59, 60, 61, 62, 63, 64, 65, 66, 3, 4, 67, 68, 69, 70, 71, 101, 102, 103, 104, 105, 106, 107, 108, 109, 110, 111, 112, 113, 114, 115, 116, 117, 118, 119, 120, 121, 122, 123, 124, 125, 126] (by decide +kernel) (by decide +kernel)
set_option maxRecDepth 20000 in
theorem gX2_begin_X2_cutLoops : GoodIn wsX2_begin (wsV RX2 122 RX2 yX2_cutLoops wsX2_cutLoops) := goodIn_app (goodIn_of _ (by decide +kernel)) ggX2_begin_X2_cutLoops
set_option maxRecDepth 20000 in
theorem ggX2_begin_X0_resetForStart : GoodIn wsX2_begin wsX0_resetForStart := goodIn_r _ [75, 76, 77, 78, 79, 80, 111, 112, 113, 114, 115, 116, 117, 118, 119, 120, 121, 122, 123] (by decide +kernel) (by decide +kernel)
set_option maxRecDepth 20000 in
theorem gX2_begin_X0_resetForStart : GoodIn wsX2_begin (wsV RX2 125 RX0 yX0_resetForStart wsX0_resetForStart) := goodIn_app (goodIn_of _ (by decide +kernel)) ggX2_begin_X0_resetForStart
set_option maxRecDepth 20000 in
theorem ggX2_begin_X2_raiseBar : GoodIn wsX2_begin wsX2_raiseBar := goodIn_r _ [84, 5, 2, 6, 85, 86, 87, 88, 89, 90, 91, 10, 92, 3, 4, 93, 94, 95, 60, 96, 77, 80, 97, 98, 99, 100, 101, 102, 103, 104, 105, 106, 107, 111, 112, 113, 114, 115, 116, 117, 118, 119, 120, 121, 122, 123] (by decide +kernel) (by decide +kernel)
set_option maxRecDepth 20000 in
theorem gX2_begin_X2_raiseBar : GoodIn wsX2_begin (wsV RX2 128 RX2 yX2_raiseBar wsX2_raiseBar) := goodIn_app (goodIn_of _ (by decide +kernel)) ggX2_begin_X2_raiseBar
theorem dX2_begin_0 : decode cX2_begin 0 = .ok (.aload_n 0, 1) := by decide +kernel
theorem dX2_begin_1 : decode cX2_begin 1 = .ok (.iload_n 1, 1) := by decide +kernel
theorem dX2_begin_2 : decode cX2_begin 2 = .ok (.iconst 1, 1) := by decide +kernel
theorem dX2_begin_3 : decode cX2_begin 3 = .ok (.bipush 20, 2) := by decide +kernel
theorem dX2_begin_5 : decode cX2_begin 5 = .ok (.invokevirtual 42, 3) := by decide +kernel
theorem dX2_begin_8 : decode cX2_begin 8 = .ok (.aload_n 0, 1) := by decide +kernel
theorem dX2_begin_9 : decode cX2_begin 9 = .ok (.invokevirtual 53, 3) := by decide +kernel
theorem dX2_begin_12 : decode cX2_begin 12 = .ok (.aload_n 0, 1) := by decide +kernel
theorem dX2_begin_13 : decode cX2_begin 13 = .ok (.iload_n 1, 1) := by decide +kernel
theorem dX2_begin_14 : decode cX2_begin 14 = .ok (.putfield 30, 3) := by decide +kernel
theorem dX2_begin_17 : decode cX2_begin 17 = .ok (.aload_n 0, 1) := by decide +kernel
theorem dX2_begin_18 : decode cX2_begin 18 = .ok (.invokevirtual 122, 3) := by decide +kernel
theorem dX2_begin_21 : decode cX2_begin 21 = .ok (.istore_n 2, 1) := by decide +kernel
theorem dX2_begin_22 : decode cX2_begin 22 = .ok (.aload_n 0, 1) := by decide +kernel
theorem dX2_begin_23 : decode cX2_begin 23 = .ok (.iconst 0, 1) := by decide +kernel
theorem dX2_begin_24 : decode cX2_begin 24 = .ok (.putfield 33, 3) := by decide +kernel
theorem dX2_begin_27 : decode cX2_begin 27 = .ok (.iconst 0, 1) := by decide +kernel
theorem dX2_begin_28 : decode cX2_begin 28 = .ok (.istore_n 3, 1) := by decide +kernel
theorem dX2_begin_29 : decode cX2_begin 29 = .ok (.iload_n 3, 1) := by decide +kernel
theorem dX2_begin_30 : decode cX2_begin 30 = .ok (.aload_n 0, 1) := by decide +kernel
theorem dX2_begin_31 : decode cX2_begin 31 = .ok (.getfield 15, 3) := by decide +kernel
theorem dX2_begin_34 : decode cX2_begin 34 = .ok (.if_icmp .ge 27, 3) := by decide +kernel
theorem dX2_begin_37 : decode cX2_begin 37 = .ok (.aload_n 0, 1) := by decide +kernel
theorem dX2_begin_38 : decode cX2_begin 38 = .ok (.dup, 1) := by decide +kernel
theorem dX2_begin_39 : decode cX2_begin 39 = .ok (.getfield 33, 3) := by decide +kernel
theorem dX2_begin_42 : decode cX2_begin 42 = .ok (.aload_n 0, 1) := by decide +kernel
theorem dX2_begin_43 : decode cX2_begin 43 = .ok (.getfield 11, 3) := by decide +kernel
theorem dX2_begin_46 : decode cX2_begin 46 = .ok (.iload_n 3, 1) := by decide +kernel
theorem dX2_begin_47 : decode cX2_begin 47 = .ok (.aaload, 1) := by decide +kernel
theorem dX2_begin_48 : decode cX2_begin 48 = .ok (.invokevirtual 125, 3) := by decide +kernel
theorem dX2_begin_51 : decode cX2_begin 51 = .ok (.iadd, 1) := by decide +kernel
theorem dX2_begin_52 : decode cX2_begin 52 = .ok (.putfield 33, 3) := by decide +kernel
theorem dX2_begin_55 : decode cX2_begin 55 = .ok (.iinc 3 1, 3) := by decide +kernel
theorem dX2_begin_58 : decode cX2_begin 58 = .ok (.goto (-29), 3) := by decide +kernel
theorem dX2_begin_61 : decode cX2_begin 61 = .ok (.aload_n 0, 1) := by decide +kernel
theorem dX2_begin_62 : decode cX2_begin 62 = .ok (.iconst 1, 1) := by decide +kernel
theorem dX2_begin_63 : decode cX2_begin 63 = .ok (.putfield 26, 3) := by decide +kernel
theorem dX2_begin_66 : decode cX2_begin 66 = .ok (.aload_n 0, 1) := by decide +kernel
theorem dX2_begin_67 : decode cX2_begin 67 = .ok (.iconst 0, 1) := by decide +kernel
theorem dX2_begin_68 : decode cX2_begin 68 = .ok (.putfield 36, 3) := by decide +kernel
theorem dX2_begin_71 : decode cX2_begin 71 = .ok (.aload_n 0, 1) := by decide +kernel
theorem dX2_begin_72 : decode cX2_begin 72 = .ok (.invokevirtual 128, 3) := by decide +kernel
theorem dX2_begin_75 : decode cX2_begin 75 = .ok (.iload_n 2, 1) := by decide +kernel
theorem dX2_begin_76 : decode cX2_begin 76 = .ok (.ireturn, 1) := by decide +kernel
set_option maxRecDepth 20000 in
theorem ggX2_tick_X2_checkRange : GoodIn wsX2_tick wsX2_checkRange := goodIn_ca (goodIn_r _ [8, 9, 10] (by decide +kernel) (by decide +kernel)) (goodIn_sub (fun _ h => List.mem_cons_of_mem _ (List.mem_append_right _ h)) (by decide +kernel))
set_option maxRecDepth 20000 in
theorem gX2_tick_X2_checkRange : GoodIn wsX2_tick (wsV RX2 42 RX2 yX2_checkRange wsX2_checkRange) := goodIn_app (goodIn_of _ (by decide +kernel)) ggX2_tick_X2_checkRange
set_option maxRecDepth 20000 in
theorem ggX2_tick_X2_passOneTick : GoodIn wsX2_tick wsX2_passOneTick := goodIn_r _ [14, 3, 15, 16, 17, 7, 18, 19, 20, 21, 22, 23, 24, 25, 26, 27, 28, 29, 30, 31, 32, 33, 34, 35, 36, 37, 38, 39, 40, 41, 42, 43, 44, 45, 46, 47, 48, 49, 50, 51, 52, 53, 54, 55, 56, 57, 58, 59, 60, 61, 62, 63, 64, 65, 66, 67, 68, 69, 70, 71, 72, 73, 74, 75, 76, 77, 78, 79, 80, 81, 82, 83, 84, 85, 86, 87, 88, 89, 90, 91, 92, 93, 94, 95, 96, 97, 98, 99, 100, 101, 102, 103, 104, 105, 106, 107, 108, 109, 110, 111, 112, 113, 114, 115, 116, 117, 118, 119, 120, 121, 122, 123, 124, 125, 126, 127] (by decide +kernel) (by decide +kernel)
set_option maxRecDepth 20000 in
theorem gX2_tick_X2_passOneTick : GoodIn wsX2_tick (wsV RX2 133 RX2 yX2_passOneTick wsX2_passOneTick) := goodIn_app (goodIn_of _ (by decide +kernel)) ggX2_tick_X2_passOneTick
theorem dX2_tick_0 : decode cX2_tick 0 = .ok (.aload_n 0, 1) := by decide +kernel
theorem dX2_tick_1 : decode cX2_tick 1 = .ok (.iload_n 1, 1) := by decide +kernel
theorem dX2_tick_2 : decode cX2_tick 2 = .ok (.iconst 1, 1) := by decide +kernel
theorem dX2_tick_3 : decode cX2_tick 3 = .ok (.sipush 200, 3) := by decide +kernel
theorem dX2_tick_6 : decode cX2_tick 6 = .ok (.invokevirtual 42, 3) := by decide +kernel
theorem dX2_tick_9 : decode cX2_tick 9 = .ok (.aload_n 0, 1) := by decide +kernel
theorem dX2_tick_10 : decode cX2_tick 10 = .ok (.getfield 26, 3) := by decide +kernel
theorem dX2_tick_13 : decode cX2_tick 13 = .ok (.ifCond .ne 13, 3) := by decide +kernel
theorem dX2_tick_16 : decode cX2_tick 16 = .ok (.new 46, 3) := by decide +kernel
theorem dX2_tick_19 : decode cX2_tick 19 = .ok (.dup, 1) := by decide +kernel
theorem dX2_tick_20 : decode cX2_tick 20 = .ok (.ldc 131, 2) := by decide +kernel
theorem dX2_tick_22 : decode cX2_tick 22 = .ok (.invokespecial 50, 3) := by decide +kernel
theorem dX2_tick_25 : decode cX2_tick 25 = .ok (.athrow, 1) := by decide +kernel
theorem dX2_tick_26 : decode cX2_tick 26 = .ok (.iconst 0, 1) := by decide +kernel
theorem dX2_tick_27 : decode cX2_tick 27 = .ok (.istore_n 2, 1) := by decide +kernel
theorem dX2_tick_28 : decode cX2_tick 28 = .ok (.iload_n 2, 1) := by decide +kernel
theorem dX2_tick_29 : decode cX2_tick 29 = .ok (.iload_n 1, 1) := by decide +kernel
theorem dX2_tick_30 : decode cX2_tick 30 = .ok (.if_icmp .ge 20, 3) := by decide +kernel
theorem dX2_tick_33 : decode cX2_tick 33 = .ok (.aload_n 0, 1) := by decide +kernel
theorem dX2_tick_34 : decode cX2_tick 34 = .ok (.getfield 26, 3) := by decide +kernel
theorem dX2_tick_37 : decode cX2_tick 37 = .ok (.ifCond .eq 13, 3) := by decide +kernel
theorem dX2_tick_40 : decode cX2_tick 40 = .ok (.aload_n 0, 1) := by decide +kernel
theorem dX2_tick_41 : decode cX2_tick 41 = .ok (.invokevirtual 133, 3) := by decide +kernel
theorem dX2_tick_44 : decode cX2_tick 44 = .ok (.iinc 2 1, 3) := by decide +kernel
theorem dX2_tick_47 : decode cX2_tick 47 = .ok (.goto (-19), 3) := by decide +kernel
theorem dX2_tick_50 : decode cX2_tick 50 = .ok (.iload_n 2, 1) := by decide +kernel
theorem dX2_tick_51 : decode cX2_tick 51 = .ok (.ireturn, 1) := by decide +kernel
theorem dX2_goesOn_0 : decode cX2_goesOn 0 = .ok (.aload_n 0, 1) := by decide +kernel
theorem dX2_goesOn_1 : decode cX2_goesOn 1 = .ok (.getfield 26, 3) := by decide +kernel
theorem dX2_goesOn_4 : decode cX2_goesOn 4 = .ok (.ireturn, 1) := by decide +kernel
set_option maxRecDepth 20000 in
theorem ggX2_state_X2_unitAt : GoodIn wsX2_state wsX2_unitAt := goodIn_ca (goodIn_r _ [6, 7, 8, 9, 10, 24, 25, 26, 27, 28, 29, 30] (by decide +kernel) (by decide +kernel)) (goodIn_sub (fun _ h => List.mem_cons_of_mem _ (List.mem_append_right _ h)) (by decide +kernel))
set_option maxRecDepth 20000 in
theorem gX2_state_X2_unitAt : GoodIn wsX2_state (wsV RX2 65 RX2 yX2_unitAt wsX2_unitAt) := goodIn_app (goodIn_of _ (by decide +kernel)) ggX2_state_X2_unitAt
theorem dX2_state_0 : decode cX2_state 0 = .ok (.aload_n 0, 1) := by decide +kernel
theorem dX2_state_1 : decode cX2_state 1 = .ok (.iload_n 1, 1) := by decide +kernel
theorem dX2_state_2 : decode cX2_state 2 = .ok (.invokevirtual 65, 3) := by decide +kernel
theorem dX2_state_5 : decode cX2_state 5 = .ok (.getfield 136, 3) := by decide +kernel
theorem dX2_state_8 : decode cX2_state 8 = .ok (.ireturn, 1) := by decide +kernel
set_option maxRecDepth 20000 in
theorem ggX2_waitsFor_X2_unitAt : GoodIn wsX2_waitsFor wsX2_unitAt := goodIn_ca (goodIn_r _ [8, 9, 10, 2, 3, 58, 59, 60, 61, 62, 63, 64] (by decide +kernel) (by decide +kernel)) (goodIn_sub (fun _ h => List.mem_cons_of_mem _ (List.mem_append_right _ h)) (by decide +kernel))
set_option maxRecDepth 20000 in
theorem gX2_waitsFor_X2_unitAt : GoodIn wsX2_waitsFor (wsV RX2 65 RX2 yX2_unitAt wsX2_unitAt) := goodIn_app (goodIn_of _ (by decide +kernel)) ggX2_waitsFor_X2_unitAt
set_option maxRecDepth 20000 in
theorem ggX2_waitsFor_X2_isAwaited : GoodIn wsX2_waitsFor wsX2_isAwaited := goodIn_r _ [14, 15, 16, 17, 18, 19, 7, 20, 21, 22, 23, 24, 25, 26, 27, 28, 29, 30, 31, 32, 33, 34, 35, 36, 37, 38, 39, 40, 41, 42, 43, 44, 45, 46, 47, 48, 49, 50, 51, 52, 53, 54, 55, 56, 57] (by decide +kernel) (by decide +kernel)
set_option maxRecDepth 20000 in
theorem gX2_waitsFor_X2_isAwaited : GoodIn wsX2_waitsFor (wsV RX2 139 RX2 yX2_isAwaited wsX2_isAwaited) := goodIn_app (goodIn_of _ (by decide +kernel)) ggX2_waitsFor_X2_isAwaited
theorem dX2_waitsFor_0 : decode cX2_waitsFor 0 = .ok (.aload_n 0, 1) := by decide +kernel
theorem dX2_waitsFor_1 : decode cX2_waitsFor 1 = .ok (.iload_n 1, 1) := by decide +kernel
theorem dX2_waitsFor_2 : decode cX2_waitsFor 2 = .ok (.invokevirtual 65, 3) := by decide +kernel
theorem dX2_waitsFor_5 : decode cX2_waitsFor 5 = .ok (.astore_n 2, 1) := by decide +kernel
theorem dX2_waitsFor_6 : decode cX2_waitsFor 6 = .ok (.aload_n 2, 1) := by decide +kernel
theorem dX2_waitsFor_7 : decode cX2_waitsFor 7 = .ok (.getfield 136, 3) := by decide +kernel
theorem dX2_waitsFor_10 : decode cX2_waitsFor 10 = .ok (.ifCond .eq 5, 3) := by decide +kernel
theorem dX2_waitsFor_13 : decode cX2_waitsFor 13 = .ok (.iconst (-1), 1) := by decide +kernel
theorem dX2_waitsFor_14 : decode cX2_waitsFor 14 = .ok (.ireturn, 1) := by decide +kernel
theorem dX2_waitsFor_15 : decode cX2_waitsFor 15 = .ok (.iconst 0, 1) := by decide +kernel
theorem dX2_waitsFor_16 : decode cX2_waitsFor 16 = .ok (.istore_n 3, 1) := by decide +kernel
theorem dX2_waitsFor_17 : decode cX2_waitsFor 17 = .ok (.iload_n 3, 1) := by decide +kernel
theorem dX2_waitsFor_18 : decode cX2_waitsFor 18 = .ok (.aload_n 0, 1) := by decide +kernel
theorem dX2_waitsFor_19 : decode cX2_waitsFor 19 = .ok (.getfield 15, 3) := by decide +kernel
theorem dX2_waitsFor_22 : decode cX2_waitsFor 22 = .ok (.if_icmp .ge 25, 3) := by decide +kernel
theorem dX2_waitsFor_25 : decode cX2_waitsFor 25 = .ok (.aload_n 0, 1) := by decide +kernel
theorem dX2_waitsFor_26 : decode cX2_waitsFor 26 = .ok (.aload_n 0, 1) := by decide +kernel
theorem dX2_waitsFor_27 : decode cX2_waitsFor 27 = .ok (.getfield 11, 3) := by decide +kernel
theorem dX2_waitsFor_30 : decode cX2_waitsFor 30 = .ok (.iload_n 3, 1) := by decide +kernel
theorem dX2_waitsFor_31 : decode cX2_waitsFor 31 = .ok (.aaload, 1) := by decide +kernel
theorem dX2_waitsFor_32 : decode cX2_waitsFor 32 = .ok (.aload_n 2, 1) := by decide +kernel
theorem dX2_waitsFor_33 : decode cX2_waitsFor 33 = .ok (.invokevirtual 139, 3) := by decide +kernel
theorem dX2_waitsFor_36 : decode cX2_waitsFor 36 = .ok (.ifCond .eq 5, 3) := by decide +kernel
theorem dX2_waitsFor_39 : decode cX2_waitsFor 39 = .ok (.iload_n 3, 1) := by decide +kernel
theorem dX2_waitsFor_40 : decode cX2_waitsFor 40 = .ok (.ireturn, 1) := by decide +kernel
theorem dX2_waitsFor_41 : decode cX2_waitsFor 41 = .ok (.iinc 3 1, 3) := by decide +kernel
theorem dX2_waitsFor_44 : decode cX2_waitsFor 44 = .ok (.goto (-27), 3) := by decide +kernel
theorem dX2_waitsFor_47 : decode cX2_waitsFor 47 = .ok (.iconst (-1), 1) := by decide +kernel
theorem dX2_waitsFor_48 : decode cX2_waitsFor 48 = .ok (.ireturn, 1) := by decide +kernel
theorem dX2_bar_0 : decode cX2_bar 0 = .ok (.aload_n 0, 1) := by decide +kernel
theorem dX2_bar_1 : decode cX2_bar 1 = .ok (.getfield 36, 3) := by decide +kernel
theorem dX2_bar_4 : decode cX2_bar 4 = .ok (.ireturn, 1) := by decide +kernel
set_option maxRecDepth 20000 in
theorem ggX2_ready_X0_bit : GoodIn wsX2_ready wsX0_bit := goodIn_r _ [8, 9, 17, 18, 19, 20, 21, 22, 23, 24, 25, 26, 27, 28, 29] (by decide +kernel) (by decide +kernel)
set_option maxRecDepth 20000 in
theorem gX2_ready_X0_bit : GoodIn wsX2_ready (wsV RX2 82 RX0 yX0_bit wsX0_bit) := goodIn_app (goodIn_of _ (by decide +kernel)) ggX2_ready_X0_bit
theorem dX2_ready_0 : decode cX2_ready 0 = .ok (.iconst 0, 1) := by decide +kernel
theorem dX2_ready_1 : decode cX2_ready 1 = .ok (.istore_n 1, 1) := by decide +kernel
theorem dX2_ready_2 : decode cX2_ready 2 = .ok (.iconst 0, 1) := by decide +kernel
theorem dX2_ready_3 : decode cX2_ready 3 = .ok (.istore_n 2, 1) := by decide +kernel
theorem dX2_ready_4 : decode cX2_ready 4 = .ok (.iload_n 2, 1) := by decide +kernel
theorem dX2_ready_5 : decode cX2_ready 5 = .ok (.aload_n 0, 1) := by decide +kernel
theorem dX2_ready_6 : decode cX2_ready 6 = .ok (.getfield 15, 3) := by decide +kernel
theorem dX2_ready_9 : decode cX2_ready 9 = .ok (.if_icmp .ge 38, 3) := by decide +kernel
theorem dX2_ready_12 : decode cX2_ready 12 = .ok (.iload_n 1, 1) := by decide +kernel
theorem dX2_ready_13 : decode cX2_ready 13 = .ok (.aload_n 0, 1) := by decide +kernel
theorem dX2_ready_14 : decode cX2_ready 14 = .ok (.getfield 11, 3) := by decide +kernel
theorem dX2_ready_17 : decode cX2_ready 17 = .ok (.iload_n 2, 1) := by decide +kernel
theorem dX2_ready_18 : decode cX2_ready 18 = .ok (.aaload, 1) := by decide +kernel
theorem dX2_ready_19 : decode cX2_ready 19 = .ok (.getfield 136, 3) := by decide +kernel
theorem dX2_ready_22 : decode cX2_ready 22 = .ok (.iconst 2, 1) := by decide +kernel
theorem dX2_ready_23 : decode cX2_ready 23 = .ok (.if_icmp .ne 15, 3) := by decide +kernel
theorem dX2_ready_26 : decode cX2_ready 26 = .ok (.aload_n 0, 1) := by decide +kernel
theorem dX2_ready_27 : decode cX2_ready 27 = .ok (.getfield 11, 3) := by decide +kernel
theorem dX2_ready_30 : decode cX2_ready 30 = .ok (.iload_n 2, 1) := by decide +kernel
theorem dX2_ready_31 : decode cX2_ready 31 = .ok (.aaload, 1) := by decide +kernel
theorem dX2_ready_32 : decode cX2_ready 32 = .ok (.invokevirtual 82, 3) := by decide +kernel
theorem dX2_ready_35 : decode cX2_ready 35 = .ok (.goto 4, 3) := by decide +kernel
theorem dX2_ready_38 : decode cX2_ready 38 = .ok (.iconst 0, 1) := by decide +kernel
theorem dX2_ready_39 : decode cX2_ready 39 = .ok (.ior, 1) := by decide +kernel
theorem dX2_ready_40 : decode cX2_ready 40 = .ok (.istore_n 1, 1) := by decide +kernel
theorem dX2_ready_41 : decode cX2_ready 41 = .ok (.iinc 2 1, 3) := by decide +kernel
theorem dX2_ready_44 : decode cX2_ready 44 = .ok (.goto (-40), 3) := by decide +kernel
theorem dX2_ready_47 : decode cX2_ready 47 = .ok (.iload_n 1, 1) := by decide +kernel
theorem dX2_ready_48 : decode cX2_ready 48 = .ok (.ireturn, 1) := by decide +kernel
set_option maxRecDepth 20000 in
theorem ggX2_canRun_X2_ableAlone : GoodIn wsX2_canRun wsX2_ableAlone := goodIn_r _ [6, 1, 7, 8, 9, 10, 11, 12, 13, 14, 15, 16, 27, 28, 29, 30, 31, 32, 33, 34, 35, 36, 37, 38, 39, 40, 41, 42, 43, 44, 45, 46] (by decide +kernel) (by decide +kernel)
set_option maxRecDepth 20000 in
theorem gX2_canRun_X2_ableAlone : GoodIn wsX2_canRun (wsV RX2 143 RX2 yX2_ableAlone wsX2_ableAlone) := goodIn_app (goodIn_of _ (by decide +kernel)) ggX2_canRun_X2_ableAlone
set_option maxRecDepth 20000 in
theorem ggX2_canRun_X2_keepSupplied : GoodIn wsX2_canRun wsX2_keepSupplied := goodIn_r _ [20, 1, 7, 21, 22, 23, 24, 25, 5, 26, 11, 12, 13, 14, 15, 16, 27, 28, 29, 30, 31, 32, 33, 34, 35, 36, 37, 38, 39, 40, 41, 42, 43, 44, 45, 46] (by decide +kernel) (by decide +kernel)
set_option maxRecDepth 20000 in
theorem gX2_canRun_X2_keepSupplied : GoodIn wsX2_canRun (wsV RX2 146 RX2 yX2_keepSupplied wsX2_keepSupplied) := goodIn_app (goodIn_of _ (by decide +kernel)) ggX2_canRun_X2_keepSupplied
theorem dX2_canRun_0 : decode cX2_canRun 0 = .ok (.aload_n 0, 1) := by decide +kernel
theorem dX2_canRun_1 : decode cX2_canRun 1 = .ok (.invokevirtual 143, 3) := by decide +kernel
theorem dX2_canRun_4 : decode cX2_canRun 4 = .ok (.istore_n 1, 1) := by decide +kernel
theorem dX2_canRun_5 : decode cX2_canRun 5 = .ok (.iconst 0, 1) := by decide +kernel
theorem dX2_canRun_6 : decode cX2_canRun 6 = .ok (.istore_n 2, 1) := by decide +kernel
theorem dX2_canRun_7 : decode cX2_canRun 7 = .ok (.iconst 0, 1) := by decide +kernel
theorem dX2_canRun_8 : decode cX2_canRun 8 = .ok (.istore_n 3, 1) := by decide +kernel
theorem dX2_canRun_9 : decode cX2_canRun 9 = .ok (.iload_n 3, 1) := by decide +kernel
theorem dX2_canRun_10 : decode cX2_canRun 10 = .ok (.aload_n 0, 1) := by decide +kernel
theorem dX2_canRun_11 : decode cX2_canRun 11 = .ok (.getfield 15, 3) := by decide +kernel
theorem dX2_canRun_14 : decode cX2_canRun 14 = .ok (.if_icmp .gt 22, 3) := by decide +kernel
theorem dX2_canRun_17 : decode cX2_canRun 17 = .ok (.iload_n 1, 1) := by decide +kernel
theorem dX2_canRun_18 : decode cX2_canRun 18 = .ok (.iload_n 2, 1) := by decide +kernel
theorem dX2_canRun_19 : decode cX2_canRun 19 = .ok (.if_icmp .eq 17, 3) := by decide +kernel
theorem dX2_canRun_22 : decode cX2_canRun 22 = .ok (.iload_n 1, 1) := by decide +kernel
theorem dX2_canRun_23 : decode cX2_canRun 23 = .ok (.istore_n 2, 1) := by decide +kernel
theorem dX2_canRun_24 : decode cX2_canRun 24 = .ok (.aload_n 0, 1) := by decide +kernel
theorem dX2_canRun_25 : decode cX2_canRun 25 = .ok (.iload_n 1, 1) := by decide +kernel
theorem dX2_canRun_26 : decode cX2_canRun 26 = .ok (.invokevirtual 146, 3) := by decide +kernel
theorem dX2_canRun_29 : decode cX2_canRun 29 = .ok (.istore_n 1, 1) := by decide +kernel
theorem dX2_canRun_30 : decode cX2_canRun 30 = .ok (.iinc 3 1, 3) := by decide +kernel
theorem dX2_canRun_33 : decode cX2_canRun 33 = .ok (.goto (-24), 3) := by decide +kernel
theorem dX2_canRun_36 : decode cX2_canRun 36 = .ok (.iload_n 1, 1) := by decide +kernel
theorem dX2_canRun_37 : decode cX2_canRun 37 = .ok (.ireturn, 1) := by decide +kernel
theorem dX2_unitAt_0 : decode cX2_unitAt 0 = .ok (.iload_n 1, 1) := by decide +kernel
theorem dX2_unitAt_1 : decode cX2_unitAt 1 = .ok (.ifCond .lt 11, 3) := by decide +kernel
theorem dX2_unitAt_4 : decode cX2_unitAt 4 = .ok (.iload_n 1, 1) := by decide +kernel
theorem dX2_unitAt_5 : decode cX2_unitAt 5 = .ok (.aload_n 0, 1) := by decide +kernel
theorem dX2_unitAt_6 : decode cX2_unitAt 6 = .ok (.getfield 15, 3) := by decide +kernel
theorem dX2_unitAt_9 : decode cX2_unitAt 9 = .ok (.if_icmp .lt 13, 3) := by decide +kernel
theorem dX2_unitAt_12 : decode cX2_unitAt 12 = .ok (.new 150, 3) := by decide +kernel
theorem dX2_unitAt_15 : decode cX2_unitAt 15 = .ok (.dup, 1) := by decide +kernel
theorem dX2_unitAt_16 : decode cX2_unitAt 16 = .ok (.ldc 152, 2) := by decide +kernel
theorem dX2_unitAt_18 : decode cX2_unitAt 18 = .ok (.invokespecial 154, 3) := by decide +kernel
theorem dX2_unitAt_21 : decode cX2_unitAt 21 = .ok (.athrow, 1) := by decide +kernel
theorem dX2_unitAt_22 : decode cX2_unitAt 22 = .ok (.aload_n 0, 1) := by decide +kernel
theorem dX2_unitAt_23 : decode cX2_unitAt 23 = .ok (.getfield 11, 3) := by decide +kernel
theorem dX2_unitAt_26 : decode cX2_unitAt 26 = .ok (.iload_n 1, 1) := by decide +kernel
theorem dX2_unitAt_27 : decode cX2_unitAt 27 = .ok (.aaload, 1) := by decide +kernel
theorem dX2_unitAt_28 : decode cX2_unitAt 28 = .ok (.areturn, 1) := by decide +kernel
theorem dX2_checkRange_0 : decode cX2_checkRange 0 = .ok (.iload_n 1, 1) := by decide +kernel
theorem dX2_checkRange_1 : decode cX2_checkRange 1 = .ok (.iload_n 2, 1) := by decide +kernel
theorem dX2_checkRange_2 : decode cX2_checkRange 2 = .ok (.if_icmp .lt 8, 3) := by decide +kernel
theorem dX2_checkRange_5 : decode cX2_checkRange 5 = .ok (.iload_n 1, 1) := by decide +kernel
theorem dX2_checkRange_6 : decode cX2_checkRange 6 = .ok (.iload_n 3, 1) := by decide +kernel
theorem dX2_checkRange_7 : decode cX2_checkRange 7 = .ok (.if_icmp .le 13, 3) := by decide +kernel
theorem dX2_checkRange_10 : decode cX2_checkRange 10 = .ok (.new 155, 3) := by decide +kernel
theorem dX2_checkRange_13 : decode cX2_checkRange 13 = .ok (.dup, 1) := by decide +kernel
theorem dX2_checkRange_14 : decode cX2_checkRange 14 = .ok (.ldc 157, 2) := by decide +kernel
theorem dX2_checkRange_16 : decode cX2_checkRange 16 = .ok (.invokespecial 159, 3) := by decide +kernel
theorem dX2_checkRange_19 : decode cX2_checkRange 19 = .ok (.athrow, 1) := by decide +kernel
theorem dX2_checkRange_20 : decode cX2_checkRange 20 = .ok (.return_, 1) := by decide +kernel
theorem dX2_checkDifferent_0 : decode cX2_checkDifferent 0 = .ok (.aload_n 1, 1) := by decide +kernel
theorem dX2_checkDifferent_1 : decode cX2_checkDifferent 1 = .ok (.aload_n 2, 1) := by decide +kernel
theorem dX2_checkDifferent_2 : decode cX2_checkDifferent 2 = .ok (.if_acmp .ne 13, 3) := by decide +kernel
theorem dX2_checkDifferent_5 : decode cX2_checkDifferent 5 = .ok (.new 155, 3) := by decide +kernel
theorem dX2_checkDifferent_8 : decode cX2_checkDifferent 8 = .ok (.dup, 1) := by decide +kernel
theorem dX2_checkDifferent_9 : decode cX2_checkDifferent 9 = .ok (.ldc 160, 2) := by decide +kernel
theorem dX2_checkDifferent_11 : decode cX2_checkDifferent 11 = .ok (.invokespecial 159, 3) := by decide +kernel
theorem dX2_checkDifferent_14 : decode cX2_checkDifferent 14 = .ok (.athrow, 1) := by decide +kernel
theorem dX2_checkDifferent_15 : decode cX2_checkDifferent 15 = .ok (.return_, 1) := by decide +kernel
theorem dX2_checkNoStart_0 : decode cX2_checkNoStart 0 = .ok (.aload_n 0, 1) := by decide +kernel
theorem dX2_checkNoStart_1 : decode cX2_checkNoStart 1 = .ok (.getfield 26, 3) := by decide +kernel
theorem dX2_checkNoStart_4 : decode cX2_checkNoStart 4 = .ok (.ifCond .eq 13, 3) := by decide +kernel
theorem dX2_checkNoStart_7 : decode cX2_checkNoStart 7 = .ok (.new 46, 3) := by decide +kernel
theorem dX2_checkNoStart_10 : decode cX2_checkNoStart 10 = .ok (.dup, 1) := by decide +kernel
theorem dX2_checkNoStart_11 : decode cX2_checkNoStart 11 = .ok (.ldc 162, 2) := by decide +kernel
theorem dX2_checkNoStart_13 : decode cX2_checkNoStart 13 = .ok (.invokespecial 50, 3) := by decide +kernel
theorem dX2_checkNoStart_16 : decode cX2_checkNoStart 16 = .ok (.athrow, 1) := by decide +kernel
theorem dX2_checkNoStart_17 : decode cX2_checkNoStart 17 = .ok (.return_, 1) := by decide +kernel
set_option maxRecDepth 20000 in
theorem ggX2_contains_X0_bit : GoodIn wsX2_contains wsX0_bit := goodIn_r _ [5, 6, 7, 8, 9, 10, 11, 12, 13, 14, 15, 16, 17, 18, 19] (by decide +kernel) (by decide +kernel)
set_option maxRecDepth 20000 in
theorem gX2_contains_X0_bit : GoodIn wsX2_contains (wsV RX2 82 RX0 yX0_bit wsX0_bit) := goodIn_app (goodIn_of _ (by decide +kernel)) ggX2_contains_X0_bit
theorem dX2_contains_0 : decode cX2_contains 0 = .ok (.iload_n 1, 1) := by decide +kernel
theorem dX2_contains_1 : decode cX2_contains 1 = .ok (.aload_n 2, 1) := by decide +kernel
theorem dX2_contains_2 : decode cX2_contains 2 = .ok (.invokevirtual 82, 3) := by decide +kernel
theorem dX2_contains_5 : decode cX2_contains 5 = .ok (.iand, 1) := by decide +kernel
theorem dX2_contains_6 : decode cX2_contains 6 = .ok (.ifCond .eq 7, 3) := by decide +kernel
theorem dX2_contains_9 : decode cX2_contains 9 = .ok (.iconst 1, 1) := by decide +kernel
theorem dX2_contains_10 : decode cX2_contains 10 = .ok (.goto 4, 3) := by decide +kernel
theorem dX2_contains_13 : decode cX2_contains 13 = .ok (.iconst 0, 1) := by decide +kernel
theorem dX2_contains_14 : decode cX2_contains 14 = .ok (.ireturn, 1) := by decide +kernel
set_option maxRecDepth 20000 in
theorem ggX2_findWish_Jx4a65c_size_8abf5 : GoodIn wsX2_findWish wsJx4a65c_size_8abf5 := goodIn_r _ [9, 10, 38, 39, 40] (by decide +kernel) (by decide +kernel)
set_option maxRecDepth 20000 in
theorem gX2_findWish_Jx4a65c_size_8abf5 : GoodIn wsX2_findWish (wsV RX2 164 RJx4a65c yJx4a65c_size_8abf5 wsJx4a65c_size_8abf5) := goodIn_app (goodIn_of _ (by decide +kernel)) ggX2_findWish_Jx4a65c_size_8abf5
set_option maxRecDepth 20000 in
theorem ggX2_findWish_Jx4a65c_get_915e3 : GoodIn wsX2_findWish wsJx4a65c_get_915e3 := goodIn_r _ [14, 10, 15, 16, 17, 18, 19, 20, 21, 22, 23, 24, 25, 8, 26, 27, 38, 39, 40] (by decide +kernel) (by decide +kernel)
set_option maxRecDepth 20000 in
theorem gX2_findWish_Jx4a65c_get_915e3 : GoodIn wsX2_findWish (wsV RX2 167 RJx4a65c yJx4a65c_get_915e3 wsJx4a65c_get_915e3) := goodIn_app (goodIn_of _ (by decide +kernel)) ggX2_findWish_Jx4a65c_get_915e3
theorem dX2_findWish_0 : decode cX2_findWish 0 = .ok (.iconst 0, 1) := by decide +kernel
theorem dX2_findWish_1 : decode cX2_findWish 1 = .ok (.istore_n 3, 1) := by decide +kernel
theorem dX2_findWish_2 : decode cX2_findWish 2 = .ok (.iload_n 3, 1) := by decide +kernel
theorem dX2_findWish_3 : decode cX2_findWish 3 = .ok (.aload_n 0, 1) := by decide +kernel
theorem dX2_findWish_4 : decode cX2_findWish 4 = .ok (.getfield 22, 3) := by decide +kernel
theorem dX2_findWish_7 : decode cX2_findWish 7 = .ok (.invokevirtual 164, 3) := by decide +kernel
theorem dX2_findWish_10 : decode cX2_findWish 10 = .ok (.if_icmp .ge 43, 3) := by decide +kernel
theorem dX2_findWish_13 : decode cX2_findWish 13 = .ok (.aload_n 0, 1) := by decide +kernel
theorem dX2_findWish_14 : decode cX2_findWish 14 = .ok (.getfield 22, 3) := by decide +kernel
theorem dX2_findWish_17 : decode cX2_findWish 17 = .ok (.iload_n 3, 1) := by decide +kernel
theorem dX2_findWish_18 : decode cX2_findWish 18 = .ok (.invokevirtual 167, 3) := by decide +kernel
theorem dX2_findWish_21 : decode cX2_findWish 21 = .ok (.checkcast 94, 3) := by decide +kernel
theorem dX2_findWish_24 : decode cX2_findWish 24 = .ok (.astore 4, 2) := by decide +kernel
theorem dX2_findWish_26 : decode cX2_findWish 26 = .ok (.aload 4, 2) := by decide +kernel
theorem dX2_findWish_28 : decode cX2_findWish 28 = .ok (.getfield 171, 3) := by decide +kernel
theorem dX2_findWish_31 : decode cX2_findWish 31 = .ok (.aload_n 1, 1) := by decide +kernel
theorem dX2_findWish_32 : decode cX2_findWish 32 = .ok (.if_acmp .ne 15, 3) := by decide +kernel
theorem dX2_findWish_35 : decode cX2_findWish 35 = .ok (.aload 4, 2) := by decide +kernel
theorem dX2_findWish_37 : decode cX2_findWish 37 = .ok (.getfield 174, 3) := by decide +kernel
theorem dX2_findWish_40 : decode cX2_findWish 40 = .ok (.aload_n 2, 1) := by decide +kernel
theorem dX2_findWish_41 : decode cX2_findWish 41 = .ok (.if_acmp .ne 6, 3) := by decide +kernel
theorem dX2_findWish_44 : decode cX2_findWish 44 = .ok (.aload 4, 2) := by decide +kernel
theorem dX2_findWish_46 : decode cX2_findWish 46 = .ok (.areturn, 1) := by decide +kernel
theorem dX2_findWish_47 : decode cX2_findWish 47 = .ok (.iinc 3 1, 3) := by decide +kernel
theorem dX2_findWish_50 : decode cX2_findWish 50 = .ok (.goto (-48), 3) := by decide +kernel
theorem dX2_findWish_53 : decode cX2_findWish 53 = .ok (.aconst_null, 1) := by decide +kernel
theorem dX2_findWish_54 : decode cX2_findWish 54 = .ok (.areturn, 1) := by decide +kernel
set_option maxRecDepth 20000 in
theorem ggX2_reaches_X0_bit : GoodIn wsX2_reaches wsX0_bit := goodIn_r _ [9, 10, 23, 24, 25, 26, 27, 28, 29, 30, 31, 32, 33, 34, 35] (by decide +kernel) (by decide +kernel)
set_option maxRecDepth 20000 in
theorem gX2_reaches_X0_bit : GoodIn wsX2_reaches (wsV RX2 82 RX0 yX0_bit wsX0_bit) := goodIn_app (goodIn_of _ (by decide +kernel)) ggX2_reaches_X0_bit
set_option maxRecDepth 20000 in
theorem ggX2_reaches_X2_contains : GoodIn wsX2_reaches wsX2_contains := goodIn_r _ [15, 5, 6, 7, 8, 9, 10, 23, 24, 25, 26, 27, 28, 29, 30, 31, 32, 33, 34, 35] (by decide +kernel) (by decide +kernel)
set_option maxRecDepth 20000 in
theorem gX2_reaches_X2_contains : GoodIn wsX2_reaches (wsV RX2 78 RX2 yX2_contains wsX2_contains) := goodIn_app (goodIn_of _ (by decide +kernel)) ggX2_reaches_X2_contains
theorem dX2_reaches_0 : decode cX2_reaches 0 = .ok (.aload_n 1, 1) := by decide +kernel
theorem dX2_reaches_1 : decode cX2_reaches 1 = .ok (.invokevirtual 82, 3) := by decide +kernel
theorem dX2_reaches_4 : decode cX2_reaches 4 = .ok (.istore 4, 2) := by decide +kernel
theorem dX2_reaches_6 : decode cX2_reaches 6 = .ok (.iconst 0, 1) := by decide +kernel
theorem dX2_reaches_7 : decode cX2_reaches 7 = .ok (.istore 5, 2) := by decide +kernel
theorem dX2_reaches_9 : decode cX2_reaches 9 = .ok (.iconst 0, 1) := by decide +kernel
theorem dX2_reaches_10 : decode cX2_reaches 10 = .ok (.istore 6, 2) := by decide +kernel
theorem dX2_reaches_12 : decode cX2_reaches 12 = .ok (.iload 6, 2) := by decide +kernel
theorem dX2_reaches_14 : decode cX2_reaches 14 = .ok (.aload_n 0, 1) := by decide +kernel
theorem dX2_reaches_15 : decode cX2_reaches 15 = .ok (.getfield 15, 3) := by decide +kernel
theorem dX2_reaches_18 : decode cX2_reaches 18 = .ok (.if_icmp .gt 88, 3) := by decide +kernel
theorem dX2_reaches_21 : decode cX2_reaches 21 = .ok (.iload 4, 2) := by decide +kernel
theorem dX2_reaches_23 : decode cX2_reaches 23 = .ok (.iload 5, 2) := by decide +kernel
theorem dX2_reaches_25 : decode cX2_reaches 25 = .ok (.if_icmp .eq 81, 3) := by decide +kernel
theorem dX2_reaches_28 : decode cX2_reaches 28 = .ok (.iload 4, 2) := by decide +kernel
theorem dX2_reaches_30 : decode cX2_reaches 30 = .ok (.istore 5, 2) := by decide +kernel
theorem dX2_reaches_32 : decode cX2_reaches 32 = .ok (.iconst 0, 1) := by decide +kernel
theorem dX2_reaches_33 : decode cX2_reaches 33 = .ok (.istore 7, 2) := by decide +kernel
theorem dX2_reaches_35 : decode cX2_reaches 35 = .ok (.iload 7, 2) := by decide +kernel
theorem dX2_reaches_37 : decode cX2_reaches 37 = .ok (.aload_n 0, 1) := by decide +kernel
theorem dX2_reaches_38 : decode cX2_reaches 38 = .ok (.getfield 15, 3) := by decide +kernel
theorem dX2_reaches_41 : decode cX2_reaches 41 = .ok (.if_icmp .ge 59, 3) := by decide +kernel
theorem dX2_reaches_44 : decode cX2_reaches 44 = .ok (.aload_n 0, 1) := by decide +kernel
theorem dX2_reaches_45 : decode cX2_reaches 45 = .ok (.iload 4, 2) := by decide +kernel
theorem dX2_reaches_47 : decode cX2_reaches 47 = .ok (.aload_n 0, 1) := by decide +kernel
theorem dX2_reaches_48 : decode cX2_reaches 48 = .ok (.getfield 11, 3) := by decide +kernel
theorem dX2_reaches_51 : decode cX2_reaches 51 = .ok (.iload 7, 2) := by decide +kernel
theorem dX2_reaches_53 : decode cX2_reaches 53 = .ok (.aaload, 1) := by decide +kernel
theorem dX2_reaches_54 : decode cX2_reaches 54 = .ok (.invokevirtual 78, 3) := by decide +kernel
theorem dX2_reaches_57 : decode cX2_reaches 57 = .ok (.ifCond .eq 37, 3) := by decide +kernel
theorem dX2_reaches_60 : decode cX2_reaches 60 = .ok (.iload 4, 2) := by decide +kernel
theorem dX2_reaches_62 : decode cX2_reaches 62 = .ok (.aload_n 0, 1) := by decide +kernel
theorem dX2_reaches_63 : decode cX2_reaches 63 = .ok (.getfield 11, 3) := by decide +kernel
theorem dX2_reaches_66 : decode cX2_reaches 66 = .ok (.iload 7, 2) := by decide +kernel
theorem dX2_reaches_68 : decode cX2_reaches 68 = .ok (.aaload, 1) := by decide +kernel
theorem dX2_reaches_69 : decode cX2_reaches 69 = .ok (.getfield 75, 3) := by decide +kernel
theorem dX2_reaches_72 : decode cX2_reaches 72 = .ok (.iload_n 3, 1) := by decide +kernel
theorem dX2_reaches_73 : decode cX2_reaches 73 = .ok (.ifCond .eq 16, 3) := by decide +kernel
theorem dX2_reaches_76 : decode cX2_reaches 76 = .ok (.aload_n 0, 1) := by decide +kernel
theorem dX2_reaches_77 : decode cX2_reaches 77 = .ok (.getfield 11, 3) := by decide +kernel
theorem dX2_reaches_80 : decode cX2_reaches 80 = .ok (.iload 7, 2) := by decide +kernel
theorem dX2_reaches_82 : decode cX2_reaches 82 = .ok (.aaload, 1) := by decide +kernel
theorem dX2_reaches_83 : decode cX2_reaches 83 = .ok (.getfield 103, 3) := by decide +kernel
theorem dX2_reaches_86 : decode cX2_reaches 86 = .ok (.goto 4, 3) := by decide +kernel
theorem dX2_reaches_89 : decode cX2_reaches 89 = .ok (.iconst 0, 1) := by decide +kernel
theorem dX2_reaches_90 : decode cX2_reaches 90 = .ok (.ior, 1) := by decide +kernel
theorem dX2_reaches_91 : decode cX2_reaches 91 = .ok (.ior, 1) := by decide +kernel
theorem dX2_reaches_92 : decode cX2_reaches 92 = .ok (.istore 4, 2) := by decide +kernel
theorem dX2_reaches_94 : decode cX2_reaches 94 = .ok (.iinc 7 1, 3) := by decide +kernel
theorem dX2_reaches_97 : decode cX2_reaches 97 = .ok (.goto (-62), 3) := by decide +kernel
theorem dX2_reaches_100 : decode cX2_reaches 100 = .ok (.iinc 6 1, 3) := by decide +kernel
theorem dX2_reaches_103 : decode cX2_reaches 103 = .ok (.goto (-91), 3) := by decide +kernel
theorem dX2_reaches_106 : decode cX2_reaches 106 = .ok (.aload_n 0, 1) := by decide +kernel
theorem dX2_reaches_107 : decode cX2_reaches 107 = .ok (.iload 4, 2) := by decide +kernel
theorem dX2_reaches_109 : decode cX2_reaches 109 = .ok (.aload_n 2, 1) := by decide +kernel
theorem dX2_reaches_110 : decode cX2_reaches 110 = .ok (.invokevirtual 78, 3) := by decide +kernel
theorem dX2_reaches_113 : decode cX2_reaches 113 = .ok (.ireturn, 1) := by decide +kernel
set_option maxRecDepth 20000 in
theorem ggX2_cutLoops_X2_keepAllWishes : GoodIn wsX2_cutLoops wsX2_keepAllWishes := goodIn_r _ [11, 1, 2, 5, 6, 4, 12, 13, 14, 15, 16, 17, 18, 19, 20, 21, 22, 23, 24, 25, 26, 27, 28, 29, 30, 31, 32, 33, 34, 35, 36, 37, 38, 39, 40, 52, 53, 54, 55, 56, 57, 58, 59, 60, 61, 62, 63, 64, 65, 66, 67, 68, 69, 70, 71, 72, 73, 74, 75, 76, 77] (by decide +kernel) (by decide +kernel)
set_option maxRecDepth 20000 in
theorem gX2_cutLoops_X2_keepAllWishes : GoodIn wsX2_cutLoops (wsV RX2 177 RX2 yX2_keepAllWishes wsX2_keepAllWishes) := goodIn_app (goodIn_of _ (by decide +kernel)) ggX2_cutLoops_X2_keepAllWishes
set_option maxRecDepth 20000 in
theorem ggX2_cutLoops_Jx4a65c_size_8abf5 : GoodIn wsX2_cutLoops wsJx4a65c_size_8abf5 := goodIn_r _ [16, 17, 75, 76, 77] (by decide +kernel) (by decide +kernel)
set_option maxRecDepth 20000 in
theorem gX2_cutLoops_Jx4a65c_size_8abf5 : GoodIn wsX2_cutLoops (wsV RX2 164 RJx4a65c yJx4a65c_size_8abf5 wsJx4a65c_size_8abf5) := goodIn_app (goodIn_of _ (by decide +kernel)) ggX2_cutLoops_Jx4a65c_size_8abf5
set_option maxRecDepth 20000 in
theorem ggX2_cutLoops_Jx4a65c_get_915e3 : GoodIn wsX2_cutLoops wsJx4a65c_get_915e3 := goodIn_r _ [21, 17, 22, 23, 24, 25, 26, 27, 28, 29, 30, 31, 32, 15, 33, 34, 75, 76, 77] (by decide +kernel) (by decide +kernel)
set_option maxRecDepth 20000 in
theorem gX2_cutLoops_Jx4a65c_get_915e3 : GoodIn wsX2_cutLoops (wsV RX2 167 RJx4a65c yJx4a65c_get_915e3 wsJx4a65c_get_915e3) := goodIn_app (goodIn_of _ (by decide +kernel)) ggX2_cutLoops_Jx4a65c_get_915e3
set_option maxRecDepth 20000 in
theorem ggX2_cutLoops_X2_reaches : GoodIn wsX2_cutLoops wsX2_reaches := goodIn_r _ [44, 45, 46, 47, 6, 35, 36, 37, 38, 39, 40, 48, 49, 50, 10, 51, 52, 53, 54, 55, 56, 57, 58, 62, 63, 64, 65, 66, 67, 68, 69, 70, 71, 72, 73, 74] (by decide +kernel) (by decide +kernel)
set_option maxRecDepth 20000 in
theorem gX2_cutLoops_X2_reaches : GoodIn wsX2_cutLoops (wsV RX2 69 RX2 yX2_reaches wsX2_reaches) := goodIn_app (goodIn_of _ (by decide +kernel)) ggX2_cutLoops_X2_reaches
set_option maxRecDepth 20000 in
theorem ggX2_cutLoops_X0_bit : GoodIn wsX2_cutLoops wsX0_bit := goodIn_r _ [39, 40, 62, 63, 64, 65, 66, 67, 68, 69, 70, 71, 72, 73, 74] (by decide +kernel) (by decide +kernel)
set_option maxRecDepth 20000 in
theorem gX2_cutLoops_X0_bit : GoodIn wsX2_cutLoops (wsV RX2 82 RX0 yX0_bit wsX0_bit) := goodIn_app (goodIn_of _ (by decide +kernel)) ggX2_cutLoops_X0_bit
theorem dX2_cutLoops_0 : decode cX2_cutLoops 0 = .ok (.aload_n 0, 1) := by decide +kernel
theorem dX2_cutLoops_1 : decode cX2_cutLoops 1 = .ok (.invokevirtual 177, 3) := by decide +kernel
theorem dX2_cutLoops_4 : decode cX2_cutLoops 4 = .ok (.iconst 0, 1) := by decide +kernel
theorem dX2_cutLoops_5 : decode cX2_cutLoops 5 = .ok (.istore_n 1, 1) := by decide +kernel
theorem dX2_cutLoops_6 : decode cX2_cutLoops 6 = .ok (.iconst 1, 1) := by decide +kernel
theorem dX2_cutLoops_7 : decode cX2_cutLoops 7 = .ok (.istore_n 2, 1) := by decide +kernel
theorem dX2_cutLoops_8 : decode cX2_cutLoops 8 = .ok (.iload_n 2, 1) := by decide +kernel
theorem dX2_cutLoops_9 : decode cX2_cutLoops 9 = .ok (.bipush 100, 2) := by decide +kernel
theorem dX2_cutLoops_11 : decode cX2_cutLoops 11 = .ok (.if_icmp .gt 94, 3) := by decide +kernel
theorem dX2_cutLoops_14 : decode cX2_cutLoops 14 = .ok (.iconst 0, 1) := by decide +kernel
theorem dX2_cutLoops_15 : decode cX2_cutLoops 15 = .ok (.istore_n 3, 1) := by decide +kernel
theorem dX2_cutLoops_16 : decode cX2_cutLoops 16 = .ok (.iload_n 3, 1) := by decide +kernel
theorem dX2_cutLoops_17 : decode cX2_cutLoops 17 = .ok (.aload_n 0, 1) := by decide +kernel
theorem dX2_cutLoops_18 : decode cX2_cutLoops 18 = .ok (.getfield 22, 3) := by decide +kernel
theorem dX2_cutLoops_21 : decode cX2_cutLoops 21 = .ok (.invokevirtual 164, 3) := by decide +kernel
theorem dX2_cutLoops_24 : decode cX2_cutLoops 24 = .ok (.if_icmp .ge 75, 3) := by decide +kernel
theorem dX2_cutLoops_27 : decode cX2_cutLoops 27 = .ok (.aload_n 0, 1) := by decide +kernel
theorem dX2_cutLoops_28 : decode cX2_cutLoops 28 = .ok (.getfield 22, 3) := by decide +kernel
theorem dX2_cutLoops_31 : decode cX2_cutLoops 31 = .ok (.iload_n 3, 1) := by decide +kernel
theorem dX2_cutLoops_32 : decode cX2_cutLoops 32 = .ok (.invokevirtual 167, 3) := by decide +kernel
theorem dX2_cutLoops_35 : decode cX2_cutLoops 35 = .ok (.checkcast 94, 3) := by decide +kernel
theorem dX2_cutLoops_38 : decode cX2_cutLoops 38 = .ok (.astore 4, 2) := by decide +kernel
theorem dX2_cutLoops_40 : decode cX2_cutLoops 40 = .ok (.aload 4, 2) := by decide +kernel
theorem dX2_cutLoops_42 : decode cX2_cutLoops 42 = .ok (.getfield 106, 3) := by decide +kernel
theorem dX2_cutLoops_45 : decode cX2_cutLoops 45 = .ok (.iload_n 2, 1) := by decide +kernel
theorem dX2_cutLoops_46 : decode cX2_cutLoops 46 = .ok (.if_icmp .ne 47, 3) := by decide +kernel
theorem dX2_cutLoops_49 : decode cX2_cutLoops 49 = .ok (.aload_n 0, 1) := by decide +kernel
theorem dX2_cutLoops_50 : decode cX2_cutLoops 50 = .ok (.aload 4, 2) := by decide +kernel
theorem dX2_cutLoops_52 : decode cX2_cutLoops 52 = .ok (.getfield 174, 3) := by decide +kernel
theorem dX2_cutLoops_55 : decode cX2_cutLoops 55 = .ok (.aload 4, 2) := by decide +kernel
theorem dX2_cutLoops_57 : decode cX2_cutLoops 57 = .ok (.getfield 171, 3) := by decide +kernel
theorem dX2_cutLoops_60 : decode cX2_cutLoops 60 = .ok (.iconst 1, 1) := by decide +kernel
theorem dX2_cutLoops_61 : decode cX2_cutLoops 61 = .ok (.invokevirtual 69, 3) := by decide +kernel
theorem dX2_cutLoops_64 : decode cX2_cutLoops 64 = .ok (.ifCond .eq 29, 3) := by decide +kernel
theorem dX2_cutLoops_67 : decode cX2_cutLoops 67 = .ok (.aload 4, 2) := by decide +kernel
theorem dX2_cutLoops_69 : decode cX2_cutLoops 69 = .ok (.getfield 171, 3) := by decide +kernel
theorem dX2_cutLoops_72 : decode cX2_cutLoops 72 = .ok (.dup, 1) := by decide +kernel
theorem dX2_cutLoops_73 : decode cX2_cutLoops 73 = .ok (.getfield 103, 3) := by decide +kernel
theorem dX2_cutLoops_76 : decode cX2_cutLoops 76 = .ok (.aload 4, 2) := by decide +kernel
theorem dX2_cutLoops_78 : decode cX2_cutLoops 78 = .ok (.getfield 174, 3) := by decide +kernel
theorem dX2_cutLoops_81 : decode cX2_cutLoops 81 = .ok (.invokevirtual 82, 3) := by decide +kernel
theorem dX2_cutLoops_84 : decode cX2_cutLoops 84 = .ok (.iconst (-1), 1) := by decide +kernel
theorem dX2_cutLoops_85 : decode cX2_cutLoops 85 = .ok (.ixor, 1) := by decide +kernel
theorem dX2_cutLoops_86 : decode cX2_cutLoops 86 = .ok (.iand, 1) := by decide +kernel
theorem dX2_cutLoops_87 : decode cX2_cutLoops 87 = .ok (.putfield 103, 3) := by decide +kernel
theorem dX2_cutLoops_90 : decode cX2_cutLoops 90 = .ok (.iinc 1 1, 3) := by decide +kernel
theorem dX2_cutLoops_93 : decode cX2_cutLoops 93 = .ok (.iinc 3 1, 3) := by decide +kernel
theorem dX2_cutLoops_96 : decode cX2_cutLoops 96 = .ok (.goto (-80), 3) := by decide +kernel
theorem dX2_cutLoops_99 : decode cX2_cutLoops 99 = .ok (.iinc 2 1, 3) := by decide +kernel
theorem dX2_cutLoops_102 : decode cX2_cutLoops 102 = .ok (.goto (-94), 3) := by decide +kernel
theorem dX2_cutLoops_105 : decode cX2_cutLoops 105 = .ok (.iload_n 1, 1) := by decide +kernel
theorem dX2_cutLoops_106 : decode cX2_cutLoops 106 = .ok (.ireturn, 1) := by decide +kernel
set_option maxRecDepth 20000 in
theorem ggX2_keepAllWishes_Jx4a65c_size_8abf5 : GoodIn wsX2_keepAllWishes wsJx4a65c_size_8abf5 := goodIn_r _ [10, 11, 58, 59, 60] (by decide +kernel) (by decide +kernel)
set_option maxRecDepth 20000 in
theorem gX2_keepAllWishes_Jx4a65c_size_8abf5 : GoodIn wsX2_keepAllWishes (wsV RX2 164 RJx4a65c yJx4a65c_size_8abf5 wsJx4a65c_size_8abf5) := goodIn_app (goodIn_of _ (by decide +kernel)) ggX2_keepAllWishes_Jx4a65c_size_8abf5
set_option maxRecDepth 20000 in
theorem ggX2_keepAllWishes_Jx4a65c_get_915e3 : GoodIn wsX2_keepAllWishes wsJx4a65c_get_915e3 := goodIn_r _ [15, 11, 16, 17, 18, 19, 20, 21, 22, 23, 24, 25, 26, 9, 27, 28, 58, 59, 60] (by decide +kernel) (by decide +kernel)
set_option maxRecDepth 20000 in
theorem gX2_keepAllWishes_Jx4a65c_get_915e3 : GoodIn wsX2_keepAllWishes (wsV RX2 167 RJx4a65c yJx4a65c_get_915e3 wsJx4a65c_get_915e3) := goodIn_app (goodIn_of _ (by decide +kernel)) ggX2_keepAllWishes_Jx4a65c_get_915e3
set_option maxRecDepth 20000 in
theorem ggX2_keepAllWishes_X0_bit : GoodIn wsX2_keepAllWishes wsX0_bit := goodIn_r _ [33, 34, 45, 46, 47, 48, 49, 50, 51, 52, 53, 54, 55, 56, 57] (by decide +kernel) (by decide +kernel)
set_option maxRecDepth 20000 in
theorem gX2_keepAllWishes_X0_bit : GoodIn wsX2_keepAllWishes (wsV RX2 82 RX0 yX0_bit wsX0_bit) := goodIn_app (goodIn_of _ (by decide +kernel)) ggX2_keepAllWishes_X0_bit
theorem dX2_keepAllWishes_0 : decode cX2_keepAllWishes 0 = .ok (.iconst 0, 1) := by decide +kernel
theorem dX2_keepAllWishes_1 : decode cX2_keepAllWishes 1 = .ok (.istore_n 1, 1) := by decide +kernel
theorem dX2_keepAllWishes_2 : decode cX2_keepAllWishes 2 = .ok (.iload_n 1, 1) := by decide +kernel
theorem dX2_keepAllWishes_3 : decode cX2_keepAllWishes 3 = .ok (.aload_n 0, 1) := by decide +kernel
theorem dX2_keepAllWishes_4 : decode cX2_keepAllWishes 4 = .ok (.getfield 22, 3) := by decide +kernel
theorem dX2_keepAllWishes_7 : decode cX2_keepAllWishes 7 = .ok (.invokevirtual 164, 3) := by decide +kernel
theorem dX2_keepAllWishes_10 : decode cX2_keepAllWishes 10 = .ok (.if_icmp .ge 40, 3) := by decide +kernel
theorem dX2_keepAllWishes_13 : decode cX2_keepAllWishes 13 = .ok (.aload_n 0, 1) := by decide +kernel
theorem dX2_keepAllWishes_14 : decode cX2_keepAllWishes 14 = .ok (.getfield 22, 3) := by decide +kernel
theorem dX2_keepAllWishes_17 : decode cX2_keepAllWishes 17 = .ok (.iload_n 1, 1) := by decide +kernel
theorem dX2_keepAllWishes_18 : decode cX2_keepAllWishes 18 = .ok (.invokevirtual 167, 3) := by decide +kernel
theorem dX2_keepAllWishes_21 : decode cX2_keepAllWishes 21 = .ok (.checkcast 94, 3) := by decide +kernel
theorem dX2_keepAllWishes_24 : decode cX2_keepAllWishes 24 = .ok (.astore_n 2, 1) := by decide +kernel
theorem dX2_keepAllWishes_25 : decode cX2_keepAllWishes 25 = .ok (.aload_n 2, 1) := by decide +kernel
theorem dX2_keepAllWishes_26 : decode cX2_keepAllWishes 26 = .ok (.getfield 171, 3) := by decide +kernel
theorem dX2_keepAllWishes_29 : decode cX2_keepAllWishes 29 = .ok (.dup, 1) := by decide +kernel
theorem dX2_keepAllWishes_30 : decode cX2_keepAllWishes 30 = .ok (.getfield 103, 3) := by decide +kernel
theorem dX2_keepAllWishes_33 : decode cX2_keepAllWishes 33 = .ok (.aload_n 2, 1) := by decide +kernel
theorem dX2_keepAllWishes_34 : decode cX2_keepAllWishes 34 = .ok (.getfield 174, 3) := by decide +kernel
theorem dX2_keepAllWishes_37 : decode cX2_keepAllWishes 37 = .ok (.invokevirtual 82, 3) := by decide +kernel
theorem dX2_keepAllWishes_40 : decode cX2_keepAllWishes 40 = .ok (.ior, 1) := by decide +kernel
theorem dX2_keepAllWishes_41 : decode cX2_keepAllWishes 41 = .ok (.putfield 103, 3) := by decide +kernel
theorem dX2_keepAllWishes_44 : decode cX2_keepAllWishes 44 = .ok (.iinc 1 1, 3) := by decide +kernel
theorem dX2_keepAllWishes_47 : decode cX2_keepAllWishes 47 = .ok (.goto (-45), 3) := by decide +kernel
theorem dX2_keepAllWishes_50 : decode cX2_keepAllWishes 50 = .ok (.return_, 1) := by decide +kernel
set_option maxRecDepth 20000 in
theorem ggX2_isAwaited_X2_contains : GoodIn wsX2_isAwaited wsX2_contains := goodIn_r _ [7, 8, 9, 10, 11, 12, 13, 32, 33, 34, 35, 36, 37, 38, 39, 40, 41, 42, 43, 44] (by decide +kernel) (by decide +kernel)
set_option maxRecDepth 20000 in
theorem gX2_isAwaited_X2_contains : GoodIn wsX2_isAwaited (wsV RX2 78 RX2 yX2_contains wsX2_contains) := goodIn_app (goodIn_of _ (by decide +kernel)) ggX2_isAwaited_X2_contains
set_option maxRecDepth 20000 in
theorem ggX2_isAwaited_X0_isNeedMet : GoodIn wsX2_isAwaited wsX0_isNeedMet := goodIn_r _ [17, 18, 19, 20, 21, 22, 11, 23, 32, 33, 34, 35, 36, 37, 38, 39, 40, 41, 42, 43, 44] (by decide +kernel) (by decide +kernel)
set_option maxRecDepth 20000 in
theorem gX2_isAwaited_X0_isNeedMet : GoodIn wsX2_isAwaited (wsV RX2 180 RX0 yX0_isNeedMet wsX0_isNeedMet) := goodIn_app (goodIn_of _ (by decide +kernel)) ggX2_isAwaited_X0_isNeedMet
set_option maxRecDepth 20000 in
theorem ggX2_isAwaited_X0_isNeedLost : GoodIn wsX2_isAwaited wsX0_isNeedLost := goodIn_r _ [27, 19, 20, 21, 22, 11, 23, 18, 32, 33, 34, 35, 36, 37, 38, 39, 40, 41, 42, 43, 44] (by decide +kernel) (by decide +kernel)
set_option maxRecDepth 20000 in
theorem gX2_isAwaited_X0_isNeedLost : GoodIn wsX2_isAwaited (wsV RX2 184 RX0 yX0_isNeedLost wsX0_isNeedLost) := goodIn_app (goodIn_of _ (by decide +kernel)) ggX2_isAwaited_X0_isNeedLost
set_option maxRecDepth 20000 in
theorem ggX2_isAwaited_X0_isWishDone : GoodIn wsX2_isAwaited wsX0_isWishDone := goodIn_r _ [31, 18, 20, 21, 22, 11, 23, 32, 33, 34, 35, 36, 37, 38, 39, 40, 41, 42, 43, 44] (by decide +kernel) (by decide +kernel)
set_option maxRecDepth 20000 in
theorem gX2_isAwaited_X0_isWishDone : GoodIn wsX2_isAwaited (wsV RX2 187 RX0 yX0_isWishDone wsX0_isWishDone) := goodIn_app (goodIn_of _ (by decide +kernel)) ggX2_isAwaited_X0_isWishDone
theorem dX2_isAwaited_0 : decode cX2_isAwaited 0 = .ok (.aload_n 0, 1) := by decide +kernel
theorem dX2_isAwaited_1 : decode cX2_isAwaited 1 = .ok (.aload_n 2, 1) := by decide +kernel
theorem dX2_isAwaited_2 : decode cX2_isAwaited 2 = .ok (.getfield 75, 3) := by decide +kernel
theorem dX2_isAwaited_5 : decode cX2_isAwaited 5 = .ok (.aload_n 1, 1) := by decide +kernel
theorem dX2_isAwaited_6 : decode cX2_isAwaited 6 = .ok (.invokevirtual 78, 3) := by decide +kernel
theorem dX2_isAwaited_9 : decode cX2_isAwaited 9 = .ok (.ifCond .eq 21, 3) := by decide +kernel
theorem dX2_isAwaited_12 : decode cX2_isAwaited 12 = .ok (.aload_n 1, 1) := by decide +kernel
theorem dX2_isAwaited_13 : decode cX2_isAwaited 13 = .ok (.invokevirtual 180, 3) := by decide +kernel
theorem dX2_isAwaited_16 : decode cX2_isAwaited 16 = .ok (.ifCond .ne 14, 3) := by decide +kernel
theorem dX2_isAwaited_19 : decode cX2_isAwaited 19 = .ok (.aload_n 1, 1) := by decide +kernel
theorem dX2_isAwaited_20 : decode cX2_isAwaited 20 = .ok (.invokevirtual 184, 3) := by decide +kernel
theorem dX2_isAwaited_23 : decode cX2_isAwaited 23 = .ok (.ifCond .ne 7, 3) := by decide +kernel
theorem dX2_isAwaited_26 : decode cX2_isAwaited 26 = .ok (.iconst 1, 1) := by decide +kernel
theorem dX2_isAwaited_27 : decode cX2_isAwaited 27 = .ok (.goto 4, 3) := by decide +kernel
theorem dX2_isAwaited_30 : decode cX2_isAwaited 30 = .ok (.iconst 0, 1) := by decide +kernel
theorem dX2_isAwaited_31 : decode cX2_isAwaited 31 = .ok (.istore_n 3, 1) := by decide +kernel
theorem dX2_isAwaited_32 : decode cX2_isAwaited 32 = .ok (.aload_n 0, 1) := by decide +kernel
theorem dX2_isAwaited_33 : decode cX2_isAwaited 33 = .ok (.aload_n 2, 1) := by decide +kernel
theorem dX2_isAwaited_34 : decode cX2_isAwaited 34 = .ok (.getfield 103, 3) := by decide +kernel
theorem dX2_isAwaited_37 : decode cX2_isAwaited 37 = .ok (.aload_n 1, 1) := by decide +kernel
theorem dX2_isAwaited_38 : decode cX2_isAwaited 38 = .ok (.invokevirtual 78, 3) := by decide +kernel
theorem dX2_isAwaited_41 : decode cX2_isAwaited 41 = .ok (.ifCond .eq 14, 3) := by decide +kernel
theorem dX2_isAwaited_44 : decode cX2_isAwaited 44 = .ok (.aload_n 1, 1) := by decide +kernel
theorem dX2_isAwaited_45 : decode cX2_isAwaited 45 = .ok (.invokevirtual 187, 3) := by decide +kernel
theorem dX2_isAwaited_48 : decode cX2_isAwaited 48 = .ok (.ifCond .ne 7, 3) := by decide +kernel
theorem dX2_isAwaited_51 : decode cX2_isAwaited 51 = .ok (.iconst 1, 1) := by decide +kernel
theorem dX2_isAwaited_52 : decode cX2_isAwaited 52 = .ok (.goto 4, 3) := by decide +kernel
theorem dX2_isAwaited_55 : decode cX2_isAwaited 55 = .ok (.iconst 0, 1) := by decide +kernel
theorem dX2_isAwaited_56 : decode cX2_isAwaited 56 = .ok (.istore 4, 2) := by decide +kernel
theorem dX2_isAwaited_58 : decode cX2_isAwaited 58 = .ok (.iload_n 3, 1) := by decide +kernel
theorem dX2_isAwaited_59 : decode cX2_isAwaited 59 = .ok (.ifCond .ne 8, 3) := by decide +kernel
theorem dX2_isAwaited_62 : decode cX2_isAwaited 62 = .ok (.iload 4, 2) := by decide +kernel
theorem dX2_isAwaited_64 : decode cX2_isAwaited 64 = .ok (.ifCond .eq 7, 3) := by decide +kernel
theorem dX2_isAwaited_67 : decode cX2_isAwaited 67 = .ok (.iconst 1, 1) := by decide +kernel
theorem dX2_isAwaited_68 : decode cX2_isAwaited 68 = .ok (.goto 4, 3) := by decide +kernel
theorem dX2_isAwaited_71 : decode cX2_isAwaited 71 = .ok (.iconst 0, 1) := by decide +kernel
theorem dX2_isAwaited_72 : decode cX2_isAwaited 72 = .ok (.ireturn, 1) := by decide +kernel
set_option maxRecDepth 20000 in
theorem ggX2_passOneTick_X2_endStarts : GoodIn wsX2_passOneTick wsX2_endStarts := goodIn_r _ [6, 7, 8, 9, 10, 11, 12, 13, 14, 15, 16, 17, 18, 19, 20, 21, 22, 23, 24, 25, 26, 96, 97, 98, 99, 100, 101, 102, 103, 104, 105, 106, 107, 108, 109, 110, 111, 112, 113, 114, 115] (by decide +kernel) (by decide +kernel)
set_option maxRecDepth 20000 in
theorem gX2_passOneTick_X2_endStarts : GoodIn wsX2_passOneTick (wsV RX2 190 RX2 yX2_endStarts wsX2_endStarts) := goodIn_app (goodIn_of _ (by decide +kernel)) ggX2_passOneTick_X2_endStarts
set_option maxRecDepth 20000 in
theorem ggX2_passOneTick_X2_failWithoutNeeds : GoodIn wsX2_passOneTick wsX2_failWithoutNeeds := goodIn_r _ [30, 7, 8, 9, 31, 32, 33, 34, 5, 35, 36, 37, 38, 15, 39, 40, 41, 42, 43, 44, 18, 45, 46, 47, 48, 49, 96, 97, 98, 99, 100, 101, 102, 103, 104, 105, 106, 107, 108, 109, 110, 111, 112, 113, 114, 115] (by decide +kernel) (by decide +kernel)
set_option maxRecDepth 20000 in
theorem gX2_passOneTick_X2_failWithoutNeeds : GoodIn wsX2_passOneTick (wsV RX2 193 RX2 yX2_failWithoutNeeds wsX2_failWithoutNeeds) := goodIn_app (goodIn_of _ (by decide +kernel)) ggX2_passOneTick_X2_failWithoutNeeds
set_option maxRecDepth 20000 in
theorem ggX2_passOneTick_X2_startWaiting : GoodIn wsX2_passOneTick wsX2_startWaiting := goodIn_r _ [53, 7, 54, 8, 9, 31, 55, 10, 56, 57, 58, 5, 59, 60, 61, 62, 15, 63, 18, 40, 41, 42, 43, 44, 45, 46, 47, 48, 49, 64, 65, 66, 67, 68, 69, 70, 71, 72, 73, 74, 75, 96, 97, 98, 99, 100, 101, 102, 103, 104, 105, 106, 107, 108, 109, 110, 111, 112, 113, 114, 115] (by decide +kernel) (by decide +kernel)
set_option maxRecDepth 20000 in
theorem gX2_passOneTick_X2_startWaiting : GoodIn wsX2_passOneTick (wsV RX2 196 RX2 yX2_startWaiting wsX2_startWaiting) := goodIn_app (goodIn_of _ (by decide +kernel)) ggX2_passOneTick_X2_startWaiting
set_option maxRecDepth 20000 in
theorem ggX2_passOneTick_X2_raiseBar : GoodIn wsX2_passOneTick wsX2_raiseBar := goodIn_r _ [79, 1, 80, 81, 82, 22, 23, 24, 83, 84, 85, 5, 86, 7, 8, 87, 88, 89, 15, 90, 18, 91, 92, 93, 94, 95, 96, 97, 98, 99, 100, 101, 102, 103, 104, 105, 106, 107, 108, 109, 110, 111, 112, 113, 114, 115] (by decide +kernel) (by decide +kernel)
set_option maxRecDepth 20000 in
theorem gX2_passOneTick_X2_raiseBar : GoodIn wsX2_passOneTick (wsV RX2 128 RX2 yX2_raiseBar wsX2_raiseBar) := goodIn_app (goodIn_of _ (by decide +kernel)) ggX2_passOneTick_X2_raiseBar
theorem dX2_passOneTick_0 : decode cX2_passOneTick 0 = .ok (.aload_n 0, 1) := by decide +kernel
theorem dX2_passOneTick_1 : decode cX2_passOneTick 1 = .ok (.invokevirtual 190, 3) := by decide +kernel
theorem dX2_passOneTick_4 : decode cX2_passOneTick 4 = .ok (.aload_n 0, 1) := by decide +kernel
theorem dX2_passOneTick_5 : decode cX2_passOneTick 5 = .ok (.invokevirtual 193, 3) := by decide +kernel
theorem dX2_passOneTick_8 : decode cX2_passOneTick 8 = .ok (.aload_n 0, 1) := by decide +kernel
theorem dX2_passOneTick_9 : decode cX2_passOneTick 9 = .ok (.aload_n 0, 1) := by decide +kernel
theorem dX2_passOneTick_10 : decode cX2_passOneTick 10 = .ok (.invokevirtual 196, 3) := by decide +kernel
theorem dX2_passOneTick_13 : decode cX2_passOneTick 13 = .ok (.ifCond .le 7, 3) := by decide +kernel
theorem dX2_passOneTick_16 : decode cX2_passOneTick 16 = .ok (.iconst 1, 1) := by decide +kernel
theorem dX2_passOneTick_17 : decode cX2_passOneTick 17 = .ok (.goto 4, 3) := by decide +kernel
theorem dX2_passOneTick_20 : decode cX2_passOneTick 20 = .ok (.iconst 0, 1) := by decide +kernel
theorem dX2_passOneTick_21 : decode cX2_passOneTick 21 = .ok (.putfield 26, 3) := by decide +kernel
theorem dX2_passOneTick_24 : decode cX2_passOneTick 24 = .ok (.aload_n 0, 1) := by decide +kernel
theorem dX2_passOneTick_25 : decode cX2_passOneTick 25 = .ok (.invokevirtual 128, 3) := by decide +kernel
theorem dX2_passOneTick_28 : decode cX2_passOneTick 28 = .ok (.return_, 1) := by decide +kernel
set_option maxRecDepth 20000 in
theorem ggX2_endStarts_X0_comeToEnd : GoodIn wsX2_endStarts wsX0_comeToEnd := goodIn_r _ [10, 11, 12, 13, 14, 15, 16, 17, 18, 19, 20, 28, 29, 30, 31, 32, 33, 34, 35, 36, 37, 38, 39, 40] (by decide +kernel) (by decide +kernel)
set_option maxRecDepth 20000 in
theorem gX2_endStarts_X0_comeToEnd : GoodIn wsX2_endStarts (wsV RX2 202 RX0 yX0_comeToEnd wsX0_comeToEnd) := goodIn_app (goodIn_of _ (by decide +kernel)) ggX2_endStarts_X0_comeToEnd
theorem dX2_endStarts_0 : decode cX2_endStarts 0 = .ok (.iconst 0, 1) := by decide +kernel
theorem dX2_endStarts_1 : decode cX2_endStarts 1 = .ok (.istore_n 1, 1) := by decide +kernel
theorem dX2_endStarts_2 : decode cX2_endStarts 2 = .ok (.iload_n 1, 1) := by decide +kernel
theorem dX2_endStarts_3 : decode cX2_endStarts 3 = .ok (.aload_n 0, 1) := by decide +kernel
theorem dX2_endStarts_4 : decode cX2_endStarts 4 = .ok (.getfield 15, 3) := by decide +kernel
theorem dX2_endStarts_7 : decode cX2_endStarts 7 = .ok (.if_icmp .ge 49, 3) := by decide +kernel
theorem dX2_endStarts_10 : decode cX2_endStarts 10 = .ok (.aload_n 0, 1) := by decide +kernel
theorem dX2_endStarts_11 : decode cX2_endStarts 11 = .ok (.getfield 11, 3) := by decide +kernel
theorem dX2_endStarts_14 : decode cX2_endStarts 14 = .ok (.iload_n 1, 1) := by decide +kernel
theorem dX2_endStarts_15 : decode cX2_endStarts 15 = .ok (.aaload, 1) := by decide +kernel
theorem dX2_endStarts_16 : decode cX2_endStarts 16 = .ok (.astore_n 2, 1) := by decide +kernel
theorem dX2_endStarts_17 : decode cX2_endStarts 17 = .ok (.aload_n 2, 1) := by decide +kernel
theorem dX2_endStarts_18 : decode cX2_endStarts 18 = .ok (.getfield 136, 3) := by decide +kernel
theorem dX2_endStarts_21 : decode cX2_endStarts 21 = .ok (.iconst 1, 1) := by decide +kernel
theorem dX2_endStarts_22 : decode cX2_endStarts 22 = .ok (.if_icmp .ne 28, 3) := by decide +kernel
theorem dX2_endStarts_25 : decode cX2_endStarts 25 = .ok (.aload_n 2, 1) := by decide +kernel
theorem dX2_endStarts_26 : decode cX2_endStarts 26 = .ok (.dup, 1) := by decide +kernel
theorem dX2_endStarts_27 : decode cX2_endStarts 27 = .ok (.getfield 199, 3) := by decide +kernel
theorem dX2_endStarts_30 : decode cX2_endStarts 30 = .ok (.iconst 1, 1) := by decide +kernel
theorem dX2_endStarts_31 : decode cX2_endStarts 31 = .ok (.iadd, 1) := by decide +kernel
theorem dX2_endStarts_32 : decode cX2_endStarts 32 = .ok (.putfield 199, 3) := by decide +kernel
theorem dX2_endStarts_35 : decode cX2_endStarts 35 = .ok (.aload_n 2, 1) := by decide +kernel
theorem dX2_endStarts_36 : decode cX2_endStarts 36 = .ok (.getfield 199, 3) := by decide +kernel
theorem dX2_endStarts_39 : decode cX2_endStarts 39 = .ok (.aload_n 2, 1) := by decide +kernel
theorem dX2_endStarts_40 : decode cX2_endStarts 40 = .ok (.getfield 56, 3) := by decide +kernel
theorem dX2_endStarts_43 : decode cX2_endStarts 43 = .ok (.if_icmp .lt 7, 3) := by decide +kernel
theorem dX2_endStarts_46 : decode cX2_endStarts 46 = .ok (.aload_n 2, 1) := by decide +kernel
theorem dX2_endStarts_47 : decode cX2_endStarts 47 = .ok (.invokevirtual 202, 3) := by decide +kernel
theorem dX2_endStarts_50 : decode cX2_endStarts 50 = .ok (.iinc 1 1, 3) := by decide +kernel
theorem dX2_endStarts_53 : decode cX2_endStarts 53 = .ok (.goto (-51), 3) := by decide +kernel
theorem dX2_endStarts_56 : decode cX2_endStarts 56 = .ok (.return_, 1) := by decide +kernel
set_option maxRecDepth 20000 in
theorem ggX2_failWithoutNeeds_X2_lostNeeds : GoodIn wsX2_failWithoutNeeds wsX2_lostNeeds := goodIn_r _ [9, 1, 2, 10, 11, 12, 13, 14, 15, 16, 17, 18, 19, 20, 21, 22, 23, 24, 25, 26, 27, 28, 29, 30, 31, 32, 33, 34, 35, 36, 37, 38, 39, 40, 41, 42, 43, 44, 45] (by decide +kernel) (by decide +kernel)
set_option maxRecDepth 20000 in
theorem gX2_failWithoutNeeds_X2_lostNeeds : GoodIn wsX2_failWithoutNeeds (wsV RX2 205 RX2 yX2_lostNeeds wsX2_lostNeeds) := goodIn_app (goodIn_of _ (by decide +kernel)) ggX2_failWithoutNeeds_X2_lostNeeds
theorem dX2_failWithoutNeeds_0 : decode cX2_failWithoutNeeds 0 = .ok (.aload_n 0, 1) := by decide +kernel
theorem dX2_failWithoutNeeds_1 : decode cX2_failWithoutNeeds 1 = .ok (.invokevirtual 205, 3) := by decide +kernel
theorem dX2_failWithoutNeeds_4 : decode cX2_failWithoutNeeds 4 = .ok (.istore_n 1, 1) := by decide +kernel
theorem dX2_failWithoutNeeds_5 : decode cX2_failWithoutNeeds 5 = .ok (.iconst 0, 1) := by decide +kernel
theorem dX2_failWithoutNeeds_6 : decode cX2_failWithoutNeeds 6 = .ok (.istore_n 2, 1) := by decide +kernel
theorem dX2_failWithoutNeeds_7 : decode cX2_failWithoutNeeds 7 = .ok (.iload_n 2, 1) := by decide +kernel
theorem dX2_failWithoutNeeds_8 : decode cX2_failWithoutNeeds 8 = .ok (.aload_n 0, 1) := by decide +kernel
theorem dX2_failWithoutNeeds_9 : decode cX2_failWithoutNeeds 9 = .ok (.getfield 15, 3) := by decide +kernel
theorem dX2_failWithoutNeeds_12 : decode cX2_failWithoutNeeds 12 = .ok (.if_icmp .ge 42, 3) := by decide +kernel
theorem dX2_failWithoutNeeds_15 : decode cX2_failWithoutNeeds 15 = .ok (.aload_n 0, 1) := by decide +kernel
theorem dX2_failWithoutNeeds_16 : decode cX2_failWithoutNeeds 16 = .ok (.getfield 11, 3) := by decide +kernel
theorem dX2_failWithoutNeeds_19 : decode cX2_failWithoutNeeds 19 = .ok (.iload_n 2, 1) := by decide +kernel
theorem dX2_failWithoutNeeds_20 : decode cX2_failWithoutNeeds 20 = .ok (.aaload, 1) := by decide +kernel
theorem dX2_failWithoutNeeds_21 : decode cX2_failWithoutNeeds 21 = .ok (.astore_n 3, 1) := by decide +kernel
theorem dX2_failWithoutNeeds_22 : decode cX2_failWithoutNeeds 22 = .ok (.aload_n 3, 1) := by decide +kernel
theorem dX2_failWithoutNeeds_23 : decode cX2_failWithoutNeeds 23 = .ok (.getfield 136, 3) := by decide +kernel
theorem dX2_failWithoutNeeds_26 : decode cX2_failWithoutNeeds 26 = .ok (.ifCond .ne 22, 3) := by decide +kernel
theorem dX2_failWithoutNeeds_29 : decode cX2_failWithoutNeeds 29 = .ok (.aload_n 3, 1) := by decide +kernel
theorem dX2_failWithoutNeeds_30 : decode cX2_failWithoutNeeds 30 = .ok (.getfield 75, 3) := by decide +kernel
theorem dX2_failWithoutNeeds_33 : decode cX2_failWithoutNeeds 33 = .ok (.iload_n 1, 1) := by decide +kernel
theorem dX2_failWithoutNeeds_34 : decode cX2_failWithoutNeeds 34 = .ok (.iand, 1) := by decide +kernel
theorem dX2_failWithoutNeeds_35 : decode cX2_failWithoutNeeds 35 = .ok (.ifCond .eq 13, 3) := by decide +kernel
theorem dX2_failWithoutNeeds_38 : decode cX2_failWithoutNeeds 38 = .ok (.aload_n 3, 1) := by decide +kernel
theorem dX2_failWithoutNeeds_39 : decode cX2_failWithoutNeeds 39 = .ok (.iconst 3, 1) := by decide +kernel
theorem dX2_failWithoutNeeds_40 : decode cX2_failWithoutNeeds 40 = .ok (.putfield 136, 3) := by decide +kernel
theorem dX2_failWithoutNeeds_43 : decode cX2_failWithoutNeeds 43 = .ok (.aload_n 0, 1) := by decide +kernel
theorem dX2_failWithoutNeeds_44 : decode cX2_failWithoutNeeds 44 = .ok (.invokevirtual 205, 3) := by decide +kernel
theorem dX2_failWithoutNeeds_47 : decode cX2_failWithoutNeeds 47 = .ok (.istore_n 1, 1) := by decide +kernel
theorem dX2_failWithoutNeeds_48 : decode cX2_failWithoutNeeds 48 = .ok (.iinc 2 1, 3) := by decide +kernel
theorem dX2_failWithoutNeeds_51 : decode cX2_failWithoutNeeds 51 = .ok (.goto (-44), 3) := by decide +kernel
theorem dX2_failWithoutNeeds_54 : decode cX2_failWithoutNeeds 54 = .ok (.return_, 1) := by decide +kernel
set_option maxRecDepth 20000 in
theorem ggX2_startWaiting_X2_metNeeds : GoodIn wsX2_startWaiting wsX2_metNeeds := goodIn_r _ [12, 1, 3, 13, 14, 15, 16, 17, 18, 19, 20, 21, 22, 23, 24, 25, 26, 27, 28, 41, 42, 43, 44, 45, 46, 47, 48, 49, 50, 51, 52, 53, 54, 55, 56, 57, 58, 59, 60] (by decide +kernel) (by decide +kernel)
set_option maxRecDepth 20000 in
theorem gX2_startWaiting_X2_metNeeds : GoodIn wsX2_startWaiting (wsV RX2 208 RX2 yX2_metNeeds wsX2_metNeeds) := goodIn_app (goodIn_of _ (by decide +kernel)) ggX2_startWaiting_X2_metNeeds
set_option maxRecDepth 20000 in
theorem ggX2_startWaiting_X2_doneWishes : GoodIn wsX2_startWaiting wsX2_doneWishes := goodIn_r _ [32, 1, 3, 33, 34, 35, 16, 36, 18, 20, 21, 22, 23, 24, 25, 26, 27, 28, 41, 42, 43, 44, 45, 46, 47, 48, 49, 50, 51, 52, 53, 54, 55, 56, 57, 58, 59, 60] (by decide +kernel) (by decide +kernel)
set_option maxRecDepth 20000 in
theorem gX2_startWaiting_X2_doneWishes : GoodIn wsX2_startWaiting (wsV RX2 211 RX2 yX2_doneWishes wsX2_doneWishes) := goodIn_app (goodIn_of _ (by decide +kernel)) ggX2_startWaiting_X2_doneWishes
set_option maxRecDepth 20000 in
theorem ggX2_startWaiting_X2_countStarting : GoodIn wsX2_startWaiting wsX2_countStarting := goodIn_r _ [40, 1, 3, 4, 41, 42, 43, 44, 45, 46, 47, 48, 49, 50, 51, 52, 53, 54, 55, 56, 57, 58, 59, 60] (by decide +kernel) (by decide +kernel)
set_option maxRecDepth 20000 in
theorem gX2_startWaiting_X2_countStarting : GoodIn wsX2_startWaiting (wsV RX2 214 RX2 yX2_countStarting wsX2_countStarting) := goodIn_app (goodIn_of _ (by decide +kernel)) ggX2_startWaiting_X2_countStarting
theorem dX2_startWaiting_0 : decode cX2_startWaiting 0 = .ok (.aload_n 0, 1) := by decide +kernel
theorem dX2_startWaiting_1 : decode cX2_startWaiting 1 = .ok (.invokevirtual 208, 3) := by decide +kernel
theorem dX2_startWaiting_4 : decode cX2_startWaiting 4 = .ok (.istore_n 1, 1) := by decide +kernel
theorem dX2_startWaiting_5 : decode cX2_startWaiting 5 = .ok (.aload_n 0, 1) := by decide +kernel
theorem dX2_startWaiting_6 : decode cX2_startWaiting 6 = .ok (.invokevirtual 211, 3) := by decide +kernel
theorem dX2_startWaiting_9 : decode cX2_startWaiting 9 = .ok (.istore_n 2, 1) := by decide +kernel
theorem dX2_startWaiting_10 : decode cX2_startWaiting 10 = .ok (.aload_n 0, 1) := by decide +kernel
theorem dX2_startWaiting_11 : decode cX2_startWaiting 11 = .ok (.invokevirtual 214, 3) := by decide +kernel
theorem dX2_startWaiting_14 : decode cX2_startWaiting 14 = .ok (.istore_n 3, 1) := by decide +kernel
theorem dX2_startWaiting_15 : decode cX2_startWaiting 15 = .ok (.iconst 0, 1) := by decide +kernel
theorem dX2_startWaiting_16 : decode cX2_startWaiting 16 = .ok (.istore 4, 2) := by decide +kernel
theorem dX2_startWaiting_18 : decode cX2_startWaiting 18 = .ok (.iload 4, 2) := by decide +kernel
theorem dX2_startWaiting_20 : decode cX2_startWaiting 20 = .ok (.aload_n 0, 1) := by decide +kernel
theorem dX2_startWaiting_21 : decode cX2_startWaiting 21 = .ok (.getfield 15, 3) := by decide +kernel
theorem dX2_startWaiting_24 : decode cX2_startWaiting 24 = .ok (.if_icmp .ge 73, 3) := by decide +kernel
theorem dX2_startWaiting_27 : decode cX2_startWaiting 27 = .ok (.iload_n 3, 1) := by decide +kernel
theorem dX2_startWaiting_28 : decode cX2_startWaiting 28 = .ok (.aload_n 0, 1) := by decide +kernel
theorem dX2_startWaiting_29 : decode cX2_startWaiting 29 = .ok (.getfield 30, 3) := by decide +kernel
theorem dX2_startWaiting_32 : decode cX2_startWaiting 32 = .ok (.if_icmp .ge 65, 3) := by decide +kernel
theorem dX2_startWaiting_35 : decode cX2_startWaiting 35 = .ok (.aload_n 0, 1) := by decide +kernel
theorem dX2_startWaiting_36 : decode cX2_startWaiting 36 = .ok (.getfield 11, 3) := by decide +kernel
theorem dX2_startWaiting_39 : decode cX2_startWaiting 39 = .ok (.iload 4, 2) := by decide +kernel
theorem dX2_startWaiting_41 : decode cX2_startWaiting 41 = .ok (.aaload, 1) := by decide +kernel
theorem dX2_startWaiting_42 : decode cX2_startWaiting 42 = .ok (.astore 5, 2) := by decide +kernel
theorem dX2_startWaiting_44 : decode cX2_startWaiting 44 = .ok (.aload 5, 2) := by decide +kernel
theorem dX2_startWaiting_46 : decode cX2_startWaiting 46 = .ok (.getfield 136, 3) := by decide +kernel
theorem dX2_startWaiting_49 : decode cX2_startWaiting 49 = .ok (.ifCond .ne 42, 3) := by decide +kernel
theorem dX2_startWaiting_52 : decode cX2_startWaiting 52 = .ok (.aload 5, 2) := by decide +kernel
theorem dX2_startWaiting_54 : decode cX2_startWaiting 54 = .ok (.getfield 75, 3) := by decide +kernel
theorem dX2_startWaiting_57 : decode cX2_startWaiting 57 = .ok (.iload_n 1, 1) := by decide +kernel
theorem dX2_startWaiting_58 : decode cX2_startWaiting 58 = .ok (.iconst (-1), 1) := by decide +kernel
theorem dX2_startWaiting_59 : decode cX2_startWaiting 59 = .ok (.ixor, 1) := by decide +kernel
theorem dX2_startWaiting_60 : decode cX2_startWaiting 60 = .ok (.iand, 1) := by decide +kernel
theorem dX2_startWaiting_61 : decode cX2_startWaiting 61 = .ok (.ifCond .ne 30, 3) := by decide +kernel
theorem dX2_startWaiting_64 : decode cX2_startWaiting 64 = .ok (.aload 5, 2) := by decide +kernel
theorem dX2_startWaiting_66 : decode cX2_startWaiting 66 = .ok (.getfield 103, 3) := by decide +kernel
theorem dX2_startWaiting_69 : decode cX2_startWaiting 69 = .ok (.iload_n 2, 1) := by decide +kernel
theorem dX2_startWaiting_70 : decode cX2_startWaiting 70 = .ok (.iconst (-1), 1) := by decide +kernel
theorem dX2_startWaiting_71 : decode cX2_startWaiting 71 = .ok (.ixor, 1) := by decide +kernel
theorem dX2_startWaiting_72 : decode cX2_startWaiting 72 = .ok (.iand, 1) := by decide +kernel
theorem dX2_startWaiting_73 : decode cX2_startWaiting 73 = .ok (.ifCond .ne 18, 3) := by decide +kernel
theorem dX2_startWaiting_76 : decode cX2_startWaiting 76 = .ok (.aload 5, 2) := by decide +kernel
theorem dX2_startWaiting_78 : decode cX2_startWaiting 78 = .ok (.iconst 1, 1) := by decide +kernel
theorem dX2_startWaiting_79 : decode cX2_startWaiting 79 = .ok (.putfield 136, 3) := by decide +kernel
theorem dX2_startWaiting_82 : decode cX2_startWaiting 82 = .ok (.aload 5, 2) := by decide +kernel
theorem dX2_startWaiting_84 : decode cX2_startWaiting 84 = .ok (.iconst 0, 1) := by decide +kernel
theorem dX2_startWaiting_85 : decode cX2_startWaiting 85 = .ok (.putfield 199, 3) := by decide +kernel
theorem dX2_startWaiting_88 : decode cX2_startWaiting 88 = .ok (.iinc 3 1, 3) := by decide +kernel
theorem dX2_startWaiting_91 : decode cX2_startWaiting 91 = .ok (.iinc 4 1, 3) := by decide +kernel
theorem dX2_startWaiting_94 : decode cX2_startWaiting 94 = .ok (.goto (-76), 3) := by decide +kernel
theorem dX2_startWaiting_97 : decode cX2_startWaiting 97 = .ok (.iload_n 3, 1) := by decide +kernel
theorem dX2_startWaiting_98 : decode cX2_startWaiting 98 = .ok (.ireturn, 1) := by decide +kernel
theorem dX2_countStarting_0 : decode cX2_countStarting 0 = .ok (.iconst 0, 1) := by decide +kernel
theorem dX2_countStarting_1 : decode cX2_countStarting 1 = .ok (.istore_n 1, 1) := by decide +kernel
theorem dX2_countStarting_2 : decode cX2_countStarting 2 = .ok (.iconst 0, 1) := by decide +kernel
theorem dX2_countStarting_3 : decode cX2_countStarting 3 = .ok (.istore_n 2, 1) := by decide +kernel
theorem dX2_countStarting_4 : decode cX2_countStarting 4 = .ok (.iload_n 2, 1) := by decide +kernel
theorem dX2_countStarting_5 : decode cX2_countStarting 5 = .ok (.aload_n 0, 1) := by decide +kernel
theorem dX2_countStarting_6 : decode cX2_countStarting 6 = .ok (.getfield 15, 3) := by decide +kernel
theorem dX2_countStarting_9 : decode cX2_countStarting 9 = .ok (.if_icmp .ge 30, 3) := by decide +kernel
theorem dX2_countStarting_12 : decode cX2_countStarting 12 = .ok (.iload_n 1, 1) := by decide +kernel
theorem dX2_countStarting_13 : decode cX2_countStarting 13 = .ok (.aload_n 0, 1) := by decide +kernel
theorem dX2_countStarting_14 : decode cX2_countStarting 14 = .ok (.getfield 11, 3) := by decide +kernel
theorem dX2_countStarting_17 : decode cX2_countStarting 17 = .ok (.iload_n 2, 1) := by decide +kernel
theorem dX2_countStarting_18 : decode cX2_countStarting 18 = .ok (.aaload, 1) := by decide +kernel
theorem dX2_countStarting_19 : decode cX2_countStarting 19 = .ok (.getfield 136, 3) := by decide +kernel
theorem dX2_countStarting_22 : decode cX2_countStarting 22 = .ok (.iconst 1, 1) := by decide +kernel
theorem dX2_countStarting_23 : decode cX2_countStarting 23 = .ok (.if_icmp .ne 7, 3) := by decide +kernel
theorem dX2_countStarting_26 : decode cX2_countStarting 26 = .ok (.iconst 1, 1) := by decide +kernel
theorem dX2_countStarting_27 : decode cX2_countStarting 27 = .ok (.goto 4, 3) := by decide +kernel
theorem dX2_countStarting_30 : decode cX2_countStarting 30 = .ok (.iconst 0, 1) := by decide +kernel
theorem dX2_countStarting_31 : decode cX2_countStarting 31 = .ok (.iadd, 1) := by decide +kernel
theorem dX2_countStarting_32 : decode cX2_countStarting 32 = .ok (.istore_n 1, 1) := by decide +kernel
theorem dX2_countStarting_33 : decode cX2_countStarting 33 = .ok (.iinc 2 1, 3) := by decide +kernel
theorem dX2_countStarting_36 : decode cX2_countStarting 36 = .ok (.goto (-32), 3) := by decide +kernel
theorem dX2_countStarting_39 : decode cX2_countStarting 39 = .ok (.iload_n 1, 1) := by decide +kernel
theorem dX2_countStarting_40 : decode cX2_countStarting 40 = .ok (.ireturn, 1) := by decide +kernel
set_option maxRecDepth 20000 in
theorem ggX2_metNeeds_X0_isNeedMet : GoodIn wsX2_metNeeds wsX0_isNeedMet := goodIn_r _ [7, 8, 9, 10, 11, 12, 6, 13, 26, 27, 28, 29, 30, 31, 32, 33, 34, 35, 36, 37, 38] (by decide +kernel) (by decide +kernel)
set_option maxRecDepth 20000 in
theorem gX2_metNeeds_X0_isNeedMet : GoodIn wsX2_metNeeds (wsV RX2 180 RX0 yX0_isNeedMet wsX0_isNeedMet) := goodIn_app (goodIn_of _ (by decide +kernel)) ggX2_metNeeds_X0_isNeedMet
set_option maxRecDepth 20000 in
theorem ggX2_metNeeds_X0_bit : GoodIn wsX2_metNeeds wsX0_bit := goodIn_r _ [17, 18, 26, 27, 28, 29, 30, 31, 32, 33, 34, 35, 36, 37, 38] (by decide +kernel) (by decide +kernel)
set_option maxRecDepth 20000 in
theorem gX2_metNeeds_X0_bit : GoodIn wsX2_metNeeds (wsV RX2 82 RX0 yX0_bit wsX0_bit) := goodIn_app (goodIn_of _ (by decide +kernel)) ggX2_metNeeds_X0_bit
theorem dX2_metNeeds_0 : decode cX2_metNeeds 0 = .ok (.iconst 0, 1) := by decide +kernel
theorem dX2_metNeeds_1 : decode cX2_metNeeds 1 = .ok (.istore_n 1, 1) := by decide +kernel
theorem dX2_metNeeds_2 : decode cX2_metNeeds 2 = .ok (.iconst 0, 1) := by decide +kernel
theorem dX2_metNeeds_3 : decode cX2_metNeeds 3 = .ok (.istore_n 2, 1) := by decide +kernel
theorem dX2_metNeeds_4 : decode cX2_metNeeds 4 = .ok (.iload_n 2, 1) := by decide +kernel
theorem dX2_metNeeds_5 : decode cX2_metNeeds 5 = .ok (.aload_n 0, 1) := by decide +kernel
theorem dX2_metNeeds_6 : decode cX2_metNeeds 6 = .ok (.getfield 15, 3) := by decide +kernel
theorem dX2_metNeeds_9 : decode cX2_metNeeds 9 = .ok (.if_icmp .ge 37, 3) := by decide +kernel
theorem dX2_metNeeds_12 : decode cX2_metNeeds 12 = .ok (.iload_n 1, 1) := by decide +kernel
theorem dX2_metNeeds_13 : decode cX2_metNeeds 13 = .ok (.aload_n 0, 1) := by decide +kernel
theorem dX2_metNeeds_14 : decode cX2_metNeeds 14 = .ok (.getfield 11, 3) := by decide +kernel
theorem dX2_metNeeds_17 : decode cX2_metNeeds 17 = .ok (.iload_n 2, 1) := by decide +kernel
theorem dX2_metNeeds_18 : decode cX2_metNeeds 18 = .ok (.aaload, 1) := by decide +kernel
theorem dX2_metNeeds_19 : decode cX2_metNeeds 19 = .ok (.invokevirtual 180, 3) := by decide +kernel
theorem dX2_metNeeds_22 : decode cX2_metNeeds 22 = .ok (.ifCond .eq 15, 3) := by decide +kernel
theorem dX2_metNeeds_25 : decode cX2_metNeeds 25 = .ok (.aload_n 0, 1) := by decide +kernel
theorem dX2_metNeeds_26 : decode cX2_metNeeds 26 = .ok (.getfield 11, 3) := by decide +kernel
theorem dX2_metNeeds_29 : decode cX2_metNeeds 29 = .ok (.iload_n 2, 1) := by decide +kernel
theorem dX2_metNeeds_30 : decode cX2_metNeeds 30 = .ok (.aaload, 1) := by decide +kernel
theorem dX2_metNeeds_31 : decode cX2_metNeeds 31 = .ok (.invokevirtual 82, 3) := by decide +kernel
theorem dX2_metNeeds_34 : decode cX2_metNeeds 34 = .ok (.goto 4, 3) := by decide +kernel
theorem dX2_metNeeds_37 : decode cX2_metNeeds 37 = .ok (.iconst 0, 1) := by decide +kernel
theorem dX2_metNeeds_38 : decode cX2_metNeeds 38 = .ok (.ior, 1) := by decide +kernel
theorem dX2_metNeeds_39 : decode cX2_metNeeds 39 = .ok (.istore_n 1, 1) := by decide +kernel
theorem dX2_metNeeds_40 : decode cX2_metNeeds 40 = .ok (.iinc 2 1, 3) := by decide +kernel
theorem dX2_metNeeds_43 : decode cX2_metNeeds 43 = .ok (.goto (-39), 3) := by decide +kernel
theorem dX2_metNeeds_46 : decode cX2_metNeeds 46 = .ok (.iload_n 1, 1) := by decide +kernel
theorem dX2_metNeeds_47 : decode cX2_metNeeds 47 = .ok (.ireturn, 1) := by decide +kernel
set_option maxRecDepth 20000 in
theorem ggX2_lostNeeds_X0_isNeedLost : GoodIn wsX2_lostNeeds wsX0_isNeedLost := goodIn_r _ [7, 8, 9, 10, 11, 6, 12, 13, 26, 27, 28, 29, 30, 31, 32, 33, 34, 35, 36, 37, 38] (by decide +kernel) (by decide +kernel)
set_option maxRecDepth 20000 in
theorem gX2_lostNeeds_X0_isNeedLost : GoodIn wsX2_lostNeeds (wsV RX2 184 RX0 yX0_isNeedLost wsX0_isNeedLost) := goodIn_app (goodIn_of _ (by decide +kernel)) ggX2_lostNeeds_X0_isNeedLost
set_option maxRecDepth 20000 in
theorem ggX2_lostNeeds_X0_bit : GoodIn wsX2_lostNeeds wsX0_bit := goodIn_r _ [17, 18, 26, 27, 28, 29, 30, 31, 32, 33, 34, 35, 36, 37, 38] (by decide +kernel) (by decide +kernel)
set_option maxRecDepth 20000 in
theorem gX2_lostNeeds_X0_bit : GoodIn wsX2_lostNeeds (wsV RX2 82 RX0 yX0_bit wsX0_bit) := goodIn_app (goodIn_of _ (by decide +kernel)) ggX2_lostNeeds_X0_bit
theorem dX2_lostNeeds_0 : decode cX2_lostNeeds 0 = .ok (.iconst 0, 1) := by decide +kernel
theorem dX2_lostNeeds_1 : decode cX2_lostNeeds 1 = .ok (.istore_n 1, 1) := by decide +kernel
theorem dX2_lostNeeds_2 : decode cX2_lostNeeds 2 = .ok (.iconst 0, 1) := by decide +kernel
theorem dX2_lostNeeds_3 : decode cX2_lostNeeds 3 = .ok (.istore_n 2, 1) := by decide +kernel
theorem dX2_lostNeeds_4 : decode cX2_lostNeeds 4 = .ok (.iload_n 2, 1) := by decide +kernel
theorem dX2_lostNeeds_5 : decode cX2_lostNeeds 5 = .ok (.aload_n 0, 1) := by decide +kernel
theorem dX2_lostNeeds_6 : decode cX2_lostNeeds 6 = .ok (.getfield 15, 3) := by decide +kernel
theorem dX2_lostNeeds_9 : decode cX2_lostNeeds 9 = .ok (.if_icmp .ge 37, 3) := by decide +kernel
theorem dX2_lostNeeds_12 : decode cX2_lostNeeds 12 = .ok (.iload_n 1, 1) := by decide +kernel
theorem dX2_lostNeeds_13 : decode cX2_lostNeeds 13 = .ok (.aload_n 0, 1) := by decide +kernel
theorem dX2_lostNeeds_14 : decode cX2_lostNeeds 14 = .ok (.getfield 11, 3) := by decide +kernel
theorem dX2_lostNeeds_17 : decode cX2_lostNeeds 17 = .ok (.iload_n 2, 1) := by decide +kernel
theorem dX2_lostNeeds_18 : decode cX2_lostNeeds 18 = .ok (.aaload, 1) := by decide +kernel
theorem dX2_lostNeeds_19 : decode cX2_lostNeeds 19 = .ok (.invokevirtual 184, 3) := by decide +kernel
theorem dX2_lostNeeds_22 : decode cX2_lostNeeds 22 = .ok (.ifCond .eq 15, 3) := by decide +kernel
theorem dX2_lostNeeds_25 : decode cX2_lostNeeds 25 = .ok (.aload_n 0, 1) := by decide +kernel
theorem dX2_lostNeeds_26 : decode cX2_lostNeeds 26 = .ok (.getfield 11, 3) := by decide +kernel
theorem dX2_lostNeeds_29 : decode cX2_lostNeeds 29 = .ok (.iload_n 2, 1) := by decide +kernel
theorem dX2_lostNeeds_30 : decode cX2_lostNeeds 30 = .ok (.aaload, 1) := by decide +kernel
theorem dX2_lostNeeds_31 : decode cX2_lostNeeds 31 = .ok (.invokevirtual 82, 3) := by decide +kernel
theorem dX2_lostNeeds_34 : decode cX2_lostNeeds 34 = .ok (.goto 4, 3) := by decide +kernel
theorem dX2_lostNeeds_37 : decode cX2_lostNeeds 37 = .ok (.iconst 0, 1) := by decide +kernel
theorem dX2_lostNeeds_38 : decode cX2_lostNeeds 38 = .ok (.ior, 1) := by decide +kernel
theorem dX2_lostNeeds_39 : decode cX2_lostNeeds 39 = .ok (.istore_n 1, 1) := by decide +kernel
theorem dX2_lostNeeds_40 : decode cX2_lostNeeds 40 = .ok (.iinc 2 1, 3) := by decide +kernel
theorem dX2_lostNeeds_43 : decode cX2_lostNeeds 43 = .ok (.goto (-39), 3) := by decide +kernel
theorem dX2_lostNeeds_46 : decode cX2_lostNeeds 46 = .ok (.iload_n 1, 1) := by decide +kernel
theorem dX2_lostNeeds_47 : decode cX2_lostNeeds 47 = .ok (.ireturn, 1) := by decide +kernel
set_option maxRecDepth 20000 in
theorem ggX2_doneWishes_X0_isWishDone : GoodIn wsX2_doneWishes wsX0_isWishDone := goodIn_r _ [7, 8, 9, 10, 11, 6, 12, 25, 26, 27, 28, 29, 30, 31, 32, 33, 34, 35, 36, 37] (by decide +kernel) (by decide +kernel)
set_option maxRecDepth 20000 in
theorem gX2_doneWishes_X0_isWishDone : GoodIn wsX2_doneWishes (wsV RX2 187 RX0 yX0_isWishDone wsX0_isWishDone) := goodIn_app (goodIn_of _ (by decide +kernel)) ggX2_doneWishes_X0_isWishDone
set_option maxRecDepth 20000 in
theorem ggX2_doneWishes_X0_bit : GoodIn wsX2_doneWishes wsX0_bit := goodIn_r _ [16, 17, 25, 26, 27, 28, 29, 30, 31, 32, 33, 34, 35, 36, 37] (by decide +kernel) (by decide +kernel)
set_option maxRecDepth 20000 in
theorem gX2_doneWishes_X0_bit : GoodIn wsX2_doneWishes (wsV RX2 82 RX0 yX0_bit wsX0_bit) := goodIn_app (goodIn_of _ (by decide +kernel)) ggX2_doneWishes_X0_bit
theorem dX2_doneWishes_0 : decode cX2_doneWishes 0 = .ok (.iconst 0, 1) := by decide +kernel
theorem dX2_doneWishes_1 : decode cX2_doneWishes 1 = .ok (.istore_n 1, 1) := by decide +kernel
theorem dX2_doneWishes_2 : decode cX2_doneWishes 2 = .ok (.iconst 0, 1) := by decide +kernel
theorem dX2_doneWishes_3 : decode cX2_doneWishes 3 = .ok (.istore_n 2, 1) := by decide +kernel
theorem dX2_doneWishes_4 : decode cX2_doneWishes 4 = .ok (.iload_n 2, 1) := by decide +kernel
theorem dX2_doneWishes_5 : decode cX2_doneWishes 5 = .ok (.aload_n 0, 1) := by decide +kernel
theorem dX2_doneWishes_6 : decode cX2_doneWishes 6 = .ok (.getfield 15, 3) := by decide +kernel
theorem dX2_doneWishes_9 : decode cX2_doneWishes 9 = .ok (.if_icmp .ge 37, 3) := by decide +kernel
theorem dX2_doneWishes_12 : decode cX2_doneWishes 12 = .ok (.iload_n 1, 1) := by decide +kernel
theorem dX2_doneWishes_13 : decode cX2_doneWishes 13 = .ok (.aload_n 0, 1) := by decide +kernel
theorem dX2_doneWishes_14 : decode cX2_doneWishes 14 = .ok (.getfield 11, 3) := by decide +kernel
theorem dX2_doneWishes_17 : decode cX2_doneWishes 17 = .ok (.iload_n 2, 1) := by decide +kernel
theorem dX2_doneWishes_18 : decode cX2_doneWishes 18 = .ok (.aaload, 1) := by decide +kernel
theorem dX2_doneWishes_19 : decode cX2_doneWishes 19 = .ok (.invokevirtual 187, 3) := by decide +kernel
theorem dX2_doneWishes_22 : decode cX2_doneWishes 22 = .ok (.ifCond .eq 15, 3) := by decide +kernel
theorem dX2_doneWishes_25 : decode cX2_doneWishes 25 = .ok (.aload_n 0, 1) := by decide +kernel
theorem dX2_doneWishes_26 : decode cX2_doneWishes 26 = .ok (.getfield 11, 3) := by decide +kernel
theorem dX2_doneWishes_29 : decode cX2_doneWishes 29 = .ok (.iload_n 2, 1) := by decide +kernel
theorem dX2_doneWishes_30 : decode cX2_doneWishes 30 = .ok (.aaload, 1) := by decide +kernel
theorem dX2_doneWishes_31 : decode cX2_doneWishes 31 = .ok (.invokevirtual 82, 3) := by decide +kernel
theorem dX2_doneWishes_34 : decode cX2_doneWishes 34 = .ok (.goto 4, 3) := by decide +kernel
theorem dX2_doneWishes_37 : decode cX2_doneWishes 37 = .ok (.iconst 0, 1) := by decide +kernel
theorem dX2_doneWishes_38 : decode cX2_doneWishes 38 = .ok (.ior, 1) := by decide +kernel
theorem dX2_doneWishes_39 : decode cX2_doneWishes 39 = .ok (.istore_n 1, 1) := by decide +kernel
theorem dX2_doneWishes_40 : decode cX2_doneWishes 40 = .ok (.iinc 2 1, 3) := by decide +kernel
theorem dX2_doneWishes_43 : decode cX2_doneWishes 43 = .ok (.goto (-39), 3) := by decide +kernel
theorem dX2_doneWishes_46 : decode cX2_doneWishes 46 = .ok (.iload_n 1, 1) := by decide +kernel
theorem dX2_doneWishes_47 : decode cX2_doneWishes 47 = .ok (.ireturn, 1) := by decide +kernel
set_option maxRecDepth 20000 in
theorem ggX2_raiseBar_X2_timeDone : GoodIn wsX2_raiseBar wsX2_timeDone := goodIn_r _ [12, 13, 14, 15, 16, 17, 18, 19, 20, 21, 22, 23, 24, 6, 25, 26, 27, 28, 29, 30, 31, 32, 33, 34, 35, 36, 37, 38, 39, 40, 41, 42, 43, 44, 45] (by decide +kernel) (by decide +kernel)
set_option maxRecDepth 20000 in
theorem gX2_raiseBar_X2_timeDone : GoodIn wsX2_raiseBar (wsV RX2 217 RX2 yX2_timeDone wsX2_timeDone) := goodIn_app (goodIn_of _ (by decide +kernel)) ggX2_raiseBar_X2_timeDone
theorem dX2_raiseBar_0 : decode cX2_raiseBar 0 = .ok (.sipush 1000, 3) := by decide +kernel
theorem dX2_raiseBar_3 : decode cX2_raiseBar 3 = .ok (.istore_n 1, 1) := by decide +kernel
theorem dX2_raiseBar_4 : decode cX2_raiseBar 4 = .ok (.aload_n 0, 1) := by decide +kernel
theorem dX2_raiseBar_5 : decode cX2_raiseBar 5 = .ok (.getfield 26, 3) := by decide +kernel
theorem dX2_raiseBar_8 : decode cX2_raiseBar 8 = .ok (.ifCond .eq 24, 3) := by decide +kernel
theorem dX2_raiseBar_11 : decode cX2_raiseBar 11 = .ok (.aload_n 0, 1) := by decide +kernel
theorem dX2_raiseBar_12 : decode cX2_raiseBar 12 = .ok (.getfield 33, 3) := by decide +kernel
theorem dX2_raiseBar_15 : decode cX2_raiseBar 15 = .ok (.ifCond .le 17, 3) := by decide +kernel
theorem dX2_raiseBar_18 : decode cX2_raiseBar 18 = .ok (.sipush 1000, 3) := by decide +kernel
theorem dX2_raiseBar_21 : decode cX2_raiseBar 21 = .ok (.aload_n 0, 1) := by decide +kernel
theorem dX2_raiseBar_22 : decode cX2_raiseBar 22 = .ok (.invokevirtual 217, 3) := by decide +kernel
theorem dX2_raiseBar_25 : decode cX2_raiseBar 25 = .ok (.imul, 1) := by decide +kernel
theorem dX2_raiseBar_26 : decode cX2_raiseBar 26 = .ok (.aload_n 0, 1) := by decide +kernel
theorem dX2_raiseBar_27 : decode cX2_raiseBar 27 = .ok (.getfield 33, 3) := by decide +kernel
theorem dX2_raiseBar_30 : decode cX2_raiseBar 30 = .ok (.idiv, 1) := by decide +kernel
theorem dX2_raiseBar_31 : decode cX2_raiseBar 31 = .ok (.istore_n 1, 1) := by decide +kernel
theorem dX2_raiseBar_32 : decode cX2_raiseBar 32 = .ok (.aload_n 0, 1) := by decide +kernel
theorem dX2_raiseBar_33 : decode cX2_raiseBar 33 = .ok (.aload_n 0, 1) := by decide +kernel
theorem dX2_raiseBar_34 : decode cX2_raiseBar 34 = .ok (.getfield 36, 3) := by decide +kernel
theorem dX2_raiseBar_37 : decode cX2_raiseBar 37 = .ok (.iload_n 1, 1) := by decide +kernel
theorem dX2_raiseBar_38 : decode cX2_raiseBar 38 = .ok (.invokestatic 220, 3) := by decide +kernel
theorem dX2_raiseBar_41 : decode cX2_raiseBar 41 = .ok (.putfield 36, 3) := by decide +kernel
theorem dX2_raiseBar_44 : decode cX2_raiseBar 44 = .ok (.return_, 1) := by decide +kernel
set_option maxRecDepth 20000 in
theorem ggX2_timeDone_X0_timeDone : GoodIn wsX2_timeDone wsX0_timeDone := goodIn_r _ [7, 8, 9, 10, 11, 12, 13, 14, 22, 23, 24, 25, 26, 27, 28, 29, 30, 31, 32, 33, 34] (by decide +kernel) (by decide +kernel)
set_option maxRecDepth 20000 in
theorem gX2_timeDone_X0_timeDone : GoodIn wsX2_timeDone (wsV RX2 226 RX0 yX0_timeDone wsX0_timeDone) := goodIn_app (goodIn_of _ (by decide +kernel)) ggX2_timeDone_X0_timeDone
theorem dX2_timeDone_0 : decode cX2_timeDone 0 = .ok (.iconst 0, 1) := by decide +kernel
theorem dX2_timeDone_1 : decode cX2_timeDone 1 = .ok (.istore_n 1, 1) := by decide +kernel
theorem dX2_timeDone_2 : decode cX2_timeDone 2 = .ok (.iconst 0, 1) := by decide +kernel
theorem dX2_timeDone_3 : decode cX2_timeDone 3 = .ok (.istore_n 2, 1) := by decide +kernel
theorem dX2_timeDone_4 : decode cX2_timeDone 4 = .ok (.iload_n 2, 1) := by decide +kernel
theorem dX2_timeDone_5 : decode cX2_timeDone 5 = .ok (.aload_n 0, 1) := by decide +kernel
theorem dX2_timeDone_6 : decode cX2_timeDone 6 = .ok (.getfield 15, 3) := by decide +kernel
theorem dX2_timeDone_9 : decode cX2_timeDone 9 = .ok (.if_icmp .ge 21, 3) := by decide +kernel
theorem dX2_timeDone_12 : decode cX2_timeDone 12 = .ok (.iload_n 1, 1) := by decide +kernel
theorem dX2_timeDone_13 : decode cX2_timeDone 13 = .ok (.aload_n 0, 1) := by decide +kernel
theorem dX2_timeDone_14 : decode cX2_timeDone 14 = .ok (.getfield 11, 3) := by decide +kernel
theorem dX2_timeDone_17 : decode cX2_timeDone 17 = .ok (.iload_n 2, 1) := by decide +kernel
theorem dX2_timeDone_18 : decode cX2_timeDone 18 = .ok (.aaload, 1) := by decide +kernel
theorem dX2_timeDone_19 : decode cX2_timeDone 19 = .ok (.invokevirtual 226, 3) := by decide +kernel
theorem dX2_timeDone_22 : decode cX2_timeDone 22 = .ok (.iadd, 1) := by decide +kernel
theorem dX2_timeDone_23 : decode cX2_timeDone 23 = .ok (.istore_n 1, 1) := by decide +kernel
theorem dX2_timeDone_24 : decode cX2_timeDone 24 = .ok (.iinc 2 1, 3) := by decide +kernel
theorem dX2_timeDone_27 : decode cX2_timeDone 27 = .ok (.goto (-23), 3) := by decide +kernel
theorem dX2_timeDone_30 : decode cX2_timeDone 30 = .ok (.iload_n 1, 1) := by decide +kernel
theorem dX2_timeDone_31 : decode cX2_timeDone 31 = .ok (.ireturn, 1) := by decide +kernel
set_option maxRecDepth 20000 in
theorem ggX2_ableAlone_X0_bit : GoodIn wsX2_ableAlone wsX0_bit := goodIn_r _ [10, 11, 19, 20, 21, 22, 23, 24, 25, 26, 27, 28, 29, 30, 31] (by decide +kernel) (by decide +kernel)
set_option maxRecDepth 20000 in
theorem gX2_ableAlone_X0_bit : GoodIn wsX2_ableAlone (wsV RX2 82 RX0 yX0_bit wsX0_bit) := goodIn_app (goodIn_of _ (by decide +kernel)) ggX2_ableAlone_X0_bit
theorem dX2_ableAlone_0 : decode cX2_ableAlone 0 = .ok (.iconst 0, 1) := by decide +kernel
theorem dX2_ableAlone_1 : decode cX2_ableAlone 1 = .ok (.istore_n 1, 1) := by decide +kernel
theorem dX2_ableAlone_2 : decode cX2_ableAlone 2 = .ok (.iconst 0, 1) := by decide +kernel
theorem dX2_ableAlone_3 : decode cX2_ableAlone 3 = .ok (.istore_n 2, 1) := by decide +kernel
theorem dX2_ableAlone_4 : decode cX2_ableAlone 4 = .ok (.iload_n 2, 1) := by decide +kernel
theorem dX2_ableAlone_5 : decode cX2_ableAlone 5 = .ok (.aload_n 0, 1) := by decide +kernel
theorem dX2_ableAlone_6 : decode cX2_ableAlone 6 = .ok (.getfield 15, 3) := by decide +kernel
theorem dX2_ableAlone_9 : decode cX2_ableAlone 9 = .ok (.if_icmp .ge 45, 3) := by decide +kernel
theorem dX2_ableAlone_12 : decode cX2_ableAlone 12 = .ok (.aload_n 0, 1) := by decide +kernel
theorem dX2_ableAlone_13 : decode cX2_ableAlone 13 = .ok (.getfield 11, 3) := by decide +kernel
theorem dX2_ableAlone_16 : decode cX2_ableAlone 16 = .ok (.iload_n 2, 1) := by decide +kernel
theorem dX2_ableAlone_17 : decode cX2_ableAlone 17 = .ok (.aaload, 1) := by decide +kernel
theorem dX2_ableAlone_18 : decode cX2_ableAlone 18 = .ok (.astore_n 3, 1) := by decide +kernel
theorem dX2_ableAlone_19 : decode cX2_ableAlone 19 = .ok (.iload_n 1, 1) := by decide +kernel
theorem dX2_ableAlone_20 : decode cX2_ableAlone 20 = .ok (.aload_n 3, 1) := by decide +kernel
theorem dX2_ableAlone_21 : decode cX2_ableAlone 21 = .ok (.getfield 113, 3) := by decide +kernel
theorem dX2_ableAlone_24 : decode cX2_ableAlone 24 = .ok (.ifCond .ne 21, 3) := by decide +kernel
theorem dX2_ableAlone_27 : decode cX2_ableAlone 27 = .ok (.aload_n 3, 1) := by decide +kernel
theorem dX2_ableAlone_28 : decode cX2_ableAlone 28 = .ok (.getfield 116, 3) := by decide +kernel
theorem dX2_ableAlone_31 : decode cX2_ableAlone 31 = .ok (.aload_n 3, 1) := by decide +kernel
theorem dX2_ableAlone_32 : decode cX2_ableAlone 32 = .ok (.getfield 59, 3) := by decide +kernel
theorem dX2_ableAlone_35 : decode cX2_ableAlone 35 = .ok (.if_icmp .gt 10, 3) := by decide +kernel
theorem dX2_ableAlone_38 : decode cX2_ableAlone 38 = .ok (.aload_n 3, 1) := by decide +kernel
theorem dX2_ableAlone_39 : decode cX2_ableAlone 39 = .ok (.invokevirtual 82, 3) := by decide +kernel
theorem dX2_ableAlone_42 : decode cX2_ableAlone 42 = .ok (.goto 4, 3) := by decide +kernel
theorem dX2_ableAlone_45 : decode cX2_ableAlone 45 = .ok (.iconst 0, 1) := by decide +kernel
theorem dX2_ableAlone_46 : decode cX2_ableAlone 46 = .ok (.ior, 1) := by decide +kernel
theorem dX2_ableAlone_47 : decode cX2_ableAlone 47 = .ok (.istore_n 1, 1) := by decide +kernel
theorem dX2_ableAlone_48 : decode cX2_ableAlone 48 = .ok (.iinc 2 1, 3) := by decide +kernel
theorem dX2_ableAlone_51 : decode cX2_ableAlone 51 = .ok (.goto (-47), 3) := by decide +kernel
theorem dX2_ableAlone_54 : decode cX2_ableAlone 54 = .ok (.iload_n 1, 1) := by decide +kernel
theorem dX2_ableAlone_55 : decode cX2_ableAlone 55 = .ok (.ireturn, 1) := by decide +kernel
set_option maxRecDepth 20000 in
theorem ggX2_keepSupplied_X2_contains : GoodIn wsX2_keepSupplied wsX2_contains := goodIn_r _ [9, 10, 11, 12, 13, 14, 15, 23, 24, 25, 26, 27, 28, 29, 30, 31, 32, 33, 34, 35] (by decide +kernel) (by decide +kernel)
set_option maxRecDepth 20000 in
theorem gX2_keepSupplied_X2_contains : GoodIn wsX2_keepSupplied (wsV RX2 78 RX2 yX2_contains wsX2_contains) := goodIn_app (goodIn_of _ (by decide +kernel)) ggX2_keepSupplied_X2_contains
set_option maxRecDepth 20000 in
theorem ggX2_keepSupplied_X0_bit : GoodIn wsX2_keepSupplied wsX0_bit := goodIn_r _ [14, 15, 23, 24, 25, 26, 27, 28, 29, 30, 31, 32, 33, 34, 35] (by decide +kernel) (by decide +kernel)
set_option maxRecDepth 20000 in
theorem gX2_keepSupplied_X0_bit : GoodIn wsX2_keepSupplied (wsV RX2 82 RX0 yX0_bit wsX0_bit) := goodIn_app (goodIn_of _ (by decide +kernel)) ggX2_keepSupplied_X0_bit
theorem dX2_keepSupplied_0 : decode cX2_keepSupplied 0 = .ok (.iload_n 1, 1) := by decide +kernel
theorem dX2_keepSupplied_1 : decode cX2_keepSupplied 1 = .ok (.istore_n 2, 1) := by decide +kernel
theorem dX2_keepSupplied_2 : decode cX2_keepSupplied 2 = .ok (.iconst 0, 1) := by decide +kernel
theorem dX2_keepSupplied_3 : decode cX2_keepSupplied 3 = .ok (.istore_n 3, 1) := by decide +kernel
theorem dX2_keepSupplied_4 : decode cX2_keepSupplied 4 = .ok (.iload_n 3, 1) := by decide +kernel
theorem dX2_keepSupplied_5 : decode cX2_keepSupplied 5 = .ok (.aload_n 0, 1) := by decide +kernel
theorem dX2_keepSupplied_6 : decode cX2_keepSupplied 6 = .ok (.getfield 15, 3) := by decide +kernel
theorem dX2_keepSupplied_9 : decode cX2_keepSupplied 9 = .ok (.if_icmp .ge 51, 3) := by decide +kernel
theorem dX2_keepSupplied_12 : decode cX2_keepSupplied 12 = .ok (.aload_n 0, 1) := by decide +kernel
theorem dX2_keepSupplied_13 : decode cX2_keepSupplied 13 = .ok (.getfield 11, 3) := by decide +kernel
theorem dX2_keepSupplied_16 : decode cX2_keepSupplied 16 = .ok (.iload_n 3, 1) := by decide +kernel
theorem dX2_keepSupplied_17 : decode cX2_keepSupplied 17 = .ok (.aaload, 1) := by decide +kernel
theorem dX2_keepSupplied_18 : decode cX2_keepSupplied 18 = .ok (.getfield 109, 3) := by decide +kernel
theorem dX2_keepSupplied_21 : decode cX2_keepSupplied 21 = .ok (.astore 4, 2) := by decide +kernel
theorem dX2_keepSupplied_23 : decode cX2_keepSupplied 23 = .ok (.iload_n 2, 1) := by decide +kernel
theorem dX2_keepSupplied_24 : decode cX2_keepSupplied 24 = .ok (.aload 4, 2) := by decide +kernel
theorem dX2_keepSupplied_26 : decode cX2_keepSupplied 26 = .ok (.ifnull 25, 3) := by decide +kernel
theorem dX2_keepSupplied_29 : decode cX2_keepSupplied 29 = .ok (.aload_n 0, 1) := by decide +kernel
theorem dX2_keepSupplied_30 : decode cX2_keepSupplied 30 = .ok (.iload_n 1, 1) := by decide +kernel
theorem dX2_keepSupplied_31 : decode cX2_keepSupplied 31 = .ok (.aload 4, 2) := by decide +kernel
theorem dX2_keepSupplied_33 : decode cX2_keepSupplied 33 = .ok (.invokevirtual 78, 3) := by decide +kernel
theorem dX2_keepSupplied_36 : decode cX2_keepSupplied 36 = .ok (.ifCond .eq 15, 3) := by decide +kernel
theorem dX2_keepSupplied_39 : decode cX2_keepSupplied 39 = .ok (.aload_n 0, 1) := by decide +kernel
theorem dX2_keepSupplied_40 : decode cX2_keepSupplied 40 = .ok (.getfield 11, 3) := by decide +kernel
theorem dX2_keepSupplied_43 : decode cX2_keepSupplied 43 = .ok (.iload_n 3, 1) := by decide +kernel
theorem dX2_keepSupplied_44 : decode cX2_keepSupplied 44 = .ok (.aaload, 1) := by decide +kernel
theorem dX2_keepSupplied_45 : decode cX2_keepSupplied 45 = .ok (.invokevirtual 82, 3) := by decide +kernel
theorem dX2_keepSupplied_48 : decode cX2_keepSupplied 48 = .ok (.goto 4, 3) := by decide +kernel
theorem dX2_keepSupplied_51 : decode cX2_keepSupplied 51 = .ok (.iconst 0, 1) := by decide +kernel
theorem dX2_keepSupplied_52 : decode cX2_keepSupplied 52 = .ok (.ior, 1) := by decide +kernel
theorem dX2_keepSupplied_53 : decode cX2_keepSupplied 53 = .ok (.istore_n 2, 1) := by decide +kernel
theorem dX2_keepSupplied_54 : decode cX2_keepSupplied 54 = .ok (.iinc 3 1, 3) := by decide +kernel
theorem dX2_keepSupplied_57 : decode cX2_keepSupplied 57 = .ok (.goto (-53), 3) := by decide +kernel
theorem dX2_keepSupplied_60 : decode cX2_keepSupplied 60 = .ok (.iconst 0, 1) := by decide +kernel
theorem dX2_keepSupplied_61 : decode cX2_keepSupplied 61 = .ok (.istore_n 3, 1) := by decide +kernel
theorem dX2_keepSupplied_62 : decode cX2_keepSupplied 62 = .ok (.iconst 0, 1) := by decide +kernel
theorem dX2_keepSupplied_63 : decode cX2_keepSupplied 63 = .ok (.istore 4, 2) := by decide +kernel
theorem dX2_keepSupplied_65 : decode cX2_keepSupplied 65 = .ok (.iload 4, 2) := by decide +kernel
theorem dX2_keepSupplied_67 : decode cX2_keepSupplied 67 = .ok (.aload_n 0, 1) := by decide +kernel
theorem dX2_keepSupplied_68 : decode cX2_keepSupplied 68 = .ok (.getfield 15, 3) := by decide +kernel
theorem dX2_keepSupplied_71 : decode cX2_keepSupplied 71 = .ok (.if_icmp .ge 70, 3) := by decide +kernel
theorem dX2_keepSupplied_74 : decode cX2_keepSupplied 74 = .ok (.aload_n 0, 1) := by decide +kernel
theorem dX2_keepSupplied_75 : decode cX2_keepSupplied 75 = .ok (.iload_n 1, 1) := by decide +kernel
theorem dX2_keepSupplied_76 : decode cX2_keepSupplied 76 = .ok (.aload_n 0, 1) := by decide +kernel
theorem dX2_keepSupplied_77 : decode cX2_keepSupplied 77 = .ok (.getfield 11, 3) := by decide +kernel
theorem dX2_keepSupplied_80 : decode cX2_keepSupplied 80 = .ok (.iload 4, 2) := by decide +kernel
theorem dX2_keepSupplied_82 : decode cX2_keepSupplied 82 = .ok (.aaload, 1) := by decide +kernel
theorem dX2_keepSupplied_83 : decode cX2_keepSupplied 83 = .ok (.invokevirtual 78, 3) := by decide +kernel
theorem dX2_keepSupplied_86 : decode cX2_keepSupplied 86 = .ok (.ifCond .eq 24, 3) := by decide +kernel
theorem dX2_keepSupplied_89 : decode cX2_keepSupplied 89 = .ok (.aload_n 0, 1) := by decide +kernel
theorem dX2_keepSupplied_90 : decode cX2_keepSupplied 90 = .ok (.getfield 11, 3) := by decide +kernel
theorem dX2_keepSupplied_93 : decode cX2_keepSupplied 93 = .ok (.iload 4, 2) := by decide +kernel
theorem dX2_keepSupplied_95 : decode cX2_keepSupplied 95 = .ok (.aaload, 1) := by decide +kernel
theorem dX2_keepSupplied_96 : decode cX2_keepSupplied 96 = .ok (.getfield 75, 3) := by decide +kernel
theorem dX2_keepSupplied_99 : decode cX2_keepSupplied 99 = .ok (.iload_n 2, 1) := by decide +kernel
theorem dX2_keepSupplied_100 : decode cX2_keepSupplied 100 = .ok (.iconst (-1), 1) := by decide +kernel
theorem dX2_keepSupplied_101 : decode cX2_keepSupplied 101 = .ok (.ixor, 1) := by decide +kernel
theorem dX2_keepSupplied_102 : decode cX2_keepSupplied 102 = .ok (.iand, 1) := by decide +kernel
theorem dX2_keepSupplied_103 : decode cX2_keepSupplied 103 = .ok (.ifCond .ne 7, 3) := by decide +kernel
theorem dX2_keepSupplied_106 : decode cX2_keepSupplied 106 = .ok (.iconst 1, 1) := by decide +kernel
theorem dX2_keepSupplied_107 : decode cX2_keepSupplied 107 = .ok (.goto 4, 3) := by decide +kernel
theorem dX2_keepSupplied_110 : decode cX2_keepSupplied 110 = .ok (.iconst 0, 1) := by decide +kernel
theorem dX2_keepSupplied_111 : decode cX2_keepSupplied 111 = .ok (.istore 5, 2) := by decide +kernel
theorem dX2_keepSupplied_113 : decode cX2_keepSupplied 113 = .ok (.iload_n 3, 1) := by decide +kernel
theorem dX2_keepSupplied_114 : decode cX2_keepSupplied 114 = .ok (.iload 5, 2) := by decide +kernel
theorem dX2_keepSupplied_116 : decode cX2_keepSupplied 116 = .ok (.ifCond .eq 16, 3) := by decide +kernel
theorem dX2_keepSupplied_119 : decode cX2_keepSupplied 119 = .ok (.aload_n 0, 1) := by decide +kernel
theorem dX2_keepSupplied_120 : decode cX2_keepSupplied 120 = .ok (.getfield 11, 3) := by decide +kernel
theorem dX2_keepSupplied_123 : decode cX2_keepSupplied 123 = .ok (.iload 4, 2) := by decide +kernel
theorem dX2_keepSupplied_125 : decode cX2_keepSupplied 125 = .ok (.aaload, 1) := by decide +kernel
theorem dX2_keepSupplied_126 : decode cX2_keepSupplied 126 = .ok (.invokevirtual 82, 3) := by decide +kernel
theorem dX2_keepSupplied_129 : decode cX2_keepSupplied 129 = .ok (.goto 4, 3) := by decide +kernel
theorem dX2_keepSupplied_132 : decode cX2_keepSupplied 132 = .ok (.iconst 0, 1) := by decide +kernel
theorem dX2_keepSupplied_133 : decode cX2_keepSupplied 133 = .ok (.ior, 1) := by decide +kernel
theorem dX2_keepSupplied_134 : decode cX2_keepSupplied 134 = .ok (.istore_n 3, 1) := by decide +kernel
theorem dX2_keepSupplied_135 : decode cX2_keepSupplied 135 = .ok (.iinc 4 1, 3) := by decide +kernel
theorem dX2_keepSupplied_138 : decode cX2_keepSupplied 138 = .ok (.goto (-73), 3) := by decide +kernel
theorem dX2_keepSupplied_141 : decode cX2_keepSupplied 141 = .ok (.iload_n 3, 1) := by decide +kernel
theorem dX2_keepSupplied_142 : decode cX2_keepSupplied 142 = .ok (.ireturn, 1) := by decide +kernel
theorem dJ9_max_7cf53_0 : decode cJ9_max_7cf53 0 = .ok (.iload_n 0, 1) := by decide +kernel
theorem dJ9_max_7cf53_1 : decode cJ9_max_7cf53 1 = .ok (.iload_n 1, 1) := by decide +kernel
theorem dJ9_max_7cf53_2 : decode cJ9_max_7cf53 2 = .ok (.if_icmp .lt 7, 3) := by decide +kernel
theorem dJ9_max_7cf53_5 : decode cJ9_max_7cf53 5 = .ok (.iload_n 0, 1) := by decide +kernel
theorem dJ9_max_7cf53_6 : decode cJ9_max_7cf53 6 = .ok (.goto 4, 3) := by decide +kernel
theorem dJ9_max_7cf53_9 : decode cJ9_max_7cf53 9 = .ok (.iload_n 1, 1) := by decide +kernel
theorem dJ9_max_7cf53_10 : decode cJ9_max_7cf53 10 = .ok (.ireturn, 1) := by decide +kernel
theorem dJ9_min_7cf53_0 : decode cJ9_min_7cf53 0 = .ok (.iload_n 0, 1) := by decide +kernel
theorem dJ9_min_7cf53_1 : decode cJ9_min_7cf53 1 = .ok (.iload_n 1, 1) := by decide +kernel
theorem dJ9_min_7cf53_2 : decode cJ9_min_7cf53 2 = .ok (.if_icmp .gt 7, 3) := by decide +kernel
theorem dJ9_min_7cf53_5 : decode cJ9_min_7cf53 5 = .ok (.iload_n 0, 1) := by decide +kernel
theorem dJ9_min_7cf53_6 : decode cJ9_min_7cf53 6 = .ok (.goto 4, 3) := by decide +kernel
theorem dJ9_min_7cf53_9 : decode cJ9_min_7cf53 9 = .ok (.iload_n 1, 1) := by decide +kernel
theorem dJ9_min_7cf53_10 : decode cJ9_min_7cf53 10 = .ok (.ireturn, 1) := by decide +kernel
theorem dJxa1e45_init_da8c8_0 : decode cJxa1e45_init_da8c8 0 = .ok (.aload_n 0, 1) := by decide +kernel
theorem dJxa1e45_init_da8c8_1 : decode cJxa1e45_init_da8c8 1 = .ok (.invokespecial 1, 3) := by decide +kernel
theorem dJxa1e45_init_da8c8_4 : decode cJxa1e45_init_da8c8 4 = .ok (.return_, 1) := by decide +kernel
set_option maxRecDepth 20000 in
theorem ggJxc12de_init_da8c8_Jxa1e45_init_da8c8 : GoodIn wsJxc12de_init_da8c8 wsJxa1e45_init_da8c8 := goodIn_r _ [5, 6, 7, 8] (by decide +kernel) (by decide +kernel)
set_option maxRecDepth 20000 in
theorem gJxc12de_init_da8c8_Jxa1e45_init_da8c8 : GoodIn wsJxc12de_init_da8c8 (wsJxa1e45_init_da8c8) := ggJxc12de_init_da8c8_Jxa1e45_init_da8c8
theorem dJxc12de_init_da8c8_0 : decode cJxc12de_init_da8c8 0 = .ok (.aload_n 0, 1) := by decide +kernel
theorem dJxc12de_init_da8c8_1 : decode cJxc12de_init_da8c8 1 = .ok (.invokespecial 1, 3) := by decide +kernel
theorem dJxc12de_init_da8c8_4 : decode cJxc12de_init_da8c8 4 = .ok (.aload_n 0, 1) := by decide +kernel
theorem dJxc12de_init_da8c8_5 : decode cJxc12de_init_da8c8 5 = .ok (.iconst 0, 1) := by decide +kernel
theorem dJxc12de_init_da8c8_6 : decode cJxc12de_init_da8c8 6 = .ok (.putfield 7, 3) := by decide +kernel
theorem dJxc12de_init_da8c8_9 : decode cJxc12de_init_da8c8 9 = .ok (.return_, 1) := by decide +kernel
set_option maxRecDepth 20000 in
theorem ggJx4a65c_init_da8c8_Jxc12de_init_da8c8 : GoodIn wsJx4a65c_init_da8c8 wsJxc12de_init_da8c8 := goodIn_r _ [6, 7, 8, 9, 10, 11, 12, 13, 14, 15, 16, 17] (by decide +kernel) (by decide +kernel)
set_option maxRecDepth 20000 in
theorem gJx4a65c_init_da8c8_Jxc12de_init_da8c8 : GoodIn wsJx4a65c_init_da8c8 (wsJxc12de_init_da8c8) := ggJx4a65c_init_da8c8_Jxc12de_init_da8c8
theorem dJx4a65c_init_da8c8_0 : decode cJx4a65c_init_da8c8 0 = .ok (.aload_n 0, 1) := by decide +kernel
theorem dJx4a65c_init_da8c8_1 : decode cJx4a65c_init_da8c8 1 = .ok (.invokespecial 1, 3) := by decide +kernel
theorem dJx4a65c_init_da8c8_4 : decode cJx4a65c_init_da8c8 4 = .ok (.aload_n 0, 1) := by decide +kernel
theorem dJx4a65c_init_da8c8_5 : decode cJx4a65c_init_da8c8 5 = .ok (.getstatic 39, 3) := by decide +kernel
theorem dJx4a65c_init_da8c8_8 : decode cJx4a65c_init_da8c8 8 = .ok (.putfield 9, 3) := by decide +kernel
theorem dJx4a65c_init_da8c8_11 : decode cJx4a65c_init_da8c8 11 = .ok (.return_, 1) := by decide +kernel
set_option maxRecDepth 20000 in
theorem ggJx4a65c_grow_92f84_J8_newLength_cabcc : GoodIn wsJx4a65c_grow_92f84 wsJ8_newLength_cabcc := goodIn_r _ [11, 12, 4, 5, 6, 13, 14, 15, 10, 16] (by decide +kernel) (by decide +kernel)
set_option maxRecDepth 20000 in
theorem gJx4a65c_grow_92f84_J8_newLength_cabcc : GoodIn wsJx4a65c_grow_92f84 (va_wsS RJx4a65c 73 yJ8_newLength_cabcc wsJ8_newLength_cabcc) := goodIn_app (goodIn_of _ (by decide +kernel)) ggJx4a65c_grow_92f84_J8_newLength_cabcc
set_option maxRecDepth 20000 in
theorem ggJx4a65c_grow_92f84_J7_copyOf_1904c : GoodIn wsJx4a65c_grow_92f84 wsJ7_copyOf_1904c := goodIn_r _ [20, 21, 22, 23, 24, 25, 26, 19, 27, 28, 29, 30, 31, 5, 32, 33, 34, 35, 36] (by decide +kernel) (by decide +kernel)
set_option maxRecDepth 20000 in
theorem gJx4a65c_grow_92f84_J7_copyOf_1904c : GoodIn wsJx4a65c_grow_92f84 (va_wsS RJx4a65c 66 yJ7_copyOf_1904c wsJ7_copyOf_1904c) := goodIn_app (goodIn_of _ (by decide +kernel)) ggJx4a65c_grow_92f84_J7_copyOf_1904c
theorem dJx4a65c_grow_92f84_0 : decode cJx4a65c_grow_92f84 0 = .ok (.aload_n 0, 1) := by decide +kernel
theorem dJx4a65c_grow_92f84_1 : decode cJx4a65c_grow_92f84 1 = .ok (.getfield 9, 3) := by decide +kernel
theorem dJx4a65c_grow_92f84_4 : decode cJx4a65c_grow_92f84 4 = .ok (.arraylength, 1) := by decide +kernel
theorem dJx4a65c_grow_92f84_5 : decode cJx4a65c_grow_92f84 5 = .ok (.istore_n 2, 1) := by decide +kernel
theorem dJx4a65c_grow_92f84_6 : decode cJx4a65c_grow_92f84 6 = .ok (.iload_n 2, 1) := by decide +kernel
theorem dJx4a65c_grow_92f84_7 : decode cJx4a65c_grow_92f84 7 = .ok (.ifCond .gt 13, 3) := by decide +kernel
theorem dJx4a65c_grow_92f84_10 : decode cJx4a65c_grow_92f84 10 = .ok (.aload_n 0, 1) := by decide +kernel
theorem dJx4a65c_grow_92f84_11 : decode cJx4a65c_grow_92f84 11 = .ok (.getfield 9, 3) := by decide +kernel
theorem dJx4a65c_grow_92f84_14 : decode cJx4a65c_grow_92f84 14 = .ok (.getstatic 39, 3) := by decide +kernel
theorem dJx4a65c_grow_92f84_17 : decode cJx4a65c_grow_92f84 17 = .ok (.if_acmp .eq 28, 3) := by decide +kernel
theorem dJx4a65c_grow_92f84_20 : decode cJx4a65c_grow_92f84 20 = .ok (.iload_n 2, 1) := by decide +kernel
theorem dJx4a65c_grow_92f84_21 : decode cJx4a65c_grow_92f84 21 = .ok (.iload_n 1, 1) := by decide +kernel
theorem dJx4a65c_grow_92f84_22 : decode cJx4a65c_grow_92f84 22 = .ok (.iload_n 2, 1) := by decide +kernel
theorem dJx4a65c_grow_92f84_23 : decode cJx4a65c_grow_92f84 23 = .ok (.isub, 1) := by decide +kernel
theorem dJx4a65c_grow_92f84_24 : decode cJx4a65c_grow_92f84 24 = .ok (.iload_n 2, 1) := by decide +kernel
theorem dJx4a65c_grow_92f84_25 : decode cJx4a65c_grow_92f84 25 = .ok (.iconst 1, 1) := by decide +kernel
theorem dJx4a65c_grow_92f84_26 : decode cJx4a65c_grow_92f84 26 = .ok (.ishr, 1) := by decide +kernel
theorem dJx4a65c_grow_92f84_27 : decode cJx4a65c_grow_92f84 27 = .ok (.invokestatic 73, 3) := by decide +kernel
theorem dJx4a65c_grow_92f84_30 : decode cJx4a65c_grow_92f84 30 = .ok (.istore_n 3, 1) := by decide +kernel
theorem dJx4a65c_grow_92f84_31 : decode cJx4a65c_grow_92f84 31 = .ok (.aload_n 0, 1) := by decide +kernel
theorem dJx4a65c_grow_92f84_32 : decode cJx4a65c_grow_92f84 32 = .ok (.aload_n 0, 1) := by decide +kernel
theorem dJx4a65c_grow_92f84_33 : decode cJx4a65c_grow_92f84 33 = .ok (.getfield 9, 3) := by decide +kernel
theorem dJx4a65c_grow_92f84_36 : decode cJx4a65c_grow_92f84 36 = .ok (.iload_n 3, 1) := by decide +kernel
theorem dJx4a65c_grow_92f84_37 : decode cJx4a65c_grow_92f84 37 = .ok (.invokestatic 66, 3) := by decide +kernel
theorem dJx4a65c_grow_92f84_40 : decode cJx4a65c_grow_92f84 40 = .ok (.dup_x1, 1) := by decide +kernel
theorem dJx4a65c_grow_92f84_41 : decode cJx4a65c_grow_92f84 41 = .ok (.putfield 9, 3) := by decide +kernel
theorem dJx4a65c_grow_92f84_44 : decode cJx4a65c_grow_92f84 44 = .ok (.areturn, 1) := by decide +kernel
theorem dJx4a65c_grow_92f84_45 : decode cJx4a65c_grow_92f84 45 = .ok (.aload_n 0, 1) := by decide +kernel
theorem dJx4a65c_grow_92f84_46 : decode cJx4a65c_grow_92f84 46 = .ok (.bipush 10, 2) := by decide +kernel
theorem dJx4a65c_grow_92f84_48 : decode cJx4a65c_grow_92f84 48 = .ok (.iload_n 1, 1) := by decide +kernel
theorem dJx4a65c_grow_92f84_49 : decode cJx4a65c_grow_92f84 49 = .ok (.invokestatic 79, 3) := by decide +kernel
theorem dJx4a65c_grow_92f84_52 : decode cJx4a65c_grow_92f84 52 = .ok (.anewarray 7, 3) := by decide +kernel
theorem dJx4a65c_grow_92f84_55 : decode cJx4a65c_grow_92f84 55 = .ok (.dup_x1, 1) := by decide +kernel
theorem dJx4a65c_grow_92f84_56 : decode cJx4a65c_grow_92f84 56 = .ok (.putfield 9, 3) := by decide +kernel
theorem dJx4a65c_grow_92f84_59 : decode cJx4a65c_grow_92f84 59 = .ok (.areturn, 1) := by decide +kernel
set_option maxRecDepth 20000 in
theorem ggJx4a65c_grow_d5877_Jx4a65c_grow_92f84 : GoodIn wsJx4a65c_grow_d5877 wsJx4a65c_grow_92f84 := goodIn_r _ [6, 7, 8, 9, 10, 11, 12, 13, 14, 15, 16, 17, 18, 19, 20, 21, 22, 23, 24, 25, 26, 27, 28, 29, 30, 31, 32, 33, 34, 35, 36, 37, 38, 39, 40, 41, 42, 43, 44, 45] (by decide +kernel) (by decide +kernel)
set_option maxRecDepth 20000 in
theorem gJx4a65c_grow_d5877_Jx4a65c_grow_92f84 : GoodIn wsJx4a65c_grow_d5877 (wsV RJx4a65c 69 RJx4a65c yJx4a65c_grow_92f84 wsJx4a65c_grow_92f84) := goodIn_app (goodIn_of _ (by decide +kernel)) ggJx4a65c_grow_d5877_Jx4a65c_grow_92f84
theorem dJx4a65c_grow_d5877_0 : decode cJx4a65c_grow_d5877 0 = .ok (.aload_n 0, 1) := by decide +kernel
theorem dJx4a65c_grow_d5877_1 : decode cJx4a65c_grow_d5877 1 = .ok (.aload_n 0, 1) := by decide +kernel
theorem dJx4a65c_grow_d5877_2 : decode cJx4a65c_grow_d5877 2 = .ok (.getfield 48, 3) := by decide +kernel
theorem dJx4a65c_grow_d5877_5 : decode cJx4a65c_grow_d5877 5 = .ok (.iconst 1, 1) := by decide +kernel
theorem dJx4a65c_grow_d5877_6 : decode cJx4a65c_grow_d5877 6 = .ok (.iadd, 1) := by decide +kernel
theorem dJx4a65c_grow_d5877_7 : decode cJx4a65c_grow_d5877 7 = .ok (.invokevirtual 69, 3) := by decide +kernel
theorem dJx4a65c_grow_d5877_10 : decode cJx4a65c_grow_d5877 10 = .ok (.areturn, 1) := by decide +kernel
theorem dJx4a65c_size_8abf5_0 : decode cJx4a65c_size_8abf5 0 = .ok (.aload_n 0, 1) := by decide +kernel
theorem dJx4a65c_size_8abf5_1 : decode cJx4a65c_size_8abf5 1 = .ok (.getfield 48, 3) := by decide +kernel
theorem dJx4a65c_size_8abf5_4 : decode cJx4a65c_size_8abf5 4 = .ok (.ireturn, 1) := by decide +kernel
theorem dJx4a65c_elementData_915e3_0 : decode cJx4a65c_elementData_915e3 0 = .ok (.aload_n 0, 1) := by decide +kernel
theorem dJx4a65c_elementData_915e3_1 : decode cJx4a65c_elementData_915e3 1 = .ok (.getfield 9, 3) := by decide +kernel
theorem dJx4a65c_elementData_915e3_4 : decode cJx4a65c_elementData_915e3 4 = .ok (.iload_n 1, 1) := by decide +kernel
theorem dJx4a65c_elementData_915e3_5 : decode cJx4a65c_elementData_915e3 5 = .ok (.aaload, 1) := by decide +kernel
theorem dJx4a65c_elementData_915e3_6 : decode cJx4a65c_elementData_915e3 6 = .ok (.areturn, 1) := by decide +kernel
set_option maxRecDepth 20000 in
theorem ggJx4a65c_get_915e3_J15_checkIndex_7cf53 : GoodIn wsJx4a65c_get_915e3 wsJ15_checkIndex_7cf53 := goodIn_r _ [5, 6, 7, 8, 9] (by decide +kernel) (by decide +kernel)
set_option maxRecDepth 20000 in
theorem gJx4a65c_get_915e3_J15_checkIndex_7cf53 : GoodIn wsJx4a65c_get_915e3 (va_wsS RJx4a65c 118 yJ15_checkIndex_7cf53 wsJ15_checkIndex_7cf53) := goodIn_app (goodIn_of _ (by decide +kernel)) ggJx4a65c_get_915e3_J15_checkIndex_7cf53
set_option maxRecDepth 20000 in
theorem ggJx4a65c_get_915e3_Jx4a65c_elementData_915e3 : GoodIn wsJx4a65c_get_915e3 wsJx4a65c_elementData_915e3 := goodIn_r _ [14, 15, 16, 17, 18] (by decide +kernel) (by decide +kernel)
set_option maxRecDepth 20000 in
theorem gJx4a65c_get_915e3_Jx4a65c_elementData_915e3 : GoodIn wsJx4a65c_get_915e3 (wsV RJx4a65c 123 RJx4a65c yJx4a65c_elementData_915e3 wsJx4a65c_elementData_915e3) := goodIn_app (goodIn_of _ (by decide +kernel)) ggJx4a65c_get_915e3_Jx4a65c_elementData_915e3
theorem dJx4a65c_get_915e3_0 : decode cJx4a65c_get_915e3 0 = .ok (.iload_n 1, 1) := by decide +kernel
theorem dJx4a65c_get_915e3_1 : decode cJx4a65c_get_915e3 1 = .ok (.aload_n 0, 1) := by decide +kernel
theorem dJx4a65c_get_915e3_2 : decode cJx4a65c_get_915e3 2 = .ok (.getfield 48, 3) := by decide +kernel
theorem dJx4a65c_get_915e3_5 : decode cJx4a65c_get_915e3 5 = .ok (.invokestatic 118, 3) := by decide +kernel
theorem dJx4a65c_get_915e3_8 : decode cJx4a65c_get_915e3 8 = .ok (.pop, 1) := by decide +kernel
theorem dJx4a65c_get_915e3_9 : decode cJx4a65c_get_915e3 9 = .ok (.aload_n 0, 1) := by decide +kernel
theorem dJx4a65c_get_915e3_10 : decode cJx4a65c_get_915e3 10 = .ok (.iload_n 1, 1) := by decide +kernel
theorem dJx4a65c_get_915e3_11 : decode cJx4a65c_get_915e3 11 = .ok (.invokevirtual 123, 3) := by decide +kernel
theorem dJx4a65c_get_915e3_14 : decode cJx4a65c_get_915e3 14 = .ok (.areturn, 1) := by decide +kernel
set_option maxRecDepth 20000 in
theorem ggJx4a65c_add_72be8_Jx4a65c_grow_d5877 : GoodIn wsJx4a65c_add_72be8 wsJx4a65c_grow_d5877 := goodIn_r _ [6, 1, 7, 8, 9, 5, 10, 11, 12, 13, 14, 15, 16, 17, 18, 19, 20, 21, 22, 23, 24, 25, 26, 27, 28, 29, 30, 31, 32, 33, 34, 35, 36, 37, 38, 39, 40, 41, 42, 43, 44, 45, 46, 47, 48, 49] (by decide +kernel) (by decide +kernel)
set_option maxRecDepth 20000 in
theorem gJx4a65c_add_72be8_Jx4a65c_grow_d5877 : GoodIn wsJx4a65c_add_72be8 (wsV RJx4a65c 129 RJx4a65c yJx4a65c_grow_d5877 wsJx4a65c_grow_d5877) := goodIn_app (goodIn_of _ (by decide +kernel)) ggJx4a65c_add_72be8_Jx4a65c_grow_d5877
theorem dJx4a65c_add_72be8_0 : decode cJx4a65c_add_72be8 0 = .ok (.iload_n 3, 1) := by decide +kernel
theorem dJx4a65c_add_72be8_1 : decode cJx4a65c_add_72be8 1 = .ok (.aload_n 2, 1) := by decide +kernel
theorem dJx4a65c_add_72be8_2 : decode cJx4a65c_add_72be8 2 = .ok (.arraylength, 1) := by decide +kernel
theorem dJx4a65c_add_72be8_3 : decode cJx4a65c_add_72be8 3 = .ok (.if_icmp .ne 8, 3) := by decide +kernel
theorem dJx4a65c_add_72be8_6 : decode cJx4a65c_add_72be8 6 = .ok (.aload_n 0, 1) := by decide +kernel
theorem dJx4a65c_add_72be8_7 : decode cJx4a65c_add_72be8 7 = .ok (.invokevirtual 129, 3) := by decide +kernel
theorem dJx4a65c_add_72be8_10 : decode cJx4a65c_add_72be8 10 = .ok (.astore_n 2, 1) := by decide +kernel
theorem dJx4a65c_add_72be8_11 : decode cJx4a65c_add_72be8 11 = .ok (.aload_n 2, 1) := by decide +kernel
theorem dJx4a65c_add_72be8_12 : decode cJx4a65c_add_72be8 12 = .ok (.iload_n 3, 1) := by decide +kernel
theorem dJx4a65c_add_72be8_13 : decode cJx4a65c_add_72be8 13 = .ok (.aload_n 1, 1) := by decide +kernel
theorem dJx4a65c_add_72be8_14 : decode cJx4a65c_add_72be8 14 = .ok (.aastore, 1) := by decide +kernel
theorem dJx4a65c_add_72be8_15 : decode cJx4a65c_add_72be8 15 = .ok (.aload_n 0, 1) := by decide +kernel
theorem dJx4a65c_add_72be8_16 : decode cJx4a65c_add_72be8 16 = .ok (.iload_n 3, 1) := by decide +kernel
theorem dJx4a65c_add_72be8_17 : decode cJx4a65c_add_72be8 17 = .ok (.iconst 1, 1) := by decide +kernel
theorem dJx4a65c_add_72be8_18 : decode cJx4a65c_add_72be8 18 = .ok (.iadd, 1) := by decide +kernel
theorem dJx4a65c_add_72be8_19 : decode cJx4a65c_add_72be8 19 = .ok (.putfield 48, 3) := by decide +kernel
theorem dJx4a65c_add_72be8_22 : decode cJx4a65c_add_72be8 22 = .ok (.return_, 1) := by decide +kernel
set_option maxRecDepth 20000 in
theorem ggJx4a65c_add_9ea2d_Jx4a65c_add_72be8 : GoodIn wsJx4a65c_add_9ea2d wsJx4a65c_add_72be8 := goodIn_r _ [9, 4, 10, 11, 12, 8, 13, 14, 15, 16, 17, 3, 18, 19, 20, 21, 22, 23, 24, 25, 26, 27, 28, 29, 30, 31, 32, 33, 34, 35, 36, 37, 38, 39, 40, 41, 42, 43, 44, 45, 46, 47, 48, 49, 50, 51, 52, 53, 54, 55] (by decide +kernel) (by decide +kernel)
set_option maxRecDepth 20000 in
theorem gJx4a65c_add_9ea2d_Jx4a65c_add_72be8 : GoodIn wsJx4a65c_add_9ea2d (wsV RJx4a65c 131 RJx4a65c yJx4a65c_add_72be8 wsJx4a65c_add_72be8) := goodIn_app (goodIn_of _ (by decide +kernel)) ggJx4a65c_add_9ea2d_Jx4a65c_add_72be8
theorem dJx4a65c_add_9ea2d_0 : decode cJx4a65c_add_9ea2d 0 = .ok (.aload_n 0, 1) := by decide +kernel
theorem dJx4a65c_add_9ea2d_1 : decode cJx4a65c_add_9ea2d 1 = .ok (.dup, 1) := by decide +kernel
theorem dJx4a65c_add_9ea2d_2 : decode cJx4a65c_add_9ea2d 2 = .ok (.getfield 63, 3) := by decide +kernel
theorem dJx4a65c_add_9ea2d_5 : decode cJx4a65c_add_9ea2d 5 = .ok (.iconst 1, 1) := by decide +kernel
theorem dJx4a65c_add_9ea2d_6 : decode cJx4a65c_add_9ea2d 6 = .ok (.iadd, 1) := by decide +kernel
theorem dJx4a65c_add_9ea2d_7 : decode cJx4a65c_add_9ea2d 7 = .ok (.putfield 63, 3) := by decide +kernel
theorem dJx4a65c_add_9ea2d_10 : decode cJx4a65c_add_9ea2d 10 = .ok (.aload_n 0, 1) := by decide +kernel
theorem dJx4a65c_add_9ea2d_11 : decode cJx4a65c_add_9ea2d 11 = .ok (.aload_n 1, 1) := by decide +kernel
theorem dJx4a65c_add_9ea2d_12 : decode cJx4a65c_add_9ea2d 12 = .ok (.aload_n 0, 1) := by decide +kernel
theorem dJx4a65c_add_9ea2d_13 : decode cJx4a65c_add_9ea2d 13 = .ok (.getfield 9, 3) := by decide +kernel
theorem dJx4a65c_add_9ea2d_16 : decode cJx4a65c_add_9ea2d 16 = .ok (.aload_n 0, 1) := by decide +kernel
theorem dJx4a65c_add_9ea2d_17 : decode cJx4a65c_add_9ea2d 17 = .ok (.getfield 48, 3) := by decide +kernel
theorem dJx4a65c_add_9ea2d_20 : decode cJx4a65c_add_9ea2d 20 = .ok (.invokevirtual 131, 3) := by decide +kernel
theorem dJx4a65c_add_9ea2d_23 : decode cJx4a65c_add_9ea2d 23 = .ok (.iconst 1, 1) := by decide +kernel
theorem dJx4a65c_add_9ea2d_24 : decode cJx4a65c_add_9ea2d 24 = .ok (.ireturn, 1) := by decide +kernel
set_option maxRecDepth 20000 in
theorem ggJ7_copyOf_1904c_J7_copyOf_6403c : GoodIn wsJ7_copyOf_1904c wsJ7_copyOf_6403c := goodIn_r _ [8, 9, 10, 11, 12, 13, 14, 15, 16, 17, 18] (by decide +kernel) (by decide +kernel)
set_option maxRecDepth 20000 in
theorem gJ7_copyOf_1904c_J7_copyOf_6403c : GoodIn wsJ7_copyOf_1904c (va_wsS RJ7 300 yJ7_copyOf_6403c wsJ7_copyOf_6403c) := goodIn_app (goodIn_of _ (by decide +kernel)) ggJ7_copyOf_1904c_J7_copyOf_6403c
theorem dJ7_copyOf_1904c_0 : decode cJ7_copyOf_1904c 0 = .ok (.aload_n 0, 1) := by decide +kernel
theorem dJ7_copyOf_1904c_1 : decode cJ7_copyOf_1904c 1 = .ok (.iload_n 1, 1) := by decide +kernel
theorem dJ7_copyOf_1904c_2 : decode cJ7_copyOf_1904c 2 = .ok (.aload_n 0, 1) := by decide +kernel
theorem dJ7_copyOf_1904c_3 : decode cJ7_copyOf_1904c 3 = .ok (.invokevirtual 86, 3) := by decide +kernel
theorem dJ7_copyOf_1904c_6 : decode cJ7_copyOf_1904c 6 = .ok (.invokestatic 300, 3) := by decide +kernel
theorem dJ7_copyOf_1904c_9 : decode cJ7_copyOf_1904c 9 = .ok (.areturn, 1) := by decide +kernel
theorem dJ7_copyOf_6403c_0 : decode cJ7_copyOf_6403c 0 = .ok (.aload_n 2, 1) := by decide +kernel
theorem dJ7_copyOf_6403c_1 : decode cJ7_copyOf_6403c 1 = .ok (.ldc 110, 2) := by decide +kernel
theorem dJ7_copyOf_6403c_3 : decode cJ7_copyOf_6403c 3 = .ok (.if_acmp .ne 10, 3) := by decide +kernel
theorem dJ7_copyOf_6403c_6 : decode cJ7_copyOf_6403c 6 = .ok (.iload_n 1, 1) := by decide +kernel
theorem dJ7_copyOf_6403c_7 : decode cJ7_copyOf_6403c 7 = .ok (.anewarray 2, 3) := by decide +kernel
theorem dJ7_copyOf_6403c_10 : decode cJ7_copyOf_6403c 10 = .ok (.goto 14, 3) := by decide +kernel
theorem dJ7_copyOf_6403c_13 : decode cJ7_copyOf_6403c 13 = .ok (.aload_n 2, 1) := by decide +kernel
theorem dJ7_copyOf_6403c_14 : decode cJ7_copyOf_6403c 14 = .ok (.invokevirtual 90, 3) := by decide +kernel
theorem dJ7_copyOf_6403c_17 : decode cJ7_copyOf_6403c 17 = .ok (.iload_n 1, 1) := by decide +kernel
theorem dJ7_copyOf_6403c_18 : decode cJ7_copyOf_6403c 18 = .ok (.invokestatic 95, 3) := by decide +kernel
theorem dJ7_copyOf_6403c_21 : decode cJ7_copyOf_6403c 21 = .ok (.checkcast 110, 3) := by decide +kernel
theorem dJ7_copyOf_6403c_24 : decode cJ7_copyOf_6403c 24 = .ok (.astore_n 3, 1) := by decide +kernel
theorem dJ7_copyOf_6403c_25 : decode cJ7_copyOf_6403c 25 = .ok (.aload_n 0, 1) := by decide +kernel
theorem dJ7_copyOf_6403c_26 : decode cJ7_copyOf_6403c 26 = .ok (.iconst 0, 1) := by decide +kernel
theorem dJ7_copyOf_6403c_27 : decode cJ7_copyOf_6403c 27 = .ok (.aload_n 3, 1) := by decide +kernel
theorem dJ7_copyOf_6403c_28 : decode cJ7_copyOf_6403c 28 = .ok (.iconst 0, 1) := by decide +kernel
theorem dJ7_copyOf_6403c_29 : decode cJ7_copyOf_6403c 29 = .ok (.aload_n 0, 1) := by decide +kernel
theorem dJ7_copyOf_6403c_30 : decode cJ7_copyOf_6403c 30 = .ok (.arraylength, 1) := by decide +kernel
theorem dJ7_copyOf_6403c_31 : decode cJ7_copyOf_6403c 31 = .ok (.iload_n 1, 1) := by decide +kernel
theorem dJ7_copyOf_6403c_32 : decode cJ7_copyOf_6403c 32 = .ok (.invokestatic 304, 3) := by decide +kernel
theorem dJ7_copyOf_6403c_35 : decode cJ7_copyOf_6403c 35 = .ok (.invokestatic 150, 3) := by decide +kernel
theorem dJ7_copyOf_6403c_38 : decode cJ7_copyOf_6403c 38 = .ok (.aload_n 3, 1) := by decide +kernel
theorem dJ7_copyOf_6403c_39 : decode cJ7_copyOf_6403c 39 = .ok (.areturn, 1) := by decide +kernel
set_option maxRecDepth 20000 in
theorem ggJ15_checkIndex_7cf53_J3_checkIndex_8e157 : GoodIn wsJ15_checkIndex_7cf53 wsJ3_checkIndex_8e157 := goodIn_r _ [4] (by decide +kernel) (by decide +kernel)
set_option maxRecDepth 20000 in
theorem gJ15_checkIndex_7cf53_J3_checkIndex_8e157 : GoodIn wsJ15_checkIndex_7cf53 (va_wsS RJ15 105 yJ3_checkIndex_8e157 wsJ3_checkIndex_8e157) := goodIn_app (goodIn_of _ (by decide +kernel)) ggJ15_checkIndex_7cf53_J3_checkIndex_8e157
theorem dJ15_checkIndex_7cf53_0 : decode cJ15_checkIndex_7cf53 0 = .ok (.iload_n 0, 1) := by decide +kernel
theorem dJ15_checkIndex_7cf53_1 : decode cJ15_checkIndex_7cf53 1 = .ok (.iload_n 1, 1) := by decide +kernel
theorem dJ15_checkIndex_7cf53_2 : decode cJ15_checkIndex_7cf53 2 = .ok (.aconst_null, 1) := by decide +kernel
theorem dJ15_checkIndex_7cf53_3 : decode cJ15_checkIndex_7cf53 3 = .ok (.invokestatic 105, 3) := by decide +kernel
theorem dJ15_checkIndex_7cf53_6 : decode cJ15_checkIndex_7cf53 6 = .ok (.ireturn, 1) := by decide +kernel
set_option maxRecDepth 20000 in
theorem ggJ8_newLength_cabcc_J8_hugeLength_7cf53 : GoodIn wsJ8_newLength_cabcc wsJ8_hugeLength_7cf53 := goodIn_r _ [9, 5] (by decide +kernel) (by decide +kernel)
set_option maxRecDepth 20000 in
theorem gJ8_newLength_cabcc_J8_hugeLength_7cf53 : GoodIn wsJ8_newLength_cabcc (va_wsS RJ8 201 yJ8_hugeLength_7cf53 wsJ8_hugeLength_7cf53) := goodIn_app (goodIn_of _ (by decide +kernel)) ggJ8_newLength_cabcc_J8_hugeLength_7cf53
theorem dJ8_newLength_cabcc_0 : decode cJ8_newLength_cabcc 0 = .ok (.iload_n 0, 1) := by decide +kernel
theorem dJ8_newLength_cabcc_1 : decode cJ8_newLength_cabcc 1 = .ok (.iload_n 1, 1) := by decide +kernel
theorem dJ8_newLength_cabcc_2 : decode cJ8_newLength_cabcc 2 = .ok (.iload_n 2, 1) := by decide +kernel
theorem dJ8_newLength_cabcc_3 : decode cJ8_newLength_cabcc 3 = .ok (.invokestatic 194, 3) := by decide +kernel
theorem dJ8_newLength_cabcc_6 : decode cJ8_newLength_cabcc 6 = .ok (.iadd, 1) := by decide +kernel
theorem dJ8_newLength_cabcc_7 : decode cJ8_newLength_cabcc 7 = .ok (.istore_n 3, 1) := by decide +kernel
theorem dJ8_newLength_cabcc_8 : decode cJ8_newLength_cabcc 8 = .ok (.iconst 0, 1) := by decide +kernel
theorem dJ8_newLength_cabcc_9 : decode cJ8_newLength_cabcc 9 = .ok (.iload_n 3, 1) := by decide +kernel
theorem dJ8_newLength_cabcc_10 : decode cJ8_newLength_cabcc 10 = .ok (.if_icmp .ge 11, 3) := by decide +kernel
theorem dJ8_newLength_cabcc_13 : decode cJ8_newLength_cabcc 13 = .ok (.iload_n 3, 1) := by decide +kernel
theorem dJ8_newLength_cabcc_14 : decode cJ8_newLength_cabcc 14 = .ok (.ldc 200, 2) := by decide +kernel
theorem dJ8_newLength_cabcc_16 : decode cJ8_newLength_cabcc 16 = .ok (.if_icmp .gt 5, 3) := by decide +kernel
theorem dJ8_newLength_cabcc_19 : decode cJ8_newLength_cabcc 19 = .ok (.iload_n 3, 1) := by decide +kernel
theorem dJ8_newLength_cabcc_20 : decode cJ8_newLength_cabcc 20 = .ok (.ireturn, 1) := by decide +kernel
theorem dJ8_newLength_cabcc_21 : decode cJ8_newLength_cabcc 21 = .ok (.iload_n 0, 1) := by decide +kernel
theorem dJ8_newLength_cabcc_22 : decode cJ8_newLength_cabcc 22 = .ok (.iload_n 1, 1) := by decide +kernel
theorem dJ8_newLength_cabcc_23 : decode cJ8_newLength_cabcc 23 = .ok (.invokestatic 201, 3) := by decide +kernel
theorem dJ8_newLength_cabcc_26 : decode cJ8_newLength_cabcc 26 = .ok (.ireturn, 1) := by decide +kernel
theorem dJ8_hugeLength_7cf53_0 : decode cJ8_hugeLength_7cf53 0 = .ok (.iload_n 0, 1) := by decide +kernel
theorem dJ8_hugeLength_7cf53_1 : decode cJ8_hugeLength_7cf53 1 = .ok (.iload_n 1, 1) := by decide +kernel
theorem dJ8_hugeLength_7cf53_2 : decode cJ8_hugeLength_7cf53 2 = .ok (.iadd, 1) := by decide +kernel
theorem dJ8_hugeLength_7cf53_3 : decode cJ8_hugeLength_7cf53 3 = .ok (.istore_n 2, 1) := by decide +kernel
theorem dJ8_hugeLength_7cf53_4 : decode cJ8_hugeLength_7cf53 4 = .ok (.iload_n 2, 1) := by decide +kernel
theorem dJ8_hugeLength_7cf53_5 : decode cJ8_hugeLength_7cf53 5 = .ok (.ifCond .ge 44, 3) := by decide +kernel
theorem dJ8_hugeLength_7cf53_8 : decode cJ8_hugeLength_7cf53 8 = .ok (.new 204, 3) := by decide +kernel
theorem dJ8_hugeLength_7cf53_11 : decode cJ8_hugeLength_7cf53 11 = .ok (.dup, 1) := by decide +kernel
theorem dJ8_hugeLength_7cf53_12 : decode cJ8_hugeLength_7cf53 12 = .ok (.new 89, 3) := by decide +kernel
theorem dJ8_hugeLength_7cf53_15 : decode cJ8_hugeLength_7cf53 15 = .ok (.dup, 1) := by decide +kernel
theorem dJ8_hugeLength_7cf53_16 : decode cJ8_hugeLength_7cf53 16 = .ok (.invokespecial 91, 3) := by decide +kernel
theorem dJ8_hugeLength_7cf53_19 : decode cJ8_hugeLength_7cf53 19 = .ok (.ldc 206, 2) := by decide +kernel
theorem dJ8_hugeLength_7cf53_21 : decode cJ8_hugeLength_7cf53 21 = .ok (.invokevirtual 94, 3) := by decide +kernel
theorem dJ8_hugeLength_7cf53_24 : decode cJ8_hugeLength_7cf53 24 = .ok (.iload_n 0, 1) := by decide +kernel
theorem dJ8_hugeLength_7cf53_25 : decode cJ8_hugeLength_7cf53 25 = .ok (.invokevirtual 98, 3) := by decide +kernel
theorem dJ8_hugeLength_7cf53_28 : decode cJ8_hugeLength_7cf53 28 = .ok (.ldc 208, 2) := by decide +kernel
theorem dJ8_hugeLength_7cf53_30 : decode cJ8_hugeLength_7cf53 30 = .ok (.invokevirtual 94, 3) := by decide +kernel
theorem dJ8_hugeLength_7cf53_33 : decode cJ8_hugeLength_7cf53 33 = .ok (.iload_n 1, 1) := by decide +kernel
theorem dJ8_hugeLength_7cf53_34 : decode cJ8_hugeLength_7cf53 34 = .ok (.invokevirtual 98, 3) := by decide +kernel
theorem dJ8_hugeLength_7cf53_37 : decode cJ8_hugeLength_7cf53 37 = .ok (.ldc 210, 2) := by decide +kernel
theorem dJ8_hugeLength_7cf53_39 : decode cJ8_hugeLength_7cf53 39 = .ok (.invokevirtual 94, 3) := by decide +kernel
theorem dJ8_hugeLength_7cf53_42 : decode cJ8_hugeLength_7cf53 42 = .ok (.invokevirtual 101, 3) := by decide +kernel
theorem dJ8_hugeLength_7cf53_45 : decode cJ8_hugeLength_7cf53 45 = .ok (.invokespecial 212, 3) := by decide +kernel
theorem dJ8_hugeLength_7cf53_48 : decode cJ8_hugeLength_7cf53 48 = .ok (.athrow, 1) := by decide +kernel
theorem dJ8_hugeLength_7cf53_49 : decode cJ8_hugeLength_7cf53 49 = .ok (.iload_n 2, 1) := by decide +kernel
theorem dJ8_hugeLength_7cf53_50 : decode cJ8_hugeLength_7cf53 50 = .ok (.ldc 200, 2) := by decide +kernel
theorem dJ8_hugeLength_7cf53_52 : decode cJ8_hugeLength_7cf53 52 = .ok (.if_icmp .gt 6, 3) := by decide +kernel
theorem dJ8_hugeLength_7cf53_55 : decode cJ8_hugeLength_7cf53 55 = .ok (.ldc 200, 2) := by decide +kernel
theorem dJ8_hugeLength_7cf53_57 : decode cJ8_hugeLength_7cf53 57 = .ok (.ireturn, 1) := by decide +kernel
theorem dJ8_hugeLength_7cf53_58 : decode cJ8_hugeLength_7cf53 58 = .ok (.iload_n 2, 1) := by decide +kernel
theorem dJ8_hugeLength_7cf53_59 : decode cJ8_hugeLength_7cf53 59 = .ok (.ireturn, 1) := by decide +kernel
theorem dJ3_checkIndex_8e157_0 : decode cJ3_checkIndex_8e157 0 = .ok (.iload_n 0, 1) := by decide +kernel
theorem dJ3_checkIndex_8e157_1 : decode cJ3_checkIndex_8e157 1 = .ok (.ifCond .lt 8, 3) := by decide +kernel
theorem dJ3_checkIndex_8e157_4 : decode cJ3_checkIndex_8e157 4 = .ok (.iload_n 0, 1) := by decide +kernel
theorem dJ3_checkIndex_8e157_5 : decode cJ3_checkIndex_8e157 5 = .ok (.iload_n 1, 1) := by decide +kernel
theorem dJ3_checkIndex_8e157_6 : decode cJ3_checkIndex_8e157 6 = .ok (.if_icmp .lt 10, 3) := by decide +kernel
theorem dJ3_checkIndex_8e157_9 : decode cJ3_checkIndex_8e157 9 = .ok (.aload_n 2, 1) := by decide +kernel
theorem dJ3_checkIndex_8e157_10 : decode cJ3_checkIndex_8e157 10 = .ok (.iload_n 0, 1) := by decide +kernel
theorem dJ3_checkIndex_8e157_11 : decode cJ3_checkIndex_8e157 11 = .ok (.iload_n 1, 1) := by decide +kernel
theorem dJ3_checkIndex_8e157_12 : decode cJ3_checkIndex_8e157 12 = .ok (.invokestatic 95, 3) := by decide +kernel
theorem dJ3_checkIndex_8e157_15 : decode cJ3_checkIndex_8e157 15 = .ok (.athrow, 1) := by decide +kernel
theorem dJ3_checkIndex_8e157_16 : decode cJ3_checkIndex_8e157 16 = .ok (.iload_n 0, 1) := by decide +kernel
theorem dJ3_checkIndex_8e157_17 : decode cJ3_checkIndex_8e157 17 = .ok (.ireturn, 1) := by decide +kernel
