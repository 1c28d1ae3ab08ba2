theorem dL_dice_0 : decode cL_dice 0 = .ok (.iload_n 1, 1) := by decide +kernel
theorem dL_dice_1 : decode cL_dice 1 = .ok (.aload_n 0, 1) := by decide +kernel
theorem dL_dice_2 : decode cL_dice 2 = .ok (.arraylength, 1) := by decide +kernel
theorem dL_dice_3 : decode cL_dice 3 = .ok (.if_icmp .ge 9, 3) := by decide +kernel
theorem dL_dice_6 : decode cL_dice 6 = .ok (.aload_n 0, 1) := by decide +kernel
theorem dL_dice_7 : decode cL_dice 7 = .ok (.iload_n 1, 1) := by decide +kernel
theorem dL_dice_8 : decode cL_dice 8 = .ok (.iaload, 1) := by decide +kernel
theorem dL_dice_9 : decode cL_dice 9 = .ok (.goto 22, 3) := by decide +kernel
theorem dL_dice_12 : decode cL_dice 12 = .ok (.ldc 7, 2) := by decide +kernel
theorem dL_dice_14 : decode cL_dice 14 = .ok (.iload_n 1, 1) := by decide +kernel
theorem dL_dice_15 : decode cL_dice 15 = .ok (.sipush 191, 3) := by decide +kernel
theorem dL_dice_18 : decode cL_dice 18 = .ok (.iadd, 1) := by decide +kernel
theorem dL_dice_19 : decode cL_dice 19 = .ok (.imul, 1) := by decide +kernel
theorem dL_dice_20 : decode cL_dice 20 = .ok (.sipush 605, 3) := by decide +kernel
theorem dL_dice_23 : decode cL_dice 23 = .ok (.iload_n 1, 1) := by decide +kernel
theorem dL_dice_24 : decode cL_dice 24 = .ok (.imul, 1) := by decide +kernel
theorem dL_dice_25 : decode cL_dice 25 = .ok (.iload_n 1, 1) := by decide +kernel
theorem dL_dice_26 : decode cL_dice 26 = .ok (.imul, 1) := by decide +kernel
theorem dL_dice_27 : decode cL_dice 27 = .ok (.iadd, 1) := by decide +kernel
theorem dL_dice_28 : decode cL_dice 28 = .ok (.bipush 97, 2) := by decide +kernel
theorem dL_dice_30 : decode cL_dice 30 = .ok (.iadd, 1) := by decide +kernel
theorem dL_dice_31 : decode cL_dice 31 = .ok (.ldc 8, 2) := by decide +kernel
theorem dL_dice_33 : decode cL_dice 33 = .ok (.iand, 1) := by decide +kernel
theorem dL_dice_34 : decode cL_dice 34 = .ok (.ireturn, 1) := by decide +kernel
set_option maxRecDepth 20000 in
theorem ggL_act_X2_add : GoodIn wsL_act wsX2_add := goodIn_ca (goodIn_ca (goodIn_r _ [8, 9, 10, 11, 12, 13, 14, 15, 16, 17, 18, 7, 19, 20, 21, 22, 23, 24, 25, 26, 279, 280, 281, 282, 283, 284, 285, 286, 287, 288, 289, 290, 291, 292, 293, 294, 295, 296, 297, 298] (by decide +kernel) (by decide +kernel)) (goodIn_sub (fun _ h => List.mem_cons_of_mem _ (List.mem_append_left _ (List.mem_append_left _ (List.mem_append_right _ h)))) (by decide +kernel))) (goodIn_sub (fun _ h => List.mem_cons_of_mem _ (List.mem_append_left _ (List.mem_append_right _ h))) (by decide +kernel))
set_option maxRecDepth 20000 in
theorem gL_act_X2_add : GoodIn wsL_act (wsV RL 9 RX2 yX2_add wsX2_add) := goodIn_app (goodIn_of _ (by decide +kernel)) ggL_act_X2_add
set_option maxRecDepth 20000 in
theorem ggL_act_X2_need : GoodIn wsL_act wsX2_need := goodIn_ca (goodIn_ca (goodIn_r _ [30, 9, 10, 31, 32, 33, 34, 7, 35, 36, 37, 11, 12, 38, 39, 40, 41, 42, 43, 44, 45, 46, 47, 48, 49, 50, 51, 52, 22, 23, 24, 25, 26, 286, 287, 288, 289, 290, 291, 292, 293, 294, 295, 296, 297, 298, 279, 280, 281, 282, 283, 284, 285] (by decide +kernel) (by decide +kernel)) (goodIn_sub (fun _ h => List.mem_cons_of_mem _ (List.mem_append_left _ (List.mem_append_left _ (List.mem_append_right _ h)))) (by decide +kernel))) (goodIn_sub (fun _ h => List.mem_cons_of_mem _ (List.mem_append_right _ h)) (by decide +kernel))
set_option maxRecDepth 20000 in
theorem gL_act_X2_need : GoodIn wsL_act (wsV RL 15 RX2 yX2_need wsX2_need) := goodIn_app (goodIn_of _ (by decide +kernel)) ggL_act_X2_need
set_option maxRecDepth 20000 in
theorem ggL_act_X2_wish : GoodIn wsL_act wsX2_wish := goodIn_ca (goodIn_ca (goodIn_ca (goodIn_r _ [56, 57, 58, 59, 60, 42, 61, 32, 33, 34, 7, 35, 36, 37, 11, 12, 16, 17, 18, 19, 20, 21, 62, 63, 64, 65, 22, 23, 24, 25, 9, 10, 26, 66, 67, 68, 69, 70, 71, 72, 73, 74, 75, 76, 77, 78, 79, 80, 81, 82, 83, 84, 85, 86, 87, 88, 89, 90, 91, 92, 93, 94, 95, 96, 97, 98, 99, 100, 101, 102, 103, 104, 105, 106, 107, 108, 109, 110, 111, 112, 113, 114, 115, 116, 117, 118, 119, 120, 121, 122, 123, 124, 125, 126, 127, 128, 129, 130, 131, 132, 133, 134, 135, 136, 137, 138, 139, 140, 141, 142, 143, 144, 145, 146, 147, 148, 149, 150, 151, 152, 153, 154, 155, 156, 157, 43, 44, 45, 46, 47, 48, 279, 280, 281, 282, 283, 284, 285, 299, 300, 301, 286, 287, 288, 289, 290, 291, 292, 293, 294, 295, 296, 297, 298, 302, 303, 304] (by decide +kernel) (by decide +kernel)) (goodIn_sub (fun _ h => List.mem_cons_of_mem _ (List.mem_append_right _ h)) (by decide +kernel))) (goodIn_sub (fun _ h => List.mem_cons_of_mem _ (List.mem_append_left _ (List.mem_append_right _ h))) (by decide +kernel))) (goodIn_sub (fun _ h => List.mem_cons_of_mem _ (List.mem_append_left _ (List.mem_append_left _ (List.mem_append_right _ h)))) (by decide +kernel))
set_option maxRecDepth 20000 in
theorem gL_act_X2_wish : GoodIn wsL_act (wsV RL 19 RX2 yX2_wish wsX2_wish) := goodIn_app (goodIn_of _ (by decide +kernel)) ggL_act_X2_wish
set_option maxRecDepth 20000 in
theorem ggL_act_X2_standIn : GoodIn wsL_act wsX2_standIn := goodIn_ca (goodIn_ca (goodIn_ca (goodIn_r _ [161, 162, 15, 32, 33, 34, 7, 35, 36, 37, 11, 12, 62, 63, 64, 65, 20, 21, 22, 23, 24, 25, 9, 10, 26, 286, 287, 288, 289, 290, 291, 292, 293, 294, 295, 296, 297, 298, 279, 280, 281, 282, 283, 284, 285] (by decide +kernel) (by decide +kernel)) (goodIn_sub (fun _ h => List.mem_cons_of_mem _ (List.mem_append_right _ h)) (by decide +kernel))) (goodIn_sub (fun _ h => List.mem_cons_of_mem _ (List.mem_append_left _ (List.mem_append_right _ h))) (by decide +kernel))) (goodIn_sub (fun _ h => List.mem_cons_of_mem _ (List.mem_append_left _ (List.mem_append_left _ (List.mem_append_right _ h)))) (by decide +kernel))
set_option maxRecDepth 20000 in
theorem gL_act_X2_standIn : GoodIn wsL_act (wsV RL 23 RX2 yX2_standIn wsX2_standIn) := goodIn_app (goodIn_of _ (by decide +kernel)) ggL_act_X2_standIn
set_option maxRecDepth 20000 in
theorem ggL_act_X2_hold : GoodIn wsL_act wsX2_hold := goodIn_ca (goodIn_ca (goodIn_r _ [166, 167, 32, 33, 34, 7, 35, 36, 37, 11, 12, 22, 23, 24, 25, 9, 10, 26, 286, 287, 288, 289, 290, 291, 292, 293, 294, 295, 296, 297, 298, 279, 280, 281, 282, 283, 284, 285] (by decide +kernel) (by decide +kernel)) (goodIn_sub (fun _ h => List.mem_cons_of_mem _ (List.mem_append_right _ h)) (by decide +kernel))) (goodIn_sub (fun _ h => List.mem_cons_of_mem _ (List.mem_append_left _ (List.mem_append_left _ (List.mem_append_right _ h)))) (by decide +kernel))
set_option maxRecDepth 20000 in
theorem gL_act_X2_hold : GoodIn wsL_act (wsV RL 26 RX2 yX2_hold wsX2_hold) := goodIn_app (goodIn_of _ (by decide +kernel)) ggL_act_X2_hold
set_option maxRecDepth 20000 in
theorem ggL_act_X2_setFaults : GoodIn wsL_act wsX2_setFaults := goodIn_ca (goodIn_ca (goodIn_r _ [171, 172, 32, 33, 34, 7, 35, 36, 37, 11, 12, 16, 17, 18, 19, 20, 21, 286, 287, 288, 289, 290, 291, 292, 293, 294, 295, 296, 297, 298, 279, 280, 281, 282, 283, 284, 285] (by decide +kernel) (by decide +kernel)) (goodIn_sub (fun _ h => List.mem_cons_of_mem _ (List.mem_append_right _ h)) (by decide +kernel))) (goodIn_sub (fun _ h => List.mem_cons_of_mem _ (List.mem_append_left _ (List.mem_append_right _ h))) (by decide +kernel))
set_option maxRecDepth 20000 in
theorem gL_act_X2_setFaults : GoodIn wsL_act (wsV RL 30 RX2 yX2_setFaults wsX2_setFaults) := goodIn_app (goodIn_of _ (by decide +kernel)) ggL_act_X2_setFaults
set_option maxRecDepth 20000 in
theorem ggL_act_X2_setTime : GoodIn wsL_act wsX2_setTime := goodIn_ca (goodIn_ca (goodIn_r _ [176, 13, 32, 33, 34, 7, 35, 36, 37, 11, 12, 16, 17, 18, 19, 20, 21, 286, 287, 288, 289, 290, 291, 292, 293, 294, 295, 296, 297, 298, 279, 280, 281, 282, 283, 284, 285] (by decide +kernel) (by decide +kernel)) (goodIn_sub (fun _ h => List.mem_cons_of_mem _ (List.mem_append_right _ h)) (by decide +kernel))) (goodIn_sub (fun _ h => List.mem_cons_of_mem _ (List.mem_append_left _ (List.mem_append_right _ h))) (by decide +kernel))
set_option maxRecDepth 20000 in
theorem gL_act_X2_setTime : GoodIn wsL_act (wsV RL 33 RX2 yX2_setTime wsX2_setTime) := goodIn_app (goodIn_of _ (by decide +kernel)) ggL_act_X2_setTime
set_option maxRecDepth 20000 in
theorem ggL_act_X2_begin : GoodIn wsL_act wsX2_begin := goodIn_ca (goodIn_ca (goodIn_r _ [180, 181, 182, 11, 12, 26, 183, 16, 17, 18, 7, 19, 20, 21, 22, 23, 24, 25, 9, 10, 184, 185, 186, 187, 57, 70, 61, 72, 71, 42, 188, 189, 190, 191, 73, 74, 75, 76, 77, 78, 79, 80, 81, 82, 83, 84, 85, 86, 87, 88, 89, 90, 91, 92, 93, 94, 95, 43, 44, 45, 46, 47, 48, 38, 39, 40, 41, 31, 49, 50, 51, 52, 192, 193, 194, 195, 196, 197, 198, 199, 200, 201, 202, 203, 204, 205, 125, 126, 127, 206, 207, 208, 209, 210, 211, 212, 213, 214, 215, 152, 153, 279, 280, 281, 282, 283, 284, 285, 299, 300, 301, 286, 287, 288, 289, 290, 291, 292, 293, 294, 295, 296, 297, 298, 302, 303, 304] (by decide +kernel) (by decide +kernel)) (goodIn_sub (fun _ h => List.mem_cons_of_mem _ (List.mem_append_left _ (List.mem_append_right _ h))) (by decide +kernel))) (goodIn_sub (fun _ h => List.mem_cons_of_mem _ (List.mem_append_left _ (List.mem_append_left _ (List.mem_append_right _ h)))) (by decide +kernel))
set_option maxRecDepth 20000 in
theorem gL_act_X2_begin : GoodIn wsL_act (wsV RL 36 RX2 yX2_begin wsX2_begin) := goodIn_app (goodIn_of _ (by decide +kernel)) ggL_act_X2_begin
set_option maxRecDepth 20000 in
theorem ggL_act_X2_tick : GoodIn wsL_act wsX2_tick := goodIn_ca (goodIn_ca (goodIn_r _ [219, 9, 10, 26, 16, 17, 18, 7, 19, 20, 21, 220, 221, 222, 223, 224, 225, 226, 227, 11, 12, 228, 229, 13, 230, 231, 232, 46, 233, 234, 197, 199, 235, 236, 125, 126, 127, 198, 237, 238, 239, 240, 241, 31, 242, 243, 244, 245, 246, 247, 248, 249, 250, 251, 252, 253, 254, 43, 44, 45, 47, 48, 255, 256, 257, 258, 181, 42, 259, 260, 261, 262, 263, 264, 265, 266, 267, 268, 269, 270, 271, 272, 273, 274, 275, 276, 277, 278, 201, 202, 203, 204, 182, 183, 205, 206, 207, 208, 209, 210, 211, 212, 213, 200, 214, 215, 152, 153, 279, 280, 281, 282, 283, 284, 285, 286, 287, 288, 289, 290, 291, 292, 293, 294, 295, 296, 297, 298] (by decide +kernel) (by decide +kernel)) (goodIn_sub (fun _ h => List.mem_cons_of_mem _ (List.mem_append_left _ (List.mem_append_left _ (List.mem_append_right _ h)))) (by decide +kernel))) (goodIn_sub (fun _ h => List.mem_cons_of_mem _ (List.mem_append_left _ (List.mem_append_right _ h))) (by decide +kernel))
set_option maxRecDepth 20000 in
theorem gL_act_X2_tick : GoodIn wsL_act (wsV RL 40 RX2 yX2_tick wsX2_tick) := goodIn_app (goodIn_of _ (by decide +kernel)) ggL_act_X2_tick
theorem dL_act_0 : decode cL_act 0 = .ok (.iload_n 1, 1) := by decide +kernel
theorem dL_act_1 : decode cL_act 1 = .ok (.ifCond .ne 12, 3) := by decide +kernel
theorem dL_act_4 : decode cL_act 4 = .ok (.aload_n 0, 1) := by decide +kernel
theorem dL_act_5 : decode cL_act 5 = .ok (.iload_n 2, 1) := by decide +kernel
theorem dL_act_6 : decode cL_act 6 = .ok (.iload_n 3, 1) := by decide +kernel
theorem dL_act_7 : decode cL_act 7 = .ok (.invokevirtual 9, 3) := by decide +kernel
theorem dL_act_10 : decode cL_act 10 = .ok (.goto 134, 3) := by decide +kernel
theorem dL_act_13 : decode cL_act 13 = .ok (.iload_n 1, 1) := by decide +kernel
theorem dL_act_14 : decode cL_act 14 = .ok (.iconst 1, 1) := by decide +kernel
theorem dL_act_15 : decode cL_act 15 = .ok (.if_icmp .ne 20, 3) := by decide +kernel
theorem dL_act_18 : decode cL_act 18 = .ok (.aload_n 0, 1) := by decide +kernel
theorem dL_act_19 : decode cL_act 19 = .ok (.iload_n 2, 1) := by decide +kernel
theorem dL_act_20 : decode cL_act 20 = .ok (.iload_n 3, 1) := by decide +kernel
theorem dL_act_21 : decode cL_act 21 = .ok (.invokevirtual 15, 3) := by decide +kernel
theorem dL_act_24 : decode cL_act 24 = .ok (.ifCond .eq 7, 3) := by decide +kernel
theorem dL_act_27 : decode cL_act 27 = .ok (.iconst 1, 1) := by decide +kernel
theorem dL_act_28 : decode cL_act 28 = .ok (.goto 116, 3) := by decide +kernel
theorem dL_act_31 : decode cL_act 31 = .ok (.iconst 0, 1) := by decide +kernel
theorem dL_act_32 : decode cL_act 32 = .ok (.goto 112, 3) := by decide +kernel
theorem dL_act_35 : decode cL_act 35 = .ok (.iload_n 1, 1) := by decide +kernel
theorem dL_act_36 : decode cL_act 36 = .ok (.iconst 2, 1) := by decide +kernel
theorem dL_act_37 : decode cL_act 37 = .ok (.if_icmp .ne 14, 3) := by decide +kernel
theorem dL_act_40 : decode cL_act 40 = .ok (.aload_n 0, 1) := by decide +kernel
theorem dL_act_41 : decode cL_act 41 = .ok (.iload_n 2, 1) := by decide +kernel
theorem dL_act_42 : decode cL_act 42 = .ok (.iload_n 3, 1) := by decide +kernel
theorem dL_act_43 : decode cL_act 43 = .ok (.iload 4, 2) := by decide +kernel
theorem dL_act_45 : decode cL_act 45 = .ok (.invokevirtual 19, 3) := by decide +kernel
theorem dL_act_48 : decode cL_act 48 = .ok (.goto 96, 3) := by decide +kernel
theorem dL_act_51 : decode cL_act 51 = .ok (.iload_n 1, 1) := by decide +kernel
theorem dL_act_52 : decode cL_act 52 = .ok (.iconst 3, 1) := by decide +kernel
theorem dL_act_53 : decode cL_act 53 = .ok (.if_icmp .ne 12, 3) := by decide +kernel
theorem dL_act_56 : decode cL_act 56 = .ok (.aload_n 0, 1) := by decide +kernel
theorem dL_act_57 : decode cL_act 57 = .ok (.iload_n 2, 1) := by decide +kernel
theorem dL_act_58 : decode cL_act 58 = .ok (.iload_n 3, 1) := by decide +kernel
theorem dL_act_59 : decode cL_act 59 = .ok (.invokevirtual 23, 3) := by decide +kernel
theorem dL_act_62 : decode cL_act 62 = .ok (.goto 82, 3) := by decide +kernel
theorem dL_act_65 : decode cL_act 65 = .ok (.iload_n 1, 1) := by decide +kernel
theorem dL_act_66 : decode cL_act 66 = .ok (.iconst 4, 1) := by decide +kernel
theorem dL_act_67 : decode cL_act 67 = .ok (.if_icmp .ne 29, 3) := by decide +kernel
theorem dL_act_70 : decode cL_act 70 = .ok (.aload_n 0, 1) := by decide +kernel
theorem dL_act_71 : decode cL_act 71 = .ok (.iload_n 2, 1) := by decide +kernel
theorem dL_act_72 : decode cL_act 72 = .ok (.iload_n 3, 1) := by decide +kernel
theorem dL_act_73 : decode cL_act 73 = .ok (.iconst 1, 1) := by decide +kernel
theorem dL_act_74 : decode cL_act 74 = .ok (.if_icmp .ne 7, 3) := by decide +kernel
theorem dL_act_77 : decode cL_act 77 = .ok (.iconst 1, 1) := by decide +kernel
theorem dL_act_78 : decode cL_act 78 = .ok (.goto 4, 3) := by decide +kernel
theorem dL_act_81 : decode cL_act 81 = .ok (.iconst 0, 1) := by decide +kernel
theorem dL_act_82 : decode cL_act 82 = .ok (.invokevirtual 26, 3) := by decide +kernel
theorem dL_act_85 : decode cL_act 85 = .ok (.ifCond .eq 7, 3) := by decide +kernel
theorem dL_act_88 : decode cL_act 88 = .ok (.iconst 1, 1) := by decide +kernel
theorem dL_act_89 : decode cL_act 89 = .ok (.goto 55, 3) := by decide +kernel
theorem dL_act_92 : decode cL_act 92 = .ok (.iconst 0, 1) := by decide +kernel
theorem dL_act_93 : decode cL_act 93 = .ok (.goto 51, 3) := by decide +kernel
theorem dL_act_96 : decode cL_act 96 = .ok (.iload_n 1, 1) := by decide +kernel
theorem dL_act_97 : decode cL_act 97 = .ok (.iconst 5, 1) := by decide +kernel
theorem dL_act_98 : decode cL_act 98 = .ok (.if_icmp .ne 12, 3) := by decide +kernel
theorem dL_act_101 : decode cL_act 101 = .ok (.aload_n 0, 1) := by decide +kernel
theorem dL_act_102 : decode cL_act 102 = .ok (.iload_n 2, 1) := by decide +kernel
theorem dL_act_103 : decode cL_act 103 = .ok (.iload_n 3, 1) := by decide +kernel
theorem dL_act_104 : decode cL_act 104 = .ok (.invokevirtual 30, 3) := by decide +kernel
theorem dL_act_107 : decode cL_act 107 = .ok (.goto 37, 3) := by decide +kernel
theorem dL_act_110 : decode cL_act 110 = .ok (.iload_n 1, 1) := by decide +kernel
theorem dL_act_111 : decode cL_act 111 = .ok (.bipush 6, 2) := by decide +kernel
theorem dL_act_113 : decode cL_act 113 = .ok (.if_icmp .ne 12, 3) := by decide +kernel
theorem dL_act_116 : decode cL_act 116 = .ok (.aload_n 0, 1) := by decide +kernel
theorem dL_act_117 : decode cL_act 117 = .ok (.iload_n 2, 1) := by decide +kernel
theorem dL_act_118 : decode cL_act 118 = .ok (.iload_n 3, 1) := by decide +kernel
theorem dL_act_119 : decode cL_act 119 = .ok (.invokevirtual 33, 3) := by decide +kernel
theorem dL_act_122 : decode cL_act 122 = .ok (.goto 22, 3) := by decide +kernel
theorem dL_act_125 : decode cL_act 125 = .ok (.iload_n 1, 1) := by decide +kernel
theorem dL_act_126 : decode cL_act 126 = .ok (.bipush 7, 2) := by decide +kernel
theorem dL_act_128 : decode cL_act 128 = .ok (.if_icmp .ne 11, 3) := by decide +kernel
theorem dL_act_131 : decode cL_act 131 = .ok (.aload_n 0, 1) := by decide +kernel
theorem dL_act_132 : decode cL_act 132 = .ok (.iload_n 2, 1) := by decide +kernel
theorem dL_act_133 : decode cL_act 133 = .ok (.invokevirtual 36, 3) := by decide +kernel
theorem dL_act_136 : decode cL_act 136 = .ok (.goto 8, 3) := by decide +kernel
theorem dL_act_139 : decode cL_act 139 = .ok (.aload_n 0, 1) := by decide +kernel
theorem dL_act_140 : decode cL_act 140 = .ok (.iload_n 2, 1) := by decide +kernel
theorem dL_act_141 : decode cL_act 141 = .ok (.invokevirtual 40, 3) := by decide +kernel
theorem dL_act_144 : decode cL_act 144 = .ok (.ireturn, 1) := by decide +kernel
theorem dL_act_145 : decode cL_act 145 = .ok (.astore 5, 2) := by decide +kernel
theorem dL_act_147 : decode cL_act 147 = .ok (.sipush (-1031), 3) := by decide +kernel
theorem dL_act_150 : decode cL_act 150 = .ok (.ireturn, 1) := by decide +kernel
theorem dL_act_151 : decode cL_act 151 = .ok (.astore 5, 2) := by decide +kernel
theorem dL_act_153 : decode cL_act 153 = .ok (.sipush (-1032), 3) := by decide +kernel
theorem dL_act_156 : decode cL_act 156 = .ok (.ireturn, 1) := by decide +kernel
theorem dL_act_157 : decode cL_act 157 = .ok (.astore 5, 2) := by decide +kernel
theorem dL_act_159 : decode cL_act 159 = .ok (.sipush (-1033), 3) := by decide +kernel
theorem dL_act_162 : decode cL_act 162 = .ok (.ireturn, 1) := by decide +kernel
set_option maxRecDepth 20000 in
theorem ggL_of_X2_learned : GoodIn wsL_of wsX2_learned := goodIn_ca (goodIn_r _ [6, 7, 8, 9, 10, 5, 11, 12, 13, 14, 15, 64, 65, 66, 67, 68, 69, 70, 71, 72, 73, 74, 75, 76, 77, 78, 79, 80, 81, 82, 83] (by decide +kernel) (by decide +kernel)) (goodIn_sub (fun _ h => List.mem_cons_of_mem _ (List.mem_append_right _ h)) (by decide +kernel))
set_option maxRecDepth 20000 in
theorem gL_of_X2_learned : GoodIn wsL_of (wsV RL 49 RX2 yX2_learned wsX2_learned) := goodIn_app (goodIn_of _ (by decide +kernel)) ggL_of_X2_learned
set_option maxRecDepth 20000 in
theorem ggL_of_X2_faults : GoodIn wsL_of wsX2_faults := goodIn_ca (goodIn_r _ [19, 20, 8, 9, 10, 5, 11, 12, 13, 14, 15, 64, 65, 66, 67, 68, 69, 70, 71, 72, 73, 74, 75, 76, 77, 78, 79, 80, 81, 82, 83] (by decide +kernel) (by decide +kernel)) (goodIn_sub (fun _ h => List.mem_cons_of_mem _ (List.mem_append_right _ h)) (by decide +kernel))
set_option maxRecDepth 20000 in
theorem gL_of_X2_faults : GoodIn wsL_of (wsV RL 52 RX2 yX2_faults wsX2_faults) := goodIn_app (goodIn_of _ (by decide +kernel)) ggL_of_X2_faults
set_option maxRecDepth 20000 in
theorem ggL_of_X2_state : GoodIn wsL_of wsX2_state := goodIn_ca (goodIn_r _ [24, 25, 8, 9, 10, 5, 11, 12, 13, 14, 15, 64, 65, 66, 67, 68, 69, 70, 71, 72, 73, 74, 75, 76, 77, 78, 79, 80, 81, 82, 83] (by decide +kernel) (by decide +kernel)) (goodIn_sub (fun _ h => List.mem_cons_of_mem _ (List.mem_append_right _ h)) (by decide +kernel))
set_option maxRecDepth 20000 in
theorem gL_of_X2_state : GoodIn wsL_of (wsV RL 55 RX2 yX2_state wsX2_state) := goodIn_app (goodIn_of _ (by decide +kernel)) ggL_of_X2_state
set_option maxRecDepth 20000 in
theorem ggL_of_X2_waitsFor : GoodIn wsL_of wsX2_waitsFor := goodIn_ca (goodIn_r _ [29, 25, 14, 15, 8, 9, 10, 5, 11, 12, 13, 30, 31, 32, 33, 34, 35, 36, 37, 38, 39, 40, 41, 42, 43, 44, 45, 46, 47, 48, 49, 50, 51, 52, 53, 54, 55, 56, 57, 58, 59, 60, 61, 62, 63, 64, 65, 66, 67, 68, 69, 70, 71, 72, 73, 74, 75, 76, 77, 78, 79, 80, 81, 82, 83] (by decide +kernel) (by decide +kernel)) (goodIn_sub (fun _ h => List.mem_cons_of_mem _ (List.mem_append_right _ h)) (by decide +kernel))
set_option maxRecDepth 20000 in
theorem gL_of_X2_waitsFor : GoodIn wsL_of (wsV RL 58 RX2 yX2_waitsFor wsX2_waitsFor) := goodIn_app (goodIn_of _ (by decide +kernel)) ggL_of_X2_waitsFor
theorem dL_of_0 : decode cL_of 0 = .ok (.iload_n 1, 1) := by decide +kernel
theorem dL_of_1 : decode cL_of 1 = .ok (.ifCond .ne 11, 3) := by decide +kernel
theorem dL_of_4 : decode cL_of 4 = .ok (.aload_n 0, 1) := by decide +kernel
theorem dL_of_5 : decode cL_of 5 = .ok (.iload_n 2, 1) := by decide +kernel
theorem dL_of_6 : decode cL_of 6 = .ok (.invokevirtual 49, 3) := by decide +kernel
theorem dL_of_9 : decode cL_of 9 = .ok (.goto 34, 3) := by decide +kernel
theorem dL_of_12 : decode cL_of 12 = .ok (.iload_n 1, 1) := by decide +kernel
theorem dL_of_13 : decode cL_of 13 = .ok (.iconst 1, 1) := by decide +kernel
theorem dL_of_14 : decode cL_of 14 = .ok (.if_icmp .ne 11, 3) := by decide +kernel
theorem dL_of_17 : decode cL_of 17 = .ok (.aload_n 0, 1) := by decide +kernel
theorem dL_of_18 : decode cL_of 18 = .ok (.iload_n 2, 1) := by decide +kernel
theorem dL_of_19 : decode cL_of 19 = .ok (.invokevirtual 52, 3) := by decide +kernel
theorem dL_of_22 : decode cL_of 22 = .ok (.goto 21, 3) := by decide +kernel
theorem dL_of_25 : decode cL_of 25 = .ok (.iload_n 1, 1) := by decide +kernel
theorem dL_of_26 : decode cL_of 26 = .ok (.iconst 2, 1) := by decide +kernel
theorem dL_of_27 : decode cL_of 27 = .ok (.if_icmp .ne 11, 3) := by decide +kernel
theorem dL_of_30 : decode cL_of 30 = .ok (.aload_n 0, 1) := by decide +kernel
theorem dL_of_31 : decode cL_of 31 = .ok (.iload_n 2, 1) := by decide +kernel
theorem dL_of_32 : decode cL_of 32 = .ok (.invokevirtual 55, 3) := by decide +kernel
theorem dL_of_35 : decode cL_of 35 = .ok (.goto 8, 3) := by decide +kernel
theorem dL_of_38 : decode cL_of 38 = .ok (.aload_n 0, 1) := by decide +kernel
theorem dL_of_39 : decode cL_of 39 = .ok (.iload_n 2, 1) := by decide +kernel
theorem dL_of_40 : decode cL_of 40 = .ok (.invokevirtual 58, 3) := by decide +kernel
theorem dL_of_43 : decode cL_of 43 = .ok (.ireturn, 1) := by decide +kernel
theorem dL_of_44 : decode cL_of 44 = .ok (.astore_n 3, 1) := by decide +kernel
theorem dL_of_45 : decode cL_of 45 = .ok (.sipush (-1031), 3) := by decide +kernel
theorem dL_of_48 : decode cL_of 48 = .ok (.ireturn, 1) := by decide +kernel
set_option maxRecDepth 20000 in
theorem ggL_all_X2_units : GoodIn wsL_all wsX2_units := goodIn_r _ [12, 13, 103, 104, 105, 106, 107, 108, 109] (by decide +kernel) (by decide +kernel)
set_option maxRecDepth 20000 in
theorem gL_all_X2_units : GoodIn wsL_all (wsV RL 61 RX2 yX2_units wsX2_units) := goodIn_app (goodIn_of _ (by decide +kernel)) ggL_all_X2_units
set_option maxRecDepth 20000 in
theorem ggL_all_X2_bar : GoodIn wsL_all wsX2_bar := goodIn_r _ [17, 18, 103, 104, 105, 106, 107, 108, 109] (by decide +kernel) (by decide +kernel)
set_option maxRecDepth 20000 in
theorem gL_all_X2_bar : GoodIn wsL_all (wsV RL 67 RX2 yX2_bar wsX2_bar) := goodIn_app (goodIn_of _ (by decide +kernel)) ggL_all_X2_bar
set_option maxRecDepth 20000 in
theorem ggL_all_X2_ready : GoodIn wsL_all wsX2_ready := goodIn_r _ [22, 13, 23, 24, 25, 26, 27, 28, 29, 30, 103, 104, 105, 106, 107, 108, 109, 110, 111, 112, 113, 114, 115, 116, 117, 118, 119, 120, 121, 122] (by decide +kernel) (by decide +kernel)
set_option maxRecDepth 20000 in
theorem gL_all_X2_ready : GoodIn wsL_all (wsV RL 72 RX2 yX2_ready wsX2_ready) := goodIn_app (goodIn_of _ (by decide +kernel)) ggL_all_X2_ready
set_option maxRecDepth 20000 in
theorem ggL_all_X2_canRun : GoodIn wsL_all wsX2_canRun := goodIn_r _ [34, 13, 35, 36, 37, 11, 38, 23, 39, 40, 41, 25, 26, 27, 28, 29, 30, 42, 43, 44, 45, 46, 47, 48, 49, 50, 51, 103, 104, 105, 106, 107, 108, 109, 110, 111, 112, 113, 114, 115, 116, 117, 118, 119, 120, 121, 122] (by decide +kernel) (by decide +kernel)
set_option maxRecDepth 20000 in
theorem gL_all_X2_canRun : GoodIn wsL_all (wsV RL 77 RX2 yX2_canRun wsX2_canRun) := goodIn_app (goodIn_of _ (by decide +kernel)) ggL_all_X2_canRun
set_option maxRecDepth 20000 in
theorem ggL_all_X2_goesOn : GoodIn wsL_all wsX2_goesOn := goodIn_r _ [55, 56, 103, 104, 105, 106, 107, 108, 109] (by decide +kernel) (by decide +kernel)
set_option maxRecDepth 20000 in
theorem gL_all_X2_goesOn : GoodIn wsL_all (wsV RL 80 RX2 yX2_goesOn wsX2_goesOn) := goodIn_app (goodIn_of _ (by decide +kernel)) ggL_all_X2_goesOn
set_option maxRecDepth 20000 in
theorem ggL_all_X2_state : GoodIn wsL_all wsX2_state := goodIn_ca (goodIn_r _ [60, 24, 61, 62, 63, 11, 64, 65, 66, 13, 23, 110, 111, 112, 113, 114, 115, 116, 117, 118, 119, 120, 121, 122, 103, 104, 105, 106, 107, 108, 109] (by decide +kernel) (by decide +kernel)) (goodIn_sub (fun _ h => List.mem_cons_of_mem _ (List.mem_append_right _ h)) (by decide +kernel))
set_option maxRecDepth 20000 in
theorem gL_all_X2_state : GoodIn wsL_all (wsV RL 55 RX2 yX2_state wsX2_state) := goodIn_app (goodIn_of _ (by decide +kernel)) ggL_all_X2_state
set_option maxRecDepth 20000 in
theorem ggL_all_X2_learned : GoodIn wsL_all wsX2_learned := goodIn_ca (goodIn_r _ [70, 71, 61, 62, 63, 11, 64, 65, 66, 13, 23, 110, 111, 112, 113, 114, 115, 116, 117, 118, 119, 120, 121, 122, 103, 104, 105, 106, 107, 108, 109] (by decide +kernel) (by decide +kernel)) (goodIn_sub (fun _ h => List.mem_cons_of_mem _ (List.mem_append_right _ h)) (by decide +kernel))
set_option maxRecDepth 20000 in
theorem gL_all_X2_learned : GoodIn wsL_all (wsV RL 49 RX2 yX2_learned wsX2_learned) := goodIn_app (goodIn_of _ (by decide +kernel)) ggL_all_X2_learned
set_option maxRecDepth 20000 in
theorem ggL_all_X2_faults : GoodIn wsL_all wsX2_faults := goodIn_ca (goodIn_r _ [75, 40, 61, 62, 63, 11, 64, 65, 66, 13, 23, 110, 111, 112, 113, 114, 115, 116, 117, 118, 119, 120, 121, 122, 103, 104, 105, 106, 107, 108, 109] (by decide +kernel) (by decide +kernel)) (goodIn_sub (fun _ h => List.mem_cons_of_mem _ (List.mem_append_right _ h)) (by decide +kernel))
set_option maxRecDepth 20000 in
theorem gL_all_X2_faults : GoodIn wsL_all (wsV RL 52 RX2 yX2_faults wsX2_faults) := goodIn_app (goodIn_of _ (by decide +kernel)) ggL_all_X2_faults
set_option maxRecDepth 20000 in
theorem ggL_all_X2_waitsFor : GoodIn wsL_all wsX2_waitsFor := goodIn_ca (goodIn_r _ [79, 24, 13, 23, 61, 62, 63, 11, 64, 65, 66, 80, 81, 82, 83, 47, 84, 48, 49, 50, 51, 25, 26, 27, 28, 29, 30, 85, 86, 87, 88, 89, 90, 91, 92, 93, 94, 95, 96, 97, 98, 99, 100, 101, 102, 110, 111, 112, 113, 114, 115, 116, 117, 118, 119, 120, 121, 122, 103, 104, 105, 106, 107, 108, 109] (by decide +kernel) (by decide +kernel)) (goodIn_sub (fun _ h => List.mem_cons_of_mem _ (List.mem_append_right _ h)) (by decide +kernel))
set_option maxRecDepth 20000 in
theorem gL_all_X2_waitsFor : GoodIn wsL_all (wsV RL 58 RX2 yX2_waitsFor wsX2_waitsFor) := goodIn_app (goodIn_of _ (by decide +kernel)) ggL_all_X2_waitsFor
theorem dL_all_0 : decode cL_all 0 = .ok (.aload_n 0, 1) := by decide +kernel
theorem dL_all_1 : decode cL_all 1 = .ok (.invokevirtual 61, 3) := by decide +kernel
theorem dL_all_4 : decode cL_all 4 = .ok (.i2l, 1) := by decide +kernel
theorem dL_all_5 : decode cL_all 5 = .ok (.ldc2_w 65, 3) := by decide +kernel
theorem dL_all_8 : decode cL_all 8 = .ok (.aload_n 0, 1) := by decide +kernel
theorem dL_all_9 : decode cL_all 9 = .ok (.invokevirtual 67, 3) := by decide +kernel
theorem dL_all_12 : decode cL_all 12 = .ok (.i2l, 1) := by decide +kernel
theorem dL_all_13 : decode cL_all 13 = .ok (.lmul, 1) := by decide +kernel
theorem dL_all_14 : decode cL_all 14 = .ok (.ladd, 1) := by decide +kernel
theorem dL_all_15 : decode cL_all 15 = .ok (.ldc2_w 70, 3) := by decide +kernel
theorem dL_all_18 : decode cL_all 18 = .ok (.aload_n 0, 1) := by decide +kernel
theorem dL_all_19 : decode cL_all 19 = .ok (.invokevirtual 72, 3) := by decide +kernel
theorem dL_all_22 : decode cL_all 22 = .ok (.i2l, 1) := by decide +kernel
theorem dL_all_23 : decode cL_all 23 = .ok (.lmul, 1) := by decide +kernel
theorem dL_all_24 : decode cL_all 24 = .ok (.ladd, 1) := by decide +kernel
theorem dL_all_25 : decode cL_all 25 = .ok (.ldc2_w 75, 3) := by decide +kernel
theorem dL_all_28 : decode cL_all 28 = .ok (.aload_n 0, 1) := by decide +kernel
theorem dL_all_29 : decode cL_all 29 = .ok (.invokevirtual 77, 3) := by decide +kernel
theorem dL_all_32 : decode cL_all 32 = .ok (.i2l, 1) := by decide +kernel
theorem dL_all_33 : decode cL_all 33 = .ok (.lmul, 1) := by decide +kernel
theorem dL_all_34 : decode cL_all 34 = .ok (.ladd, 1) := by decide +kernel
theorem dL_all_35 : decode cL_all 35 = .ok (.aload_n 0, 1) := by decide +kernel
theorem dL_all_36 : decode cL_all 36 = .ok (.invokevirtual 80, 3) := by decide +kernel
theorem dL_all_39 : decode cL_all 39 = .ok (.ifCond .eq 9, 3) := by decide +kernel
theorem dL_all_42 : decode cL_all 42 = .ok (.ldc2_w 84, 3) := by decide +kernel
theorem dL_all_45 : decode cL_all 45 = .ok (.goto 4, 3) := by decide +kernel
theorem dL_all_48 : decode cL_all 48 = .ok (.lconst 0, 1) := by decide +kernel
theorem dL_all_49 : decode cL_all 49 = .ok (.ladd, 1) := by decide +kernel
theorem dL_all_50 : decode cL_all 50 = .ok (.lstore_n 1, 1) := by decide +kernel
theorem dL_all_51 : decode cL_all 51 = .ok (.iconst 0, 1) := by decide +kernel
theorem dL_all_52 : decode cL_all 52 = .ok (.istore_n 3, 1) := by decide +kernel
theorem dL_all_53 : decode cL_all 53 = .ok (.iload_n 3, 1) := by decide +kernel
theorem dL_all_54 : decode cL_all 54 = .ok (.aload_n 0, 1) := by decide +kernel
theorem dL_all_55 : decode cL_all 55 = .ok (.invokevirtual 61, 3) := by decide +kernel
theorem dL_all_58 : decode cL_all 58 = .ok (.if_icmp .ge 55, 3) := by decide +kernel
theorem dL_all_61 : decode cL_all 61 = .ok (.ldc2_w 86, 3) := by decide +kernel
theorem dL_all_64 : decode cL_all 64 = .ok (.lload_n 1, 1) := by decide +kernel
theorem dL_all_65 : decode cL_all 65 = .ok (.lmul, 1) := by decide +kernel
theorem dL_all_66 : decode cL_all 66 = .ok (.aload_n 0, 1) := by decide +kernel
theorem dL_all_67 : decode cL_all 67 = .ok (.iload_n 3, 1) := by decide +kernel
theorem dL_all_68 : decode cL_all 68 = .ok (.invokevirtual 55, 3) := by decide +kernel
theorem dL_all_71 : decode cL_all 71 = .ok (.i2l, 1) := by decide +kernel
theorem dL_all_72 : decode cL_all 72 = .ok (.ladd, 1) := by decide +kernel
theorem dL_all_73 : decode cL_all 73 = .ok (.ldc2_w 88, 3) := by decide +kernel
theorem dL_all_76 : decode cL_all 76 = .ok (.aload_n 0, 1) := by decide +kernel
theorem dL_all_77 : decode cL_all 77 = .ok (.iload_n 3, 1) := by decide +kernel
theorem dL_all_78 : decode cL_all 78 = .ok (.invokevirtual 49, 3) := by decide +kernel
theorem dL_all_81 : decode cL_all 81 = .ok (.i2l, 1) := by decide +kernel
theorem dL_all_82 : decode cL_all 82 = .ok (.lmul, 1) := by decide +kernel
theorem dL_all_83 : decode cL_all 83 = .ok (.ladd, 1) := by decide +kernel
theorem dL_all_84 : decode cL_all 84 = .ok (.ldc2_w 90, 3) := by decide +kernel
theorem dL_all_87 : decode cL_all 87 = .ok (.aload_n 0, 1) := by decide +kernel
theorem dL_all_88 : decode cL_all 88 = .ok (.iload_n 3, 1) := by decide +kernel
theorem dL_all_89 : decode cL_all 89 = .ok (.invokevirtual 52, 3) := by decide +kernel
theorem dL_all_92 : decode cL_all 92 = .ok (.i2l, 1) := by decide +kernel
theorem dL_all_93 : decode cL_all 93 = .ok (.lmul, 1) := by decide +kernel
theorem dL_all_94 : decode cL_all 94 = .ok (.ladd, 1) := by decide +kernel
theorem dL_all_95 : decode cL_all 95 = .ok (.ldc2_w 75, 3) := by decide +kernel
theorem dL_all_98 : decode cL_all 98 = .ok (.aload_n 0, 1) := by decide +kernel
theorem dL_all_99 : decode cL_all 99 = .ok (.iload_n 3, 1) := by decide +kernel
theorem dL_all_100 : decode cL_all 100 = .ok (.invokevirtual 58, 3) := by decide +kernel
theorem dL_all_103 : decode cL_all 103 = .ok (.i2l, 1) := by decide +kernel
theorem dL_all_104 : decode cL_all 104 = .ok (.lmul, 1) := by decide +kernel
theorem dL_all_105 : decode cL_all 105 = .ok (.ladd, 1) := by decide +kernel
theorem dL_all_106 : decode cL_all 106 = .ok (.lstore_n 1, 1) := by decide +kernel
theorem dL_all_107 : decode cL_all 107 = .ok (.iinc 3 1, 3) := by decide +kernel
theorem dL_all_110 : decode cL_all 110 = .ok (.goto (-57), 3) := by decide +kernel
theorem dL_all_113 : decode cL_all 113 = .ok (.lload_n 1, 1) := by decide +kernel
theorem dL_all_114 : decode cL_all 114 = .ok (.lreturn, 1) := by decide +kernel
theorem dL_isReached_0 : decode cL_isReached 0 = .ok (.iconst 1, 1) := by decide +kernel
theorem dL_isReached_1 : decode cL_isReached 1 = .ok (.iload_n 3, 1) := by decide +kernel
theorem dL_isReached_2 : decode cL_isReached 2 = .ok (.ishl, 1) := by decide +kernel
theorem dL_isReached_3 : decode cL_isReached 3 = .ok (.istore 5, 2) := by decide +kernel
theorem dL_isReached_5 : decode cL_isReached 5 = .ok (.iconst 0, 1) := by decide +kernel
theorem dL_isReached_6 : decode cL_isReached 6 = .ok (.istore 6, 2) := by decide +kernel
theorem dL_isReached_8 : decode cL_isReached 8 = .ok (.iload 6, 2) := by decide +kernel
theorem dL_isReached_10 : decode cL_isReached 10 = .ok (.iload 5, 2) := by decide +kernel
theorem dL_isReached_12 : decode cL_isReached 12 = .ok (.if_icmp .eq 107, 3) := by decide +kernel
theorem dL_isReached_15 : decode cL_isReached 15 = .ok (.iload 5, 2) := by decide +kernel
theorem dL_isReached_17 : decode cL_isReached 17 = .ok (.istore 6, 2) := by decide +kernel
theorem dL_isReached_19 : decode cL_isReached 19 = .ok (.iconst 0, 1) := by decide +kernel
theorem dL_isReached_20 : decode cL_isReached 20 = .ok (.istore 7, 2) := by decide +kernel
theorem dL_isReached_22 : decode cL_isReached 22 = .ok (.iload 7, 2) := by decide +kernel
theorem dL_isReached_24 : decode cL_isReached 24 = .ok (.iload_n 2, 1) := by decide +kernel
theorem dL_isReached_25 : decode cL_isReached 25 = .ok (.if_icmp .ge 91, 3) := by decide +kernel
theorem dL_isReached_28 : decode cL_isReached 28 = .ok (.iload 5, 2) := by decide +kernel
theorem dL_isReached_30 : decode cL_isReached 30 = .ok (.iload 7, 2) := by decide +kernel
theorem dL_isReached_32 : decode cL_isReached 32 = .ok (.ishr, 1) := by decide +kernel
theorem dL_isReached_33 : decode cL_isReached 33 = .ok (.iconst 1, 1) := by decide +kernel
theorem dL_isReached_34 : decode cL_isReached 34 = .ok (.iand, 1) := by decide +kernel
theorem dL_isReached_35 : decode cL_isReached 35 = .ok (.iconst 1, 1) := by decide +kernel
theorem dL_isReached_36 : decode cL_isReached 36 = .ok (.if_icmp .ne 74, 3) := by decide +kernel
theorem dL_isReached_39 : decode cL_isReached 39 = .ok (.iload 5, 2) := by decide +kernel
theorem dL_isReached_41 : decode cL_isReached 41 = .ok (.aload_n 0, 1) := by decide +kernel
theorem dL_isReached_42 : decode cL_isReached 42 = .ok (.bipush 8, 2) := by decide +kernel
theorem dL_isReached_44 : decode cL_isReached 44 = .ok (.iload 7, 2) := by decide +kernel
theorem dL_isReached_46 : decode cL_isReached 46 = .ok (.imul, 1) := by decide +kernel
theorem dL_isReached_47 : decode cL_isReached 47 = .ok (.iconst 4, 1) := by decide +kernel
theorem dL_isReached_48 : decode cL_isReached 48 = .ok (.iadd, 1) := by decide +kernel
theorem dL_isReached_49 : decode cL_isReached 49 = .ok (.iaload, 1) := by decide +kernel
theorem dL_isReached_50 : decode cL_isReached 50 = .ok (.ior, 1) := by decide +kernel
theorem dL_isReached_51 : decode cL_isReached 51 = .ok (.istore 5, 2) := by decide +kernel
theorem dL_isReached_53 : decode cL_isReached 53 = .ok (.iconst 0, 1) := by decide +kernel
theorem dL_isReached_54 : decode cL_isReached 54 = .ok (.istore 8, 2) := by decide +kernel
theorem dL_isReached_56 : decode cL_isReached 56 = .ok (.iload 8, 2) := by decide +kernel
theorem dL_isReached_58 : decode cL_isReached 58 = .ok (.iload_n 2, 1) := by decide +kernel
theorem dL_isReached_59 : decode cL_isReached 59 = .ok (.if_icmp .ge 51, 3) := by decide +kernel
theorem dL_isReached_62 : decode cL_isReached 62 = .ok (.iload 5, 2) := by decide +kernel
theorem dL_isReached_64 : decode cL_isReached 64 = .ok (.aload_n 1, 1) := by decide +kernel
theorem dL_isReached_65 : decode cL_isReached 65 = .ok (.bipush 8, 2) := by decide +kernel
theorem dL_isReached_67 : decode cL_isReached 67 = .ok (.iload 7, 2) := by decide +kernel
theorem dL_isReached_69 : decode cL_isReached 69 = .ok (.imul, 1) := by decide +kernel
theorem dL_isReached_70 : decode cL_isReached 70 = .ok (.iload 8, 2) := by decide +kernel
theorem dL_isReached_72 : decode cL_isReached 72 = .ok (.iadd, 1) := by decide +kernel
theorem dL_isReached_73 : decode cL_isReached 73 = .ok (.iaload, 1) := by decide +kernel
theorem dL_isReached_74 : decode cL_isReached 74 = .ok (.ifCond .le 26, 3) := by decide +kernel
theorem dL_isReached_77 : decode cL_isReached 77 = .ok (.aload_n 1, 1) := by decide +kernel
theorem dL_isReached_78 : decode cL_isReached 78 = .ok (.bipush 8, 2) := by decide +kernel
theorem dL_isReached_80 : decode cL_isReached 80 = .ok (.iload 7, 2) := by decide +kernel
theorem dL_isReached_82 : decode cL_isReached 82 = .ok (.imul, 1) := by decide +kernel
theorem dL_isReached_83 : decode cL_isReached 83 = .ok (.iload 8, 2) := by decide +kernel
theorem dL_isReached_85 : decode cL_isReached 85 = .ok (.iadd, 1) := by decide +kernel
theorem dL_isReached_86 : decode cL_isReached 86 = .ok (.iaload, 1) := by decide +kernel
theorem dL_isReached_87 : decode cL_isReached 87 = .ok (.bipush 20, 2) := by decide +kernel
theorem dL_isReached_89 : decode cL_isReached 89 = .ok (.ishr, 1) := by decide +kernel
theorem dL_isReached_90 : decode cL_isReached 90 = .ok (.ifCond .ne 10, 3) := by decide +kernel
theorem dL_isReached_93 : decode cL_isReached 93 = .ok (.iconst 1, 1) := by decide +kernel
theorem dL_isReached_94 : decode cL_isReached 94 = .ok (.iload 8, 2) := by decide +kernel
theorem dL_isReached_96 : decode cL_isReached 96 = .ok (.ishl, 1) := by decide +kernel
theorem dL_isReached_97 : decode cL_isReached 97 = .ok (.goto 4, 3) := by decide +kernel
theorem dL_isReached_100 : decode cL_isReached 100 = .ok (.iconst 0, 1) := by decide +kernel
theorem dL_isReached_101 : decode cL_isReached 101 = .ok (.ior, 1) := by decide +kernel
theorem dL_isReached_102 : decode cL_isReached 102 = .ok (.istore 5, 2) := by decide +kernel
theorem dL_isReached_104 : decode cL_isReached 104 = .ok (.iinc 8 1, 3) := by decide +kernel
theorem dL_isReached_107 : decode cL_isReached 107 = .ok (.goto (-51), 3) := by decide +kernel
theorem dL_isReached_110 : decode cL_isReached 110 = .ok (.iinc 7 1, 3) := by decide +kernel
theorem dL_isReached_113 : decode cL_isReached 113 = .ok (.goto (-91), 3) := by decide +kernel
theorem dL_isReached_116 : decode cL_isReached 116 = .ok (.goto (-108), 3) := by decide +kernel
theorem dL_isReached_119 : decode cL_isReached 119 = .ok (.iload 5, 2) := by decide +kernel
theorem dL_isReached_121 : decode cL_isReached 121 = .ok (.iload 4, 2) := by decide +kernel
theorem dL_isReached_123 : decode cL_isReached 123 = .ok (.ishr, 1) := by decide +kernel
theorem dL_isReached_124 : decode cL_isReached 124 = .ok (.iconst 1, 1) := by decide +kernel
theorem dL_isReached_125 : decode cL_isReached 125 = .ok (.iand, 1) := by decide +kernel
theorem dL_isReached_126 : decode cL_isReached 126 = .ok (.iconst 1, 1) := by decide +kernel
theorem dL_isReached_127 : decode cL_isReached 127 = .ok (.if_icmp .ne 7, 3) := by decide +kernel
theorem dL_isReached_130 : decode cL_isReached 130 = .ok (.iconst 1, 1) := by decide +kernel
theorem dL_isReached_131 : decode cL_isReached 131 = .ok (.goto 4, 3) := by decide +kernel
theorem dL_isReached_134 : decode cL_isReached 134 = .ok (.iconst 0, 1) := by decide +kernel
theorem dL_isReached_135 : decode cL_isReached 135 = .ok (.ireturn, 1) := by decide +kernel
set_option maxRecDepth 20000 in
theorem ggL_cut_L_isReached : GoodIn wsL_cut wsL_isReached := goodIn_r _ [6] (by decide +kernel) (by decide +kernel)
set_option maxRecDepth 20000 in
theorem gL_cut_L_isReached : GoodIn wsL_cut (va_wsS RL 93 yL_isReached wsL_isReached) := goodIn_app (goodIn_of _ (by decide +kernel)) ggL_cut_L_isReached
theorem dL_cut_0 : decode cL_cut 0 = .ok (.iconst 0, 1) := by decide +kernel
theorem dL_cut_1 : decode cL_cut 1 = .ok (.istore_n 3, 1) := by decide +kernel
theorem dL_cut_2 : decode cL_cut 2 = .ok (.iconst 0, 1) := by decide +kernel
theorem dL_cut_3 : decode cL_cut 3 = .ok (.istore 4, 2) := by decide +kernel
theorem dL_cut_5 : decode cL_cut 5 = .ok (.iload 4, 2) := by decide +kernel
theorem dL_cut_7 : decode cL_cut 7 = .ok (.bipush 64, 2) := by decide +kernel
theorem dL_cut_9 : decode cL_cut 9 = .ok (.if_icmp .ge 18, 3) := by decide +kernel
theorem dL_cut_12 : decode cL_cut 12 = .ok (.aload_n 1, 1) := by decide +kernel
theorem dL_cut_13 : decode cL_cut 13 = .ok (.iload 4, 2) := by decide +kernel
theorem dL_cut_15 : decode cL_cut 15 = .ok (.dup2, 1) := by decide +kernel
theorem dL_cut_16 : decode cL_cut 16 = .ok (.iaload, 1) := by decide +kernel
theorem dL_cut_17 : decode cL_cut 17 = .ok (.ldc 92, 2) := by decide +kernel
theorem dL_cut_19 : decode cL_cut 19 = .ok (.iand, 1) := by decide +kernel
theorem dL_cut_20 : decode cL_cut 20 = .ok (.iastore, 1) := by decide +kernel
theorem dL_cut_21 : decode cL_cut 21 = .ok (.iinc 4 1, 3) := by decide +kernel
theorem dL_cut_24 : decode cL_cut 24 = .ok (.goto (-19), 3) := by decide +kernel
theorem dL_cut_27 : decode cL_cut 27 = .ok (.iconst 0, 1) := by decide +kernel
theorem dL_cut_28 : decode cL_cut 28 = .ok (.istore 4, 2) := by decide +kernel
theorem dL_cut_30 : decode cL_cut 30 = .ok (.iload 4, 2) := by decide +kernel
theorem dL_cut_32 : decode cL_cut 32 = .ok (.ifCond .lt 160, 3) := by decide +kernel
theorem dL_cut_35 : decode cL_cut 35 = .ok (.iconst (-1), 1) := by decide +kernel
theorem dL_cut_36 : decode cL_cut 36 = .ok (.istore 4, 2) := by decide +kernel
theorem dL_cut_38 : decode cL_cut 38 = .ok (.iconst 0, 1) := by decide +kernel
theorem dL_cut_39 : decode cL_cut 39 = .ok (.istore 5, 2) := by decide +kernel
theorem dL_cut_41 : decode cL_cut 41 = .ok (.iload 5, 2) := by decide +kernel
theorem dL_cut_43 : decode cL_cut 43 = .ok (.bipush 8, 2) := by decide +kernel
theorem dL_cut_45 : decode cL_cut 45 = .ok (.iload_n 2, 1) := by decide +kernel
theorem dL_cut_46 : decode cL_cut 46 = .ok (.imul, 1) := by decide +kernel
theorem dL_cut_47 : decode cL_cut 47 = .ok (.if_icmp .ge 125, 3) := by decide +kernel
theorem dL_cut_50 : decode cL_cut 50 = .ok (.iload 5, 2) := by decide +kernel
theorem dL_cut_52 : decode cL_cut 52 = .ok (.bipush 8, 2) := by decide +kernel
theorem dL_cut_54 : decode cL_cut 54 = .ok (.irem, 1) := by decide +kernel
theorem dL_cut_55 : decode cL_cut 55 = .ok (.iload_n 2, 1) := by decide +kernel
theorem dL_cut_56 : decode cL_cut 56 = .ok (.if_icmp .ge 43, 3) := by decide +kernel
theorem dL_cut_59 : decode cL_cut 59 = .ok (.aload_n 1, 1) := by decide +kernel
theorem dL_cut_60 : decode cL_cut 60 = .ok (.iload 5, 2) := by decide +kernel
theorem dL_cut_62 : decode cL_cut 62 = .ok (.iaload, 1) := by decide +kernel
theorem dL_cut_63 : decode cL_cut 63 = .ok (.ifCond .le 36, 3) := by decide +kernel
theorem dL_cut_66 : decode cL_cut 66 = .ok (.aload_n 1, 1) := by decide +kernel
theorem dL_cut_67 : decode cL_cut 67 = .ok (.iload 5, 2) := by decide +kernel
theorem dL_cut_69 : decode cL_cut 69 = .ok (.iaload, 1) := by decide +kernel
theorem dL_cut_70 : decode cL_cut 70 = .ok (.bipush 20, 2) := by decide +kernel
theorem dL_cut_72 : decode cL_cut 72 = .ok (.ishr, 1) := by decide +kernel
theorem dL_cut_73 : decode cL_cut 73 = .ok (.ifCond .ne 26, 3) := by decide +kernel
theorem dL_cut_76 : decode cL_cut 76 = .ok (.aload_n 0, 1) := by decide +kernel
theorem dL_cut_77 : decode cL_cut 77 = .ok (.aload_n 1, 1) := by decide +kernel
theorem dL_cut_78 : decode cL_cut 78 = .ok (.iload_n 2, 1) := by decide +kernel
theorem dL_cut_79 : decode cL_cut 79 = .ok (.iload 5, 2) := by decide +kernel
theorem dL_cut_81 : decode cL_cut 81 = .ok (.bipush 8, 2) := by decide +kernel
theorem dL_cut_83 : decode cL_cut 83 = .ok (.irem, 1) := by decide +kernel
theorem dL_cut_84 : decode cL_cut 84 = .ok (.iload 5, 2) := by decide +kernel
theorem dL_cut_86 : decode cL_cut 86 = .ok (.bipush 8, 2) := by decide +kernel
theorem dL_cut_88 : decode cL_cut 88 = .ok (.idiv, 1) := by decide +kernel
theorem dL_cut_89 : decode cL_cut 89 = .ok (.invokestatic 93, 3) := by decide +kernel
theorem dL_cut_92 : decode cL_cut 92 = .ok (.ifCond .eq 7, 3) := by decide +kernel
theorem dL_cut_95 : decode cL_cut 95 = .ok (.iconst 1, 1) := by decide +kernel
theorem dL_cut_96 : decode cL_cut 96 = .ok (.goto 4, 3) := by decide +kernel
theorem dL_cut_99 : decode cL_cut 99 = .ok (.iconst 0, 1) := by decide +kernel
theorem dL_cut_100 : decode cL_cut 100 = .ok (.istore 6, 2) := by decide +kernel
theorem dL_cut_102 : decode cL_cut 102 = .ok (.aload_n 1, 1) := by decide +kernel
theorem dL_cut_103 : decode cL_cut 103 = .ok (.iload 5, 2) := by decide +kernel
theorem dL_cut_105 : decode cL_cut 105 = .ok (.iaload, 1) := by decide +kernel
theorem dL_cut_106 : decode cL_cut 106 = .ok (.bipush 127, 2) := by decide +kernel
theorem dL_cut_108 : decode cL_cut 108 = .ok (.iand, 1) := by decide +kernel
theorem dL_cut_109 : decode cL_cut 109 = .ok (.sipush 8192, 3) := by decide +kernel
theorem dL_cut_112 : decode cL_cut 112 = .ok (.imul, 1) := by decide +kernel
theorem dL_cut_113 : decode cL_cut 113 = .ok (.aload_n 1, 1) := by decide +kernel
theorem dL_cut_114 : decode cL_cut 114 = .ok (.iload 5, 2) := by decide +kernel
theorem dL_cut_116 : decode cL_cut 116 = .ok (.iaload, 1) := by decide +kernel
theorem dL_cut_117 : decode cL_cut 117 = .ok (.bipush 7, 2) := by decide +kernel
theorem dL_cut_119 : decode cL_cut 119 = .ok (.ishr, 1) := by decide +kernel
theorem dL_cut_120 : decode cL_cut 120 = .ok (.iadd, 1) := by decide +kernel
theorem dL_cut_121 : decode cL_cut 121 = .ok (.istore 7, 2) := by decide +kernel
theorem dL_cut_123 : decode cL_cut 123 = .ok (.iload 6, 2) := by decide +kernel
theorem dL_cut_125 : decode cL_cut 125 = .ok (.ifCond .eq 37, 3) := by decide +kernel
theorem dL_cut_128 : decode cL_cut 128 = .ok (.iload 4, 2) := by decide +kernel
theorem dL_cut_130 : decode cL_cut 130 = .ok (.ifCond .lt 27, 3) := by decide +kernel
theorem dL_cut_133 : decode cL_cut 133 = .ok (.iload 7, 2) := by decide +kernel
theorem dL_cut_135 : decode cL_cut 135 = .ok (.aload_n 1, 1) := by decide +kernel
theorem dL_cut_136 : decode cL_cut 136 = .ok (.iload 4, 2) := by decide +kernel
theorem dL_cut_138 : decode cL_cut 138 = .ok (.iaload, 1) := by decide +kernel
theorem dL_cut_139 : decode cL_cut 139 = .ok (.bipush 127, 2) := by decide +kernel
theorem dL_cut_141 : decode cL_cut 141 = .ok (.iand, 1) := by decide +kernel
theorem dL_cut_142 : decode cL_cut 142 = .ok (.sipush 8192, 3) := by decide +kernel
theorem dL_cut_145 : decode cL_cut 145 = .ok (.imul, 1) := by decide +kernel
theorem dL_cut_146 : decode cL_cut 146 = .ok (.aload_n 1, 1) := by decide +kernel
theorem dL_cut_147 : decode cL_cut 147 = .ok (.iload 4, 2) := by decide +kernel
theorem dL_cut_149 : decode cL_cut 149 = .ok (.iaload, 1) := by decide +kernel
theorem dL_cut_150 : decode cL_cut 150 = .ok (.bipush 7, 2) := by decide +kernel
theorem dL_cut_152 : decode cL_cut 152 = .ok (.ishr, 1) := by decide +kernel
theorem dL_cut_153 : decode cL_cut 153 = .ok (.iadd, 1) := by decide +kernel
theorem dL_cut_154 : decode cL_cut 154 = .ok (.if_icmp .ge 8, 3) := by decide +kernel
theorem dL_cut_157 : decode cL_cut 157 = .ok (.iload 5, 2) := by decide +kernel
theorem dL_cut_159 : decode cL_cut 159 = .ok (.goto 5, 3) := by decide +kernel
theorem dL_cut_162 : decode cL_cut 162 = .ok (.iload 4, 2) := by decide +kernel
theorem dL_cut_164 : decode cL_cut 164 = .ok (.istore 4, 2) := by decide +kernel
theorem dL_cut_166 : decode cL_cut 166 = .ok (.iinc 5 1, 3) := by decide +kernel
theorem dL_cut_169 : decode cL_cut 169 = .ok (.goto (-128), 3) := by decide +kernel
theorem dL_cut_172 : decode cL_cut 172 = .ok (.iload 4, 2) := by decide +kernel
theorem dL_cut_174 : decode cL_cut 174 = .ok (.ifCond .lt (-144), 3) := by decide +kernel
theorem dL_cut_177 : decode cL_cut 177 = .ok (.aload_n 1, 1) := by decide +kernel
theorem dL_cut_178 : decode cL_cut 178 = .ok (.iload 4, 2) := by decide +kernel
theorem dL_cut_180 : decode cL_cut 180 = .ok (.dup2, 1) := by decide +kernel
theorem dL_cut_181 : decode cL_cut 181 = .ok (.iaload, 1) := by decide +kernel
theorem dL_cut_182 : decode cL_cut 182 = .ok (.ldc 99, 2) := by decide +kernel
theorem dL_cut_184 : decode cL_cut 184 = .ok (.ior, 1) := by decide +kernel
theorem dL_cut_185 : decode cL_cut 185 = .ok (.iastore, 1) := by decide +kernel
theorem dL_cut_186 : decode cL_cut 186 = .ok (.iinc 3 1, 3) := by decide +kernel
theorem dL_cut_189 : decode cL_cut 189 = .ok (.goto (-159), 3) := by decide +kernel
theorem dL_cut_192 : decode cL_cut 192 = .ok (.iload_n 3, 1) := by decide +kernel
theorem dL_cut_193 : decode cL_cut 193 = .ok (.ireturn, 1) := by decide +kernel
theorem dL_isOff_0 : decode cL_isOff 0 = .ok (.iload_n 0, 1) := by decide +kernel
theorem dL_isOff_1 : decode cL_isOff 1 = .ok (.iconst 3, 1) := by decide +kernel
theorem dL_isOff_2 : decode cL_isOff 2 = .ok (.if_icmp .eq 8, 3) := by decide +kernel
theorem dL_isOff_5 : decode cL_isOff 5 = .ok (.iload_n 0, 1) := by decide +kernel
theorem dL_isOff_6 : decode cL_isOff 6 = .ok (.iconst 4, 1) := by decide +kernel
theorem dL_isOff_7 : decode cL_isOff 7 = .ok (.if_icmp .ne 7, 3) := by decide +kernel
theorem dL_isOff_10 : decode cL_isOff 10 = .ok (.iconst 1, 1) := by decide +kernel
theorem dL_isOff_11 : decode cL_isOff 11 = .ok (.goto 4, 3) := by decide +kernel
theorem dL_isOff_14 : decode cL_isOff 14 = .ok (.iconst 0, 1) := by decide +kernel
theorem dL_isOff_15 : decode cL_isOff 15 = .ok (.ireturn, 1) := by decide +kernel
set_option maxRecDepth 20000 in
theorem ggL_met_X2_state : GoodIn wsL_met wsX2_state := goodIn_ca (goodIn_r _ [5, 6, 7, 8, 9, 4, 10, 11, 12, 13, 14, 19, 20, 21, 22, 23, 24, 25, 26, 27, 28, 29, 30, 31, 32, 33, 34, 35, 36, 37, 38] (by decide +kernel) (by decide +kernel)) (goodIn_sub (fun _ h => List.mem_cons_of_mem _ (List.mem_append_right _ h)) (by decide +kernel))
set_option maxRecDepth 20000 in
theorem gL_met_X2_state : GoodIn wsL_met (wsV RL 55 RX2 yX2_state wsX2_state) := goodIn_app (goodIn_of _ (by decide +kernel)) ggL_met_X2_state
set_option maxRecDepth 20000 in
theorem ggL_met_L_isOff : GoodIn wsL_met wsL_isOff := goodIn_r _ [18] (by decide +kernel) (by decide +kernel)
set_option maxRecDepth 20000 in
theorem gL_met_L_isOff : GoodIn wsL_met (va_wsS RL 100 yL_isOff wsL_isOff) := goodIn_app (goodIn_of _ (by decide +kernel)) ggL_met_L_isOff
theorem dL_met_0 : decode cL_met 0 = .ok (.aload_n 1, 1) := by decide +kernel
theorem dL_met_1 : decode cL_met 1 = .ok (.bipush 8, 2) := by decide +kernel
theorem dL_met_3 : decode cL_met 3 = .ok (.iload_n 2, 1) := by decide +kernel
theorem dL_met_4 : decode cL_met 4 = .ok (.imul, 1) := by decide +kernel
theorem dL_met_5 : decode cL_met 5 = .ok (.iconst 2, 1) := by decide +kernel
theorem dL_met_6 : decode cL_met 6 = .ok (.iadd, 1) := by decide +kernel
theorem dL_met_7 : decode cL_met 7 = .ok (.iaload, 1) := by decide +kernel
theorem dL_met_8 : decode cL_met 8 = .ok (.istore_n 3, 1) := by decide +kernel
theorem dL_met_9 : decode cL_met 9 = .ok (.aload_n 0, 1) := by decide +kernel
theorem dL_met_10 : decode cL_met 10 = .ok (.iload_n 2, 1) := by decide +kernel
theorem dL_met_11 : decode cL_met 11 = .ok (.invokevirtual 55, 3) := by decide +kernel
theorem dL_met_14 : decode cL_met 14 = .ok (.istore 4, 2) := by decide +kernel
theorem dL_met_16 : decode cL_met 16 = .ok (.iload_n 3, 1) := by decide +kernel
theorem dL_met_17 : decode cL_met 17 = .ok (.ifCond .ge 7, 3) := by decide +kernel
theorem dL_met_20 : decode cL_met 20 = .ok (.iconst 4, 1) := by decide +kernel
theorem dL_met_21 : decode cL_met 21 = .ok (.goto 8, 3) := by decide +kernel
theorem dL_met_24 : decode cL_met 24 = .ok (.aload_n 0, 1) := by decide +kernel
theorem dL_met_25 : decode cL_met 25 = .ok (.iload_n 3, 1) := by decide +kernel
theorem dL_met_26 : decode cL_met 26 = .ok (.invokevirtual 55, 3) := by decide +kernel
theorem dL_met_29 : decode cL_met 29 = .ok (.istore 5, 2) := by decide +kernel
theorem dL_met_31 : decode cL_met 31 = .ok (.iload 4, 2) := by decide +kernel
theorem dL_met_33 : decode cL_met 33 = .ok (.iconst 2, 1) := by decide +kernel
theorem dL_met_34 : decode cL_met 34 = .ok (.if_icmp .eq 17, 3) := by decide +kernel
theorem dL_met_37 : decode cL_met 37 = .ok (.iload 4, 2) := by decide +kernel
theorem dL_met_39 : decode cL_met 39 = .ok (.invokestatic 100, 3) := by decide +kernel
theorem dL_met_42 : decode cL_met 42 = .ok (.ifCond .eq 13, 3) := by decide +kernel
theorem dL_met_45 : decode cL_met 45 = .ok (.iload 5, 2) := by decide +kernel
theorem dL_met_47 : decode cL_met 47 = .ok (.iconst 2, 1) := by decide +kernel
theorem dL_met_48 : decode cL_met 48 = .ok (.if_icmp .ne 7, 3) := by decide +kernel
theorem dL_met_51 : decode cL_met 51 = .ok (.iconst 1, 1) := by decide +kernel
theorem dL_met_52 : decode cL_met 52 = .ok (.goto 24, 3) := by decide +kernel
theorem dL_met_55 : decode cL_met 55 = .ok (.iload 4, 2) := by decide +kernel
theorem dL_met_57 : decode cL_met 57 = .ok (.invokestatic 100, 3) := by decide +kernel
theorem dL_met_60 : decode cL_met 60 = .ok (.ifCond .eq 15, 3) := by decide +kernel
theorem dL_met_63 : decode cL_met 63 = .ok (.iload 5, 2) := by decide +kernel
theorem dL_met_65 : decode cL_met 65 = .ok (.invokestatic 100, 3) := by decide +kernel
theorem dL_met_68 : decode cL_met 68 = .ok (.ifCond .eq 7, 3) := by decide +kernel
theorem dL_met_71 : decode cL_met 71 = .ok (.iconst 2, 1) := by decide +kernel
theorem dL_met_72 : decode cL_met 72 = .ok (.goto 4, 3) := by decide +kernel
theorem dL_met_75 : decode cL_met 75 = .ok (.iconst 0, 1) := by decide +kernel
theorem dL_met_76 : decode cL_met 76 = .ok (.ireturn, 1) := by decide +kernel
set_option maxRecDepth 20000 in
theorem ggL_waited_X2_units : GoodIn wsL_waited wsX2_units := goodIn_r _ [5, 6, 26, 27, 28, 29, 30, 31, 32] (by decide +kernel) (by decide +kernel)
set_option maxRecDepth 20000 in
theorem gL_waited_X2_units : GoodIn wsL_waited (wsV RL 61 RX2 yX2_units wsX2_units) := goodIn_app (goodIn_of _ (by decide +kernel)) ggL_waited_X2_units
set_option maxRecDepth 20000 in
theorem ggL_waited_X2_state : GoodIn wsL_waited wsX2_state := goodIn_ca (goodIn_r _ [10, 11, 12, 13, 14, 4, 15, 16, 17, 6, 18, 33, 34, 35, 36, 37, 38, 39, 40, 41, 42, 43, 44, 45, 26, 27, 28, 29, 30, 31, 32] (by decide +kernel) (by decide +kernel)) (goodIn_sub (fun _ h => List.mem_cons_of_mem _ (List.mem_append_right _ h)) (by decide +kernel))
set_option maxRecDepth 20000 in
theorem gL_waited_X2_state : GoodIn wsL_waited (wsV RL 55 RX2 yX2_state wsX2_state) := goodIn_app (goodIn_of _ (by decide +kernel)) ggL_waited_X2_state
set_option maxRecDepth 20000 in
theorem ggL_waited_L_met : GoodIn wsL_waited wsL_met := goodIn_ca (goodIn_r _ [22, 7, 8, 9, 4, 10, 11, 12, 13, 14, 15, 16, 17, 6, 18, 23, 24, 21, 25, 33, 34, 35, 36, 37, 38, 39, 40, 41, 42, 43, 44, 45, 26, 27, 28, 29, 30, 31, 32] (by decide +kernel) (by decide +kernel)) (goodIn_sub (fun _ h => List.mem_cons_of_mem _ (List.mem_append_right _ h)) (by decide +kernel))
set_option maxRecDepth 20000 in
theorem gL_waited_L_met : GoodIn wsL_waited (va_wsS RL 104 yL_met wsL_met) := goodIn_app (goodIn_of _ (by decide +kernel)) ggL_waited_L_met
theorem dL_waited_0 : decode cL_waited 0 = .ok (.iconst (-1), 1) := by decide +kernel
theorem dL_waited_1 : decode cL_waited 1 = .ok (.istore 4, 2) := by decide +kernel
theorem dL_waited_3 : decode cL_waited 3 = .ok (.aload_n 0, 1) := by decide +kernel
theorem dL_waited_4 : decode cL_waited 4 = .ok (.invokevirtual 61, 3) := by decide +kernel
theorem dL_waited_7 : decode cL_waited 7 = .ok (.iconst 1, 1) := by decide +kernel
theorem dL_waited_8 : decode cL_waited 8 = .ok (.isub, 1) := by decide +kernel
theorem dL_waited_9 : decode cL_waited 9 = .ok (.istore 5, 2) := by decide +kernel
theorem dL_waited_11 : decode cL_waited 11 = .ok (.iload 5, 2) := by decide +kernel
theorem dL_waited_13 : decode cL_waited 13 = .ok (.ifCond .lt 115, 3) := by decide +kernel
theorem dL_waited_16 : decode cL_waited 16 = .ok (.aload_n 2, 1) := by decide +kernel
theorem dL_waited_17 : decode cL_waited 17 = .ok (.bipush 8, 2) := by decide +kernel
theorem dL_waited_19 : decode cL_waited 19 = .ok (.iload_n 3, 1) := by decide +kernel
theorem dL_waited_20 : decode cL_waited 20 = .ok (.imul, 1) := by decide +kernel
theorem dL_waited_21 : decode cL_waited 21 = .ok (.iload 5, 2) := by decide +kernel
theorem dL_waited_23 : decode cL_waited 23 = .ok (.iadd, 1) := by decide +kernel
theorem dL_waited_24 : decode cL_waited 24 = .ok (.iaload, 1) := by decide +kernel
theorem dL_waited_25 : decode cL_waited 25 = .ok (.ifCond .le 22, 3) := by decide +kernel
theorem dL_waited_28 : decode cL_waited 28 = .ok (.aload_n 2, 1) := by decide +kernel
theorem dL_waited_29 : decode cL_waited 29 = .ok (.bipush 8, 2) := by decide +kernel
theorem dL_waited_31 : decode cL_waited 31 = .ok (.iload_n 3, 1) := by decide +kernel
theorem dL_waited_32 : decode cL_waited 32 = .ok (.imul, 1) := by decide +kernel
theorem dL_waited_33 : decode cL_waited 33 = .ok (.iload 5, 2) := by decide +kernel
theorem dL_waited_35 : decode cL_waited 35 = .ok (.iadd, 1) := by decide +kernel
theorem dL_waited_36 : decode cL_waited 36 = .ok (.iaload, 1) := by decide +kernel
theorem dL_waited_37 : decode cL_waited 37 = .ok (.bipush 20, 2) := by decide +kernel
theorem dL_waited_39 : decode cL_waited 39 = .ok (.ishr, 1) := by decide +kernel
theorem dL_waited_40 : decode cL_waited 40 = .ok (.ifCond .ne 7, 3) := by decide +kernel
theorem dL_waited_43 : decode cL_waited 43 = .ok (.iconst 1, 1) := by decide +kernel
theorem dL_waited_44 : decode cL_waited 44 = .ok (.goto 4, 3) := by decide +kernel
theorem dL_waited_47 : decode cL_waited 47 = .ok (.iconst 0, 1) := by decide +kernel
theorem dL_waited_48 : decode cL_waited 48 = .ok (.istore 6, 2) := by decide +kernel
theorem dL_waited_50 : decode cL_waited 50 = .ok (.aload_n 0, 1) := by decide +kernel
theorem dL_waited_51 : decode cL_waited 51 = .ok (.iload 5, 2) := by decide +kernel
theorem dL_waited_53 : decode cL_waited 53 = .ok (.invokevirtual 55, 3) := by decide +kernel
theorem dL_waited_56 : decode cL_waited 56 = .ok (.ifCond .eq 13, 3) := by decide +kernel
theorem dL_waited_59 : decode cL_waited 59 = .ok (.aload_n 0, 1) := by decide +kernel
theorem dL_waited_60 : decode cL_waited 60 = .ok (.iload 5, 2) := by decide +kernel
theorem dL_waited_62 : decode cL_waited 62 = .ok (.invokevirtual 55, 3) := by decide +kernel
theorem dL_waited_65 : decode cL_waited 65 = .ok (.iconst 1, 1) := by decide +kernel
theorem dL_waited_66 : decode cL_waited 66 = .ok (.if_icmp .ne 7, 3) := by decide +kernel
theorem dL_waited_69 : decode cL_waited 69 = .ok (.iconst 1, 1) := by decide +kernel
theorem dL_waited_70 : decode cL_waited 70 = .ok (.goto 4, 3) := by decide +kernel
theorem dL_waited_73 : decode cL_waited 73 = .ok (.iconst 0, 1) := by decide +kernel
theorem dL_waited_74 : decode cL_waited 74 = .ok (.istore 7, 2) := by decide +kernel
theorem dL_waited_76 : decode cL_waited 76 = .ok (.aload_n 1, 1) := by decide +kernel
theorem dL_waited_77 : decode cL_waited 77 = .ok (.bipush 8, 2) := by decide +kernel
theorem dL_waited_79 : decode cL_waited 79 = .ok (.iload_n 3, 1) := by decide +kernel
theorem dL_waited_80 : decode cL_waited 80 = .ok (.imul, 1) := by decide +kernel
theorem dL_waited_81 : decode cL_waited 81 = .ok (.iconst 4, 1) := by decide +kernel
theorem dL_waited_82 : decode cL_waited 82 = .ok (.iadd, 1) := by decide +kernel
theorem dL_waited_83 : decode cL_waited 83 = .ok (.iaload, 1) := by decide +kernel
theorem dL_waited_84 : decode cL_waited 84 = .ok (.iload 5, 2) := by decide +kernel
theorem dL_waited_86 : decode cL_waited 86 = .ok (.ishr, 1) := by decide +kernel
theorem dL_waited_87 : decode cL_waited 87 = .ok (.iconst 1, 1) := by decide +kernel
theorem dL_waited_88 : decode cL_waited 88 = .ok (.iand, 1) := by decide +kernel
theorem dL_waited_89 : decode cL_waited 89 = .ok (.iconst 1, 1) := by decide +kernel
theorem dL_waited_90 : decode cL_waited 90 = .ok (.if_icmp .ne 13, 3) := by decide +kernel
theorem dL_waited_93 : decode cL_waited 93 = .ok (.aload_n 0, 1) := by decide +kernel
theorem dL_waited_94 : decode cL_waited 94 = .ok (.aload_n 1, 1) := by decide +kernel
theorem dL_waited_95 : decode cL_waited 95 = .ok (.iload 5, 2) := by decide +kernel
theorem dL_waited_97 : decode cL_waited 97 = .ok (.invokestatic 104, 3) := by decide +kernel
theorem dL_waited_100 : decode cL_waited 100 = .ok (.ifCond .eq 13, 3) := by decide +kernel
theorem dL_waited_103 : decode cL_waited 103 = .ok (.iload 6, 2) := by decide +kernel
theorem dL_waited_105 : decode cL_waited 105 = .ok (.ifCond .eq 13, 3) := by decide +kernel
theorem dL_waited_108 : decode cL_waited 108 = .ok (.iload 7, 2) := by decide +kernel
theorem dL_waited_110 : decode cL_waited 110 = .ok (.ifCond .eq 8, 3) := by decide +kernel
theorem dL_waited_113 : decode cL_waited 113 = .ok (.iload 5, 2) := by decide +kernel
theorem dL_waited_115 : decode cL_waited 115 = .ok (.goto 5, 3) := by decide +kernel
theorem dL_waited_118 : decode cL_waited 118 = .ok (.iload 4, 2) := by decide +kernel
theorem dL_waited_120 : decode cL_waited 120 = .ok (.istore 4, 2) := by decide +kernel
theorem dL_waited_122 : decode cL_waited 122 = .ok (.iinc 5 (-1), 3) := by decide +kernel
theorem dL_waited_125 : decode cL_waited 125 = .ok (.goto (-114), 3) := by decide +kernel
theorem dL_waited_128 : decode cL_waited 128 = .ok (.iload 4, 2) := by decide +kernel
theorem dL_waited_130 : decode cL_waited 130 = .ok (.ireturn, 1) := by decide +kernel
set_option maxRecDepth 20000 in
theorem ggL_hasLost_X2_units : GoodIn wsL_hasLost wsX2_units := goodIn_r _ [5, 6, 26, 27, 28, 29, 30, 31, 32] (by decide +kernel) (by decide +kernel)
set_option maxRecDepth 20000 in
theorem gL_hasLost_X2_units : GoodIn wsL_hasLost (wsV RL 61 RX2 yX2_units wsX2_units) := goodIn_app (goodIn_of _ (by decide +kernel)) ggL_hasLost_X2_units
set_option maxRecDepth 20000 in
theorem ggL_hasLost_L_met : GoodIn wsL_hasLost wsL_met := goodIn_ca (goodIn_r _ [10, 11, 12, 13, 4, 14, 15, 16, 17, 18, 19, 20, 21, 6, 22, 23, 24, 9, 25, 33, 34, 35, 36, 37, 38, 39, 40, 41, 42, 43, 44, 45, 26, 27, 28, 29, 30, 31, 32] (by decide +kernel) (by decide +kernel)) (goodIn_sub (fun _ h => List.mem_cons_of_mem _ (List.mem_append_right _ h)) (by decide +kernel))
set_option maxRecDepth 20000 in
theorem gL_hasLost_L_met : GoodIn wsL_hasLost (va_wsS RL 104 yL_met wsL_met) := goodIn_app (goodIn_of _ (by decide +kernel)) ggL_hasLost_L_met
theorem dL_hasLost_0 : decode cL_hasLost 0 = .ok (.iconst 0, 1) := by decide +kernel
theorem dL_hasLost_1 : decode cL_hasLost 1 = .ok (.istore_n 3, 1) := by decide +kernel
theorem dL_hasLost_2 : decode cL_hasLost 2 = .ok (.iconst 0, 1) := by decide +kernel
theorem dL_hasLost_3 : decode cL_hasLost 3 = .ok (.istore 4, 2) := by decide +kernel
theorem dL_hasLost_5 : decode cL_hasLost 5 = .ok (.iload 4, 2) := by decide +kernel
theorem dL_hasLost_7 : decode cL_hasLost 7 = .ok (.aload_n 0, 1) := by decide +kernel
theorem dL_hasLost_8 : decode cL_hasLost 8 = .ok (.invokevirtual 61, 3) := by decide +kernel
theorem dL_hasLost_11 : decode cL_hasLost 11 = .ok (.if_icmp .ge 47, 3) := by decide +kernel
theorem dL_hasLost_14 : decode cL_hasLost 14 = .ok (.iload_n 3, 1) := by decide +kernel
theorem dL_hasLost_15 : decode cL_hasLost 15 = .ok (.ifCond .ne 31, 3) := by decide +kernel
theorem dL_hasLost_18 : decode cL_hasLost 18 = .ok (.aload_n 1, 1) := by decide +kernel
theorem dL_hasLost_19 : decode cL_hasLost 19 = .ok (.bipush 8, 2) := by decide +kernel
theorem dL_hasLost_21 : decode cL_hasLost 21 = .ok (.iload_n 2, 1) := by decide +kernel
theorem dL_hasLost_22 : decode cL_hasLost 22 = .ok (.imul, 1) := by decide +kernel
theorem dL_hasLost_23 : decode cL_hasLost 23 = .ok (.iconst 4, 1) := by decide +kernel
theorem dL_hasLost_24 : decode cL_hasLost 24 = .ok (.iadd, 1) := by decide +kernel
theorem dL_hasLost_25 : decode cL_hasLost 25 = .ok (.iaload, 1) := by decide +kernel
theorem dL_hasLost_26 : decode cL_hasLost 26 = .ok (.iload 4, 2) := by decide +kernel
theorem dL_hasLost_28 : decode cL_hasLost 28 = .ok (.ishr, 1) := by decide +kernel
theorem dL_hasLost_29 : decode cL_hasLost 29 = .ok (.iconst 1, 1) := by decide +kernel
theorem dL_hasLost_30 : decode cL_hasLost 30 = .ok (.iand, 1) := by decide +kernel
theorem dL_hasLost_31 : decode cL_hasLost 31 = .ok (.iconst 1, 1) := by decide +kernel
theorem dL_hasLost_32 : decode cL_hasLost 32 = .ok (.if_icmp .ne 18, 3) := by decide +kernel
theorem dL_hasLost_35 : decode cL_hasLost 35 = .ok (.aload_n 0, 1) := by decide +kernel
theorem dL_hasLost_36 : decode cL_hasLost 36 = .ok (.aload_n 1, 1) := by decide +kernel
theorem dL_hasLost_37 : decode cL_hasLost 37 = .ok (.iload 4, 2) := by decide +kernel
theorem dL_hasLost_39 : decode cL_hasLost 39 = .ok (.invokestatic 104, 3) := by decide +kernel
theorem dL_hasLost_42 : decode cL_hasLost 42 = .ok (.iconst 2, 1) := by decide +kernel
theorem dL_hasLost_43 : decode cL_hasLost 43 = .ok (.if_icmp .ne 7, 3) := by decide +kernel
theorem dL_hasLost_46 : decode cL_hasLost 46 = .ok (.iconst 1, 1) := by decide +kernel
theorem dL_hasLost_47 : decode cL_hasLost 47 = .ok (.goto 4, 3) := by decide +kernel
theorem dL_hasLost_50 : decode cL_hasLost 50 = .ok (.iconst 0, 1) := by decide +kernel
theorem dL_hasLost_51 : decode cL_hasLost 51 = .ok (.istore_n 3, 1) := by decide +kernel
theorem dL_hasLost_52 : decode cL_hasLost 52 = .ok (.iinc 4 1, 3) := by decide +kernel
theorem dL_hasLost_55 : decode cL_hasLost 55 = .ok (.goto (-50), 3) := by decide +kernel
theorem dL_hasLost_58 : decode cL_hasLost 58 = .ok (.iload_n 3, 1) := by decide +kernel
theorem dL_hasLost_59 : decode cL_hasLost 59 = .ok (.ireturn, 1) := by decide +kernel
set_option maxRecDepth 20000 in
theorem ggL_areUnits_X2_bar : GoodIn wsL_areUnits wsX2_bar := goodIn_r _ [5, 6, 81, 82, 83, 84, 85, 86, 87] (by decide +kernel) (by decide +kernel)
set_option maxRecDepth 20000 in
theorem gL_areUnits_X2_bar : GoodIn wsL_areUnits (wsV RL 67 RX2 yX2_bar wsX2_bar) := goodIn_app (goodIn_of _ (by decide +kernel)) ggL_areUnits_X2_bar
set_option maxRecDepth 20000 in
theorem ggL_areUnits_X2_units : GoodIn wsL_areUnits wsX2_units := goodIn_r _ [10, 11, 81, 82, 83, 84, 85, 86, 87] (by decide +kernel) (by decide +kernel)
set_option maxRecDepth 20000 in
theorem gL_areUnits_X2_units : GoodIn wsL_areUnits (wsV RL 61 RX2 yX2_units wsX2_units) := goodIn_app (goodIn_of _ (by decide +kernel)) ggL_areUnits_X2_units
set_option maxRecDepth 20000 in
theorem ggL_areUnits_X2_state : GoodIn wsL_areUnits wsX2_state := goodIn_ca (goodIn_r _ [15, 16, 17, 18, 19, 4, 20, 21, 22, 11, 23, 88, 89, 90, 91, 92, 93, 94, 95, 96, 97, 98, 99, 100, 81, 82, 83, 84, 85, 86, 87] (by decide +kernel) (by decide +kernel)) (goodIn_sub (fun _ h => List.mem_cons_of_mem _ (List.mem_append_right _ h)) (by decide +kernel))
set_option maxRecDepth 20000 in
theorem gL_areUnits_X2_state : GoodIn wsL_areUnits (wsV RL 55 RX2 yX2_state wsX2_state) := goodIn_app (goodIn_of _ (by decide +kernel)) ggL_areUnits_X2_state
set_option maxRecDepth 20000 in
theorem ggL_areUnits_X2_waitsFor : GoodIn wsL_areUnits wsX2_waitsFor := goodIn_ca (goodIn_r _ [27, 16, 11, 23, 17, 18, 19, 4, 20, 21, 22, 28, 29, 30, 31, 32, 33, 34, 35, 36, 37, 38, 39, 40, 41, 42, 43, 44, 45, 46, 47, 48, 49, 50, 51, 52, 53, 54, 55, 56, 57, 58, 59, 60, 61, 88, 89, 90, 91, 92, 93, 94, 95, 96, 97, 98, 99, 100, 81, 82, 83, 84, 85, 86, 87] (by decide +kernel) (by decide +kernel)) (goodIn_sub (fun _ h => List.mem_cons_of_mem _ (List.mem_append_right _ h)) (by decide +kernel))
set_option maxRecDepth 20000 in
theorem gL_areUnits_X2_waitsFor : GoodIn wsL_areUnits (wsV RL 58 RX2 yX2_waitsFor wsX2_waitsFor) := goodIn_app (goodIn_of _ (by decide +kernel)) ggL_areUnits_X2_waitsFor
set_option maxRecDepth 20000 in
theorem ggL_areUnits_L_waited : GoodIn wsL_areUnits wsL_waited := goodIn_ca (goodIn_r _ [65, 7, 8, 9, 4, 10, 11, 12, 13, 14, 15, 16, 17, 18, 19, 20, 21, 22, 23, 66, 67, 64, 68, 69, 70, 71, 81, 82, 83, 84, 85, 86, 87, 88, 89, 90, 91, 92, 93, 94, 95, 96, 97, 98, 99, 100] (by decide +kernel) (by decide +kernel)) (goodIn_sub (fun _ h => List.mem_cons_of_mem _ (List.mem_append_right _ h)) (by decide +kernel))
set_option maxRecDepth 20000 in
theorem gL_areUnits_L_waited : GoodIn wsL_areUnits (va_wsS RL 108 yL_waited wsL_waited) := goodIn_app (goodIn_of _ (by decide +kernel)) ggL_areUnits_L_waited
set_option maxRecDepth 20000 in
theorem ggL_areUnits_X2_learned : GoodIn wsL_areUnits wsX2_learned := goodIn_ca (goodIn_r _ [75, 76, 17, 18, 19, 4, 20, 21, 22, 11, 23, 88, 89, 90, 91, 92, 93, 94, 95, 96, 97, 98, 99, 100, 81, 82, 83, 84, 85, 86, 87] (by decide +kernel) (by decide +kernel)) (goodIn_sub (fun _ h => List.mem_cons_of_mem _ (List.mem_append_right _ h)) (by decide +kernel))
set_option maxRecDepth 20000 in
theorem gL_areUnits_X2_learned : GoodIn wsL_areUnits (wsV RL 49 RX2 yX2_learned wsX2_learned) := goodIn_app (goodIn_of _ (by decide +kernel)) ggL_areUnits_X2_learned
set_option maxRecDepth 20000 in
theorem ggL_areUnits_X2_ready : GoodIn wsL_areUnits wsX2_ready := goodIn_r _ [80, 11, 23, 16, 38, 39, 40, 41, 42, 43, 81, 82, 83, 84, 85, 86, 87, 88, 89, 90, 91, 92, 93, 94, 95, 96, 97, 98, 99, 100] (by decide +kernel) (by decide +kernel)
set_option maxRecDepth 20000 in
theorem gL_areUnits_X2_ready : GoodIn wsL_areUnits (wsV RL 72 RX2 yX2_ready wsX2_ready) := goodIn_app (goodIn_of _ (by decide +kernel)) ggL_areUnits_X2_ready
theorem dL_areUnits_0 : decode cL_areUnits 0 = .ok (.iconst 0, 1) := by decide +kernel
theorem dL_areUnits_1 : decode cL_areUnits 1 = .ok (.istore_n 3, 1) := by decide +kernel
theorem dL_areUnits_2 : decode cL_areUnits 2 = .ok (.aload_n 0, 1) := by decide +kernel
theorem dL_areUnits_3 : decode cL_areUnits 3 = .ok (.invokevirtual 67, 3) := by decide +kernel
theorem dL_areUnits_6 : decode cL_areUnits 6 = .ok (.ifCond .lt 17, 3) := by decide +kernel
theorem dL_areUnits_9 : decode cL_areUnits 9 = .ok (.aload_n 0, 1) := by decide +kernel
theorem dL_areUnits_10 : decode cL_areUnits 10 = .ok (.invokevirtual 67, 3) := by decide +kernel
theorem dL_areUnits_13 : decode cL_areUnits 13 = .ok (.sipush 1000, 3) := by decide +kernel
theorem dL_areUnits_16 : decode cL_areUnits 16 = .ok (.if_icmp .gt 7, 3) := by decide +kernel
theorem dL_areUnits_19 : decode cL_areUnits 19 = .ok (.iconst 1, 1) := by decide +kernel
theorem dL_areUnits_20 : decode cL_areUnits 20 = .ok (.goto 4, 3) := by decide +kernel
theorem dL_areUnits_23 : decode cL_areUnits 23 = .ok (.iconst 0, 1) := by decide +kernel
theorem dL_areUnits_24 : decode cL_areUnits 24 = .ok (.istore 4, 2) := by decide +kernel
theorem dL_areUnits_26 : decode cL_areUnits 26 = .ok (.iconst 0, 1) := by decide +kernel
theorem dL_areUnits_27 : decode cL_areUnits 27 = .ok (.istore 5, 2) := by decide +kernel
theorem dL_areUnits_29 : decode cL_areUnits 29 = .ok (.iload 5, 2) := by decide +kernel
theorem dL_areUnits_31 : decode cL_areUnits 31 = .ok (.aload_n 0, 1) := by decide +kernel
theorem dL_areUnits_32 : decode cL_areUnits 32 = .ok (.invokevirtual 61, 3) := by decide +kernel
theorem dL_areUnits_35 : decode cL_areUnits 35 = .ok (.if_icmp .ge 104, 3) := by decide +kernel
theorem dL_areUnits_38 : decode cL_areUnits 38 = .ok (.iload 4, 2) := by decide +kernel
theorem dL_areUnits_40 : decode cL_areUnits 40 = .ok (.ifCond .eq 99, 3) := by decide +kernel
theorem dL_areUnits_43 : decode cL_areUnits 43 = .ok (.aload_n 0, 1) := by decide +kernel
theorem dL_areUnits_44 : decode cL_areUnits 44 = .ok (.iload 5, 2) := by decide +kernel
theorem dL_areUnits_46 : decode cL_areUnits 46 = .ok (.invokevirtual 55, 3) := by decide +kernel
theorem dL_areUnits_49 : decode cL_areUnits 49 = .ok (.istore 6, 2) := by decide +kernel
theorem dL_areUnits_51 : decode cL_areUnits 51 = .ok (.iload_n 3, 1) := by decide +kernel
theorem dL_areUnits_52 : decode cL_areUnits 52 = .ok (.iload 6, 2) := by decide +kernel
theorem dL_areUnits_54 : decode cL_areUnits 54 = .ok (.iconst 2, 1) := by decide +kernel
theorem dL_areUnits_55 : decode cL_areUnits 55 = .ok (.if_icmp .ne 10, 3) := by decide +kernel
theorem dL_areUnits_58 : decode cL_areUnits 58 = .ok (.iconst 1, 1) := by decide +kernel
theorem dL_areUnits_59 : decode cL_areUnits 59 = .ok (.iload 5, 2) := by decide +kernel
theorem dL_areUnits_61 : decode cL_areUnits 61 = .ok (.ishl, 1) := by decide +kernel
theorem dL_areUnits_62 : decode cL_areUnits 62 = .ok (.goto 4, 3) := by decide +kernel
theorem dL_areUnits_65 : decode cL_areUnits 65 = .ok (.iconst 0, 1) := by decide +kernel
theorem dL_areUnits_66 : decode cL_areUnits 66 = .ok (.ior, 1) := by decide +kernel
theorem dL_areUnits_67 : decode cL_areUnits 67 = .ok (.istore_n 3, 1) := by decide +kernel
theorem dL_areUnits_68 : decode cL_areUnits 68 = .ok (.iload 6, 2) := by decide +kernel
theorem dL_areUnits_70 : decode cL_areUnits 70 = .ok (.ifCond .lt 60, 3) := by decide +kernel
theorem dL_areUnits_73 : decode cL_areUnits 73 = .ok (.iload 6, 2) := by decide +kernel
theorem dL_areUnits_75 : decode cL_areUnits 75 = .ok (.iconst 4, 1) := by decide +kernel
theorem dL_areUnits_76 : decode cL_areUnits 76 = .ok (.if_icmp .gt 54, 3) := by decide +kernel
theorem dL_areUnits_79 : decode cL_areUnits 79 = .ok (.aload_n 0, 1) := by decide +kernel
theorem dL_areUnits_80 : decode cL_areUnits 80 = .ok (.iload 5, 2) := by decide +kernel
theorem dL_areUnits_82 : decode cL_areUnits 82 = .ok (.invokevirtual 58, 3) := by decide +kernel
theorem dL_areUnits_85 : decode cL_areUnits 85 = .ok (.iload 6, 2) := by decide +kernel
theorem dL_areUnits_87 : decode cL_areUnits 87 = .ok (.ifCond .ne 14, 3) := by decide +kernel
theorem dL_areUnits_90 : decode cL_areUnits 90 = .ok (.aload_n 0, 1) := by decide +kernel
theorem dL_areUnits_91 : decode cL_areUnits 91 = .ok (.aload_n 1, 1) := by decide +kernel
theorem dL_areUnits_92 : decode cL_areUnits 92 = .ok (.aload_n 2, 1) := by decide +kernel
theorem dL_areUnits_93 : decode cL_areUnits 93 = .ok (.iload 5, 2) := by decide +kernel
theorem dL_areUnits_95 : decode cL_areUnits 95 = .ok (.invokestatic 108, 3) := by decide +kernel
theorem dL_areUnits_98 : decode cL_areUnits 98 = .ok (.goto 4, 3) := by decide +kernel
theorem dL_areUnits_101 : decode cL_areUnits 101 = .ok (.iconst (-1), 1) := by decide +kernel
theorem dL_areUnits_102 : decode cL_areUnits 102 = .ok (.if_icmp .ne 28, 3) := by decide +kernel
theorem dL_areUnits_105 : decode cL_areUnits 105 = .ok (.aload_n 0, 1) := by decide +kernel
theorem dL_areUnits_106 : decode cL_areUnits 106 = .ok (.iload 5, 2) := by decide +kernel
theorem dL_areUnits_108 : decode cL_areUnits 108 = .ok (.invokevirtual 49, 3) := by decide +kernel
theorem dL_areUnits_111 : decode cL_areUnits 111 = .ok (.iconst 1, 1) := by decide +kernel
theorem dL_areUnits_112 : decode cL_areUnits 112 = .ok (.if_icmp .lt 18, 3) := by decide +kernel
theorem dL_areUnits_115 : decode cL_areUnits 115 = .ok (.aload_n 0, 1) := by decide +kernel
theorem dL_areUnits_116 : decode cL_areUnits 116 = .ok (.iload 5, 2) := by decide +kernel
theorem dL_areUnits_118 : decode cL_areUnits 118 = .ok (.invokevirtual 49, 3) := by decide +kernel
theorem dL_areUnits_121 : decode cL_areUnits 121 = .ok (.bipush 100, 2) := by decide +kernel
theorem dL_areUnits_123 : decode cL_areUnits 123 = .ok (.if_icmp .gt 7, 3) := by decide +kernel
theorem dL_areUnits_126 : decode cL_areUnits 126 = .ok (.iconst 1, 1) := by decide +kernel
theorem dL_areUnits_127 : decode cL_areUnits 127 = .ok (.goto 4, 3) := by decide +kernel
theorem dL_areUnits_130 : decode cL_areUnits 130 = .ok (.iconst 0, 1) := by decide +kernel
theorem dL_areUnits_131 : decode cL_areUnits 131 = .ok (.istore 4, 2) := by decide +kernel
theorem dL_areUnits_133 : decode cL_areUnits 133 = .ok (.iinc 5 1, 3) := by decide +kernel
theorem dL_areUnits_136 : decode cL_areUnits 136 = .ok (.goto (-107), 3) := by decide +kernel
theorem dL_areUnits_139 : decode cL_areUnits 139 = .ok (.iload 4, 2) := by decide +kernel
theorem dL_areUnits_141 : decode cL_areUnits 141 = .ok (.ifCond .eq 15, 3) := by decide +kernel
theorem dL_areUnits_144 : decode cL_areUnits 144 = .ok (.aload_n 0, 1) := by decide +kernel
theorem dL_areUnits_145 : decode cL_areUnits 145 = .ok (.invokevirtual 72, 3) := by decide +kernel
theorem dL_areUnits_148 : decode cL_areUnits 148 = .ok (.iload_n 3, 1) := by decide +kernel
theorem dL_areUnits_149 : decode cL_areUnits 149 = .ok (.if_icmp .ne 7, 3) := by decide +kernel
theorem dL_areUnits_152 : decode cL_areUnits 152 = .ok (.iconst 1, 1) := by decide +kernel
theorem dL_areUnits_153 : decode cL_areUnits 153 = .ok (.goto 4, 3) := by decide +kernel
theorem dL_areUnits_156 : decode cL_areUnits 156 = .ok (.iconst 0, 1) := by decide +kernel
theorem dL_areUnits_157 : decode cL_areUnits 157 = .ok (.ireturn, 1) := by decide +kernel
set_option maxRecDepth 20000 in
theorem ggL_areRunning_X2_canRun : GoodIn wsL_areRunning wsX2_canRun := goodIn_r _ [5, 6, 7, 8, 9, 4, 10, 11, 12, 13, 14, 15, 16, 17, 18, 19, 20, 21, 22, 23, 24, 25, 26, 27, 28, 29, 30, 45, 46, 47, 48, 49, 50, 51, 52, 53, 54, 55, 56, 57, 58, 59, 60, 61, 62, 63, 64] (by decide +kernel) (by decide +kernel)
set_option maxRecDepth 20000 in
theorem gL_areRunning_X2_canRun : GoodIn wsL_areRunning (wsV RL 77 RX2 yX2_canRun wsX2_canRun) := goodIn_app (goodIn_of _ (by decide +kernel)) ggL_areRunning_X2_canRun
set_option maxRecDepth 20000 in
theorem ggL_areRunning_X2_units : GoodIn wsL_areRunning wsX2_units := goodIn_r _ [34, 6, 45, 46, 47, 48, 49, 50, 51] (by decide +kernel) (by decide +kernel)
set_option maxRecDepth 20000 in
theorem gL_areRunning_X2_units : GoodIn wsL_areRunning (wsV RL 61 RX2 yX2_units wsX2_units) := goodIn_app (goodIn_of _ (by decide +kernel)) ggL_areRunning_X2_units
set_option maxRecDepth 20000 in
theorem ggL_areRunning_X2_faults : GoodIn wsL_areRunning wsX2_faults := goodIn_ca (goodIn_r _ [38, 13, 39, 40, 41, 4, 42, 43, 44, 6, 11, 52, 53, 54, 55, 56, 57, 58, 59, 60, 61, 62, 63, 64, 45, 46, 47, 48, 49, 50, 51] (by decide +kernel) (by decide +kernel)) (goodIn_sub (fun _ h => List.mem_cons_of_mem _ (List.mem_append_right _ h)) (by decide +kernel))
set_option maxRecDepth 20000 in
theorem gL_areRunning_X2_faults : GoodIn wsL_areRunning (wsV RL 52 RX2 yX2_faults wsX2_faults) := goodIn_app (goodIn_of _ (by decide +kernel)) ggL_areRunning_X2_faults
theorem dL_areRunning_0 : decode cL_areRunning 0 = .ok (.aload_n 0, 1) := by decide +kernel
theorem dL_areRunning_1 : decode cL_areRunning 1 = .ok (.invokevirtual 77, 3) := by decide +kernel
theorem dL_areRunning_4 : decode cL_areRunning 4 = .ok (.istore_n 2, 1) := by decide +kernel
theorem dL_areRunning_5 : decode cL_areRunning 5 = .ok (.iconst 1, 1) := by decide +kernel
theorem dL_areRunning_6 : decode cL_areRunning 6 = .ok (.aload_n 0, 1) := by decide +kernel
theorem dL_areRunning_7 : decode cL_areRunning 7 = .ok (.invokevirtual 61, 3) := by decide +kernel
theorem dL_areRunning_10 : decode cL_areRunning 10 = .ok (.ishl, 1) := by decide +kernel
theorem dL_areRunning_11 : decode cL_areRunning 11 = .ok (.iconst 1, 1) := by decide +kernel
theorem dL_areRunning_12 : decode cL_areRunning 12 = .ok (.isub, 1) := by decide +kernel
theorem dL_areRunning_13 : decode cL_areRunning 13 = .ok (.istore_n 3, 1) := by decide +kernel
theorem dL_areRunning_14 : decode cL_areRunning 14 = .ok (.iconst 0, 1) := by decide +kernel
theorem dL_areRunning_15 : decode cL_areRunning 15 = .ok (.istore 4, 2) := by decide +kernel
theorem dL_areRunning_17 : decode cL_areRunning 17 = .ok (.iload 4, 2) := by decide +kernel
theorem dL_areRunning_19 : decode cL_areRunning 19 = .ok (.aload_n 0, 1) := by decide +kernel
theorem dL_areRunning_20 : decode cL_areRunning 20 = .ok (.invokevirtual 61, 3) := by decide +kernel
theorem dL_areRunning_23 : decode cL_areRunning 23 = .ok (.if_icmp .gt 180, 3) := by decide +kernel
theorem dL_areRunning_26 : decode cL_areRunning 26 = .ok (.iconst 0, 1) := by decide +kernel
theorem dL_areRunning_27 : decode cL_areRunning 27 = .ok (.istore 5, 2) := by decide +kernel
theorem dL_areRunning_29 : decode cL_areRunning 29 = .ok (.iload 5, 2) := by decide +kernel
theorem dL_areRunning_31 : decode cL_areRunning 31 = .ok (.aload_n 0, 1) := by decide +kernel
theorem dL_areRunning_32 : decode cL_areRunning 32 = .ok (.invokevirtual 61, 3) := by decide +kernel
theorem dL_areRunning_35 : decode cL_areRunning 35 = .ok (.if_icmp .ge 162, 3) := by decide +kernel
theorem dL_areRunning_38 : decode cL_areRunning 38 = .ok (.aload_n 1, 1) := by decide +kernel
theorem dL_areRunning_39 : decode cL_areRunning 39 = .ok (.bipush 8, 2) := by decide +kernel
theorem dL_areRunning_41 : decode cL_areRunning 41 = .ok (.iload 5, 2) := by decide +kernel
theorem dL_areRunning_43 : decode cL_areRunning 43 = .ok (.imul, 1) := by decide +kernel
theorem dL_areRunning_44 : decode cL_areRunning 44 = .ok (.iconst 3, 1) := by decide +kernel
theorem dL_areRunning_45 : decode cL_areRunning 45 = .ok (.iadd, 1) := by decide +kernel
theorem dL_areRunning_46 : decode cL_areRunning 46 = .ok (.iaload, 1) := by decide +kernel
theorem dL_areRunning_47 : decode cL_areRunning 47 = .ok (.ifCond .ne 25, 3) := by decide +kernel
theorem dL_areRunning_50 : decode cL_areRunning 50 = .ok (.aload_n 0, 1) := by decide +kernel
theorem dL_areRunning_51 : decode cL_areRunning 51 = .ok (.iload 5, 2) := by decide +kernel
theorem dL_areRunning_53 : decode cL_areRunning 53 = .ok (.invokevirtual 52, 3) := by decide +kernel
theorem dL_areRunning_56 : decode cL_areRunning 56 = .ok (.aload_n 1, 1) := by decide +kernel
theorem dL_areRunning_57 : decode cL_areRunning 57 = .ok (.bipush 8, 2) := by decide +kernel
theorem dL_areRunning_59 : decode cL_areRunning 59 = .ok (.iload 5, 2) := by decide +kernel
theorem dL_areRunning_61 : decode cL_areRunning 61 = .ok (.imul, 1) := by decide +kernel
theorem dL_areRunning_62 : decode cL_areRunning 62 = .ok (.iconst 1, 1) := by decide +kernel
theorem dL_areRunning_63 : decode cL_areRunning 63 = .ok (.iadd, 1) := by decide +kernel
theorem dL_areRunning_64 : decode cL_areRunning 64 = .ok (.iaload, 1) := by decide +kernel
theorem dL_areRunning_65 : decode cL_areRunning 65 = .ok (.if_icmp .gt 7, 3) := by decide +kernel
theorem dL_areRunning_68 : decode cL_areRunning 68 = .ok (.iconst 1, 1) := by decide +kernel
theorem dL_areRunning_69 : decode cL_areRunning 69 = .ok (.goto 4, 3) := by decide +kernel
theorem dL_areRunning_72 : decode cL_areRunning 72 = .ok (.iconst 0, 1) := by decide +kernel
theorem dL_areRunning_73 : decode cL_areRunning 73 = .ok (.istore 6, 2) := by decide +kernel
theorem dL_areRunning_75 : decode cL_areRunning 75 = .ok (.iconst 0, 1) := by decide +kernel
theorem dL_areRunning_76 : decode cL_areRunning 76 = .ok (.istore 7, 2) := by decide +kernel
theorem dL_areRunning_78 : decode cL_areRunning 78 = .ok (.iload 7, 2) := by decide +kernel
theorem dL_areRunning_80 : decode cL_areRunning 80 = .ok (.aload_n 0, 1) := by decide +kernel
theorem dL_areRunning_81 : decode cL_areRunning 81 = .ok (.invokevirtual 61, 3) := by decide +kernel
theorem dL_areRunning_84 : decode cL_areRunning 84 = .ok (.if_icmp .ge 89, 3) := by decide +kernel
theorem dL_areRunning_87 : decode cL_areRunning 87 = .ok (.iload_n 3, 1) := by decide +kernel
theorem dL_areRunning_88 : decode cL_areRunning 88 = .ok (.iload 7, 2) := by decide +kernel
theorem dL_areRunning_90 : decode cL_areRunning 90 = .ok (.ishr, 1) := by decide +kernel
theorem dL_areRunning_91 : decode cL_areRunning 91 = .ok (.iconst 1, 1) := by decide +kernel
theorem dL_areRunning_92 : decode cL_areRunning 92 = .ok (.iand, 1) := by decide +kernel
theorem dL_areRunning_93 : decode cL_areRunning 93 = .ok (.iconst 1, 1) := by decide +kernel
theorem dL_areRunning_94 : decode cL_areRunning 94 = .ok (.if_icmp .eq 32, 3) := by decide +kernel
theorem dL_areRunning_97 : decode cL_areRunning 97 = .ok (.aload_n 1, 1) := by decide +kernel
theorem dL_areRunning_98 : decode cL_areRunning 98 = .ok (.bipush 8, 2) := by decide +kernel
theorem dL_areRunning_100 : decode cL_areRunning 100 = .ok (.iload 7, 2) := by decide +kernel
theorem dL_areRunning_102 : decode cL_areRunning 102 = .ok (.imul, 1) := by decide +kernel
theorem dL_areRunning_103 : decode cL_areRunning 103 = .ok (.iconst 2, 1) := by decide +kernel
theorem dL_areRunning_104 : decode cL_areRunning 104 = .ok (.iadd, 1) := by decide +kernel
theorem dL_areRunning_105 : decode cL_areRunning 105 = .ok (.iaload, 1) := by decide +kernel
theorem dL_areRunning_106 : decode cL_areRunning 106 = .ok (.ifCond .lt 24, 3) := by decide +kernel
theorem dL_areRunning_109 : decode cL_areRunning 109 = .ok (.iload_n 3, 1) := by decide +kernel
theorem dL_areRunning_110 : decode cL_areRunning 110 = .ok (.aload_n 1, 1) := by decide +kernel
theorem dL_areRunning_111 : decode cL_areRunning 111 = .ok (.bipush 8, 2) := by decide +kernel
theorem dL_areRunning_113 : decode cL_areRunning 113 = .ok (.iload 7, 2) := by decide +kernel
theorem dL_areRunning_115 : decode cL_areRunning 115 = .ok (.imul, 1) := by decide +kernel
theorem dL_areRunning_116 : decode cL_areRunning 116 = .ok (.iconst 2, 1) := by decide +kernel
theorem dL_areRunning_117 : decode cL_areRunning 117 = .ok (.iadd, 1) := by decide +kernel
theorem dL_areRunning_118 : decode cL_areRunning 118 = .ok (.iaload, 1) := by decide +kernel
theorem dL_areRunning_119 : decode cL_areRunning 119 = .ok (.ishr, 1) := by decide +kernel
theorem dL_areRunning_120 : decode cL_areRunning 120 = .ok (.iconst 1, 1) := by decide +kernel
theorem dL_areRunning_121 : decode cL_areRunning 121 = .ok (.iand, 1) := by decide +kernel
theorem dL_areRunning_122 : decode cL_areRunning 122 = .ok (.iconst 1, 1) := by decide +kernel
theorem dL_areRunning_123 : decode cL_areRunning 123 = .ok (.if_icmp .ne 7, 3) := by decide +kernel
theorem dL_areRunning_126 : decode cL_areRunning 126 = .ok (.iconst 1, 1) := by decide +kernel
theorem dL_areRunning_127 : decode cL_areRunning 127 = .ok (.goto 4, 3) := by decide +kernel
theorem dL_areRunning_130 : decode cL_areRunning 130 = .ok (.iconst 0, 1) := by decide +kernel
theorem dL_areRunning_131 : decode cL_areRunning 131 = .ok (.istore 8, 2) := by decide +kernel
theorem dL_areRunning_133 : decode cL_areRunning 133 = .ok (.iload 6, 2) := by decide +kernel
theorem dL_areRunning_135 : decode cL_areRunning 135 = .ok (.ifCond .eq 29, 3) := by decide +kernel
theorem dL_areRunning_138 : decode cL_areRunning 138 = .ok (.aload_n 1, 1) := by decide +kernel
theorem dL_areRunning_139 : decode cL_areRunning 139 = .ok (.bipush 8, 2) := by decide +kernel
theorem dL_areRunning_141 : decode cL_areRunning 141 = .ok (.iload 5, 2) := by decide +kernel
theorem dL_areRunning_143 : decode cL_areRunning 143 = .ok (.imul, 1) := by decide +kernel
theorem dL_areRunning_144 : decode cL_areRunning 144 = .ok (.iconst 4, 1) := by decide +kernel
theorem dL_areRunning_145 : decode cL_areRunning 145 = .ok (.iadd, 1) := by decide +kernel
theorem dL_areRunning_146 : decode cL_areRunning 146 = .ok (.iaload, 1) := by decide +kernel
theorem dL_areRunning_147 : decode cL_areRunning 147 = .ok (.iload 7, 2) := by decide +kernel
theorem dL_areRunning_149 : decode cL_areRunning 149 = .ok (.ishr, 1) := by decide +kernel
theorem dL_areRunning_150 : decode cL_areRunning 150 = .ok (.iconst 1, 1) := by decide +kernel
theorem dL_areRunning_151 : decode cL_areRunning 151 = .ok (.iand, 1) := by decide +kernel
theorem dL_areRunning_152 : decode cL_areRunning 152 = .ok (.ifCond .eq 8, 3) := by decide +kernel
theorem dL_areRunning_155 : decode cL_areRunning 155 = .ok (.iload 8, 2) := by decide +kernel
theorem dL_areRunning_157 : decode cL_areRunning 157 = .ok (.ifCond .eq 7, 3) := by decide +kernel
theorem dL_areRunning_160 : decode cL_areRunning 160 = .ok (.iconst 1, 1) := by decide +kernel
theorem dL_areRunning_161 : decode cL_areRunning 161 = .ok (.goto 4, 3) := by decide +kernel
theorem dL_areRunning_164 : decode cL_areRunning 164 = .ok (.iconst 0, 1) := by decide +kernel
theorem dL_areRunning_165 : decode cL_areRunning 165 = .ok (.istore 6, 2) := by decide +kernel
theorem dL_areRunning_167 : decode cL_areRunning 167 = .ok (.iinc 7 1, 3) := by decide +kernel
theorem dL_areRunning_170 : decode cL_areRunning 170 = .ok (.goto (-92), 3) := by decide +kernel
theorem dL_areRunning_173 : decode cL_areRunning 173 = .ok (.iload_n 3, 1) := by decide +kernel
theorem dL_areRunning_174 : decode cL_areRunning 174 = .ok (.iload 6, 2) := by decide +kernel
theorem dL_areRunning_176 : decode cL_areRunning 176 = .ok (.ifCond .eq 7, 3) := by decide +kernel
theorem dL_areRunning_179 : decode cL_areRunning 179 = .ok (.iconst (-1), 1) := by decide +kernel
theorem dL_areRunning_180 : decode cL_areRunning 180 = .ok (.goto 9, 3) := by decide +kernel
theorem dL_areRunning_183 : decode cL_areRunning 183 = .ok (.iconst 1, 1) := by decide +kernel
theorem dL_areRunning_184 : decode cL_areRunning 184 = .ok (.iload 5, 2) := by decide +kernel
theorem dL_areRunning_186 : decode cL_areRunning 186 = .ok (.ishl, 1) := by decide +kernel
theorem dL_areRunning_187 : decode cL_areRunning 187 = .ok (.iconst (-1), 1) := by decide +kernel
theorem dL_areRunning_188 : decode cL_areRunning 188 = .ok (.ixor, 1) := by decide +kernel
theorem dL_areRunning_189 : decode cL_areRunning 189 = .ok (.iand, 1) := by decide +kernel
theorem dL_areRunning_190 : decode cL_areRunning 190 = .ok (.istore_n 3, 1) := by decide +kernel
theorem dL_areRunning_191 : decode cL_areRunning 191 = .ok (.iinc 5 1, 3) := by decide +kernel
theorem dL_areRunning_194 : decode cL_areRunning 194 = .ok (.goto (-165), 3) := by decide +kernel
theorem dL_areRunning_197 : decode cL_areRunning 197 = .ok (.iinc 4 1, 3) := by decide +kernel
theorem dL_areRunning_200 : decode cL_areRunning 200 = .ok (.goto (-183), 3) := by decide +kernel
theorem dL_areRunning_203 : decode cL_areRunning 203 = .ok (.iload_n 2, 1) := by decide +kernel
theorem dL_areRunning_204 : decode cL_areRunning 204 = .ok (.iload_n 3, 1) := by decide +kernel
theorem dL_areRunning_205 : decode cL_areRunning 205 = .ok (.if_icmp .ne 7, 3) := by decide +kernel
theorem dL_areRunning_208 : decode cL_areRunning 208 = .ok (.iconst 1, 1) := by decide +kernel
theorem dL_areRunning_209 : decode cL_areRunning 209 = .ok (.goto 4, 3) := by decide +kernel
theorem dL_areRunning_212 : decode cL_areRunning 212 = .ok (.iconst 0, 1) := by decide +kernel
theorem dL_areRunning_213 : decode cL_areRunning 213 = .ok (.ireturn, 1) := by decide +kernel
set_option maxRecDepth 20000 in
theorem ggL_isTicked_X2_bar : GoodIn wsL_isTicked wsX2_bar := goodIn_r _ [5, 6, 325, 326, 327, 328, 329, 330, 331] (by decide +kernel) (by decide +kernel)
set_option maxRecDepth 20000 in
theorem gL_isTicked_X2_bar : GoodIn wsL_isTicked (wsV RL 67 RX2 yX2_bar wsX2_bar) := goodIn_app (goodIn_of _ (by decide +kernel)) ggL_isTicked_X2_bar
set_option maxRecDepth 20000 in
theorem ggL_isTicked_X2_units : GoodIn wsL_isTicked wsX2_units := goodIn_r _ [10, 11, 325, 326, 327, 328, 329, 330, 331] (by decide +kernel) (by decide +kernel)
set_option maxRecDepth 20000 in
theorem gL_isTicked_X2_units : GoodIn wsL_isTicked (wsV RL 61 RX2 yX2_units wsX2_units) := goodIn_app (goodIn_of _ (by decide +kernel)) ggL_isTicked_X2_units
set_option maxRecDepth 20000 in
theorem ggL_isTicked_X2_state : GoodIn wsL_isTicked wsX2_state := goodIn_ca (goodIn_r _ [15, 16, 17, 18, 19, 4, 20, 21, 22, 11, 23, 332, 333, 334, 335, 336, 337, 338, 339, 340, 341, 342, 343, 344, 325, 326, 327, 328, 329, 330, 331] (by decide +kernel) (by decide +kernel)) (goodIn_sub (fun _ h => List.mem_cons_of_mem _ (List.mem_append_left _ (List.mem_append_left _ (List.mem_append_right _ h)))) (by decide +kernel))
set_option maxRecDepth 20000 in
theorem gL_isTicked_X2_state : GoodIn wsL_isTicked (wsV RL 55 RX2 yX2_state wsX2_state) := goodIn_app (goodIn_of _ (by decide +kernel)) ggL_isTicked_X2_state
set_option maxRecDepth 20000 in
theorem ggL_isTicked_X2_faults : GoodIn wsL_isTicked wsX2_faults := goodIn_ca (goodIn_r _ [27, 28, 17, 18, 19, 4, 20, 21, 22, 11, 23, 332, 333, 334, 335, 336, 337, 338, 339, 340, 341, 342, 343, 344, 325, 326, 327, 328, 329, 330, 331] (by decide +kernel) (by decide +kernel)) (goodIn_sub (fun _ h => List.mem_cons_of_mem _ (List.mem_append_left _ (List.mem_append_left _ (List.mem_append_right _ h)))) (by decide +kernel))
set_option maxRecDepth 20000 in
theorem gL_isTicked_X2_faults : GoodIn wsL_isTicked (wsV RL 52 RX2 yX2_faults wsX2_faults) := goodIn_app (goodIn_of _ (by decide +kernel)) ggL_isTicked_X2_faults
set_option maxRecDepth 20000 in
theorem ggL_isTicked_X2_learned : GoodIn wsL_isTicked wsX2_learned := goodIn_ca (goodIn_r _ [32, 33, 17, 18, 19, 4, 20, 21, 22, 11, 23, 332, 333, 334, 335, 336, 337, 338, 339, 340, 341, 342, 343, 344, 325, 326, 327, 328, 329, 330, 331] (by decide +kernel) (by decide +kernel)) (goodIn_sub (fun _ h => List.mem_cons_of_mem _ (List.mem_append_left _ (List.mem_append_left _ (List.mem_append_right _ h)))) (by decide +kernel))
set_option maxRecDepth 20000 in
theorem gL_isTicked_X2_learned : GoodIn wsL_isTicked (wsV RL 49 RX2 yX2_learned wsX2_learned) := goodIn_app (goodIn_of _ (by decide +kernel)) ggL_isTicked_X2_learned
set_option maxRecDepth 20000 in
theorem ggL_isTicked_L_act : GoodIn wsL_isTicked wsL_act := goodIn_ca (goodIn_ca (goodIn_ca (goodIn_r _ [37, 38, 39, 40, 41, 42, 43, 4, 44, 45, 46, 11, 23, 47, 48, 49, 50, 51, 52, 53, 54, 55, 56, 57, 58, 59, 60, 61, 62, 63, 64, 65, 17, 18, 19, 20, 21, 22, 66, 67, 68, 69, 70, 71, 72, 73, 74, 75, 76, 77, 78, 79, 80, 81, 82, 83, 84, 85, 86, 87, 88, 89, 90, 91, 92, 93, 94, 95, 96, 97, 98, 99, 100, 101, 102, 103, 104, 105, 106, 107, 108, 109, 110, 111, 112, 113, 114, 115, 116, 117, 118, 119, 120, 121, 122, 123, 124, 125, 126, 127, 128, 129, 130, 131, 132, 133, 134, 135, 136, 137, 138, 139, 140, 141, 142, 143, 144, 145, 146, 147, 148, 149, 150, 151, 152, 153, 154, 155, 156, 157, 158, 159, 160, 161, 162, 163, 164, 165, 166, 167, 168, 169, 170, 171, 172, 173, 174, 175, 176, 177, 178, 179, 180, 181, 182, 183, 184, 185, 186, 187, 188, 189, 190, 191, 192, 193, 194, 195, 196, 197, 198, 199, 28, 200, 201, 202, 203, 204, 205, 206, 207, 208, 209, 6, 210, 211, 212, 213, 214, 215, 216, 217, 218, 219, 220, 221, 222, 223, 224, 225, 226, 227, 228, 229, 230, 231, 232, 233, 234, 235, 236, 237, 238, 239, 240, 241, 242, 243, 244, 245, 246, 247, 248, 249, 250, 251, 252, 253, 16, 254, 255, 256, 257, 258, 259, 260, 261, 262, 263, 264, 265, 266, 267, 268, 269, 270, 271, 272, 273, 274, 275, 276, 277, 278, 279, 280, 281, 282, 283, 284, 285, 286, 287, 288, 289, 290, 291, 292, 293, 294, 295, 296, 297, 298, 299, 300, 301, 302, 303, 325, 326, 327, 328, 329, 330, 331, 332, 333, 334, 335, 336, 337, 338, 339, 340, 341, 342, 343, 344, 345, 346, 347, 348, 349, 350] (by decide +kernel) (by decide +kernel)) (goodIn_sub (fun _ h => List.mem_cons_of_mem _ (List.mem_append_left _ (List.mem_append_right _ h))) (by decide +kernel))) (goodIn_sub (fun _ h => List.mem_cons_of_mem _ (List.mem_append_right _ h)) (by decide +kernel))) (goodIn_sub (fun _ h => List.mem_cons_of_mem _ (List.mem_append_left _ (List.mem_append_left _ (List.mem_append_right _ h)))) (by decide +kernel))
set_option maxRecDepth 20000 in
theorem gL_isTicked_L_act : GoodIn wsL_isTicked (va_wsS RL 112 yL_act wsL_act) := goodIn_app (goodIn_of _ (by decide +kernel)) ggL_isTicked_L_act
set_option maxRecDepth 20000 in
theorem ggL_isTicked_L_hasLost : GoodIn wsL_isTicked wsL_hasLost := goodIn_ca (goodIn_r _ [306, 7, 8, 9, 4, 10, 11, 307, 308, 36, 309, 12, 13, 14, 15, 16, 17, 18, 19, 20, 21, 22, 23, 310, 311, 312, 325, 326, 327, 328, 329, 330, 331, 332, 333, 334, 335, 336, 337, 338, 339, 340, 341, 342, 343, 344] (by decide +kernel) (by decide +kernel)) (goodIn_sub (fun _ h => List.mem_cons_of_mem _ (List.mem_append_left _ (List.mem_append_left _ (List.mem_append_right _ h)))) (by decide +kernel))
set_option maxRecDepth 20000 in
theorem gL_isTicked_L_hasLost : GoodIn wsL_isTicked (va_wsS RL 116 yL_hasLost wsL_hasLost) := goodIn_app (goodIn_of _ (by decide +kernel)) ggL_isTicked_L_hasLost
set_option maxRecDepth 20000 in
theorem ggL_isTicked_X2_goesOn : GoodIn wsL_isTicked wsX2_goesOn := goodIn_r _ [316, 60, 325, 326, 327, 328, 329, 330, 331] (by decide +kernel) (by decide +kernel)
set_option maxRecDepth 20000 in
theorem gL_isTicked_X2_goesOn : GoodIn wsL_isTicked (wsV RL 80 RX2 yX2_goesOn wsX2_goesOn) := goodIn_app (goodIn_of _ (by decide +kernel)) ggL_isTicked_X2_goesOn
set_option maxRecDepth 20000 in
theorem ggL_isTicked_X2_waitsFor : GoodIn wsL_isTicked wsX2_waitsFor := goodIn_ca (goodIn_r _ [320, 16, 11, 23, 17, 18, 19, 4, 20, 21, 22, 321, 322, 323, 324, 65, 70, 77, 78, 79, 80, 71, 72, 73, 74, 75, 76, 288, 289, 290, 291, 223, 275, 276, 277, 278, 279, 271, 272, 273, 274, 296, 297, 298, 299, 332, 333, 334, 335, 336, 337, 338, 339, 340, 341, 342, 343, 344, 325, 326, 327, 328, 329, 330, 331] (by decide +kernel) (by decide +kernel)) (goodIn_sub (fun _ h => List.mem_cons_of_mem _ (List.mem_append_left _ (List.mem_append_left _ (List.mem_append_right _ h)))) (by decide +kernel))
set_option maxRecDepth 20000 in
theorem gL_isTicked_X2_waitsFor : GoodIn wsL_isTicked (wsV RL 58 RX2 yX2_waitsFor wsX2_waitsFor) := goodIn_app (goodIn_of _ (by decide +kernel)) ggL_isTicked_X2_waitsFor
