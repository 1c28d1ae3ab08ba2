theorem dX3_init_0 : decode cX3_init 0 = .ok (.aload_n 0, 1) := by decide +kernel
theorem dX3_init_1 : decode cX3_init 1 = .ok (.invokespecial 1, 3) := by decide +kernel
theorem dX3_init_4 : decode cX3_init 4 = .ok (.aload_n 0, 1) := by decide +kernel
theorem dX3_init_5 : decode cX3_init 5 = .ok (.bipush 20, 2) := by decide +kernel
theorem dX3_init_7 : decode cX3_init 7 = .ok (.newarray .int, 2) := by decide +kernel
theorem dX3_init_9 : decode cX3_init 9 = .ok (.putfield 7, 3) := by decide +kernel
theorem dX3_init_12 : decode cX3_init 12 = .ok (.aload_n 0, 1) := by decide +kernel
theorem dX3_init_13 : decode cX3_init 13 = .ok (.bipush 20, 2) := by decide +kernel
theorem dX3_init_15 : decode cX3_init 15 = .ok (.newarray .int, 2) := by decide +kernel
theorem dX3_init_17 : decode cX3_init 17 = .ok (.putfield 13, 3) := by decide +kernel
theorem dX3_init_20 : decode cX3_init 20 = .ok (.aload_n 0, 1) := by decide +kernel
theorem dX3_init_21 : decode cX3_init 21 = .ok (.bipush 20, 2) := by decide +kernel
theorem dX3_init_23 : decode cX3_init 23 = .ok (.newarray .int, 2) := by decide +kernel
theorem dX3_init_25 : decode cX3_init 25 = .ok (.putfield 16, 3) := by decide +kernel
theorem dX3_init_28 : decode cX3_init 28 = .ok (.aload_n 0, 1) := by decide +kernel
theorem dX3_init_29 : decode cX3_init 29 = .ok (.bipush 20, 2) := by decide +kernel
theorem dX3_init_31 : decode cX3_init 31 = .ok (.newarray .int, 2) := by decide +kernel
theorem dX3_init_33 : decode cX3_init 33 = .ok (.putfield 19, 3) := by decide +kernel
theorem dX3_init_36 : decode cX3_init 36 = .ok (.aload_n 0, 1) := by decide +kernel
theorem dX3_init_37 : decode cX3_init 37 = .ok (.bipush 20, 2) := by decide +kernel
theorem dX3_init_39 : decode cX3_init 39 = .ok (.newarray .int, 2) := by decide +kernel
theorem dX3_init_41 : decode cX3_init 41 = .ok (.putfield 22, 3) := by decide +kernel
theorem dX3_init_44 : decode cX3_init 44 = .ok (.aload_n 0, 1) := by decide +kernel
theorem dX3_init_45 : decode cX3_init 45 = .ok (.bipush 20, 2) := by decide +kernel
theorem dX3_init_47 : decode cX3_init 47 = .ok (.newarray .boolean, 2) := by decide +kernel
theorem dX3_init_49 : decode cX3_init 49 = .ok (.putfield 25, 3) := by decide +kernel
theorem dX3_init_52 : decode cX3_init 52 = .ok (.aload_n 0, 1) := by decide +kernel
theorem dX3_init_53 : decode cX3_init 53 = .ok (.sipush 400, 3) := by decide +kernel
theorem dX3_init_56 : decode cX3_init 56 = .ok (.newarray .boolean, 2) := by decide +kernel
theorem dX3_init_58 : decode cX3_init 58 = .ok (.putfield 29, 3) := by decide +kernel
theorem dX3_init_61 : decode cX3_init 61 = .ok (.aload_n 0, 1) := by decide +kernel
theorem dX3_init_62 : decode cX3_init 62 = .ok (.sipush 400, 3) := by decide +kernel
theorem dX3_init_65 : decode cX3_init 65 = .ok (.newarray .int, 2) := by decide +kernel
theorem dX3_init_67 : decode cX3_init 67 = .ok (.putfield 32, 3) := by decide +kernel
theorem dX3_init_70 : decode cX3_init 70 = .ok (.aload_n 0, 1) := by decide +kernel
theorem dX3_init_71 : decode cX3_init 71 = .ok (.sipush 400, 3) := by decide +kernel
theorem dX3_init_74 : decode cX3_init 74 = .ok (.newarray .int, 2) := by decide +kernel
theorem dX3_init_76 : decode cX3_init 76 = .ok (.putfield 35, 3) := by decide +kernel
theorem dX3_init_79 : decode cX3_init 79 = .ok (.aload_n 0, 1) := by decide +kernel
theorem dX3_init_80 : decode cX3_init 80 = .ok (.sipush 400, 3) := by decide +kernel
theorem dX3_init_83 : decode cX3_init 83 = .ok (.newarray .boolean, 2) := by decide +kernel
theorem dX3_init_85 : decode cX3_init 85 = .ok (.putfield 38, 3) := by decide +kernel
theorem dX3_init_88 : decode cX3_init 88 = .ok (.aload_n 0, 1) := by decide +kernel
theorem dX3_init_89 : decode cX3_init 89 = .ok (.bipush 20, 2) := by decide +kernel
theorem dX3_init_91 : decode cX3_init 91 = .ok (.newarray .int, 2) := by decide +kernel
theorem dX3_init_93 : decode cX3_init 93 = .ok (.putfield 41, 3) := by decide +kernel
theorem dX3_init_96 : decode cX3_init 96 = .ok (.aload_n 0, 1) := by decide +kernel
theorem dX3_init_97 : decode cX3_init 97 = .ok (.bipush 20, 2) := by decide +kernel
theorem dX3_init_99 : decode cX3_init 99 = .ok (.newarray .int, 2) := by decide +kernel
theorem dX3_init_101 : decode cX3_init 101 = .ok (.putfield 44, 3) := by decide +kernel
theorem dX3_init_104 : decode cX3_init 104 = .ok (.aload_n 0, 1) := by decide +kernel
theorem dX3_init_105 : decode cX3_init 105 = .ok (.bipush 20, 2) := by decide +kernel
theorem dX3_init_107 : decode cX3_init 107 = .ok (.newarray .int, 2) := by decide +kernel
theorem dX3_init_109 : decode cX3_init 109 = .ok (.putfield 47, 3) := by decide +kernel
theorem dX3_init_112 : decode cX3_init 112 = .ok (.aload_n 0, 1) := by decide +kernel
theorem dX3_init_113 : decode cX3_init 113 = .ok (.bipush 20, 2) := by decide +kernel
theorem dX3_init_115 : decode cX3_init 115 = .ok (.newarray .int, 2) := by decide +kernel
theorem dX3_init_117 : decode cX3_init 117 = .ok (.putfield 50, 3) := by decide +kernel
theorem dX3_init_120 : decode cX3_init 120 = .ok (.aload_n 0, 1) := by decide +kernel
theorem dX3_init_121 : decode cX3_init 121 = .ok (.bipush 20, 2) := by decide +kernel
theorem dX3_init_123 : decode cX3_init 123 = .ok (.newarray .boolean, 2) := by decide +kernel
theorem dX3_init_125 : decode cX3_init 125 = .ok (.putfield 53, 3) := by decide +kernel
theorem dX3_init_128 : decode cX3_init 128 = .ok (.return_, 1) := by decide +kernel
theorem dX3_thrown_0 : decode cX3_thrown 0 = .ok (.aload_n 0, 1) := by decide +kernel
theorem dX3_thrown_1 : decode cX3_thrown 1 = .ok (.getfield 56, 3) := by decide +kernel
theorem dX3_thrown_4 : decode cX3_thrown 4 = .ok (.ireturn, 1) := by decide +kernel
theorem dX3_goes_0 : decode cX3_goes 0 = .ok (.aload_n 0, 1) := by decide +kernel
theorem dX3_goes_1 : decode cX3_goes 1 = .ok (.iload_n 1, 1) := by decide +kernel
theorem dX3_goes_2 : decode cX3_goes 2 = .ok (.putfield 56, 3) := by decide +kernel
theorem dX3_goes_5 : decode cX3_goes 5 = .ok (.iload_n 1, 1) := by decide +kernel
theorem dX3_goes_6 : decode cX3_goes 6 = .ok (.ifCond .ne 7, 3) := by decide +kernel
theorem dX3_goes_9 : decode cX3_goes 9 = .ok (.iconst 1, 1) := by decide +kernel
theorem dX3_goes_10 : decode cX3_goes 10 = .ok (.goto 4, 3) := by decide +kernel
theorem dX3_goes_13 : decode cX3_goes 13 = .ok (.iconst 0, 1) := by decide +kernel
theorem dX3_goes_14 : decode cX3_goes 14 = .ok (.ireturn, 1) := by decide +kernel
theorem dX3_isIn_0 : decode cX3_isIn 0 = .ok (.iload_n 0, 1) := by decide +kernel
theorem dX3_isIn_1 : decode cX3_isIn 1 = .ok (.iload_n 1, 1) := by decide +kernel
theorem dX3_isIn_2 : decode cX3_isIn 2 = .ok (.if_icmp .lt 12, 3) := by decide +kernel
theorem dX3_isIn_5 : decode cX3_isIn 5 = .ok (.iload_n 0, 1) := by decide +kernel
theorem dX3_isIn_6 : decode cX3_isIn 6 = .ok (.iload_n 2, 1) := by decide +kernel
theorem dX3_isIn_7 : decode cX3_isIn 7 = .ok (.if_icmp .gt 7, 3) := by decide +kernel
theorem dX3_isIn_10 : decode cX3_isIn 10 = .ok (.iconst 1, 1) := by decide +kernel
theorem dX3_isIn_11 : decode cX3_isIn 11 = .ok (.goto 4, 3) := by decide +kernel
theorem dX3_isIn_14 : decode cX3_isIn 14 = .ok (.iconst 0, 1) := by decide +kernel
theorem dX3_isIn_15 : decode cX3_isIn 15 = .ok (.ireturn, 1) := by decide +kernel
set_option maxRecDepth 20000 in
theorem ggX3_isUnit_X3_isIn : GoodIn wsX3_isUnit wsX3_isIn := goodIn_r _ [5] (by decide +kernel) (by decide +kernel)
set_option maxRecDepth 20000 in
theorem gX3_isUnit_X3_isIn : GoodIn wsX3_isUnit (va_wsS RX3 63 yX3_isIn wsX3_isIn) := goodIn_app (goodIn_of _ (by decide +kernel)) ggX3_isUnit_X3_isIn
theorem dX3_isUnit_0 : decode cX3_isUnit 0 = .ok (.iload_n 1, 1) := by decide +kernel
theorem dX3_isUnit_1 : decode cX3_isUnit 1 = .ok (.iconst 0, 1) := by decide +kernel
theorem dX3_isUnit_2 : decode cX3_isUnit 2 = .ok (.aload_n 0, 1) := by decide +kernel
theorem dX3_isUnit_3 : decode cX3_isUnit 3 = .ok (.getfield 60, 3) := by decide +kernel
theorem dX3_isUnit_6 : decode cX3_isUnit 6 = .ok (.iconst 1, 1) := by decide +kernel
theorem dX3_isUnit_7 : decode cX3_isUnit 7 = .ok (.isub, 1) := by decide +kernel
theorem dX3_isUnit_8 : decode cX3_isUnit 8 = .ok (.invokestatic 63, 3) := by decide +kernel
theorem dX3_isUnit_11 : decode cX3_isUnit 11 = .ok (.ireturn, 1) := by decide +kernel
theorem dX3_edge_0 : decode cX3_edge 0 = .ok (.bipush 20, 2) := by decide +kernel
theorem dX3_edge_2 : decode cX3_edge 2 = .ok (.iload_n 0, 1) := by decide +kernel
theorem dX3_edge_3 : decode cX3_edge 3 = .ok (.imul, 1) := by decide +kernel
theorem dX3_edge_4 : decode cX3_edge 4 = .ok (.iload_n 1, 1) := by decide +kernel
theorem dX3_edge_5 : decode cX3_edge 5 = .ok (.iadd, 1) := by decide +kernel
theorem dX3_edge_6 : decode cX3_edge 6 = .ok (.ireturn, 1) := by decide +kernel
set_option maxRecDepth 20000 in
theorem ggX3_add_X3_isIn : GoodIn wsX3_add wsX3_isIn := goodIn_r _ [11] (by decide +kernel) (by decide +kernel)
set_option maxRecDepth 20000 in
theorem gX3_add_X3_isIn : GoodIn wsX3_add (va_wsS RX3 63 yX3_isIn wsX3_isIn) := goodIn_app (goodIn_of _ (by decide +kernel)) ggX3_add_X3_isIn
set_option maxRecDepth 20000 in
theorem ggX3_add_X3_goes : GoodIn wsX3_add wsX3_goes := goodIn_r _ [15, 16, 17, 18, 19, 20, 21, 22, 23, 24, 25, 26, 27, 28, 29, 30, 31, 32, 33, 34, 35, 36, 37, 38, 39] (by decide +kernel) (by decide +kernel)
set_option maxRecDepth 20000 in
theorem gX3_add_X3_goes : GoodIn wsX3_add (wsV RX3 71 RX3 yX3_goes wsX3_goes) := goodIn_app (goodIn_of _ (by decide +kernel)) ggX3_add_X3_goes
theorem dX3_add_0 : decode cX3_add 0 = .ok (.aload_n 0, 1) := by decide +kernel
theorem dX3_add_1 : decode cX3_add 1 = .ok (.iload_n 1, 1) := by decide +kernel
theorem dX3_add_2 : decode cX3_add 2 = .ok (.iconst 1, 1) := by decide +kernel
theorem dX3_add_3 : decode cX3_add 3 = .ok (.bipush 100, 2) := by decide +kernel
theorem dX3_add_5 : decode cX3_add 5 = .ok (.invokestatic 63, 3) := by decide +kernel
theorem dX3_add_8 : decode cX3_add 8 = .ok (.ifCond .eq 12, 3) := by decide +kernel
theorem dX3_add_11 : decode cX3_add 11 = .ok (.iload_n 2, 1) := by decide +kernel
theorem dX3_add_12 : decode cX3_add 12 = .ok (.iconst 0, 1) := by decide +kernel
theorem dX3_add_13 : decode cX3_add 13 = .ok (.iconst 3, 1) := by decide +kernel
theorem dX3_add_14 : decode cX3_add 14 = .ok (.invokestatic 63, 3) := by decide +kernel
theorem dX3_add_17 : decode cX3_add 17 = .ok (.ifCond .ne 7, 3) := by decide +kernel
theorem dX3_add_20 : decode cX3_add 20 = .ok (.iconst 1, 1) := by decide +kernel
theorem dX3_add_21 : decode cX3_add 21 = .ok (.goto 24, 3) := by decide +kernel
theorem dX3_add_24 : decode cX3_add 24 = .ok (.aload_n 0, 1) := by decide +kernel
theorem dX3_add_25 : decode cX3_add 25 = .ok (.getfield 60, 3) := by decide +kernel
theorem dX3_add_28 : decode cX3_add 28 = .ok (.bipush 20, 2) := by decide +kernel
theorem dX3_add_30 : decode cX3_add 30 = .ok (.if_icmp .eq 10, 3) := by decide +kernel
theorem dX3_add_33 : decode cX3_add 33 = .ok (.aload_n 0, 1) := by decide +kernel
theorem dX3_add_34 : decode cX3_add 34 = .ok (.getfield 67, 3) := by decide +kernel
theorem dX3_add_37 : decode cX3_add 37 = .ok (.ifCond .eq 7, 3) := by decide +kernel
theorem dX3_add_40 : decode cX3_add 40 = .ok (.iconst 2, 1) := by decide +kernel
theorem dX3_add_41 : decode cX3_add 41 = .ok (.goto 4, 3) := by decide +kernel
theorem dX3_add_44 : decode cX3_add 44 = .ok (.iconst 0, 1) := by decide +kernel
theorem dX3_add_45 : decode cX3_add 45 = .ok (.invokevirtual 71, 3) := by decide +kernel
theorem dX3_add_48 : decode cX3_add 48 = .ok (.ifCond .ne 5, 3) := by decide +kernel
theorem dX3_add_51 : decode cX3_add 51 = .ok (.iconst 0, 1) := by decide +kernel
theorem dX3_add_52 : decode cX3_add 52 = .ok (.ireturn, 1) := by decide +kernel
theorem dX3_add_53 : decode cX3_add 53 = .ok (.aload_n 0, 1) := by decide +kernel
theorem dX3_add_54 : decode cX3_add 54 = .ok (.getfield 7, 3) := by decide +kernel
theorem dX3_add_57 : decode cX3_add 57 = .ok (.aload_n 0, 1) := by decide +kernel
theorem dX3_add_58 : decode cX3_add 58 = .ok (.getfield 60, 3) := by decide +kernel
theorem dX3_add_61 : decode cX3_add 61 = .ok (.iload_n 1, 1) := by decide +kernel
theorem dX3_add_62 : decode cX3_add 62 = .ok (.iastore, 1) := by decide +kernel
theorem dX3_add_63 : decode cX3_add 63 = .ok (.aload_n 0, 1) := by decide +kernel
theorem dX3_add_64 : decode cX3_add 64 = .ok (.getfield 16, 3) := by decide +kernel
theorem dX3_add_67 : decode cX3_add 67 = .ok (.aload_n 0, 1) := by decide +kernel
theorem dX3_add_68 : decode cX3_add 68 = .ok (.getfield 60, 3) := by decide +kernel
theorem dX3_add_71 : decode cX3_add 71 = .ok (.iload_n 2, 1) := by decide +kernel
theorem dX3_add_72 : decode cX3_add 72 = .ok (.iastore, 1) := by decide +kernel
theorem dX3_add_73 : decode cX3_add 73 = .ok (.aload_n 0, 1) := by decide +kernel
theorem dX3_add_74 : decode cX3_add 74 = .ok (.getfield 13, 3) := by decide +kernel
theorem dX3_add_77 : decode cX3_add 77 = .ok (.aload_n 0, 1) := by decide +kernel
theorem dX3_add_78 : decode cX3_add 78 = .ok (.getfield 60, 3) := by decide +kernel
theorem dX3_add_81 : decode cX3_add 81 = .ok (.bipush 10, 2) := by decide +kernel
theorem dX3_add_83 : decode cX3_add 83 = .ok (.iastore, 1) := by decide +kernel
theorem dX3_add_84 : decode cX3_add 84 = .ok (.aload_n 0, 1) := by decide +kernel
theorem dX3_add_85 : decode cX3_add 85 = .ok (.getfield 22, 3) := by decide +kernel
theorem dX3_add_88 : decode cX3_add 88 = .ok (.aload_n 0, 1) := by decide +kernel
theorem dX3_add_89 : decode cX3_add 89 = .ok (.getfield 60, 3) := by decide +kernel
theorem dX3_add_92 : decode cX3_add 92 = .ok (.iconst (-1), 1) := by decide +kernel
theorem dX3_add_93 : decode cX3_add 93 = .ok (.iastore, 1) := by decide +kernel
theorem dX3_add_94 : decode cX3_add 94 = .ok (.aload_n 0, 1) := by decide +kernel
theorem dX3_add_95 : decode cX3_add 95 = .ok (.getfield 41, 3) := by decide +kernel
theorem dX3_add_98 : decode cX3_add 98 = .ok (.aload_n 0, 1) := by decide +kernel
theorem dX3_add_99 : decode cX3_add 99 = .ok (.getfield 60, 3) := by decide +kernel
theorem dX3_add_102 : decode cX3_add 102 = .ok (.iconst 0, 1) := by decide +kernel
theorem dX3_add_103 : decode cX3_add 103 = .ok (.iastore, 1) := by decide +kernel
theorem dX3_add_104 : decode cX3_add 104 = .ok (.aload_n 0, 1) := by decide +kernel
theorem dX3_add_105 : decode cX3_add 105 = .ok (.dup, 1) := by decide +kernel
theorem dX3_add_106 : decode cX3_add 106 = .ok (.getfield 60, 3) := by decide +kernel
theorem dX3_add_109 : decode cX3_add 109 = .ok (.iconst 1, 1) := by decide +kernel
theorem dX3_add_110 : decode cX3_add 110 = .ok (.iadd, 1) := by decide +kernel
theorem dX3_add_111 : decode cX3_add 111 = .ok (.putfield 60, 3) := by decide +kernel
theorem dX3_add_114 : decode cX3_add 114 = .ok (.aload_n 0, 1) := by decide +kernel
theorem dX3_add_115 : decode cX3_add 115 = .ok (.getfield 60, 3) := by decide +kernel
theorem dX3_add_118 : decode cX3_add 118 = .ok (.iconst 1, 1) := by decide +kernel
theorem dX3_add_119 : decode cX3_add 119 = .ok (.isub, 1) := by decide +kernel
theorem dX3_add_120 : decode cX3_add 120 = .ok (.ireturn, 1) := by decide +kernel
set_option maxRecDepth 20000 in
theorem ggX3_reaches_X3_edge : GoodIn wsX3_reaches wsX3_edge := goodIn_r _ [9] (by decide +kernel) (by decide +kernel)
set_option maxRecDepth 20000 in
theorem gX3_reaches_X3_edge : GoodIn wsX3_reaches (va_wsS RX3 75 yX3_edge wsX3_edge) := goodIn_app (goodIn_of _ (by decide +kernel)) ggX3_reaches_X3_edge
theorem dX3_reaches_0 : decode cX3_reaches 0 = .ok (.iconst 0, 1) := by decide +kernel
theorem dX3_reaches_1 : decode cX3_reaches 1 = .ok (.istore 4, 2) := by decide +kernel
theorem dX3_reaches_3 : decode cX3_reaches 3 = .ok (.iload 4, 2) := by decide +kernel
theorem dX3_reaches_5 : decode cX3_reaches 5 = .ok (.aload_n 0, 1) := by decide +kernel
theorem dX3_reaches_6 : decode cX3_reaches 6 = .ok (.getfield 60, 3) := by decide +kernel
theorem dX3_reaches_9 : decode cX3_reaches 9 = .ok (.if_icmp .ge 27, 3) := by decide +kernel
theorem dX3_reaches_12 : decode cX3_reaches 12 = .ok (.aload_n 0, 1) := by decide +kernel
theorem dX3_reaches_13 : decode cX3_reaches 13 = .ok (.getfield 53, 3) := by decide +kernel
theorem dX3_reaches_16 : decode cX3_reaches 16 = .ok (.iload 4, 2) := by decide +kernel
theorem dX3_reaches_18 : decode cX3_reaches 18 = .ok (.iload 4, 2) := by decide +kernel
theorem dX3_reaches_20 : decode cX3_reaches 20 = .ok (.iload_n 1, 1) := by decide +kernel
theorem dX3_reaches_21 : decode cX3_reaches 21 = .ok (.if_icmp .ne 7, 3) := by decide +kernel
theorem dX3_reaches_24 : decode cX3_reaches 24 = .ok (.iconst 1, 1) := by decide +kernel
theorem dX3_reaches_25 : decode cX3_reaches 25 = .ok (.goto 4, 3) := by decide +kernel
theorem dX3_reaches_28 : decode cX3_reaches 28 = .ok (.iconst 0, 1) := by decide +kernel
theorem dX3_reaches_29 : decode cX3_reaches 29 = .ok (.bastore, 1) := by decide +kernel
theorem dX3_reaches_30 : decode cX3_reaches 30 = .ok (.iinc 4 1, 3) := by decide +kernel
theorem dX3_reaches_33 : decode cX3_reaches 33 = .ok (.goto (-30), 3) := by decide +kernel
theorem dX3_reaches_36 : decode cX3_reaches 36 = .ok (.iconst 0, 1) := by decide +kernel
theorem dX3_reaches_37 : decode cX3_reaches 37 = .ok (.istore 4, 2) := by decide +kernel
theorem dX3_reaches_39 : decode cX3_reaches 39 = .ok (.iload 4, 2) := by decide +kernel
theorem dX3_reaches_41 : decode cX3_reaches 41 = .ok (.aload_n 0, 1) := by decide +kernel
theorem dX3_reaches_42 : decode cX3_reaches 42 = .ok (.getfield 60, 3) := by decide +kernel
theorem dX3_reaches_45 : decode cX3_reaches 45 = .ok (.aload_n 0, 1) := by decide +kernel
theorem dX3_reaches_46 : decode cX3_reaches 46 = .ok (.getfield 60, 3) := by decide +kernel
theorem dX3_reaches_49 : decode cX3_reaches 49 = .ok (.imul, 1) := by decide +kernel
theorem dX3_reaches_50 : decode cX3_reaches 50 = .ok (.aload_n 0, 1) := by decide +kernel
theorem dX3_reaches_51 : decode cX3_reaches 51 = .ok (.getfield 60, 3) := by decide +kernel
theorem dX3_reaches_54 : decode cX3_reaches 54 = .ok (.imul, 1) := by decide +kernel
theorem dX3_reaches_55 : decode cX3_reaches 55 = .ok (.if_icmp .ge 125, 3) := by decide +kernel
theorem dX3_reaches_58 : decode cX3_reaches 58 = .ok (.iload 4, 2) := by decide +kernel
theorem dX3_reaches_60 : decode cX3_reaches 60 = .ok (.aload_n 0, 1) := by decide +kernel
theorem dX3_reaches_61 : decode cX3_reaches 61 = .ok (.getfield 60, 3) := by decide +kernel
theorem dX3_reaches_64 : decode cX3_reaches 64 = .ok (.idiv, 1) := by decide +kernel
theorem dX3_reaches_65 : decode cX3_reaches 65 = .ok (.aload_n 0, 1) := by decide +kernel
theorem dX3_reaches_66 : decode cX3_reaches 66 = .ok (.getfield 60, 3) := by decide +kernel
theorem dX3_reaches_69 : decode cX3_reaches 69 = .ok (.irem, 1) := by decide +kernel
theorem dX3_reaches_70 : decode cX3_reaches 70 = .ok (.istore 5, 2) := by decide +kernel
theorem dX3_reaches_72 : decode cX3_reaches 72 = .ok (.iload 4, 2) := by decide +kernel
theorem dX3_reaches_74 : decode cX3_reaches 74 = .ok (.aload_n 0, 1) := by decide +kernel
theorem dX3_reaches_75 : decode cX3_reaches 75 = .ok (.getfield 60, 3) := by decide +kernel
theorem dX3_reaches_78 : decode cX3_reaches 78 = .ok (.irem, 1) := by decide +kernel
theorem dX3_reaches_79 : decode cX3_reaches 79 = .ok (.istore 6, 2) := by decide +kernel
theorem dX3_reaches_81 : decode cX3_reaches 81 = .ok (.aload_n 0, 1) := by decide +kernel
theorem dX3_reaches_82 : decode cX3_reaches 82 = .ok (.getfield 29, 3) := by decide +kernel
theorem dX3_reaches_85 : decode cX3_reaches 85 = .ok (.iload 5, 2) := by decide +kernel
theorem dX3_reaches_87 : decode cX3_reaches 87 = .ok (.iload 6, 2) := by decide +kernel
theorem dX3_reaches_89 : decode cX3_reaches 89 = .ok (.invokestatic 75, 3) := by decide +kernel
theorem dX3_reaches_92 : decode cX3_reaches 92 = .ok (.baload, 1) := by decide +kernel
theorem dX3_reaches_93 : decode cX3_reaches 93 = .ok (.ifCond .ne 37, 3) := by decide +kernel
theorem dX3_reaches_96 : decode cX3_reaches 96 = .ok (.iload_n 3, 1) := by decide +kernel
theorem dX3_reaches_97 : decode cX3_reaches 97 = .ok (.ifCond .eq 37, 3) := by decide +kernel
theorem dX3_reaches_100 : decode cX3_reaches 100 = .ok (.aload_n 0, 1) := by decide +kernel
theorem dX3_reaches_101 : decode cX3_reaches 101 = .ok (.getfield 32, 3) := by decide +kernel
theorem dX3_reaches_104 : decode cX3_reaches 104 = .ok (.iload 5, 2) := by decide +kernel
theorem dX3_reaches_106 : decode cX3_reaches 106 = .ok (.iload 6, 2) := by decide +kernel
theorem dX3_reaches_108 : decode cX3_reaches 108 = .ok (.invokestatic 75, 3) := by decide +kernel
theorem dX3_reaches_111 : decode cX3_reaches 111 = .ok (.iaload, 1) := by decide +kernel
theorem dX3_reaches_112 : decode cX3_reaches 112 = .ok (.ifCond .le 22, 3) := by decide +kernel
theorem dX3_reaches_115 : decode cX3_reaches 115 = .ok (.aload_n 0, 1) := by decide +kernel
theorem dX3_reaches_116 : decode cX3_reaches 116 = .ok (.getfield 38, 3) := by decide +kernel
theorem dX3_reaches_119 : decode cX3_reaches 119 = .ok (.iload 5, 2) := by decide +kernel
theorem dX3_reaches_121 : decode cX3_reaches 121 = .ok (.iload 6, 2) := by decide +kernel
theorem dX3_reaches_123 : decode cX3_reaches 123 = .ok (.invokestatic 75, 3) := by decide +kernel
theorem dX3_reaches_126 : decode cX3_reaches 126 = .ok (.baload, 1) := by decide +kernel
theorem dX3_reaches_127 : decode cX3_reaches 127 = .ok (.ifCond .ne 7, 3) := by decide +kernel
theorem dX3_reaches_130 : decode cX3_reaches 130 = .ok (.iconst 1, 1) := by decide +kernel
theorem dX3_reaches_131 : decode cX3_reaches 131 = .ok (.goto 4, 3) := by decide +kernel
theorem dX3_reaches_134 : decode cX3_reaches 134 = .ok (.iconst 0, 1) := by decide +kernel
theorem dX3_reaches_135 : decode cX3_reaches 135 = .ok (.istore 7, 2) := by decide +kernel
theorem dX3_reaches_137 : decode cX3_reaches 137 = .ok (.aload_n 0, 1) := by decide +kernel
theorem dX3_reaches_138 : decode cX3_reaches 138 = .ok (.getfield 53, 3) := by decide +kernel
theorem dX3_reaches_141 : decode cX3_reaches 141 = .ok (.iload 6, 2) := by decide +kernel
theorem dX3_reaches_143 : decode cX3_reaches 143 = .ok (.aload_n 0, 1) := by decide +kernel
theorem dX3_reaches_144 : decode cX3_reaches 144 = .ok (.getfield 53, 3) := by decide +kernel
theorem dX3_reaches_147 : decode cX3_reaches 147 = .ok (.iload 6, 2) := by decide +kernel
theorem dX3_reaches_149 : decode cX3_reaches 149 = .ok (.baload, 1) := by decide +kernel
theorem dX3_reaches_150 : decode cX3_reaches 150 = .ok (.ifCond .ne 18, 3) := by decide +kernel
theorem dX3_reaches_153 : decode cX3_reaches 153 = .ok (.aload_n 0, 1) := by decide +kernel
theorem dX3_reaches_154 : decode cX3_reaches 154 = .ok (.getfield 53, 3) := by decide +kernel
theorem dX3_reaches_157 : decode cX3_reaches 157 = .ok (.iload 5, 2) := by decide +kernel
theorem dX3_reaches_159 : decode cX3_reaches 159 = .ok (.baload, 1) := by decide +kernel
theorem dX3_reaches_160 : decode cX3_reaches 160 = .ok (.ifCond .eq 12, 3) := by decide +kernel
theorem dX3_reaches_163 : decode cX3_reaches 163 = .ok (.iload 7, 2) := by decide +kernel
theorem dX3_reaches_165 : decode cX3_reaches 165 = .ok (.ifCond .eq 7, 3) := by decide +kernel
theorem dX3_reaches_168 : decode cX3_reaches 168 = .ok (.iconst 1, 1) := by decide +kernel
theorem dX3_reaches_169 : decode cX3_reaches 169 = .ok (.goto 4, 3) := by decide +kernel
theorem dX3_reaches_172 : decode cX3_reaches 172 = .ok (.iconst 0, 1) := by decide +kernel
theorem dX3_reaches_173 : decode cX3_reaches 173 = .ok (.bastore, 1) := by decide +kernel
theorem dX3_reaches_174 : decode cX3_reaches 174 = .ok (.iinc 4 1, 3) := by decide +kernel
theorem dX3_reaches_177 : decode cX3_reaches 177 = .ok (.goto (-138), 3) := by decide +kernel
theorem dX3_reaches_180 : decode cX3_reaches 180 = .ok (.aload_n 0, 1) := by decide +kernel
theorem dX3_reaches_181 : decode cX3_reaches 181 = .ok (.getfield 53, 3) := by decide +kernel
theorem dX3_reaches_184 : decode cX3_reaches 184 = .ok (.iload_n 2, 1) := by decide +kernel
theorem dX3_reaches_185 : decode cX3_reaches 185 = .ok (.baload, 1) := by decide +kernel
theorem dX3_reaches_186 : decode cX3_reaches 186 = .ok (.ireturn, 1) := by decide +kernel
set_option maxRecDepth 20000 in
theorem ggX3_need_X3_isUnit : GoodIn wsX3_need wsX3_isUnit := goodIn_r _ [7, 8, 9, 10, 6, 11, 27, 28, 29, 30, 31, 32, 33, 34, 35, 36, 37, 38, 39, 40, 41, 42, 43, 44, 45, 46, 47, 48, 49] (by decide +kernel) (by decide +kernel)
set_option maxRecDepth 20000 in
theorem gX3_need_X3_isUnit : GoodIn wsX3_need (wsV RX3 79 RX3 yX3_isUnit wsX3_isUnit) := goodIn_app (goodIn_of _ (by decide +kernel)) ggX3_need_X3_isUnit
set_option maxRecDepth 20000 in
theorem ggX3_need_X3_goes : GoodIn wsX3_need wsX3_goes := goodIn_r _ [15, 16, 27, 28, 29, 30, 31, 32, 33, 34, 35, 36, 37, 38, 39, 40, 41, 42, 43, 44, 45, 46, 47, 48, 49] (by decide +kernel) (by decide +kernel)
set_option maxRecDepth 20000 in
theorem gX3_need_X3_goes : GoodIn wsX3_need (wsV RX3 71 RX3 yX3_goes wsX3_goes) := goodIn_app (goodIn_of _ (by decide +kernel)) ggX3_need_X3_goes
set_option maxRecDepth 20000 in
theorem ggX3_need_X3_reaches : GoodIn wsX3_need wsX3_reaches := goodIn_r _ [20, 8, 21, 2, 22, 23, 24, 25, 6, 26, 27, 28, 29, 30, 31, 32, 33, 34, 35, 36, 37, 38, 39, 40, 41, 42, 43, 44, 45, 46, 47, 48, 49] (by decide +kernel) (by decide +kernel)
set_option maxRecDepth 20000 in
theorem gX3_need_X3_reaches : GoodIn wsX3_need (wsV RX3 82 RX3 yX3_reaches wsX3_reaches) := goodIn_app (goodIn_of _ (by decide +kernel)) ggX3_need_X3_reaches
set_option maxRecDepth 20000 in
theorem ggX3_need_X3_edge : GoodIn wsX3_need wsX3_edge := goodIn_r _ [26] (by decide +kernel) (by decide +kernel)
set_option maxRecDepth 20000 in
theorem gX3_need_X3_edge : GoodIn wsX3_need (va_wsS RX3 75 yX3_edge wsX3_edge) := goodIn_app (goodIn_of _ (by decide +kernel)) ggX3_need_X3_edge
theorem dX3_need_0 : decode cX3_need 0 = .ok (.aload_n 0, 1) := by decide +kernel
theorem dX3_need_1 : decode cX3_need 1 = .ok (.aload_n 0, 1) := by decide +kernel
theorem dX3_need_2 : decode cX3_need 2 = .ok (.iload_n 1, 1) := by decide +kernel
theorem dX3_need_3 : decode cX3_need 3 = .ok (.invokevirtual 79, 3) := by decide +kernel
theorem dX3_need_6 : decode cX3_need 6 = .ok (.ifCond .eq 15, 3) := by decide +kernel
theorem dX3_need_9 : decode cX3_need 9 = .ok (.aload_n 0, 1) := by decide +kernel
theorem dX3_need_10 : decode cX3_need 10 = .ok (.iload_n 2, 1) := by decide +kernel
theorem dX3_need_11 : decode cX3_need 11 = .ok (.invokevirtual 79, 3) := by decide +kernel
theorem dX3_need_14 : decode cX3_need 14 = .ok (.ifCond .eq 7, 3) := by decide +kernel
theorem dX3_need_17 : decode cX3_need 17 = .ok (.iconst 0, 1) := by decide +kernel
theorem dX3_need_18 : decode cX3_need 18 = .ok (.goto 4, 3) := by decide +kernel
theorem dX3_need_21 : decode cX3_need 21 = .ok (.iconst 1, 1) := by decide +kernel
theorem dX3_need_22 : decode cX3_need 22 = .ok (.invokevirtual 71, 3) := by decide +kernel
theorem dX3_need_25 : decode cX3_need 25 = .ok (.ifCond .ne 5, 3) := by decide +kernel
theorem dX3_need_28 : decode cX3_need 28 = .ok (.iconst 0, 1) := by decide +kernel
theorem dX3_need_29 : decode cX3_need 29 = .ok (.ireturn, 1) := by decide +kernel
theorem dX3_need_30 : decode cX3_need 30 = .ok (.aload_n 0, 1) := by decide +kernel
theorem dX3_need_31 : decode cX3_need 31 = .ok (.aload_n 0, 1) := by decide +kernel
theorem dX3_need_32 : decode cX3_need 32 = .ok (.getfield 67, 3) := by decide +kernel
theorem dX3_need_35 : decode cX3_need 35 = .ok (.ifCond .ne 13, 3) := by decide +kernel
theorem dX3_need_38 : decode cX3_need 38 = .ok (.aload_n 0, 1) := by decide +kernel
theorem dX3_need_39 : decode cX3_need 39 = .ok (.iload_n 2, 1) := by decide +kernel
theorem dX3_need_40 : decode cX3_need 40 = .ok (.iload_n 1, 1) := by decide +kernel
theorem dX3_need_41 : decode cX3_need 41 = .ok (.iconst 0, 1) := by decide +kernel
theorem dX3_need_42 : decode cX3_need 42 = .ok (.invokevirtual 82, 3) := by decide +kernel
theorem dX3_need_45 : decode cX3_need 45 = .ok (.ifCond .eq 7, 3) := by decide +kernel
theorem dX3_need_48 : decode cX3_need 48 = .ok (.iconst 2, 1) := by decide +kernel
theorem dX3_need_49 : decode cX3_need 49 = .ok (.goto 4, 3) := by decide +kernel
theorem dX3_need_52 : decode cX3_need 52 = .ok (.iconst 0, 1) := by decide +kernel
theorem dX3_need_53 : decode cX3_need 53 = .ok (.invokevirtual 71, 3) := by decide +kernel
theorem dX3_need_56 : decode cX3_need 56 = .ok (.ifCond .ne 5, 3) := by decide +kernel
theorem dX3_need_59 : decode cX3_need 59 = .ok (.iconst 0, 1) := by decide +kernel
theorem dX3_need_60 : decode cX3_need 60 = .ok (.ireturn, 1) := by decide +kernel
theorem dX3_need_61 : decode cX3_need 61 = .ok (.aload_n 0, 1) := by decide +kernel
theorem dX3_need_62 : decode cX3_need 62 = .ok (.getfield 29, 3) := by decide +kernel
theorem dX3_need_65 : decode cX3_need 65 = .ok (.iload_n 1, 1) := by decide +kernel
theorem dX3_need_66 : decode cX3_need 66 = .ok (.iload_n 2, 1) := by decide +kernel
theorem dX3_need_67 : decode cX3_need 67 = .ok (.invokestatic 75, 3) := by decide +kernel
theorem dX3_need_70 : decode cX3_need 70 = .ok (.baload, 1) := by decide +kernel
theorem dX3_need_71 : decode cX3_need 71 = .ok (.istore_n 3, 1) := by decide +kernel
theorem dX3_need_72 : decode cX3_need 72 = .ok (.aload_n 0, 1) := by decide +kernel
theorem dX3_need_73 : decode cX3_need 73 = .ok (.getfield 29, 3) := by decide +kernel
theorem dX3_need_76 : decode cX3_need 76 = .ok (.iload_n 1, 1) := by decide +kernel
theorem dX3_need_77 : decode cX3_need 77 = .ok (.iload_n 2, 1) := by decide +kernel
theorem dX3_need_78 : decode cX3_need 78 = .ok (.invokestatic 75, 3) := by decide +kernel
theorem dX3_need_81 : decode cX3_need 81 = .ok (.iconst 1, 1) := by decide +kernel
theorem dX3_need_82 : decode cX3_need 82 = .ok (.bastore, 1) := by decide +kernel
theorem dX3_need_83 : decode cX3_need 83 = .ok (.iload_n 3, 1) := by decide +kernel
theorem dX3_need_84 : decode cX3_need 84 = .ok (.ireturn, 1) := by decide +kernel
set_option maxRecDepth 20000 in
theorem ggX3_wish_X3_isUnit : GoodIn wsX3_wish wsX3_isUnit := goodIn_r _ [9, 10, 11, 12, 8, 13, 22, 23, 24, 25, 26, 27, 28, 29, 30, 31, 32, 33, 34, 35, 36, 37, 38, 39, 40, 41, 42, 43, 44] (by decide +kernel) (by decide +kernel)
set_option maxRecDepth 20000 in
theorem gX3_wish_X3_isUnit : GoodIn wsX3_wish (wsV RX3 79 RX3 yX3_isUnit wsX3_isUnit) := goodIn_app (goodIn_of _ (by decide +kernel)) ggX3_wish_X3_isUnit
set_option maxRecDepth 20000 in
theorem ggX3_wish_X3_isIn : GoodIn wsX3_wish wsX3_isIn := goodIn_r _ [13] (by decide +kernel) (by decide +kernel)
set_option maxRecDepth 20000 in
theorem gX3_wish_X3_isIn : GoodIn wsX3_wish (va_wsS RX3 63 yX3_isIn wsX3_isIn) := goodIn_app (goodIn_of _ (by decide +kernel)) ggX3_wish_X3_isIn
set_option maxRecDepth 20000 in
theorem ggX3_wish_X3_goes : GoodIn wsX3_wish wsX3_goes := goodIn_r _ [17, 18, 22, 23, 24, 25, 26, 27, 28, 29, 30, 31, 32, 33, 34, 35, 36, 37, 38, 39, 40, 41, 42, 43, 44] (by decide +kernel) (by decide +kernel)
set_option maxRecDepth 20000 in
theorem gX3_wish_X3_goes : GoodIn wsX3_wish (wsV RX3 71 RX3 yX3_goes wsX3_goes) := goodIn_app (goodIn_of _ (by decide +kernel)) ggX3_wish_X3_goes
set_option maxRecDepth 20000 in
theorem ggX3_wish_X3_edge : GoodIn wsX3_wish wsX3_edge := goodIn_r _ [21] (by decide +kernel) (by decide +kernel)
set_option maxRecDepth 20000 in
theorem gX3_wish_X3_edge : GoodIn wsX3_wish (va_wsS RX3 75 yX3_edge wsX3_edge) := goodIn_app (goodIn_of _ (by decide +kernel)) ggX3_wish_X3_edge
theorem dX3_wish_0 : decode cX3_wish 0 = .ok (.aload_n 0, 1) := by decide +kernel
theorem dX3_wish_1 : decode cX3_wish 1 = .ok (.iload_n 1, 1) := by decide +kernel
theorem dX3_wish_2 : decode cX3_wish 2 = .ok (.invokevirtual 79, 3) := by decide +kernel
theorem dX3_wish_5 : decode cX3_wish 5 = .ok (.ifCond .eq 15, 3) := by decide +kernel
theorem dX3_wish_8 : decode cX3_wish 8 = .ok (.aload_n 0, 1) := by decide +kernel
theorem dX3_wish_9 : decode cX3_wish 9 = .ok (.iload_n 2, 1) := by decide +kernel
theorem dX3_wish_10 : decode cX3_wish 10 = .ok (.invokevirtual 79, 3) := by decide +kernel
theorem dX3_wish_13 : decode cX3_wish 13 = .ok (.ifCond .eq 7, 3) := by decide +kernel
theorem dX3_wish_16 : decode cX3_wish 16 = .ok (.iconst 1, 1) := by decide +kernel
theorem dX3_wish_17 : decode cX3_wish 17 = .ok (.goto 4, 3) := by decide +kernel
theorem dX3_wish_20 : decode cX3_wish 20 = .ok (.iconst 0, 1) := by decide +kernel
theorem dX3_wish_21 : decode cX3_wish 21 = .ok (.istore 4, 2) := by decide +kernel
theorem dX3_wish_23 : decode cX3_wish 23 = .ok (.aload_n 0, 1) := by decide +kernel
theorem dX3_wish_24 : decode cX3_wish 24 = .ok (.iload 4, 2) := by decide +kernel
theorem dX3_wish_26 : decode cX3_wish 26 = .ok (.ifCond .ne 7, 3) := by decide +kernel
theorem dX3_wish_29 : decode cX3_wish 29 = .ok (.iconst 1, 1) := by decide +kernel
theorem dX3_wish_30 : decode cX3_wish 30 = .ok (.goto 34, 3) := by decide +kernel
theorem dX3_wish_33 : decode cX3_wish 33 = .ok (.iload_n 3, 1) := by decide +kernel
theorem dX3_wish_34 : decode cX3_wish 34 = .ok (.iconst 1, 1) := by decide +kernel
theorem dX3_wish_35 : decode cX3_wish 35 = .ok (.bipush 100, 2) := by decide +kernel
theorem dX3_wish_37 : decode cX3_wish 37 = .ok (.invokestatic 63, 3) := by decide +kernel
theorem dX3_wish_40 : decode cX3_wish 40 = .ok (.ifCond .eq 8, 3) := by decide +kernel
theorem dX3_wish_43 : decode cX3_wish 43 = .ok (.iload_n 1, 1) := by decide +kernel
theorem dX3_wish_44 : decode cX3_wish 44 = .ok (.iload_n 2, 1) := by decide +kernel
theorem dX3_wish_45 : decode cX3_wish 45 = .ok (.if_icmp .ne 7, 3) := by decide +kernel
theorem dX3_wish_48 : decode cX3_wish 48 = .ok (.iconst 2, 1) := by decide +kernel
theorem dX3_wish_49 : decode cX3_wish 49 = .ok (.goto 15, 3) := by decide +kernel
theorem dX3_wish_52 : decode cX3_wish 52 = .ok (.aload_n 0, 1) := by decide +kernel
theorem dX3_wish_53 : decode cX3_wish 53 = .ok (.getfield 67, 3) := by decide +kernel
theorem dX3_wish_56 : decode cX3_wish 56 = .ok (.ifCond .eq 7, 3) := by decide +kernel
theorem dX3_wish_59 : decode cX3_wish 59 = .ok (.iconst 3, 1) := by decide +kernel
theorem dX3_wish_60 : decode cX3_wish 60 = .ok (.goto 4, 3) := by decide +kernel
theorem dX3_wish_63 : decode cX3_wish 63 = .ok (.iconst 0, 1) := by decide +kernel
theorem dX3_wish_64 : decode cX3_wish 64 = .ok (.invokevirtual 71, 3) := by decide +kernel
theorem dX3_wish_67 : decode cX3_wish 67 = .ok (.ifCond .ne 5, 3) := by decide +kernel
theorem dX3_wish_70 : decode cX3_wish 70 = .ok (.iconst 0, 1) := by decide +kernel
theorem dX3_wish_71 : decode cX3_wish 71 = .ok (.ireturn, 1) := by decide +kernel
theorem dX3_wish_72 : decode cX3_wish 72 = .ok (.aload_n 0, 1) := by decide +kernel
theorem dX3_wish_73 : decode cX3_wish 73 = .ok (.getfield 32, 3) := by decide +kernel
theorem dX3_wish_76 : decode cX3_wish 76 = .ok (.iload_n 1, 1) := by decide +kernel
theorem dX3_wish_77 : decode cX3_wish 77 = .ok (.iload_n 2, 1) := by decide +kernel
theorem dX3_wish_78 : decode cX3_wish 78 = .ok (.invokestatic 75, 3) := by decide +kernel
theorem dX3_wish_81 : decode cX3_wish 81 = .ok (.iaload, 1) := by decide +kernel
theorem dX3_wish_82 : decode cX3_wish 82 = .ok (.istore 5, 2) := by decide +kernel
theorem dX3_wish_84 : decode cX3_wish 84 = .ok (.aload_n 0, 1) := by decide +kernel
theorem dX3_wish_85 : decode cX3_wish 85 = .ok (.getfield 32, 3) := by decide +kernel
theorem dX3_wish_88 : decode cX3_wish 88 = .ok (.iload_n 1, 1) := by decide +kernel
theorem dX3_wish_89 : decode cX3_wish 89 = .ok (.iload_n 2, 1) := by decide +kernel
theorem dX3_wish_90 : decode cX3_wish 90 = .ok (.invokestatic 75, 3) := by decide +kernel
theorem dX3_wish_93 : decode cX3_wish 93 = .ok (.iload_n 3, 1) := by decide +kernel
theorem dX3_wish_94 : decode cX3_wish 94 = .ok (.iastore, 1) := by decide +kernel
theorem dX3_wish_95 : decode cX3_wish 95 = .ok (.aload_n 0, 1) := by decide +kernel
theorem dX3_wish_96 : decode cX3_wish 96 = .ok (.getfield 35, 3) := by decide +kernel
theorem dX3_wish_99 : decode cX3_wish 99 = .ok (.iload_n 1, 1) := by decide +kernel
theorem dX3_wish_100 : decode cX3_wish 100 = .ok (.iload_n 2, 1) := by decide +kernel
theorem dX3_wish_101 : decode cX3_wish 101 = .ok (.invokestatic 75, 3) := by decide +kernel
theorem dX3_wish_104 : decode cX3_wish 104 = .ok (.iload 5, 2) := by decide +kernel
theorem dX3_wish_106 : decode cX3_wish 106 = .ok (.ifCond .ne 10, 3) := by decide +kernel
theorem dX3_wish_109 : decode cX3_wish 109 = .ok (.aload_n 0, 1) := by decide +kernel
theorem dX3_wish_110 : decode cX3_wish 110 = .ok (.getfield 86, 3) := by decide +kernel
theorem dX3_wish_113 : decode cX3_wish 113 = .ok (.goto 13, 3) := by decide +kernel
theorem dX3_wish_116 : decode cX3_wish 116 = .ok (.aload_n 0, 1) := by decide +kernel
theorem dX3_wish_117 : decode cX3_wish 117 = .ok (.getfield 35, 3) := by decide +kernel
theorem dX3_wish_120 : decode cX3_wish 120 = .ok (.iload_n 1, 1) := by decide +kernel
theorem dX3_wish_121 : decode cX3_wish 121 = .ok (.iload_n 2, 1) := by decide +kernel
theorem dX3_wish_122 : decode cX3_wish 122 = .ok (.invokestatic 75, 3) := by decide +kernel
theorem dX3_wish_125 : decode cX3_wish 125 = .ok (.iaload, 1) := by decide +kernel
theorem dX3_wish_126 : decode cX3_wish 126 = .ok (.iastore, 1) := by decide +kernel
theorem dX3_wish_127 : decode cX3_wish 127 = .ok (.aload_n 0, 1) := by decide +kernel
theorem dX3_wish_128 : decode cX3_wish 128 = .ok (.dup, 1) := by decide +kernel
theorem dX3_wish_129 : decode cX3_wish 129 = .ok (.getfield 86, 3) := by decide +kernel
theorem dX3_wish_132 : decode cX3_wish 132 = .ok (.iload 5, 2) := by decide +kernel
theorem dX3_wish_134 : decode cX3_wish 134 = .ok (.ifCond .ne 7, 3) := by decide +kernel
theorem dX3_wish_137 : decode cX3_wish 137 = .ok (.iconst 1, 1) := by decide +kernel
theorem dX3_wish_138 : decode cX3_wish 138 = .ok (.goto 4, 3) := by decide +kernel
theorem dX3_wish_141 : decode cX3_wish 141 = .ok (.iconst 0, 1) := by decide +kernel
theorem dX3_wish_142 : decode cX3_wish 142 = .ok (.iadd, 1) := by decide +kernel
theorem dX3_wish_143 : decode cX3_wish 143 = .ok (.putfield 86, 3) := by decide +kernel
theorem dX3_wish_146 : decode cX3_wish 146 = .ok (.iload 5, 2) := by decide +kernel
theorem dX3_wish_148 : decode cX3_wish 148 = .ok (.ireturn, 1) := by decide +kernel
set_option maxRecDepth 20000 in
theorem ggX3_standIn_X3_isUnit : GoodIn wsX3_standIn wsX3_isUnit := goodIn_r _ [7, 8, 9, 10, 6, 11, 17, 18, 19, 20, 21, 22, 23, 24, 25, 26, 27, 28, 29, 30, 31, 32, 33, 34, 35, 36, 37, 38, 39] (by decide +kernel) (by decide +kernel)
set_option maxRecDepth 20000 in
theorem gX3_standIn_X3_isUnit : GoodIn wsX3_standIn (wsV RX3 79 RX3 yX3_isUnit wsX3_isUnit) := goodIn_app (goodIn_of _ (by decide +kernel)) ggX3_standIn_X3_isUnit
set_option maxRecDepth 20000 in
theorem ggX3_standIn_X3_goes : GoodIn wsX3_standIn wsX3_goes := goodIn_r _ [15, 16, 17, 18, 19, 20, 21, 22, 23, 24, 25, 26, 27, 28, 29, 30, 31, 32, 33, 34, 35, 36, 37, 38, 39] (by decide +kernel) (by decide +kernel)
set_option maxRecDepth 20000 in
theorem gX3_standIn_X3_goes : GoodIn wsX3_standIn (wsV RX3 71 RX3 yX3_goes wsX3_goes) := goodIn_app (goodIn_of _ (by decide +kernel)) ggX3_standIn_X3_goes
theorem dX3_standIn_0 : decode cX3_standIn 0 = .ok (.aload_n 0, 1) := by decide +kernel
theorem dX3_standIn_1 : decode cX3_standIn 1 = .ok (.iload_n 1, 1) := by decide +kernel
theorem dX3_standIn_2 : decode cX3_standIn 2 = .ok (.invokevirtual 79, 3) := by decide +kernel
theorem dX3_standIn_5 : decode cX3_standIn 5 = .ok (.ifCond .eq 20, 3) := by decide +kernel
theorem dX3_standIn_8 : decode cX3_standIn 8 = .ok (.iload_n 2, 1) := by decide +kernel
theorem dX3_standIn_9 : decode cX3_standIn 9 = .ok (.iconst (-1), 1) := by decide +kernel
theorem dX3_standIn_10 : decode cX3_standIn 10 = .ok (.if_icmp .eq 11, 3) := by decide +kernel
theorem dX3_standIn_13 : decode cX3_standIn 13 = .ok (.aload_n 0, 1) := by decide +kernel
theorem dX3_standIn_14 : decode cX3_standIn 14 = .ok (.iload_n 2, 1) := by decide +kernel
theorem dX3_standIn_15 : decode cX3_standIn 15 = .ok (.invokevirtual 79, 3) := by decide +kernel
theorem dX3_standIn_18 : decode cX3_standIn 18 = .ok (.ifCond .eq 7, 3) := by decide +kernel
theorem dX3_standIn_21 : decode cX3_standIn 21 = .ok (.iconst 1, 1) := by decide +kernel
theorem dX3_standIn_22 : decode cX3_standIn 22 = .ok (.goto 4, 3) := by decide +kernel
theorem dX3_standIn_25 : decode cX3_standIn 25 = .ok (.iconst 0, 1) := by decide +kernel
theorem dX3_standIn_26 : decode cX3_standIn 26 = .ok (.istore_n 3, 1) := by decide +kernel
theorem dX3_standIn_27 : decode cX3_standIn 27 = .ok (.aload_n 0, 1) := by decide +kernel
theorem dX3_standIn_28 : decode cX3_standIn 28 = .ok (.iload_n 3, 1) := by decide +kernel
theorem dX3_standIn_29 : decode cX3_standIn 29 = .ok (.ifCond .ne 7, 3) := by decide +kernel
theorem dX3_standIn_32 : decode cX3_standIn 32 = .ok (.iconst 1, 1) := by decide +kernel
theorem dX3_standIn_33 : decode cX3_standIn 33 = .ok (.goto 24, 3) := by decide +kernel
theorem dX3_standIn_36 : decode cX3_standIn 36 = .ok (.iload_n 1, 1) := by decide +kernel
theorem dX3_standIn_37 : decode cX3_standIn 37 = .ok (.iload_n 2, 1) := by decide +kernel
theorem dX3_standIn_38 : decode cX3_standIn 38 = .ok (.if_icmp .ne 7, 3) := by decide +kernel
theorem dX3_standIn_41 : decode cX3_standIn 41 = .ok (.iconst 2, 1) := by decide +kernel
theorem dX3_standIn_42 : decode cX3_standIn 42 = .ok (.goto 15, 3) := by decide +kernel
theorem dX3_standIn_45 : decode cX3_standIn 45 = .ok (.aload_n 0, 1) := by decide +kernel
theorem dX3_standIn_46 : decode cX3_standIn 46 = .ok (.getfield 67, 3) := by decide +kernel
theorem dX3_standIn_49 : decode cX3_standIn 49 = .ok (.ifCond .eq 7, 3) := by decide +kernel
theorem dX3_standIn_52 : decode cX3_standIn 52 = .ok (.iconst 3, 1) := by decide +kernel
theorem dX3_standIn_53 : decode cX3_standIn 53 = .ok (.goto 4, 3) := by decide +kernel
theorem dX3_standIn_56 : decode cX3_standIn 56 = .ok (.iconst 0, 1) := by decide +kernel
theorem dX3_standIn_57 : decode cX3_standIn 57 = .ok (.invokevirtual 71, 3) := by decide +kernel
theorem dX3_standIn_60 : decode cX3_standIn 60 = .ok (.ifCond .ne 5, 3) := by decide +kernel
theorem dX3_standIn_63 : decode cX3_standIn 63 = .ok (.iconst 0, 1) := by decide +kernel
theorem dX3_standIn_64 : decode cX3_standIn 64 = .ok (.ireturn, 1) := by decide +kernel
theorem dX3_standIn_65 : decode cX3_standIn 65 = .ok (.aload_n 0, 1) := by decide +kernel
theorem dX3_standIn_66 : decode cX3_standIn 66 = .ok (.getfield 22, 3) := by decide +kernel
theorem dX3_standIn_69 : decode cX3_standIn 69 = .ok (.iload_n 1, 1) := by decide +kernel
theorem dX3_standIn_70 : decode cX3_standIn 70 = .ok (.iaload, 1) := by decide +kernel
theorem dX3_standIn_71 : decode cX3_standIn 71 = .ok (.istore 4, 2) := by decide +kernel
theorem dX3_standIn_73 : decode cX3_standIn 73 = .ok (.aload_n 0, 1) := by decide +kernel
theorem dX3_standIn_74 : decode cX3_standIn 74 = .ok (.getfield 22, 3) := by decide +kernel
theorem dX3_standIn_77 : decode cX3_standIn 77 = .ok (.iload_n 1, 1) := by decide +kernel
theorem dX3_standIn_78 : decode cX3_standIn 78 = .ok (.iload_n 2, 1) := by decide +kernel
theorem dX3_standIn_79 : decode cX3_standIn 79 = .ok (.iastore, 1) := by decide +kernel
theorem dX3_standIn_80 : decode cX3_standIn 80 = .ok (.iload 4, 2) := by decide +kernel
theorem dX3_standIn_82 : decode cX3_standIn 82 = .ok (.ireturn, 1) := by decide +kernel
set_option maxRecDepth 20000 in
theorem ggX3_hold_X3_isUnit : GoodIn wsX3_hold wsX3_isUnit := goodIn_r _ [7, 8, 9, 10, 6, 11, 17, 18, 19, 20, 21, 22, 23, 24, 25, 26, 27, 28, 29, 30, 31, 32, 33, 34, 35, 36, 37, 38, 39] (by decide +kernel) (by decide +kernel)
set_option maxRecDepth 20000 in
theorem gX3_hold_X3_isUnit : GoodIn wsX3_hold (wsV RX3 79 RX3 yX3_isUnit wsX3_isUnit) := goodIn_app (goodIn_of _ (by decide +kernel)) ggX3_hold_X3_isUnit
set_option maxRecDepth 20000 in
theorem ggX3_hold_X3_goes : GoodIn wsX3_hold wsX3_goes := goodIn_r _ [15, 16, 17, 18, 19, 20, 21, 22, 23, 24, 25, 26, 27, 28, 29, 30, 31, 32, 33, 34, 35, 36, 37, 38, 39] (by decide +kernel) (by decide +kernel)
set_option maxRecDepth 20000 in
theorem gX3_hold_X3_goes : GoodIn wsX3_hold (wsV RX3 71 RX3 yX3_goes wsX3_goes) := goodIn_app (goodIn_of _ (by decide +kernel)) ggX3_hold_X3_goes
theorem dX3_hold_0 : decode cX3_hold 0 = .ok (.aload_n 0, 1) := by decide +kernel
theorem dX3_hold_1 : decode cX3_hold 1 = .ok (.aload_n 0, 1) := by decide +kernel
theorem dX3_hold_2 : decode cX3_hold 2 = .ok (.iload_n 1, 1) := by decide +kernel
theorem dX3_hold_3 : decode cX3_hold 3 = .ok (.invokevirtual 79, 3) := by decide +kernel
theorem dX3_hold_6 : decode cX3_hold 6 = .ok (.ifCond .ne 7, 3) := by decide +kernel
theorem dX3_hold_9 : decode cX3_hold 9 = .ok (.iconst 1, 1) := by decide +kernel
theorem dX3_hold_10 : decode cX3_hold 10 = .ok (.goto 15, 3) := by decide +kernel
theorem dX3_hold_13 : decode cX3_hold 13 = .ok (.aload_n 0, 1) := by decide +kernel
theorem dX3_hold_14 : decode cX3_hold 14 = .ok (.getfield 67, 3) := by decide +kernel
theorem dX3_hold_17 : decode cX3_hold 17 = .ok (.ifCond .eq 7, 3) := by decide +kernel
theorem dX3_hold_20 : decode cX3_hold 20 = .ok (.iconst 2, 1) := by decide +kernel
theorem dX3_hold_21 : decode cX3_hold 21 = .ok (.goto 4, 3) := by decide +kernel
theorem dX3_hold_24 : decode cX3_hold 24 = .ok (.iconst 0, 1) := by decide +kernel
theorem dX3_hold_25 : decode cX3_hold 25 = .ok (.invokevirtual 71, 3) := by decide +kernel
theorem dX3_hold_28 : decode cX3_hold 28 = .ok (.ifCond .ne 5, 3) := by decide +kernel
theorem dX3_hold_31 : decode cX3_hold 31 = .ok (.iconst 0, 1) := by decide +kernel
theorem dX3_hold_32 : decode cX3_hold 32 = .ok (.ireturn, 1) := by decide +kernel
theorem dX3_hold_33 : decode cX3_hold 33 = .ok (.aload_n 0, 1) := by decide +kernel
theorem dX3_hold_34 : decode cX3_hold 34 = .ok (.getfield 25, 3) := by decide +kernel
theorem dX3_hold_37 : decode cX3_hold 37 = .ok (.iload_n 1, 1) := by decide +kernel
theorem dX3_hold_38 : decode cX3_hold 38 = .ok (.baload, 1) := by decide +kernel
theorem dX3_hold_39 : decode cX3_hold 39 = .ok (.istore_n 3, 1) := by decide +kernel
theorem dX3_hold_40 : decode cX3_hold 40 = .ok (.aload_n 0, 1) := by decide +kernel
theorem dX3_hold_41 : decode cX3_hold 41 = .ok (.getfield 25, 3) := by decide +kernel
theorem dX3_hold_44 : decode cX3_hold 44 = .ok (.iload_n 1, 1) := by decide +kernel
theorem dX3_hold_45 : decode cX3_hold 45 = .ok (.iload_n 2, 1) := by decide +kernel
theorem dX3_hold_46 : decode cX3_hold 46 = .ok (.bastore, 1) := by decide +kernel
theorem dX3_hold_47 : decode cX3_hold 47 = .ok (.iload_n 3, 1) := by decide +kernel
theorem dX3_hold_48 : decode cX3_hold 48 = .ok (.ireturn, 1) := by decide +kernel
set_option maxRecDepth 20000 in
theorem ggX3_setFaults_X3_isUnit : GoodIn wsX3_setFaults wsX3_isUnit := goodIn_r _ [6, 7, 8, 9, 5, 10, 16, 17, 18, 19, 20, 21, 22, 23, 24, 25, 26, 27, 28, 29, 30, 31, 32, 33, 34, 35, 36, 37, 38] (by decide +kernel) (by decide +kernel)
set_option maxRecDepth 20000 in
theorem gX3_setFaults_X3_isUnit : GoodIn wsX3_setFaults (wsV RX3 79 RX3 yX3_isUnit wsX3_isUnit) := goodIn_app (goodIn_of _ (by decide +kernel)) ggX3_setFaults_X3_isUnit
set_option maxRecDepth 20000 in
theorem ggX3_setFaults_X3_isIn : GoodIn wsX3_setFaults wsX3_isIn := goodIn_r _ [10] (by decide +kernel) (by decide +kernel)
set_option maxRecDepth 20000 in
theorem gX3_setFaults_X3_isIn : GoodIn wsX3_setFaults (va_wsS RX3 63 yX3_isIn wsX3_isIn) := goodIn_app (goodIn_of _ (by decide +kernel)) ggX3_setFaults_X3_isIn
set_option maxRecDepth 20000 in
theorem ggX3_setFaults_X3_goes : GoodIn wsX3_setFaults wsX3_goes := goodIn_r _ [14, 15, 16, 17, 18, 19, 20, 21, 22, 23, 24, 25, 26, 27, 28, 29, 30, 31, 32, 33, 34, 35, 36, 37, 38] (by decide +kernel) (by decide +kernel)
set_option maxRecDepth 20000 in
theorem gX3_setFaults_X3_goes : GoodIn wsX3_setFaults (wsV RX3 71 RX3 yX3_goes wsX3_goes) := goodIn_app (goodIn_of _ (by decide +kernel)) ggX3_setFaults_X3_goes
theorem dX3_setFaults_0 : decode cX3_setFaults 0 = .ok (.aload_n 0, 1) := by decide +kernel
theorem dX3_setFaults_1 : decode cX3_setFaults 1 = .ok (.aload_n 0, 1) := by decide +kernel
theorem dX3_setFaults_2 : decode cX3_setFaults 2 = .ok (.iload_n 1, 1) := by decide +kernel
theorem dX3_setFaults_3 : decode cX3_setFaults 3 = .ok (.invokevirtual 79, 3) := by decide +kernel
theorem dX3_setFaults_6 : decode cX3_setFaults 6 = .ok (.ifCond .ne 7, 3) := by decide +kernel
theorem dX3_setFaults_9 : decode cX3_setFaults 9 = .ok (.iconst 1, 1) := by decide +kernel
theorem dX3_setFaults_10 : decode cX3_setFaults 10 = .ok (.goto 18, 3) := by decide +kernel
theorem dX3_setFaults_13 : decode cX3_setFaults 13 = .ok (.iload_n 2, 1) := by decide +kernel
theorem dX3_setFaults_14 : decode cX3_setFaults 14 = .ok (.iconst 0, 1) := by decide +kernel
theorem dX3_setFaults_15 : decode cX3_setFaults 15 = .ok (.bipush 10, 2) := by decide +kernel
theorem dX3_setFaults_17 : decode cX3_setFaults 17 = .ok (.invokestatic 63, 3) := by decide +kernel
theorem dX3_setFaults_20 : decode cX3_setFaults 20 = .ok (.ifCond .eq 7, 3) := by decide +kernel
theorem dX3_setFaults_23 : decode cX3_setFaults 23 = .ok (.iconst 0, 1) := by decide +kernel
theorem dX3_setFaults_24 : decode cX3_setFaults 24 = .ok (.goto 4, 3) := by decide +kernel
theorem dX3_setFaults_27 : decode cX3_setFaults 27 = .ok (.iconst 2, 1) := by decide +kernel
theorem dX3_setFaults_28 : decode cX3_setFaults 28 = .ok (.invokevirtual 71, 3) := by decide +kernel
theorem dX3_setFaults_31 : decode cX3_setFaults 31 = .ok (.ifCond .ne 5, 3) := by decide +kernel
theorem dX3_setFaults_34 : decode cX3_setFaults 34 = .ok (.iconst 0, 1) := by decide +kernel
theorem dX3_setFaults_35 : decode cX3_setFaults 35 = .ok (.ireturn, 1) := by decide +kernel
theorem dX3_setFaults_36 : decode cX3_setFaults 36 = .ok (.aload_n 0, 1) := by decide +kernel
theorem dX3_setFaults_37 : decode cX3_setFaults 37 = .ok (.getfield 19, 3) := by decide +kernel
theorem dX3_setFaults_40 : decode cX3_setFaults 40 = .ok (.iload_n 1, 1) := by decide +kernel
theorem dX3_setFaults_41 : decode cX3_setFaults 41 = .ok (.iaload, 1) := by decide +kernel
theorem dX3_setFaults_42 : decode cX3_setFaults 42 = .ok (.istore_n 3, 1) := by decide +kernel
theorem dX3_setFaults_43 : decode cX3_setFaults 43 = .ok (.aload_n 0, 1) := by decide +kernel
theorem dX3_setFaults_44 : decode cX3_setFaults 44 = .ok (.getfield 19, 3) := by decide +kernel
theorem dX3_setFaults_47 : decode cX3_setFaults 47 = .ok (.iload_n 1, 1) := by decide +kernel
theorem dX3_setFaults_48 : decode cX3_setFaults 48 = .ok (.iload_n 2, 1) := by decide +kernel
theorem dX3_setFaults_49 : decode cX3_setFaults 49 = .ok (.iastore, 1) := by decide +kernel
theorem dX3_setFaults_50 : decode cX3_setFaults 50 = .ok (.iload_n 3, 1) := by decide +kernel
theorem dX3_setFaults_51 : decode cX3_setFaults 51 = .ok (.ireturn, 1) := by decide +kernel
set_option maxRecDepth 20000 in
theorem ggX3_setTime_X3_isUnit : GoodIn wsX3_setTime wsX3_isUnit := goodIn_r _ [6, 7, 8, 9, 5, 10, 16, 17, 18, 19, 20, 21, 22, 23, 24, 25, 26, 27, 28, 29, 30, 31, 32, 33, 34, 35, 36, 37, 38] (by decide +kernel) (by decide +kernel)
set_option maxRecDepth 20000 in
theorem gX3_setTime_X3_isUnit : GoodIn wsX3_setTime (wsV RX3 79 RX3 yX3_isUnit wsX3_isUnit) := goodIn_app (goodIn_of _ (by decide +kernel)) ggX3_setTime_X3_isUnit
set_option maxRecDepth 20000 in
theorem ggX3_setTime_X3_isIn : GoodIn wsX3_setTime wsX3_isIn := goodIn_r _ [10] (by decide +kernel) (by decide +kernel)
set_option maxRecDepth 20000 in
theorem gX3_setTime_X3_isIn : GoodIn wsX3_setTime (va_wsS RX3 63 yX3_isIn wsX3_isIn) := goodIn_app (goodIn_of _ (by decide +kernel)) ggX3_setTime_X3_isIn
set_option maxRecDepth 20000 in
theorem ggX3_setTime_X3_goes : GoodIn wsX3_setTime wsX3_goes := goodIn_r _ [14, 15, 16, 17, 18, 19, 20, 21, 22, 23, 24, 25, 26, 27, 28, 29, 30, 31, 32, 33, 34, 35, 36, 37, 38] (by decide +kernel) (by decide +kernel)
set_option maxRecDepth 20000 in
theorem gX3_setTime_X3_goes : GoodIn wsX3_setTime (wsV RX3 71 RX3 yX3_goes wsX3_goes) := goodIn_app (goodIn_of _ (by decide +kernel)) ggX3_setTime_X3_goes
theorem dX3_setTime_0 : decode cX3_setTime 0 = .ok (.aload_n 0, 1) := by decide +kernel
theorem dX3_setTime_1 : decode cX3_setTime 1 = .ok (.aload_n 0, 1) := by decide +kernel
theorem dX3_setTime_2 : decode cX3_setTime 2 = .ok (.iload_n 1, 1) := by decide +kernel
theorem dX3_setTime_3 : decode cX3_setTime 3 = .ok (.invokevirtual 79, 3) := by decide +kernel
theorem dX3_setTime_6 : decode cX3_setTime 6 = .ok (.ifCond .ne 7, 3) := by decide +kernel
theorem dX3_setTime_9 : decode cX3_setTime 9 = .ok (.iconst 1, 1) := by decide +kernel
theorem dX3_setTime_10 : decode cX3_setTime 10 = .ok (.goto 18, 3) := by decide +kernel
theorem dX3_setTime_13 : decode cX3_setTime 13 = .ok (.iload_n 2, 1) := by decide +kernel
theorem dX3_setTime_14 : decode cX3_setTime 14 = .ok (.iconst 1, 1) := by decide +kernel
theorem dX3_setTime_15 : decode cX3_setTime 15 = .ok (.bipush 100, 2) := by decide +kernel
theorem dX3_setTime_17 : decode cX3_setTime 17 = .ok (.invokestatic 63, 3) := by decide +kernel
theorem dX3_setTime_20 : decode cX3_setTime 20 = .ok (.ifCond .eq 7, 3) := by decide +kernel
theorem dX3_setTime_23 : decode cX3_setTime 23 = .ok (.iconst 0, 1) := by decide +kernel
theorem dX3_setTime_24 : decode cX3_setTime 24 = .ok (.goto 4, 3) := by decide +kernel
theorem dX3_setTime_27 : decode cX3_setTime 27 = .ok (.iconst 2, 1) := by decide +kernel
theorem dX3_setTime_28 : decode cX3_setTime 28 = .ok (.invokevirtual 71, 3) := by decide +kernel
theorem dX3_setTime_31 : decode cX3_setTime 31 = .ok (.ifCond .ne 5, 3) := by decide +kernel
theorem dX3_setTime_34 : decode cX3_setTime 34 = .ok (.iconst 0, 1) := by decide +kernel
theorem dX3_setTime_35 : decode cX3_setTime 35 = .ok (.ireturn, 1) := by decide +kernel
theorem dX3_setTime_36 : decode cX3_setTime 36 = .ok (.aload_n 0, 1) := by decide +kernel
theorem dX3_setTime_37 : decode cX3_setTime 37 = .ok (.getfield 7, 3) := by decide +kernel
theorem dX3_setTime_40 : decode cX3_setTime 40 = .ok (.iload_n 1, 1) := by decide +kernel
theorem dX3_setTime_41 : decode cX3_setTime 41 = .ok (.iaload, 1) := by decide +kernel
theorem dX3_setTime_42 : decode cX3_setTime 42 = .ok (.istore_n 3, 1) := by decide +kernel
theorem dX3_setTime_43 : decode cX3_setTime 43 = .ok (.aload_n 0, 1) := by decide +kernel
theorem dX3_setTime_44 : decode cX3_setTime 44 = .ok (.getfield 7, 3) := by decide +kernel
theorem dX3_setTime_47 : decode cX3_setTime 47 = .ok (.iload_n 1, 1) := by decide +kernel
theorem dX3_setTime_48 : decode cX3_setTime 48 = .ok (.iload_n 2, 1) := by decide +kernel
theorem dX3_setTime_49 : decode cX3_setTime 49 = .ok (.iastore, 1) := by decide +kernel
theorem dX3_setTime_50 : decode cX3_setTime 50 = .ok (.iload_n 3, 1) := by decide +kernel
theorem dX3_setTime_51 : decode cX3_setTime 51 = .ok (.ireturn, 1) := by decide +kernel
theorem dX3_units_0 : decode cX3_units 0 = .ok (.aload_n 0, 1) := by decide +kernel
theorem dX3_units_1 : decode cX3_units 1 = .ok (.iconst 0, 1) := by decide +kernel
theorem dX3_units_2 : decode cX3_units 2 = .ok (.putfield 56, 3) := by decide +kernel
theorem dX3_units_5 : decode cX3_units 5 = .ok (.aload_n 0, 1) := by decide +kernel
theorem dX3_units_6 : decode cX3_units 6 = .ok (.getfield 60, 3) := by decide +kernel
theorem dX3_units_9 : decode cX3_units 9 = .ok (.ireturn, 1) := by decide +kernel
set_option maxRecDepth 20000 in
theorem ggX3_asks_X3_isUnit : GoodIn wsX3_asks wsX3_isUnit := goodIn_r _ [5, 6, 7, 8, 4, 9, 15, 16, 17, 18, 19, 20, 21, 22, 23, 24, 25, 26, 27, 28, 29, 30, 31, 32, 33, 34, 35, 36, 37] (by decide +kernel) (by decide +kernel)
set_option maxRecDepth 20000 in
theorem gX3_asks_X3_isUnit : GoodIn wsX3_asks (wsV RX3 79 RX3 yX3_isUnit wsX3_isUnit) := goodIn_app (goodIn_of _ (by decide +kernel)) ggX3_asks_X3_isUnit
set_option maxRecDepth 20000 in
theorem ggX3_asks_X3_goes : GoodIn wsX3_asks wsX3_goes := goodIn_r _ [13, 14, 15, 16, 17, 18, 19, 20, 21, 22, 23, 24, 25, 26, 27, 28, 29, 30, 31, 32, 33, 34, 35, 36, 37] (by decide +kernel) (by decide +kernel)
set_option maxRecDepth 20000 in
theorem gX3_asks_X3_goes : GoodIn wsX3_asks (wsV RX3 71 RX3 yX3_goes wsX3_goes) := goodIn_app (goodIn_of _ (by decide +kernel)) ggX3_asks_X3_goes
theorem dX3_asks_0 : decode cX3_asks 0 = .ok (.aload_n 0, 1) := by decide +kernel
theorem dX3_asks_1 : decode cX3_asks 1 = .ok (.aload_n 0, 1) := by decide +kernel
theorem dX3_asks_2 : decode cX3_asks 2 = .ok (.iload_n 1, 1) := by decide +kernel
theorem dX3_asks_3 : decode cX3_asks 3 = .ok (.invokevirtual 79, 3) := by decide +kernel
theorem dX3_asks_6 : decode cX3_asks 6 = .ok (.ifCond .eq 7, 3) := by decide +kernel
theorem dX3_asks_9 : decode cX3_asks 9 = .ok (.iconst 0, 1) := by decide +kernel
theorem dX3_asks_10 : decode cX3_asks 10 = .ok (.goto 4, 3) := by decide +kernel
theorem dX3_asks_13 : decode cX3_asks 13 = .ok (.iconst 1, 1) := by decide +kernel
theorem dX3_asks_14 : decode cX3_asks 14 = .ok (.invokevirtual 71, 3) := by decide +kernel
theorem dX3_asks_17 : decode cX3_asks 17 = .ok (.ireturn, 1) := by decide +kernel
set_option maxRecDepth 20000 in
theorem ggX3_learned_X3_asks : GoodIn wsX3_learned wsX3_asks := goodIn_r _ [6, 7, 8, 9, 5, 10, 11, 12, 13, 14, 15, 16, 17, 18, 19, 20, 21, 22, 23, 24, 25, 26, 27, 28, 29, 30, 31, 32, 33, 34, 35, 36, 37, 38, 39, 40, 41, 42] (by decide +kernel) (by decide +kernel)
set_option maxRecDepth 20000 in
theorem gX3_learned_X3_asks : GoodIn wsX3_learned (wsV RX3 89 RX3 yX3_asks wsX3_asks) := goodIn_app (goodIn_of _ (by decide +kernel)) ggX3_learned_X3_asks
theorem dX3_learned_0 : decode cX3_learned 0 = .ok (.aload_n 0, 1) := by decide +kernel
theorem dX3_learned_1 : decode cX3_learned 1 = .ok (.iload_n 1, 1) := by decide +kernel
theorem dX3_learned_2 : decode cX3_learned 2 = .ok (.invokevirtual 89, 3) := by decide +kernel
theorem dX3_learned_5 : decode cX3_learned 5 = .ok (.ifCond .eq 12, 3) := by decide +kernel
theorem dX3_learned_8 : decode cX3_learned 8 = .ok (.aload_n 0, 1) := by decide +kernel
theorem dX3_learned_9 : decode cX3_learned 9 = .ok (.getfield 13, 3) := by decide +kernel
theorem dX3_learned_12 : decode cX3_learned 12 = .ok (.iload_n 1, 1) := by decide +kernel
theorem dX3_learned_13 : decode cX3_learned 13 = .ok (.iaload, 1) := by decide +kernel
theorem dX3_learned_14 : decode cX3_learned 14 = .ok (.goto 4, 3) := by decide +kernel
theorem dX3_learned_17 : decode cX3_learned 17 = .ok (.iconst 0, 1) := by decide +kernel
theorem dX3_learned_18 : decode cX3_learned 18 = .ok (.ireturn, 1) := by decide +kernel
set_option maxRecDepth 20000 in
theorem ggX3_faults_X3_asks : GoodIn wsX3_faults wsX3_asks := goodIn_r _ [6, 7, 8, 9, 5, 10, 11, 12, 13, 14, 15, 16, 17, 18, 19, 20, 21, 22, 23, 24, 25, 26, 27, 28, 29, 30, 31, 32, 33, 34, 35, 36, 37, 38, 39, 40, 41, 42] (by decide +kernel) (by decide +kernel)
set_option maxRecDepth 20000 in
theorem gX3_faults_X3_asks : GoodIn wsX3_faults (wsV RX3 89 RX3 yX3_asks wsX3_asks) := goodIn_app (goodIn_of _ (by decide +kernel)) ggX3_faults_X3_asks
theorem dX3_faults_0 : decode cX3_faults 0 = .ok (.aload_n 0, 1) := by decide +kernel
theorem dX3_faults_1 : decode cX3_faults 1 = .ok (.iload_n 1, 1) := by decide +kernel
theorem dX3_faults_2 : decode cX3_faults 2 = .ok (.invokevirtual 89, 3) := by decide +kernel
theorem dX3_faults_5 : decode cX3_faults 5 = .ok (.ifCond .eq 12, 3) := by decide +kernel
theorem dX3_faults_8 : decode cX3_faults 8 = .ok (.aload_n 0, 1) := by decide +kernel
theorem dX3_faults_9 : decode cX3_faults 9 = .ok (.getfield 19, 3) := by decide +kernel
theorem dX3_faults_12 : decode cX3_faults 12 = .ok (.iload_n 1, 1) := by decide +kernel
theorem dX3_faults_13 : decode cX3_faults 13 = .ok (.iaload, 1) := by decide +kernel
theorem dX3_faults_14 : decode cX3_faults 14 = .ok (.goto 4, 3) := by decide +kernel
theorem dX3_faults_17 : decode cX3_faults 17 = .ok (.iconst 0, 1) := by decide +kernel
theorem dX3_faults_18 : decode cX3_faults 18 = .ok (.ireturn, 1) := by decide +kernel
set_option maxRecDepth 20000 in
theorem ggX3_weakest_X3_edge : GoodIn wsX3_weakest wsX3_edge := goodIn_r _ [8] (by decide +kernel) (by decide +kernel)
set_option maxRecDepth 20000 in
theorem gX3_weakest_X3_edge : GoodIn wsX3_weakest (va_wsS RX3 75 yX3_edge wsX3_edge) := goodIn_app (goodIn_of _ (by decide +kernel)) ggX3_weakest_X3_edge
set_option maxRecDepth 20000 in
theorem ggX3_weakest_X3_reaches : GoodIn wsX3_weakest wsX3_reaches := goodIn_r _ [12, 1, 13, 14, 2, 3, 5, 6, 7, 8, 15, 16, 17, 18, 19, 20, 21, 22, 23, 24, 25, 26, 27, 28, 29, 30, 31, 32, 33, 34, 35, 36, 37] (by decide +kernel) (by decide +kernel)
set_option maxRecDepth 20000 in
theorem gX3_weakest_X3_reaches : GoodIn wsX3_weakest (wsV RX3 82 RX3 yX3_reaches wsX3_reaches) := goodIn_app (goodIn_of _ (by decide +kernel)) ggX3_weakest_X3_reaches
theorem dX3_weakest_0 : decode cX3_weakest 0 = .ok (.iconst (-1), 1) := by decide +kernel
theorem dX3_weakest_1 : decode cX3_weakest 1 = .ok (.istore_n 1, 1) := by decide +kernel
theorem dX3_weakest_2 : decode cX3_weakest 2 = .ok (.iconst 0, 1) := by decide +kernel
theorem dX3_weakest_3 : decode cX3_weakest 3 = .ok (.istore_n 2, 1) := by decide +kernel
theorem dX3_weakest_4 : decode cX3_weakest 4 = .ok (.iload_n 2, 1) := by decide +kernel
theorem dX3_weakest_5 : decode cX3_weakest 5 = .ok (.aload_n 0, 1) := by decide +kernel
theorem dX3_weakest_6 : decode cX3_weakest 6 = .ok (.getfield 60, 3) := by decide +kernel
theorem dX3_weakest_9 : decode cX3_weakest 9 = .ok (.aload_n 0, 1) := by decide +kernel
theorem dX3_weakest_10 : decode cX3_weakest 10 = .ok (.getfield 60, 3) := by decide +kernel
theorem dX3_weakest_13 : decode cX3_weakest 13 = .ok (.imul, 1) := by decide +kernel
theorem dX3_weakest_14 : decode cX3_weakest 14 = .ok (.if_icmp .ge 131, 3) := by decide +kernel
theorem dX3_weakest_17 : decode cX3_weakest 17 = .ok (.iload_n 2, 1) := by decide +kernel
theorem dX3_weakest_18 : decode cX3_weakest 18 = .ok (.aload_n 0, 1) := by decide +kernel
theorem dX3_weakest_19 : decode cX3_weakest 19 = .ok (.getfield 60, 3) := by decide +kernel
theorem dX3_weakest_22 : decode cX3_weakest 22 = .ok (.idiv, 1) := by decide +kernel
theorem dX3_weakest_23 : decode cX3_weakest 23 = .ok (.iload_n 2, 1) := by decide +kernel
theorem dX3_weakest_24 : decode cX3_weakest 24 = .ok (.aload_n 0, 1) := by decide +kernel
theorem dX3_weakest_25 : decode cX3_weakest 25 = .ok (.getfield 60, 3) := by decide +kernel
theorem dX3_weakest_28 : decode cX3_weakest 28 = .ok (.irem, 1) := by decide +kernel
theorem dX3_weakest_29 : decode cX3_weakest 29 = .ok (.invokestatic 75, 3) := by decide +kernel
theorem dX3_weakest_32 : decode cX3_weakest 32 = .ok (.istore_n 3, 1) := by decide +kernel
theorem dX3_weakest_33 : decode cX3_weakest 33 = .ok (.aload_n 0, 1) := by decide +kernel
theorem dX3_weakest_34 : decode cX3_weakest 34 = .ok (.getfield 32, 3) := by decide +kernel
theorem dX3_weakest_37 : decode cX3_weakest 37 = .ok (.iload_n 3, 1) := by decide +kernel
theorem dX3_weakest_38 : decode cX3_weakest 38 = .ok (.iaload, 1) := by decide +kernel
theorem dX3_weakest_39 : decode cX3_weakest 39 = .ok (.ifCond .le 66, 3) := by decide +kernel
theorem dX3_weakest_42 : decode cX3_weakest 42 = .ok (.aload_n 0, 1) := by decide +kernel
theorem dX3_weakest_43 : decode cX3_weakest 43 = .ok (.getfield 38, 3) := by decide +kernel
theorem dX3_weakest_46 : decode cX3_weakest 46 = .ok (.iload_n 3, 1) := by decide +kernel
theorem dX3_weakest_47 : decode cX3_weakest 47 = .ok (.baload, 1) := by decide +kernel
theorem dX3_weakest_48 : decode cX3_weakest 48 = .ok (.ifCond .ne 57, 3) := by decide +kernel
theorem dX3_weakest_51 : decode cX3_weakest 51 = .ok (.iload_n 1, 1) := by decide +kernel
theorem dX3_weakest_52 : decode cX3_weakest 52 = .ok (.iconst (-1), 1) := by decide +kernel
theorem dX3_weakest_53 : decode cX3_weakest 53 = .ok (.if_icmp .eq 48, 3) := by decide +kernel
theorem dX3_weakest_56 : decode cX3_weakest 56 = .ok (.aload_n 0, 1) := by decide +kernel
theorem dX3_weakest_57 : decode cX3_weakest 57 = .ok (.getfield 32, 3) := by decide +kernel
theorem dX3_weakest_60 : decode cX3_weakest 60 = .ok (.iload_n 3, 1) := by decide +kernel
theorem dX3_weakest_61 : decode cX3_weakest 61 = .ok (.iaload, 1) := by decide +kernel
theorem dX3_weakest_62 : decode cX3_weakest 62 = .ok (.aload_n 0, 1) := by decide +kernel
theorem dX3_weakest_63 : decode cX3_weakest 63 = .ok (.getfield 32, 3) := by decide +kernel
theorem dX3_weakest_66 : decode cX3_weakest 66 = .ok (.iload_n 1, 1) := by decide +kernel
theorem dX3_weakest_67 : decode cX3_weakest 67 = .ok (.iaload, 1) := by decide +kernel
theorem dX3_weakest_68 : decode cX3_weakest 68 = .ok (.if_icmp .lt 33, 3) := by decide +kernel
theorem dX3_weakest_71 : decode cX3_weakest 71 = .ok (.aload_n 0, 1) := by decide +kernel
theorem dX3_weakest_72 : decode cX3_weakest 72 = .ok (.getfield 32, 3) := by decide +kernel
theorem dX3_weakest_75 : decode cX3_weakest 75 = .ok (.iload_n 3, 1) := by decide +kernel
theorem dX3_weakest_76 : decode cX3_weakest 76 = .ok (.iaload, 1) := by decide +kernel
theorem dX3_weakest_77 : decode cX3_weakest 77 = .ok (.aload_n 0, 1) := by decide +kernel
theorem dX3_weakest_78 : decode cX3_weakest 78 = .ok (.getfield 32, 3) := by decide +kernel
theorem dX3_weakest_81 : decode cX3_weakest 81 = .ok (.iload_n 1, 1) := by decide +kernel
theorem dX3_weakest_82 : decode cX3_weakest 82 = .ok (.iaload, 1) := by decide +kernel
theorem dX3_weakest_83 : decode cX3_weakest 83 = .ok (.if_icmp .ne 22, 3) := by decide +kernel
theorem dX3_weakest_86 : decode cX3_weakest 86 = .ok (.aload_n 0, 1) := by decide +kernel
theorem dX3_weakest_87 : decode cX3_weakest 87 = .ok (.getfield 35, 3) := by decide +kernel
theorem dX3_weakest_90 : decode cX3_weakest 90 = .ok (.iload_n 3, 1) := by decide +kernel
theorem dX3_weakest_91 : decode cX3_weakest 91 = .ok (.iaload, 1) := by decide +kernel
theorem dX3_weakest_92 : decode cX3_weakest 92 = .ok (.aload_n 0, 1) := by decide +kernel
theorem dX3_weakest_93 : decode cX3_weakest 93 = .ok (.getfield 35, 3) := by decide +kernel
theorem dX3_weakest_96 : decode cX3_weakest 96 = .ok (.iload_n 1, 1) := by decide +kernel
theorem dX3_weakest_97 : decode cX3_weakest 97 = .ok (.iaload, 1) := by decide +kernel
theorem dX3_weakest_98 : decode cX3_weakest 98 = .ok (.if_icmp .ge 7, 3) := by decide +kernel
theorem dX3_weakest_101 : decode cX3_weakest 101 = .ok (.iconst 1, 1) := by decide +kernel
theorem dX3_weakest_102 : decode cX3_weakest 102 = .ok (.goto 4, 3) := by decide +kernel
theorem dX3_weakest_105 : decode cX3_weakest 105 = .ok (.iconst 0, 1) := by decide +kernel
theorem dX3_weakest_106 : decode cX3_weakest 106 = .ok (.istore 4, 2) := by decide +kernel
theorem dX3_weakest_108 : decode cX3_weakest 108 = .ok (.iload 4, 2) := by decide +kernel
theorem dX3_weakest_110 : decode cX3_weakest 110 = .ok (.ifCond .eq 27, 3) := by decide +kernel
theorem dX3_weakest_113 : decode cX3_weakest 113 = .ok (.aload_n 0, 1) := by decide +kernel
theorem dX3_weakest_114 : decode cX3_weakest 114 = .ok (.iload_n 2, 1) := by decide +kernel
theorem dX3_weakest_115 : decode cX3_weakest 115 = .ok (.aload_n 0, 1) := by decide +kernel
theorem dX3_weakest_116 : decode cX3_weakest 116 = .ok (.getfield 60, 3) := by decide +kernel
theorem dX3_weakest_119 : decode cX3_weakest 119 = .ok (.irem, 1) := by decide +kernel
theorem dX3_weakest_120 : decode cX3_weakest 120 = .ok (.iload_n 2, 1) := by decide +kernel
theorem dX3_weakest_121 : decode cX3_weakest 121 = .ok (.aload_n 0, 1) := by decide +kernel
theorem dX3_weakest_122 : decode cX3_weakest 122 = .ok (.getfield 60, 3) := by decide +kernel
theorem dX3_weakest_125 : decode cX3_weakest 125 = .ok (.idiv, 1) := by decide +kernel
theorem dX3_weakest_126 : decode cX3_weakest 126 = .ok (.iconst 1, 1) := by decide +kernel
theorem dX3_weakest_127 : decode cX3_weakest 127 = .ok (.invokevirtual 82, 3) := by decide +kernel
theorem dX3_weakest_130 : decode cX3_weakest 130 = .ok (.ifCond .eq 7, 3) := by decide +kernel
theorem dX3_weakest_133 : decode cX3_weakest 133 = .ok (.iload_n 3, 1) := by decide +kernel
theorem dX3_weakest_134 : decode cX3_weakest 134 = .ok (.goto 4, 3) := by decide +kernel
theorem dX3_weakest_137 : decode cX3_weakest 137 = .ok (.iload_n 1, 1) := by decide +kernel
theorem dX3_weakest_138 : decode cX3_weakest 138 = .ok (.istore_n 1, 1) := by decide +kernel
theorem dX3_weakest_139 : decode cX3_weakest 139 = .ok (.iinc 2 1, 3) := by decide +kernel
theorem dX3_weakest_142 : decode cX3_weakest 142 = .ok (.goto (-138), 3) := by decide +kernel
theorem dX3_weakest_145 : decode cX3_weakest 145 = .ok (.iload_n 1, 1) := by decide +kernel
theorem dX3_weakest_146 : decode cX3_weakest 146 = .ok (.ireturn, 1) := by decide +kernel
set_option maxRecDepth 20000 in
theorem ggX3_begin_X3_isIn : GoodIn wsX3_begin wsX3_isIn := goodIn_r _ [17] (by decide +kernel) (by decide +kernel)
set_option maxRecDepth 20000 in
theorem gX3_begin_X3_isIn : GoodIn wsX3_begin (va_wsS RX3 63 yX3_isIn wsX3_isIn) := goodIn_app (goodIn_of _ (by decide +kernel)) ggX3_begin_X3_isIn
set_option maxRecDepth 20000 in
theorem ggX3_begin_X3_goes : GoodIn wsX3_begin wsX3_goes := goodIn_r _ [21, 22, 42, 43, 44, 45, 46, 47, 48, 49, 50, 51, 52, 53, 54, 55, 56, 57, 58, 59, 60, 61, 62, 63, 64] (by decide +kernel) (by decide +kernel)
set_option maxRecDepth 20000 in
theorem gX3_begin_X3_goes : GoodIn wsX3_begin (wsV RX3 71 RX3 yX3_goes wsX3_goes) := goodIn_app (goodIn_of _ (by decide +kernel)) ggX3_begin_X3_goes
set_option maxRecDepth 20000 in
theorem ggX3_begin_X3_weakest : GoodIn wsX3_begin wsX3_weakest := goodIn_r _ [26, 6, 27, 2, 28, 29, 30, 16, 31, 32, 33, 34, 35, 36, 37, 42, 43, 44, 45, 46, 47, 48, 49, 50, 51, 52, 53, 54, 55, 56, 57, 58, 59, 60, 61, 62, 63, 64] (by decide +kernel) (by decide +kernel)
set_option maxRecDepth 20000 in
theorem gX3_begin_X3_weakest : GoodIn wsX3_begin (wsV RX3 92 RX3 yX3_weakest wsX3_weakest) := goodIn_app (goodIn_of _ (by decide +kernel)) ggX3_begin_X3_weakest
set_option maxRecDepth 20000 in
theorem ggX3_begin_X3_raised : GoodIn wsX3_begin wsX3_raised := goodIn_r _ [41, 6, 9, 11, 7, 5, 13, 42, 43, 44, 45, 46, 47, 48, 49, 50, 51, 52, 53, 54, 55, 56, 57, 58, 59, 60, 61, 62, 63, 64] (by decide +kernel) (by decide +kernel)
set_option maxRecDepth 20000 in
theorem gX3_begin_X3_raised : GoodIn wsX3_begin (wsV RX3 108 RX3 yX3_raised wsX3_raised) := goodIn_app (goodIn_of _ (by decide +kernel)) ggX3_begin_X3_raised
theorem dX3_begin_0 : decode cX3_begin 0 = .ok (.aload_n 0, 1) := by decide +kernel
theorem dX3_begin_1 : decode cX3_begin 1 = .ok (.iload_n 1, 1) := by decide +kernel
theorem dX3_begin_2 : decode cX3_begin 2 = .ok (.iconst 1, 1) := by decide +kernel
theorem dX3_begin_3 : decode cX3_begin 3 = .ok (.bipush 20, 2) := by decide +kernel
theorem dX3_begin_5 : decode cX3_begin 5 = .ok (.invokestatic 63, 3) := by decide +kernel
theorem dX3_begin_8 : decode cX3_begin 8 = .ok (.ifCond .ne 7, 3) := by decide +kernel
theorem dX3_begin_11 : decode cX3_begin 11 = .ok (.iconst 1, 1) := by decide +kernel
theorem dX3_begin_12 : decode cX3_begin 12 = .ok (.goto 15, 3) := by decide +kernel
theorem dX3_begin_15 : decode cX3_begin 15 = .ok (.aload_n 0, 1) := by decide +kernel
theorem dX3_begin_16 : decode cX3_begin 16 = .ok (.getfield 67, 3) := by decide +kernel
theorem dX3_begin_19 : decode cX3_begin 19 = .ok (.ifCond .eq 7, 3) := by decide +kernel
theorem dX3_begin_22 : decode cX3_begin 22 = .ok (.iconst 2, 1) := by decide +kernel
theorem dX3_begin_23 : decode cX3_begin 23 = .ok (.goto 4, 3) := by decide +kernel
theorem dX3_begin_26 : decode cX3_begin 26 = .ok (.iconst 0, 1) := by decide +kernel
theorem dX3_begin_27 : decode cX3_begin 27 = .ok (.invokevirtual 71, 3) := by decide +kernel
theorem dX3_begin_30 : decode cX3_begin 30 = .ok (.ifCond .ne 5, 3) := by decide +kernel
theorem dX3_begin_33 : decode cX3_begin 33 = .ok (.iconst 0, 1) := by decide +kernel
theorem dX3_begin_34 : decode cX3_begin 34 = .ok (.ireturn, 1) := by decide +kernel
theorem dX3_begin_35 : decode cX3_begin 35 = .ok (.iconst 0, 1) := by decide +kernel
theorem dX3_begin_36 : decode cX3_begin 36 = .ok (.istore_n 2, 1) := by decide +kernel
theorem dX3_begin_37 : decode cX3_begin 37 = .ok (.iconst 0, 1) := by decide +kernel
theorem dX3_begin_38 : decode cX3_begin 38 = .ok (.istore_n 3, 1) := by decide +kernel
theorem dX3_begin_39 : decode cX3_begin 39 = .ok (.iload_n 3, 1) := by decide +kernel
theorem dX3_begin_40 : decode cX3_begin 40 = .ok (.sipush 400, 3) := by decide +kernel
theorem dX3_begin_43 : decode cX3_begin 43 = .ok (.if_icmp .ge 16, 3) := by decide +kernel
theorem dX3_begin_46 : decode cX3_begin 46 = .ok (.aload_n 0, 1) := by decide +kernel
theorem dX3_begin_47 : decode cX3_begin 47 = .ok (.getfield 38, 3) := by decide +kernel
theorem dX3_begin_50 : decode cX3_begin 50 = .ok (.iload_n 3, 1) := by decide +kernel
theorem dX3_begin_51 : decode cX3_begin 51 = .ok (.iconst 0, 1) := by decide +kernel
theorem dX3_begin_52 : decode cX3_begin 52 = .ok (.bastore, 1) := by decide +kernel
theorem dX3_begin_53 : decode cX3_begin 53 = .ok (.iinc 3 1, 3) := by decide +kernel
theorem dX3_begin_56 : decode cX3_begin 56 = .ok (.goto (-17), 3) := by decide +kernel
theorem dX3_begin_59 : decode cX3_begin 59 = .ok (.aload_n 0, 1) := by decide +kernel
theorem dX3_begin_60 : decode cX3_begin 60 = .ok (.invokevirtual 92, 3) := by decide +kernel
theorem dX3_begin_63 : decode cX3_begin 63 = .ok (.istore_n 3, 1) := by decide +kernel
theorem dX3_begin_64 : decode cX3_begin 64 = .ok (.iload_n 3, 1) := by decide +kernel
theorem dX3_begin_65 : decode cX3_begin 65 = .ok (.iconst (-1), 1) := by decide +kernel
theorem dX3_begin_66 : decode cX3_begin 66 = .ok (.if_icmp .eq 21, 3) := by decide +kernel
theorem dX3_begin_69 : decode cX3_begin 69 = .ok (.aload_n 0, 1) := by decide +kernel
theorem dX3_begin_70 : decode cX3_begin 70 = .ok (.getfield 38, 3) := by decide +kernel
theorem dX3_begin_73 : decode cX3_begin 73 = .ok (.iload_n 3, 1) := by decide +kernel
theorem dX3_begin_74 : decode cX3_begin 74 = .ok (.iconst 1, 1) := by decide +kernel
theorem dX3_begin_75 : decode cX3_begin 75 = .ok (.bastore, 1) := by decide +kernel
theorem dX3_begin_76 : decode cX3_begin 76 = .ok (.iinc 2 1, 3) := by decide +kernel
theorem dX3_begin_79 : decode cX3_begin 79 = .ok (.aload_n 0, 1) := by decide +kernel
theorem dX3_begin_80 : decode cX3_begin 80 = .ok (.invokevirtual 92, 3) := by decide +kernel
theorem dX3_begin_83 : decode cX3_begin 83 = .ok (.istore_n 3, 1) := by decide +kernel
theorem dX3_begin_84 : decode cX3_begin 84 = .ok (.goto (-20), 3) := by decide +kernel
theorem dX3_begin_87 : decode cX3_begin 87 = .ok (.aload_n 0, 1) := by decide +kernel
theorem dX3_begin_88 : decode cX3_begin 88 = .ok (.iconst 1, 1) := by decide +kernel
theorem dX3_begin_89 : decode cX3_begin 89 = .ok (.putfield 96, 3) := by decide +kernel
theorem dX3_begin_92 : decode cX3_begin 92 = .ok (.aload_n 0, 1) := by decide +kernel
theorem dX3_begin_93 : decode cX3_begin 93 = .ok (.iconst 1, 1) := by decide +kernel
theorem dX3_begin_94 : decode cX3_begin 94 = .ok (.putfield 67, 3) := by decide +kernel
theorem dX3_begin_97 : decode cX3_begin 97 = .ok (.aload_n 0, 1) := by decide +kernel
theorem dX3_begin_98 : decode cX3_begin 98 = .ok (.iload_n 1, 1) := by decide +kernel
theorem dX3_begin_99 : decode cX3_begin 99 = .ok (.putfield 99, 3) := by decide +kernel
theorem dX3_begin_102 : decode cX3_begin 102 = .ok (.aload_n 0, 1) := by decide +kernel
theorem dX3_begin_103 : decode cX3_begin 103 = .ok (.iconst 0, 1) := by decide +kernel
theorem dX3_begin_104 : decode cX3_begin 104 = .ok (.putfield 102, 3) := by decide +kernel
theorem dX3_begin_107 : decode cX3_begin 107 = .ok (.iconst 0, 1) := by decide +kernel
theorem dX3_begin_108 : decode cX3_begin 108 = .ok (.istore_n 3, 1) := by decide +kernel
theorem dX3_begin_109 : decode cX3_begin 109 = .ok (.iload_n 3, 1) := by decide +kernel
theorem dX3_begin_110 : decode cX3_begin 110 = .ok (.aload_n 0, 1) := by decide +kernel
theorem dX3_begin_111 : decode cX3_begin 111 = .ok (.getfield 60, 3) := by decide +kernel
theorem dX3_begin_114 : decode cX3_begin 114 = .ok (.if_icmp .ge 83, 3) := by decide +kernel
theorem dX3_begin_117 : decode cX3_begin 117 = .ok (.aload_n 0, 1) := by decide +kernel
theorem dX3_begin_118 : decode cX3_begin 118 = .ok (.getfield 41, 3) := by decide +kernel
theorem dX3_begin_121 : decode cX3_begin 121 = .ok (.iload_n 3, 1) := by decide +kernel
theorem dX3_begin_122 : decode cX3_begin 122 = .ok (.aload_n 0, 1) := by decide +kernel
theorem dX3_begin_123 : decode cX3_begin 123 = .ok (.getfield 25, 3) := by decide +kernel
theorem dX3_begin_126 : decode cX3_begin 126 = .ok (.iload_n 3, 1) := by decide +kernel
theorem dX3_begin_127 : decode cX3_begin 127 = .ok (.baload, 1) := by decide +kernel
theorem dX3_begin_128 : decode cX3_begin 128 = .ok (.ifCond .eq 7, 3) := by decide +kernel
theorem dX3_begin_131 : decode cX3_begin 131 = .ok (.iconst 4, 1) := by decide +kernel
theorem dX3_begin_132 : decode cX3_begin 132 = .ok (.goto 4, 3) := by decide +kernel
theorem dX3_begin_135 : decode cX3_begin 135 = .ok (.iconst 0, 1) := by decide +kernel
theorem dX3_begin_136 : decode cX3_begin 136 = .ok (.iastore, 1) := by decide +kernel
theorem dX3_begin_137 : decode cX3_begin 137 = .ok (.aload_n 0, 1) := by decide +kernel
theorem dX3_begin_138 : decode cX3_begin 138 = .ok (.getfield 44, 3) := by decide +kernel
theorem dX3_begin_141 : decode cX3_begin 141 = .ok (.iload_n 3, 1) := by decide +kernel
theorem dX3_begin_142 : decode cX3_begin 142 = .ok (.iconst 0, 1) := by decide +kernel
theorem dX3_begin_143 : decode cX3_begin 143 = .ok (.iastore, 1) := by decide +kernel
theorem dX3_begin_144 : decode cX3_begin 144 = .ok (.aload_n 0, 1) := by decide +kernel
theorem dX3_begin_145 : decode cX3_begin 145 = .ok (.getfield 47, 3) := by decide +kernel
theorem dX3_begin_148 : decode cX3_begin 148 = .ok (.iload_n 3, 1) := by decide +kernel
theorem dX3_begin_149 : decode cX3_begin 149 = .ok (.iconst 0, 1) := by decide +kernel
theorem dX3_begin_150 : decode cX3_begin 150 = .ok (.iastore, 1) := by decide +kernel
theorem dX3_begin_151 : decode cX3_begin 151 = .ok (.aload_n 0, 1) := by decide +kernel
theorem dX3_begin_152 : decode cX3_begin 152 = .ok (.getfield 50, 3) := by decide +kernel
theorem dX3_begin_155 : decode cX3_begin 155 = .ok (.iload_n 3, 1) := by decide +kernel
theorem dX3_begin_156 : decode cX3_begin 156 = .ok (.aload_n 0, 1) := by decide +kernel
theorem dX3_begin_157 : decode cX3_begin 157 = .ok (.getfield 13, 3) := by decide +kernel
theorem dX3_begin_160 : decode cX3_begin 160 = .ok (.iload_n 3, 1) := by decide +kernel
theorem dX3_begin_161 : decode cX3_begin 161 = .ok (.iaload, 1) := by decide +kernel
theorem dX3_begin_162 : decode cX3_begin 162 = .ok (.iastore, 1) := by decide +kernel
theorem dX3_begin_163 : decode cX3_begin 163 = .ok (.aload_n 0, 1) := by decide +kernel
theorem dX3_begin_164 : decode cX3_begin 164 = .ok (.dup, 1) := by decide +kernel
theorem dX3_begin_165 : decode cX3_begin 165 = .ok (.getfield 102, 3) := by decide +kernel
theorem dX3_begin_168 : decode cX3_begin 168 = .ok (.aload_n 0, 1) := by decide +kernel
theorem dX3_begin_169 : decode cX3_begin 169 = .ok (.getfield 25, 3) := by decide +kernel
theorem dX3_begin_172 : decode cX3_begin 172 = .ok (.iload_n 3, 1) := by decide +kernel
theorem dX3_begin_173 : decode cX3_begin 173 = .ok (.baload, 1) := by decide +kernel
theorem dX3_begin_174 : decode cX3_begin 174 = .ok (.ifCond .eq 7, 3) := by decide +kernel
theorem dX3_begin_177 : decode cX3_begin 177 = .ok (.iconst 0, 1) := by decide +kernel
theorem dX3_begin_178 : decode cX3_begin 178 = .ok (.goto 9, 3) := by decide +kernel
theorem dX3_begin_181 : decode cX3_begin 181 = .ok (.aload_n 0, 1) := by decide +kernel
theorem dX3_begin_182 : decode cX3_begin 182 = .ok (.getfield 13, 3) := by decide +kernel
theorem dX3_begin_185 : decode cX3_begin 185 = .ok (.iload_n 3, 1) := by decide +kernel
theorem dX3_begin_186 : decode cX3_begin 186 = .ok (.iaload, 1) := by decide +kernel
theorem dX3_begin_187 : decode cX3_begin 187 = .ok (.iadd, 1) := by decide +kernel
theorem dX3_begin_188 : decode cX3_begin 188 = .ok (.putfield 102, 3) := by decide +kernel
theorem dX3_begin_191 : decode cX3_begin 191 = .ok (.iinc 3 1, 3) := by decide +kernel
theorem dX3_begin_194 : decode cX3_begin 194 = .ok (.goto (-85), 3) := by decide +kernel
theorem dX3_begin_197 : decode cX3_begin 197 = .ok (.aload_n 0, 1) := by decide +kernel
theorem dX3_begin_198 : decode cX3_begin 198 = .ok (.iconst 0, 1) := by decide +kernel
theorem dX3_begin_199 : decode cX3_begin 199 = .ok (.putfield 105, 3) := by decide +kernel
theorem dX3_begin_202 : decode cX3_begin 202 = .ok (.aload_n 0, 1) := by decide +kernel
theorem dX3_begin_203 : decode cX3_begin 203 = .ok (.aload_n 0, 1) := by decide +kernel
theorem dX3_begin_204 : decode cX3_begin 204 = .ok (.invokevirtual 108, 3) := by decide +kernel
theorem dX3_begin_207 : decode cX3_begin 207 = .ok (.putfield 105, 3) := by decide +kernel
theorem dX3_begin_210 : decode cX3_begin 210 = .ok (.iload_n 2, 1) := by decide +kernel
theorem dX3_begin_211 : decode cX3_begin 211 = .ok (.ireturn, 1) := by decide +kernel
theorem dX3_isOff_0 : decode cX3_isOff 0 = .ok (.aload_n 0, 1) := by decide +kernel
theorem dX3_isOff_1 : decode cX3_isOff 1 = .ok (.getfield 41, 3) := by decide +kernel
theorem dX3_isOff_4 : decode cX3_isOff 4 = .ok (.iload_n 1, 1) := by decide +kernel
theorem dX3_isOff_5 : decode cX3_isOff 5 = .ok (.iaload, 1) := by decide +kernel
theorem dX3_isOff_6 : decode cX3_isOff 6 = .ok (.iconst 3, 1) := by decide +kernel
theorem dX3_isOff_7 : decode cX3_isOff 7 = .ok (.if_icmp .eq 13, 3) := by decide +kernel
theorem dX3_isOff_10 : decode cX3_isOff 10 = .ok (.aload_n 0, 1) := by decide +kernel
theorem dX3_isOff_11 : decode cX3_isOff 11 = .ok (.getfield 41, 3) := by decide +kernel
theorem dX3_isOff_14 : decode cX3_isOff 14 = .ok (.iload_n 1, 1) := by decide +kernel
theorem dX3_isOff_15 : decode cX3_isOff 15 = .ok (.iaload, 1) := by decide +kernel
theorem dX3_isOff_16 : decode cX3_isOff 16 = .ok (.iconst 4, 1) := by decide +kernel
theorem dX3_isOff_17 : decode cX3_isOff 17 = .ok (.if_icmp .ne 7, 3) := by decide +kernel
theorem dX3_isOff_20 : decode cX3_isOff 20 = .ok (.iconst 1, 1) := by decide +kernel
theorem dX3_isOff_21 : decode cX3_isOff 21 = .ok (.goto 4, 3) := by decide +kernel
theorem dX3_isOff_24 : decode cX3_isOff 24 = .ok (.iconst 0, 1) := by decide +kernel
theorem dX3_isOff_25 : decode cX3_isOff 25 = .ok (.ireturn, 1) := by decide +kernel
set_option maxRecDepth 20000 in
theorem ggX3_isMet_X3_isOff : GoodIn wsX3_isMet wsX3_isOff := goodIn_r _ [7, 2, 8, 9, 10, 11, 12, 13, 14, 15, 16, 17, 18, 19, 20, 21, 22, 23, 24, 25, 26, 27, 28, 29, 30] (by decide +kernel) (by decide +kernel)
set_option maxRecDepth 20000 in
theorem gX3_isMet_X3_isOff : GoodIn wsX3_isMet (wsV RX3 111 RX3 yX3_isOff wsX3_isOff) := goodIn_app (goodIn_of _ (by decide +kernel)) ggX3_isMet_X3_isOff
theorem dX3_isMet_0 : decode cX3_isMet 0 = .ok (.aload_n 0, 1) := by decide +kernel
theorem dX3_isMet_1 : decode cX3_isMet 1 = .ok (.getfield 22, 3) := by decide +kernel
theorem dX3_isMet_4 : decode cX3_isMet 4 = .ok (.iload_n 1, 1) := by decide +kernel
theorem dX3_isMet_5 : decode cX3_isMet 5 = .ok (.iaload, 1) := by decide +kernel
theorem dX3_isMet_6 : decode cX3_isMet 6 = .ok (.istore_n 2, 1) := by decide +kernel
theorem dX3_isMet_7 : decode cX3_isMet 7 = .ok (.aload_n 0, 1) := by decide +kernel
theorem dX3_isMet_8 : decode cX3_isMet 8 = .ok (.getfield 41, 3) := by decide +kernel
theorem dX3_isMet_11 : decode cX3_isMet 11 = .ok (.iload_n 1, 1) := by decide +kernel
theorem dX3_isMet_12 : decode cX3_isMet 12 = .ok (.iaload, 1) := by decide +kernel
theorem dX3_isMet_13 : decode cX3_isMet 13 = .ok (.iconst 2, 1) := by decide +kernel
theorem dX3_isMet_14 : decode cX3_isMet 14 = .ok (.if_icmp .eq 26, 3) := by decide +kernel
theorem dX3_isMet_17 : decode cX3_isMet 17 = .ok (.aload_n 0, 1) := by decide +kernel
theorem dX3_isMet_18 : decode cX3_isMet 18 = .ok (.iload_n 1, 1) := by decide +kernel
theorem dX3_isMet_19 : decode cX3_isMet 19 = .ok (.invokevirtual 111, 3) := by decide +kernel
theorem dX3_isMet_22 : decode cX3_isMet 22 = .ok (.ifCond .eq 22, 3) := by decide +kernel
theorem dX3_isMet_25 : decode cX3_isMet 25 = .ok (.iload_n 2, 1) := by decide +kernel
theorem dX3_isMet_26 : decode cX3_isMet 26 = .ok (.iconst (-1), 1) := by decide +kernel
theorem dX3_isMet_27 : decode cX3_isMet 27 = .ok (.if_icmp .eq 17, 3) := by decide +kernel
theorem dX3_isMet_30 : decode cX3_isMet 30 = .ok (.aload_n 0, 1) := by decide +kernel
theorem dX3_isMet_31 : decode cX3_isMet 31 = .ok (.getfield 41, 3) := by decide +kernel
theorem dX3_isMet_34 : decode cX3_isMet 34 = .ok (.iload_n 2, 1) := by decide +kernel
theorem dX3_isMet_35 : decode cX3_isMet 35 = .ok (.iaload, 1) := by decide +kernel
theorem dX3_isMet_36 : decode cX3_isMet 36 = .ok (.iconst 2, 1) := by decide +kernel
theorem dX3_isMet_37 : decode cX3_isMet 37 = .ok (.if_icmp .ne 7, 3) := by decide +kernel
theorem dX3_isMet_40 : decode cX3_isMet 40 = .ok (.iconst 1, 1) := by decide +kernel
theorem dX3_isMet_41 : decode cX3_isMet 41 = .ok (.goto 4, 3) := by decide +kernel
theorem dX3_isMet_44 : decode cX3_isMet 44 = .ok (.iconst 0, 1) := by decide +kernel
theorem dX3_isMet_45 : decode cX3_isMet 45 = .ok (.ireturn, 1) := by decide +kernel
set_option maxRecDepth 20000 in
theorem ggX3_isLost_X3_isOff : GoodIn wsX3_isLost wsX3_isOff := goodIn_r _ [6, 7, 8, 9, 10, 11, 12, 13, 14, 15, 16, 17, 18, 19, 20, 21, 22, 23, 24, 25, 26, 27, 28, 29, 30] (by decide +kernel) (by decide +kernel)
set_option maxRecDepth 20000 in
theorem gX3_isLost_X3_isOff : GoodIn wsX3_isLost (wsV RX3 111 RX3 yX3_isOff wsX3_isOff) := goodIn_app (goodIn_of _ (by decide +kernel)) ggX3_isLost_X3_isOff
theorem dX3_isLost_0 : decode cX3_isLost 0 = .ok (.aload_n 0, 1) := by decide +kernel
theorem dX3_isLost_1 : decode cX3_isLost 1 = .ok (.getfield 22, 3) := by decide +kernel
theorem dX3_isLost_4 : decode cX3_isLost 4 = .ok (.iload_n 1, 1) := by decide +kernel
theorem dX3_isLost_5 : decode cX3_isLost 5 = .ok (.iaload, 1) := by decide +kernel
theorem dX3_isLost_6 : decode cX3_isLost 6 = .ok (.istore_n 2, 1) := by decide +kernel
theorem dX3_isLost_7 : decode cX3_isLost 7 = .ok (.aload_n 0, 1) := by decide +kernel
theorem dX3_isLost_8 : decode cX3_isLost 8 = .ok (.iload_n 1, 1) := by decide +kernel
theorem dX3_isLost_9 : decode cX3_isLost 9 = .ok (.invokevirtual 111, 3) := by decide +kernel
theorem dX3_isLost_12 : decode cX3_isLost 12 = .ok (.ifCond .eq 20, 3) := by decide +kernel
theorem dX3_isLost_15 : decode cX3_isLost 15 = .ok (.iload_n 2, 1) := by decide +kernel
theorem dX3_isLost_16 : decode cX3_isLost 16 = .ok (.iconst (-1), 1) := by decide +kernel
theorem dX3_isLost_17 : decode cX3_isLost 17 = .ok (.if_icmp .eq 11, 3) := by decide +kernel
theorem dX3_isLost_20 : decode cX3_isLost 20 = .ok (.aload_n 0, 1) := by decide +kernel
theorem dX3_isLost_21 : decode cX3_isLost 21 = .ok (.iload_n 2, 1) := by decide +kernel
theorem dX3_isLost_22 : decode cX3_isLost 22 = .ok (.invokevirtual 111, 3) := by decide +kernel
theorem dX3_isLost_25 : decode cX3_isLost 25 = .ok (.ifCond .eq 7, 3) := by decide +kernel
theorem dX3_isLost_28 : decode cX3_isLost 28 = .ok (.iconst 1, 1) := by decide +kernel
theorem dX3_isLost_29 : decode cX3_isLost 29 = .ok (.goto 4, 3) := by decide +kernel
theorem dX3_isLost_32 : decode cX3_isLost 32 = .ok (.iconst 0, 1) := by decide +kernel
theorem dX3_isLost_33 : decode cX3_isLost 33 = .ok (.ireturn, 1) := by decide +kernel
set_option maxRecDepth 20000 in
theorem ggX3_waits_X3_edge : GoodIn wsX3_waits wsX3_edge := goodIn_r _ [8] (by decide +kernel) (by decide +kernel)
set_option maxRecDepth 20000 in
theorem gX3_waits_X3_edge : GoodIn wsX3_waits (va_wsS RX3 75 yX3_edge wsX3_edge) := goodIn_app (goodIn_of _ (by decide +kernel)) ggX3_waits_X3_edge
set_option maxRecDepth 20000 in
theorem ggX3_waits_X3_isOff : GoodIn wsX3_waits wsX3_isOff := goodIn_r _ [12, 3, 22, 23, 24, 25, 26, 27, 28, 29, 30, 31, 32, 33, 34, 35, 36, 37, 38, 39, 40, 41, 42, 43, 44] (by decide +kernel) (by decide +kernel)
set_option maxRecDepth 20000 in
theorem gX3_waits_X3_isOff : GoodIn wsX3_waits (wsV RX3 111 RX3 yX3_isOff wsX3_isOff) := goodIn_app (goodIn_of _ (by decide +kernel)) ggX3_waits_X3_isOff
set_option maxRecDepth 20000 in
theorem ggX3_waits_X3_isMet : GoodIn wsX3_waits wsX3_isMet := goodIn_r _ [16, 17, 3, 9, 10, 11, 7, 12, 22, 23, 24, 25, 26, 27, 28, 29, 30, 31, 32, 33, 34, 35, 36, 37, 38, 39, 40, 41, 42, 43, 44] (by decide +kernel) (by decide +kernel)
set_option maxRecDepth 20000 in
theorem gX3_waits_X3_isMet : GoodIn wsX3_waits (wsV RX3 114 RX3 yX3_isMet wsX3_isMet) := goodIn_app (goodIn_of _ (by decide +kernel)) ggX3_waits_X3_isMet
set_option maxRecDepth 20000 in
theorem ggX3_waits_X3_isLost : GoodIn wsX3_waits wsX3_isLost := goodIn_r _ [21, 17, 9, 10, 11, 7, 12, 3, 22, 23, 24, 25, 26, 27, 28, 29, 30, 31, 32, 33, 34, 35, 36, 37, 38, 39, 40, 41, 42, 43, 44] (by decide +kernel) (by decide +kernel)
set_option maxRecDepth 20000 in
theorem gX3_waits_X3_isLost : GoodIn wsX3_waits (wsV RX3 117 RX3 yX3_isLost wsX3_isLost) := goodIn_app (goodIn_of _ (by decide +kernel)) ggX3_waits_X3_isLost
theorem dX3_waits_0 : decode cX3_waits 0 = .ok (.aload_n 0, 1) := by decide +kernel
theorem dX3_waits_1 : decode cX3_waits 1 = .ok (.getfield 32, 3) := by decide +kernel
theorem dX3_waits_4 : decode cX3_waits 4 = .ok (.iload_n 1, 1) := by decide +kernel
theorem dX3_waits_5 : decode cX3_waits 5 = .ok (.iload_n 2, 1) := by decide +kernel
theorem dX3_waits_6 : decode cX3_waits 6 = .ok (.invokestatic 75, 3) := by decide +kernel
theorem dX3_waits_9 : decode cX3_waits 9 = .ok (.iaload, 1) := by decide +kernel
theorem dX3_waits_10 : decode cX3_waits 10 = .ok (.ifCond .le 20, 3) := by decide +kernel
theorem dX3_waits_13 : decode cX3_waits 13 = .ok (.aload_n 0, 1) := by decide +kernel
theorem dX3_waits_14 : decode cX3_waits 14 = .ok (.getfield 38, 3) := by decide +kernel
theorem dX3_waits_17 : decode cX3_waits 17 = .ok (.iload_n 1, 1) := by decide +kernel
theorem dX3_waits_18 : decode cX3_waits 18 = .ok (.iload_n 2, 1) := by decide +kernel
theorem dX3_waits_19 : decode cX3_waits 19 = .ok (.invokestatic 75, 3) := by decide +kernel
theorem dX3_waits_22 : decode cX3_waits 22 = .ok (.baload, 1) := by decide +kernel
theorem dX3_waits_23 : decode cX3_waits 23 = .ok (.ifCond .ne 7, 3) := by decide +kernel
theorem dX3_waits_26 : decode cX3_waits 26 = .ok (.iconst 1, 1) := by decide +kernel
theorem dX3_waits_27 : decode cX3_waits 27 = .ok (.goto 4, 3) := by decide +kernel
theorem dX3_waits_30 : decode cX3_waits 30 = .ok (.iconst 0, 1) := by decide +kernel
theorem dX3_waits_31 : decode cX3_waits 31 = .ok (.istore_n 3, 1) := by decide +kernel
theorem dX3_waits_32 : decode cX3_waits 32 = .ok (.aload_n 0, 1) := by decide +kernel
theorem dX3_waits_33 : decode cX3_waits 33 = .ok (.getfield 41, 3) := by decide +kernel
theorem dX3_waits_36 : decode cX3_waits 36 = .ok (.iload_n 2, 1) := by decide +kernel
theorem dX3_waits_37 : decode cX3_waits 37 = .ok (.iaload, 1) := by decide +kernel
theorem dX3_waits_38 : decode cX3_waits 38 = .ok (.iconst 2, 1) := by decide +kernel
theorem dX3_waits_39 : decode cX3_waits 39 = .ok (.if_icmp .eq 11, 3) := by decide +kernel
theorem dX3_waits_42 : decode cX3_waits 42 = .ok (.aload_n 0, 1) := by decide +kernel
theorem dX3_waits_43 : decode cX3_waits 43 = .ok (.iload_n 2, 1) := by decide +kernel
theorem dX3_waits_44 : decode cX3_waits 44 = .ok (.invokevirtual 111, 3) := by decide +kernel
theorem dX3_waits_47 : decode cX3_waits 47 = .ok (.ifCond .eq 7, 3) := by decide +kernel
theorem dX3_waits_50 : decode cX3_waits 50 = .ok (.iconst 1, 1) := by decide +kernel
theorem dX3_waits_51 : decode cX3_waits 51 = .ok (.goto 4, 3) := by decide +kernel
theorem dX3_waits_54 : decode cX3_waits 54 = .ok (.iconst 0, 1) := by decide +kernel
theorem dX3_waits_55 : decode cX3_waits 55 = .ok (.istore 4, 2) := by decide +kernel
theorem dX3_waits_57 : decode cX3_waits 57 = .ok (.aload_n 0, 1) := by decide +kernel
theorem dX3_waits_58 : decode cX3_waits 58 = .ok (.getfield 29, 3) := by decide +kernel
theorem dX3_waits_61 : decode cX3_waits 61 = .ok (.iload_n 1, 1) := by decide +kernel
theorem dX3_waits_62 : decode cX3_waits 62 = .ok (.iload_n 2, 1) := by decide +kernel
theorem dX3_waits_63 : decode cX3_waits 63 = .ok (.invokestatic 75, 3) := by decide +kernel
theorem dX3_waits_66 : decode cX3_waits 66 = .ok (.baload, 1) := by decide +kernel
theorem dX3_waits_67 : decode cX3_waits 67 = .ok (.ifCond .eq 19, 3) := by decide +kernel
theorem dX3_waits_70 : decode cX3_waits 70 = .ok (.aload_n 0, 1) := by decide +kernel
theorem dX3_waits_71 : decode cX3_waits 71 = .ok (.iload_n 2, 1) := by decide +kernel
theorem dX3_waits_72 : decode cX3_waits 72 = .ok (.invokevirtual 114, 3) := by decide +kernel
theorem dX3_waits_75 : decode cX3_waits 75 = .ok (.ifCond .ne 11, 3) := by decide +kernel
theorem dX3_waits_78 : decode cX3_waits 78 = .ok (.aload_n 0, 1) := by decide +kernel
theorem dX3_waits_79 : decode cX3_waits 79 = .ok (.iload_n 2, 1) := by decide +kernel
theorem dX3_waits_80 : decode cX3_waits 80 = .ok (.invokevirtual 117, 3) := by decide +kernel
theorem dX3_waits_83 : decode cX3_waits 83 = .ok (.ifCond .eq 12, 3) := by decide +kernel
theorem dX3_waits_86 : decode cX3_waits 86 = .ok (.iload_n 3, 1) := by decide +kernel
theorem dX3_waits_87 : decode cX3_waits 87 = .ok (.ifCond .eq 12, 3) := by decide +kernel
theorem dX3_waits_90 : decode cX3_waits 90 = .ok (.iload 4, 2) := by decide +kernel
theorem dX3_waits_92 : decode cX3_waits 92 = .ok (.ifCond .ne 7, 3) := by decide +kernel
theorem dX3_waits_95 : decode cX3_waits 95 = .ok (.iconst 1, 1) := by decide +kernel
theorem dX3_waits_96 : decode cX3_waits 96 = .ok (.goto 4, 3) := by decide +kernel
theorem dX3_waits_99 : decode cX3_waits 99 = .ok (.iconst 0, 1) := by decide +kernel
theorem dX3_waits_100 : decode cX3_waits 100 = .ok (.ireturn, 1) := by decide +kernel
theorem dX3_starting_0 : decode cX3_starting 0 = .ok (.iconst 0, 1) := by decide +kernel
theorem dX3_starting_1 : decode cX3_starting 1 = .ok (.istore_n 1, 1) := by decide +kernel
theorem dX3_starting_2 : decode cX3_starting 2 = .ok (.iconst 0, 1) := by decide +kernel
theorem dX3_starting_3 : decode cX3_starting 3 = .ok (.istore_n 2, 1) := by decide +kernel
theorem dX3_starting_4 : decode cX3_starting 4 = .ok (.iload_n 2, 1) := by decide +kernel
theorem dX3_starting_5 : decode cX3_starting 5 = .ok (.aload_n 0, 1) := by decide +kernel
theorem dX3_starting_6 : decode cX3_starting 6 = .ok (.getfield 60, 3) := by decide +kernel
theorem dX3_starting_9 : decode cX3_starting 9 = .ok (.if_icmp .ge 27, 3) := by decide +kernel
theorem dX3_starting_12 : decode cX3_starting 12 = .ok (.iload_n 1, 1) := by decide +kernel
theorem dX3_starting_13 : decode cX3_starting 13 = .ok (.aload_n 0, 1) := by decide +kernel
theorem dX3_starting_14 : decode cX3_starting 14 = .ok (.getfield 41, 3) := by decide +kernel
theorem dX3_starting_17 : decode cX3_starting 17 = .ok (.iload_n 2, 1) := by decide +kernel
theorem dX3_starting_18 : decode cX3_starting 18 = .ok (.iaload, 1) := by decide +kernel
theorem dX3_starting_19 : decode cX3_starting 19 = .ok (.iconst 1, 1) := by decide +kernel
theorem dX3_starting_20 : decode cX3_starting 20 = .ok (.if_icmp .ne 7, 3) := by decide +kernel
theorem dX3_starting_23 : decode cX3_starting 23 = .ok (.iconst 1, 1) := by decide +kernel
theorem dX3_starting_24 : decode cX3_starting 24 = .ok (.goto 4, 3) := by decide +kernel
theorem dX3_starting_27 : decode cX3_starting 27 = .ok (.iconst 0, 1) := by decide +kernel
theorem dX3_starting_28 : decode cX3_starting 28 = .ok (.iadd, 1) := by decide +kernel
theorem dX3_starting_29 : decode cX3_starting 29 = .ok (.istore_n 1, 1) := by decide +kernel
theorem dX3_starting_30 : decode cX3_starting 30 = .ok (.iinc 2 1, 3) := by decide +kernel
theorem dX3_starting_33 : decode cX3_starting 33 = .ok (.goto (-29), 3) := by decide +kernel
theorem dX3_starting_36 : decode cX3_starting 36 = .ok (.iload_n 1, 1) := by decide +kernel
theorem dX3_starting_37 : decode cX3_starting 37 = .ok (.ireturn, 1) := by decide +kernel
theorem dX3_ends_0 : decode cX3_ends 0 = .ok (.aload_n 0, 1) := by decide +kernel
theorem dX3_ends_1 : decode cX3_ends 1 = .ok (.getfield 19, 3) := by decide +kernel
theorem dX3_ends_4 : decode cX3_ends 4 = .ok (.iload_n 1, 1) := by decide +kernel
theorem dX3_ends_5 : decode cX3_ends 5 = .ok (.iaload, 1) := by decide +kernel
theorem dX3_ends_6 : decode cX3_ends 6 = .ok (.ifCond .ne 58, 3) := by decide +kernel
theorem dX3_ends_9 : decode cX3_ends 9 = .ok (.aload_n 0, 1) := by decide +kernel
theorem dX3_ends_10 : decode cX3_ends 10 = .ok (.getfield 41, 3) := by decide +kernel
theorem dX3_ends_13 : decode cX3_ends 13 = .ok (.iload_n 1, 1) := by decide +kernel
theorem dX3_ends_14 : decode cX3_ends 14 = .ok (.iconst 2, 1) := by decide +kernel
theorem dX3_ends_15 : decode cX3_ends 15 = .ok (.iastore, 1) := by decide +kernel
theorem dX3_ends_16 : decode cX3_ends 16 = .ok (.aload_n 0, 1) := by decide +kernel
theorem dX3_ends_17 : decode cX3_ends 17 = .ok (.getfield 13, 3) := by decide +kernel
theorem dX3_ends_20 : decode cX3_ends 20 = .ok (.iload_n 1, 1) := by decide +kernel
theorem dX3_ends_21 : decode cX3_ends 21 = .ok (.aload_n 0, 1) := by decide +kernel
theorem dX3_ends_22 : decode cX3_ends 22 = .ok (.getfield 13, 3) := by decide +kernel
theorem dX3_ends_25 : decode cX3_ends 25 = .ok (.iload_n 1, 1) := by decide +kernel
theorem dX3_ends_26 : decode cX3_ends 26 = .ok (.iaload, 1) := by decide +kernel
theorem dX3_ends_27 : decode cX3_ends 27 = .ok (.aload_n 0, 1) := by decide +kernel
theorem dX3_ends_28 : decode cX3_ends 28 = .ok (.getfield 7, 3) := by decide +kernel
theorem dX3_ends_31 : decode cX3_ends 31 = .ok (.iload_n 1, 1) := by decide +kernel
theorem dX3_ends_32 : decode cX3_ends 32 = .ok (.iaload, 1) := by decide +kernel
theorem dX3_ends_33 : decode cX3_ends 33 = .ok (.iadd, 1) := by decide +kernel
theorem dX3_ends_34 : decode cX3_ends 34 = .ok (.iconst 2, 1) := by decide +kernel
theorem dX3_ends_35 : decode cX3_ends 35 = .ok (.idiv, 1) := by decide +kernel
theorem dX3_ends_36 : decode cX3_ends 36 = .ok (.iastore, 1) := by decide +kernel
theorem dX3_ends_37 : decode cX3_ends 37 = .ok (.aload_n 0, 1) := by decide +kernel
theorem dX3_ends_38 : decode cX3_ends 38 = .ok (.getfield 13, 3) := by decide +kernel
theorem dX3_ends_41 : decode cX3_ends 41 = .ok (.iload_n 1, 1) := by decide +kernel
theorem dX3_ends_42 : decode cX3_ends 42 = .ok (.aload_n 0, 1) := by decide +kernel
theorem dX3_ends_43 : decode cX3_ends 43 = .ok (.getfield 13, 3) := by decide +kernel
theorem dX3_ends_46 : decode cX3_ends 46 = .ok (.iload_n 1, 1) := by decide +kernel
theorem dX3_ends_47 : decode cX3_ends 47 = .ok (.iaload, 1) := by decide +kernel
theorem dX3_ends_48 : decode cX3_ends 48 = .ok (.iconst 1, 1) := by decide +kernel
theorem dX3_ends_49 : decode cX3_ends 49 = .ok (.if_icmp .ge 7, 3) := by decide +kernel
theorem dX3_ends_52 : decode cX3_ends 52 = .ok (.iconst 1, 1) := by decide +kernel
theorem dX3_ends_53 : decode cX3_ends 53 = .ok (.goto 9, 3) := by decide +kernel
theorem dX3_ends_56 : decode cX3_ends 56 = .ok (.aload_n 0, 1) := by decide +kernel
theorem dX3_ends_57 : decode cX3_ends 57 = .ok (.getfield 13, 3) := by decide +kernel
theorem dX3_ends_60 : decode cX3_ends 60 = .ok (.iload_n 1, 1) := by decide +kernel
theorem dX3_ends_61 : decode cX3_ends 61 = .ok (.iaload, 1) := by decide +kernel
theorem dX3_ends_62 : decode cX3_ends 62 = .ok (.iastore, 1) := by decide +kernel
theorem dX3_ends_63 : decode cX3_ends 63 = .ok (.return_, 1) := by decide +kernel
theorem dX3_ends_64 : decode cX3_ends 64 = .ok (.aload_n 0, 1) := by decide +kernel
theorem dX3_ends_65 : decode cX3_ends 65 = .ok (.getfield 19, 3) := by decide +kernel
theorem dX3_ends_68 : decode cX3_ends 68 = .ok (.iload_n 1, 1) := by decide +kernel
theorem dX3_ends_69 : decode cX3_ends 69 = .ok (.dup2, 1) := by decide +kernel
theorem dX3_ends_70 : decode cX3_ends 70 = .ok (.iaload, 1) := by decide +kernel
theorem dX3_ends_71 : decode cX3_ends 71 = .ok (.iconst 1, 1) := by decide +kernel
theorem dX3_ends_72 : decode cX3_ends 72 = .ok (.isub, 1) := by decide +kernel
theorem dX3_ends_73 : decode cX3_ends 73 = .ok (.iastore, 1) := by decide +kernel
theorem dX3_ends_74 : decode cX3_ends 74 = .ok (.aload_n 0, 1) := by decide +kernel
theorem dX3_ends_75 : decode cX3_ends 75 = .ok (.getfield 47, 3) := by decide +kernel
theorem dX3_ends_78 : decode cX3_ends 78 = .ok (.iload_n 1, 1) := by decide +kernel
theorem dX3_ends_79 : decode cX3_ends 79 = .ok (.iaload, 1) := by decide +kernel
theorem dX3_ends_80 : decode cX3_ends 80 = .ok (.aload_n 0, 1) := by decide +kernel
theorem dX3_ends_81 : decode cX3_ends 81 = .ok (.getfield 16, 3) := by decide +kernel
theorem dX3_ends_84 : decode cX3_ends 84 = .ok (.iload_n 1, 1) := by decide +kernel
theorem dX3_ends_85 : decode cX3_ends 85 = .ok (.iaload, 1) := by decide +kernel
theorem dX3_ends_86 : decode cX3_ends 86 = .ok (.if_icmp .ge 7, 3) := by decide +kernel
theorem dX3_ends_89 : decode cX3_ends 89 = .ok (.iconst 1, 1) := by decide +kernel
theorem dX3_ends_90 : decode cX3_ends 90 = .ok (.goto 4, 3) := by decide +kernel
theorem dX3_ends_93 : decode cX3_ends 93 = .ok (.iconst 0, 1) := by decide +kernel
theorem dX3_ends_94 : decode cX3_ends 94 = .ok (.istore_n 2, 1) := by decide +kernel
theorem dX3_ends_95 : decode cX3_ends 95 = .ok (.aload_n 0, 1) := by decide +kernel
theorem dX3_ends_96 : decode cX3_ends 96 = .ok (.getfield 41, 3) := by decide +kernel
theorem dX3_ends_99 : decode cX3_ends 99 = .ok (.iload_n 1, 1) := by decide +kernel
theorem dX3_ends_100 : decode cX3_ends 100 = .ok (.iload_n 2, 1) := by decide +kernel
theorem dX3_ends_101 : decode cX3_ends 101 = .ok (.ifCond .eq 7, 3) := by decide +kernel
theorem dX3_ends_104 : decode cX3_ends 104 = .ok (.iconst 0, 1) := by decide +kernel
theorem dX3_ends_105 : decode cX3_ends 105 = .ok (.goto 4, 3) := by decide +kernel
theorem dX3_ends_108 : decode cX3_ends 108 = .ok (.iconst 3, 1) := by decide +kernel
theorem dX3_ends_109 : decode cX3_ends 109 = .ok (.iastore, 1) := by decide +kernel
theorem dX3_ends_110 : decode cX3_ends 110 = .ok (.aload_n 0, 1) := by decide +kernel
theorem dX3_ends_111 : decode cX3_ends 111 = .ok (.getfield 47, 3) := by decide +kernel
theorem dX3_ends_114 : decode cX3_ends 114 = .ok (.iload_n 1, 1) := by decide +kernel
theorem dX3_ends_115 : decode cX3_ends 115 = .ok (.dup2, 1) := by decide +kernel
theorem dX3_ends_116 : decode cX3_ends 116 = .ok (.iaload, 1) := by decide +kernel
theorem dX3_ends_117 : decode cX3_ends 117 = .ok (.iload_n 2, 1) := by decide +kernel
theorem dX3_ends_118 : decode cX3_ends 118 = .ok (.ifCond .eq 7, 3) := by decide +kernel
theorem dX3_ends_121 : decode cX3_ends 121 = .ok (.iconst 1, 1) := by decide +kernel
theorem dX3_ends_122 : decode cX3_ends 122 = .ok (.goto 4, 3) := by decide +kernel
theorem dX3_ends_125 : decode cX3_ends 125 = .ok (.iconst 0, 1) := by decide +kernel
theorem dX3_ends_126 : decode cX3_ends 126 = .ok (.iadd, 1) := by decide +kernel
theorem dX3_ends_127 : decode cX3_ends 127 = .ok (.iastore, 1) := by decide +kernel
theorem dX3_ends_128 : decode cX3_ends 128 = .ok (.return_, 1) := by decide +kernel
set_option maxRecDepth 20000 in
theorem ggX3_isSo_X3_edge : GoodIn wsX3_isSo wsX3_edge := goodIn_r _ [6] (by decide +kernel) (by decide +kernel)
set_option maxRecDepth 20000 in
theorem gX3_isSo_X3_edge : GoodIn wsX3_isSo (va_wsS RX3 75 yX3_edge wsX3_edge) := goodIn_app (goodIn_of _ (by decide +kernel)) ggX3_isSo_X3_edge
set_option maxRecDepth 20000 in
theorem ggX3_isSo_X3_isLost : GoodIn wsX3_isSo wsX3_isLost := goodIn_r _ [10, 11, 12, 13, 14, 5, 15, 16, 27, 28, 29, 30, 31, 32, 33, 34, 35, 36, 37, 38, 39, 40, 41, 42, 43, 44, 45, 46, 47, 48, 49] (by decide +kernel) (by decide +kernel)
set_option maxRecDepth 20000 in
theorem gX3_isSo_X3_isLost : GoodIn wsX3_isSo (wsV RX3 117 RX3 yX3_isLost wsX3_isLost) := goodIn_app (goodIn_of _ (by decide +kernel)) ggX3_isSo_X3_isLost
set_option maxRecDepth 20000 in
theorem ggX3_isSo_X3_waits : GoodIn wsX3_isSo wsX3_waits := goodIn_r _ [20, 21, 22, 16, 2, 3, 4, 5, 6, 12, 13, 14, 15, 23, 24, 25, 26, 11, 7, 8, 9, 10, 27, 28, 29, 30, 31, 32, 33, 34, 35, 36, 37, 38, 39, 40, 41, 42, 43, 44, 45, 46, 47, 48, 49] (by decide +kernel) (by decide +kernel)
set_option maxRecDepth 20000 in
theorem gX3_isSo_X3_waits : GoodIn wsX3_isSo (wsV RX3 120 RX3 yX3_waits wsX3_waits) := goodIn_app (goodIn_of _ (by decide +kernel)) ggX3_isSo_X3_waits
theorem dX3_isSo_0 : decode cX3_isSo 0 = .ok (.iconst 0, 1) := by decide +kernel
theorem dX3_isSo_1 : decode cX3_isSo 1 = .ok (.istore_n 3, 1) := by decide +kernel
theorem dX3_isSo_2 : decode cX3_isSo 2 = .ok (.iconst 1, 1) := by decide +kernel
theorem dX3_isSo_3 : decode cX3_isSo 3 = .ok (.istore 4, 2) := by decide +kernel
theorem dX3_isSo_5 : decode cX3_isSo 5 = .ok (.iconst 0, 1) := by decide +kernel
theorem dX3_isSo_6 : decode cX3_isSo 6 = .ok (.istore 5, 2) := by decide +kernel
theorem dX3_isSo_8 : decode cX3_isSo 8 = .ok (.iload 5, 2) := by decide +kernel
theorem dX3_isSo_10 : decode cX3_isSo 10 = .ok (.aload_n 0, 1) := by decide +kernel
theorem dX3_isSo_11 : decode cX3_isSo 11 = .ok (.getfield 60, 3) := by decide +kernel
theorem dX3_isSo_14 : decode cX3_isSo 14 = .ok (.if_icmp .ge 64, 3) := by decide +kernel
theorem dX3_isSo_17 : decode cX3_isSo 17 = .ok (.iload_n 3, 1) := by decide +kernel
theorem dX3_isSo_18 : decode cX3_isSo 18 = .ok (.ifCond .ne 26, 3) := by decide +kernel
theorem dX3_isSo_21 : decode cX3_isSo 21 = .ok (.aload_n 0, 1) := by decide +kernel
theorem dX3_isSo_22 : decode cX3_isSo 22 = .ok (.getfield 29, 3) := by decide +kernel
theorem dX3_isSo_25 : decode cX3_isSo 25 = .ok (.iload_n 1, 1) := by decide +kernel
theorem dX3_isSo_26 : decode cX3_isSo 26 = .ok (.iload 5, 2) := by decide +kernel
theorem dX3_isSo_28 : decode cX3_isSo 28 = .ok (.invokestatic 75, 3) := by decide +kernel
theorem dX3_isSo_31 : decode cX3_isSo 31 = .ok (.baload, 1) := by decide +kernel
theorem dX3_isSo_32 : decode cX3_isSo 32 = .ok (.ifCond .eq 16, 3) := by decide +kernel
theorem dX3_isSo_35 : decode cX3_isSo 35 = .ok (.aload_n 0, 1) := by decide +kernel
theorem dX3_isSo_36 : decode cX3_isSo 36 = .ok (.iload 5, 2) := by decide +kernel
theorem dX3_isSo_38 : decode cX3_isSo 38 = .ok (.invokevirtual 117, 3) := by decide +kernel
theorem dX3_isSo_41 : decode cX3_isSo 41 = .ok (.ifCond .eq 7, 3) := by decide +kernel
theorem dX3_isSo_44 : decode cX3_isSo 44 = .ok (.iconst 1, 1) := by decide +kernel
theorem dX3_isSo_45 : decode cX3_isSo 45 = .ok (.goto 4, 3) := by decide +kernel
theorem dX3_isSo_48 : decode cX3_isSo 48 = .ok (.iconst 0, 1) := by decide +kernel
theorem dX3_isSo_49 : decode cX3_isSo 49 = .ok (.istore_n 3, 1) := by decide +kernel
theorem dX3_isSo_50 : decode cX3_isSo 50 = .ok (.iload 4, 2) := by decide +kernel
theorem dX3_isSo_52 : decode cX3_isSo 52 = .ok (.ifCond .eq 17, 3) := by decide +kernel
theorem dX3_isSo_55 : decode cX3_isSo 55 = .ok (.aload_n 0, 1) := by decide +kernel
theorem dX3_isSo_56 : decode cX3_isSo 56 = .ok (.iload_n 1, 1) := by decide +kernel
theorem dX3_isSo_57 : decode cX3_isSo 57 = .ok (.iload 5, 2) := by decide +kernel
theorem dX3_isSo_59 : decode cX3_isSo 59 = .ok (.invokevirtual 120, 3) := by decide +kernel
theorem dX3_isSo_62 : decode cX3_isSo 62 = .ok (.ifCond .ne 7, 3) := by decide +kernel
theorem dX3_isSo_65 : decode cX3_isSo 65 = .ok (.iconst 1, 1) := by decide +kernel
theorem dX3_isSo_66 : decode cX3_isSo 66 = .ok (.goto 4, 3) := by decide +kernel
theorem dX3_isSo_69 : decode cX3_isSo 69 = .ok (.iconst 0, 1) := by decide +kernel
theorem dX3_isSo_70 : decode cX3_isSo 70 = .ok (.istore 4, 2) := by decide +kernel
theorem dX3_isSo_72 : decode cX3_isSo 72 = .ok (.iinc 5 1, 3) := by decide +kernel
theorem dX3_isSo_75 : decode cX3_isSo 75 = .ok (.goto (-67), 3) := by decide +kernel
theorem dX3_isSo_78 : decode cX3_isSo 78 = .ok (.iload_n 2, 1) := by decide +kernel
theorem dX3_isSo_79 : decode cX3_isSo 79 = .ok (.ifCond .ne 7, 3) := by decide +kernel
theorem dX3_isSo_82 : decode cX3_isSo 82 = .ok (.iload_n 3, 1) := by decide +kernel
theorem dX3_isSo_83 : decode cX3_isSo 83 = .ok (.goto 17, 3) := by decide +kernel
theorem dX3_isSo_86 : decode cX3_isSo 86 = .ok (.iload 4, 2) := by decide +kernel
theorem dX3_isSo_88 : decode cX3_isSo 88 = .ok (.ifCond .eq 11, 3) := by decide +kernel
theorem dX3_isSo_91 : decode cX3_isSo 91 = .ok (.iload_n 3, 1) := by decide +kernel
theorem dX3_isSo_92 : decode cX3_isSo 92 = .ok (.ifCond .ne 7, 3) := by decide +kernel
theorem dX3_isSo_95 : decode cX3_isSo 95 = .ok (.iconst 1, 1) := by decide +kernel
theorem dX3_isSo_96 : decode cX3_isSo 96 = .ok (.goto 4, 3) := by decide +kernel
theorem dX3_isSo_99 : decode cX3_isSo 99 = .ok (.iconst 0, 1) := by decide +kernel
theorem dX3_isSo_100 : decode cX3_isSo 100 = .ok (.ireturn, 1) := by decide +kernel
theorem dX3_raised_0 : decode cX3_raised 0 = .ok (.iconst 0, 1) := by decide +kernel
theorem dX3_raised_1 : decode cX3_raised 1 = .ok (.istore_n 1, 1) := by decide +kernel
theorem dX3_raised_2 : decode cX3_raised 2 = .ok (.iconst 0, 1) := by decide +kernel
theorem dX3_raised_3 : decode cX3_raised 3 = .ok (.istore_n 2, 1) := by decide +kernel
theorem dX3_raised_4 : decode cX3_raised 4 = .ok (.iload_n 2, 1) := by decide +kernel
theorem dX3_raised_5 : decode cX3_raised 5 = .ok (.aload_n 0, 1) := by decide +kernel
theorem dX3_raised_6 : decode cX3_raised 6 = .ok (.getfield 60, 3) := by decide +kernel
theorem dX3_raised_9 : decode cX3_raised 9 = .ok (.if_icmp .ge 87, 3) := by decide +kernel
theorem dX3_raised_12 : decode cX3_raised 12 = .ok (.aload_n 0, 1) := by decide +kernel
theorem dX3_raised_13 : decode cX3_raised 13 = .ok (.getfield 44, 3) := by decide +kernel
theorem dX3_raised_16 : decode cX3_raised 16 = .ok (.iload_n 2, 1) := by decide +kernel
theorem dX3_raised_17 : decode cX3_raised 17 = .ok (.iaload, 1) := by decide +kernel
theorem dX3_raised_18 : decode cX3_raised 18 = .ok (.aload_n 0, 1) := by decide +kernel
theorem dX3_raised_19 : decode cX3_raised 19 = .ok (.getfield 50, 3) := by decide +kernel
theorem dX3_raised_22 : decode cX3_raised 22 = .ok (.iload_n 2, 1) := by decide +kernel
theorem dX3_raised_23 : decode cX3_raised 23 = .ok (.iaload, 1) := by decide +kernel
theorem dX3_raised_24 : decode cX3_raised 24 = .ok (.if_icmp .ge 12, 3) := by decide +kernel
theorem dX3_raised_27 : decode cX3_raised 27 = .ok (.aload_n 0, 1) := by decide +kernel
theorem dX3_raised_28 : decode cX3_raised 28 = .ok (.getfield 44, 3) := by decide +kernel
theorem dX3_raised_31 : decode cX3_raised 31 = .ok (.iload_n 2, 1) := by decide +kernel
theorem dX3_raised_32 : decode cX3_raised 32 = .ok (.iaload, 1) := by decide +kernel
theorem dX3_raised_33 : decode cX3_raised 33 = .ok (.goto 9, 3) := by decide +kernel
theorem dX3_raised_36 : decode cX3_raised 36 = .ok (.aload_n 0, 1) := by decide +kernel
theorem dX3_raised_37 : decode cX3_raised 37 = .ok (.getfield 50, 3) := by decide +kernel
theorem dX3_raised_40 : decode cX3_raised 40 = .ok (.iload_n 2, 1) := by decide +kernel
theorem dX3_raised_41 : decode cX3_raised 41 = .ok (.iaload, 1) := by decide +kernel
theorem dX3_raised_42 : decode cX3_raised 42 = .ok (.istore_n 3, 1) := by decide +kernel
theorem dX3_raised_43 : decode cX3_raised 43 = .ok (.iload_n 1, 1) := by decide +kernel
theorem dX3_raised_44 : decode cX3_raised 44 = .ok (.aload_n 0, 1) := by decide +kernel
theorem dX3_raised_45 : decode cX3_raised 45 = .ok (.getfield 41, 3) := by decide +kernel
theorem dX3_raised_48 : decode cX3_raised 48 = .ok (.iload_n 2, 1) := by decide +kernel
theorem dX3_raised_49 : decode cX3_raised 49 = .ok (.iaload, 1) := by decide +kernel
theorem dX3_raised_50 : decode cX3_raised 50 = .ok (.iconst 2, 1) := by decide +kernel
theorem dX3_raised_51 : decode cX3_raised 51 = .ok (.if_icmp .eq 13, 3) := by decide +kernel
theorem dX3_raised_54 : decode cX3_raised 54 = .ok (.aload_n 0, 1) := by decide +kernel
theorem dX3_raised_55 : decode cX3_raised 55 = .ok (.getfield 41, 3) := by decide +kernel
theorem dX3_raised_58 : decode cX3_raised 58 = .ok (.iload_n 2, 1) := by decide +kernel
theorem dX3_raised_59 : decode cX3_raised 59 = .ok (.iaload, 1) := by decide +kernel
theorem dX3_raised_60 : decode cX3_raised 60 = .ok (.iconst 3, 1) := by decide +kernel
theorem dX3_raised_61 : decode cX3_raised 61 = .ok (.if_icmp .ne 12, 3) := by decide +kernel
theorem dX3_raised_64 : decode cX3_raised 64 = .ok (.aload_n 0, 1) := by decide +kernel
theorem dX3_raised_65 : decode cX3_raised 65 = .ok (.getfield 50, 3) := by decide +kernel
theorem dX3_raised_68 : decode cX3_raised 68 = .ok (.iload_n 2, 1) := by decide +kernel
theorem dX3_raised_69 : decode cX3_raised 69 = .ok (.iaload, 1) := by decide +kernel
theorem dX3_raised_70 : decode cX3_raised 70 = .ok (.goto 18, 3) := by decide +kernel
theorem dX3_raised_73 : decode cX3_raised 73 = .ok (.aload_n 0, 1) := by decide +kernel
theorem dX3_raised_74 : decode cX3_raised 74 = .ok (.getfield 41, 3) := by decide +kernel
theorem dX3_raised_77 : decode cX3_raised 77 = .ok (.iload_n 2, 1) := by decide +kernel
theorem dX3_raised_78 : decode cX3_raised 78 = .ok (.iaload, 1) := by decide +kernel
theorem dX3_raised_79 : decode cX3_raised 79 = .ok (.iconst 1, 1) := by decide +kernel
theorem dX3_raised_80 : decode cX3_raised 80 = .ok (.if_icmp .ne 7, 3) := by decide +kernel
theorem dX3_raised_83 : decode cX3_raised 83 = .ok (.iload_n 3, 1) := by decide +kernel
theorem dX3_raised_84 : decode cX3_raised 84 = .ok (.goto 4, 3) := by decide +kernel
theorem dX3_raised_87 : decode cX3_raised 87 = .ok (.iconst 0, 1) := by decide +kernel
theorem dX3_raised_88 : decode cX3_raised 88 = .ok (.iadd, 1) := by decide +kernel
theorem dX3_raised_89 : decode cX3_raised 89 = .ok (.istore_n 1, 1) := by decide +kernel
theorem dX3_raised_90 : decode cX3_raised 90 = .ok (.iinc 2 1, 3) := by decide +kernel
theorem dX3_raised_93 : decode cX3_raised 93 = .ok (.goto (-89), 3) := by decide +kernel
theorem dX3_raised_96 : decode cX3_raised 96 = .ok (.aload_n 0, 1) := by decide +kernel
theorem dX3_raised_97 : decode cX3_raised 97 = .ok (.getfield 102, 3) := by decide +kernel
theorem dX3_raised_100 : decode cX3_raised 100 = .ok (.ifCond .ne 9, 3) := by decide +kernel
theorem dX3_raised_103 : decode cX3_raised 103 = .ok (.sipush 1000, 3) := by decide +kernel
theorem dX3_raised_106 : decode cX3_raised 106 = .ok (.goto 13, 3) := by decide +kernel
theorem dX3_raised_109 : decode cX3_raised 109 = .ok (.sipush 1000, 3) := by decide +kernel
theorem dX3_raised_112 : decode cX3_raised 112 = .ok (.iload_n 1, 1) := by decide +kernel
theorem dX3_raised_113 : decode cX3_raised 113 = .ok (.imul, 1) := by decide +kernel
theorem dX3_raised_114 : decode cX3_raised 114 = .ok (.aload_n 0, 1) := by decide +kernel
theorem dX3_raised_115 : decode cX3_raised 115 = .ok (.getfield 102, 3) := by decide +kernel
theorem dX3_raised_118 : decode cX3_raised 118 = .ok (.idiv, 1) := by decide +kernel
theorem dX3_raised_119 : decode cX3_raised 119 = .ok (.istore_n 2, 1) := by decide +kernel
theorem dX3_raised_120 : decode cX3_raised 120 = .ok (.iload_n 2, 1) := by decide +kernel
theorem dX3_raised_121 : decode cX3_raised 121 = .ok (.aload_n 0, 1) := by decide +kernel
theorem dX3_raised_122 : decode cX3_raised 122 = .ok (.getfield 105, 3) := by decide +kernel
theorem dX3_raised_125 : decode cX3_raised 125 = .ok (.if_icmp .le 7, 3) := by decide +kernel
theorem dX3_raised_128 : decode cX3_raised 128 = .ok (.iload_n 2, 1) := by decide +kernel
theorem dX3_raised_129 : decode cX3_raised 129 = .ok (.goto 7, 3) := by decide +kernel
theorem dX3_raised_132 : decode cX3_raised 132 = .ok (.aload_n 0, 1) := by decide +kernel
theorem dX3_raised_133 : decode cX3_raised 133 = .ok (.getfield 105, 3) := by decide +kernel
theorem dX3_raised_136 : decode cX3_raised 136 = .ok (.ireturn, 1) := by decide +kernel
set_option maxRecDepth 20000 in
theorem ggX3_passes_X3_ends : GoodIn wsX3_passes wsX3_ends := goodIn_r _ [12, 13, 3, 14, 4, 15, 16, 54, 55, 56, 57, 58, 59, 60, 61, 62, 63, 64, 65, 66, 67, 68, 69, 70, 71, 72, 73, 74, 75, 76] (by decide +kernel) (by decide +kernel)
set_option maxRecDepth 20000 in
theorem gX3_passes_X3_ends : GoodIn wsX3_passes (wsV RX3 124 RX3 yX3_ends wsX3_ends) := goodIn_app (goodIn_of _ (by decide +kernel)) ggX3_passes_X3_ends
set_option maxRecDepth 20000 in
theorem ggX3_passes_X3_isSo : GoodIn wsX3_passes wsX3_isSo := goodIn_r _ [20, 1, 21, 22, 23, 11, 24, 25, 26, 27, 28, 29, 30, 31, 32, 33, 3, 34, 35, 36, 37, 38, 39, 40, 41, 42, 43, 54, 55, 56, 57, 58, 59, 60, 61, 62, 63, 64, 65, 66, 67, 68, 69, 70, 71, 72, 73, 74, 75, 76] (by decide +kernel) (by decide +kernel)
set_option maxRecDepth 20000 in
theorem gX3_passes_X3_isSo : GoodIn wsX3_passes (wsV RX3 128 RX3 yX3_isSo wsX3_isSo) := goodIn_app (goodIn_of _ (by decide +kernel)) ggX3_passes_X3_isSo
set_option maxRecDepth 20000 in
theorem ggX3_passes_X3_starting : GoodIn wsX3_passes wsX3_starting := goodIn_r _ [47, 1, 3, 54, 55, 56, 57, 58, 59, 60, 61, 62, 63, 64, 65, 66, 67, 68, 69, 70, 71, 72, 73, 74, 75, 76] (by decide +kernel) (by decide +kernel)
set_option maxRecDepth 20000 in
theorem gX3_passes_X3_starting : GoodIn wsX3_passes (wsV RX3 131 RX3 yX3_starting wsX3_starting) := goodIn_app (goodIn_of _ (by decide +kernel)) ggX3_passes_X3_starting
set_option maxRecDepth 20000 in
theorem ggX3_passes_X3_raised : GoodIn wsX3_passes wsX3_raised := goodIn_r _ [51, 1, 2, 52, 3, 53, 7, 54, 55, 56, 57, 58, 59, 60, 61, 62, 63, 64, 65, 66, 67, 68, 69, 70, 71, 72, 73, 74, 75, 76] (by decide +kernel) (by decide +kernel)
set_option maxRecDepth 20000 in
theorem gX3_passes_X3_raised : GoodIn wsX3_passes (wsV RX3 108 RX3 yX3_raised wsX3_raised) := goodIn_app (goodIn_of _ (by decide +kernel)) ggX3_passes_X3_raised
theorem dX3_passes_0 : decode cX3_passes 0 = .ok (.iconst 0, 1) := by decide +kernel
theorem dX3_passes_1 : decode cX3_passes 1 = .ok (.istore_n 1, 1) := by decide +kernel
theorem dX3_passes_2 : decode cX3_passes 2 = .ok (.iload_n 1, 1) := by decide +kernel
theorem dX3_passes_3 : decode cX3_passes 3 = .ok (.aload_n 0, 1) := by decide +kernel
theorem dX3_passes_4 : decode cX3_passes 4 = .ok (.getfield 60, 3) := by decide +kernel
theorem dX3_passes_7 : decode cX3_passes 7 = .ok (.if_icmp .ge 63, 3) := by decide +kernel
theorem dX3_passes_10 : decode cX3_passes 10 = .ok (.aload_n 0, 1) := by decide +kernel
theorem dX3_passes_11 : decode cX3_passes 11 = .ok (.getfield 44, 3) := by decide +kernel
theorem dX3_passes_14 : decode cX3_passes 14 = .ok (.iload_n 1, 1) := by decide +kernel
theorem dX3_passes_15 : decode cX3_passes 15 = .ok (.dup2, 1) := by decide +kernel
theorem dX3_passes_16 : decode cX3_passes 16 = .ok (.iaload, 1) := by decide +kernel
theorem dX3_passes_17 : decode cX3_passes 17 = .ok (.aload_n 0, 1) := by decide +kernel
theorem dX3_passes_18 : decode cX3_passes 18 = .ok (.getfield 41, 3) := by decide +kernel
theorem dX3_passes_21 : decode cX3_passes 21 = .ok (.iload_n 1, 1) := by decide +kernel
theorem dX3_passes_22 : decode cX3_passes 22 = .ok (.iaload, 1) := by decide +kernel
theorem dX3_passes_23 : decode cX3_passes 23 = .ok (.iconst 1, 1) := by decide +kernel
theorem dX3_passes_24 : decode cX3_passes 24 = .ok (.if_icmp .ne 7, 3) := by decide +kernel
theorem dX3_passes_27 : decode cX3_passes 27 = .ok (.iconst 1, 1) := by decide +kernel
theorem dX3_passes_28 : decode cX3_passes 28 = .ok (.goto 4, 3) := by decide +kernel
theorem dX3_passes_31 : decode cX3_passes 31 = .ok (.iconst 0, 1) := by decide +kernel
theorem dX3_passes_32 : decode cX3_passes 32 = .ok (.iadd, 1) := by decide +kernel
theorem dX3_passes_33 : decode cX3_passes 33 = .ok (.iastore, 1) := by decide +kernel
theorem dX3_passes_34 : decode cX3_passes 34 = .ok (.aload_n 0, 1) := by decide +kernel
theorem dX3_passes_35 : decode cX3_passes 35 = .ok (.getfield 41, 3) := by decide +kernel
theorem dX3_passes_38 : decode cX3_passes 38 = .ok (.iload_n 1, 1) := by decide +kernel
theorem dX3_passes_39 : decode cX3_passes 39 = .ok (.iaload, 1) := by decide +kernel
theorem dX3_passes_40 : decode cX3_passes 40 = .ok (.iconst 1, 1) := by decide +kernel
theorem dX3_passes_41 : decode cX3_passes 41 = .ok (.if_icmp .ne 23, 3) := by decide +kernel
theorem dX3_passes_44 : decode cX3_passes 44 = .ok (.aload_n 0, 1) := by decide +kernel
theorem dX3_passes_45 : decode cX3_passes 45 = .ok (.getfield 44, 3) := by decide +kernel
theorem dX3_passes_48 : decode cX3_passes 48 = .ok (.iload_n 1, 1) := by decide +kernel
theorem dX3_passes_49 : decode cX3_passes 49 = .ok (.iaload, 1) := by decide +kernel
theorem dX3_passes_50 : decode cX3_passes 50 = .ok (.aload_n 0, 1) := by decide +kernel
theorem dX3_passes_51 : decode cX3_passes 51 = .ok (.getfield 7, 3) := by decide +kernel
theorem dX3_passes_54 : decode cX3_passes 54 = .ok (.iload_n 1, 1) := by decide +kernel
theorem dX3_passes_55 : decode cX3_passes 55 = .ok (.iaload, 1) := by decide +kernel
theorem dX3_passes_56 : decode cX3_passes 56 = .ok (.if_icmp .lt 8, 3) := by decide +kernel
theorem dX3_passes_59 : decode cX3_passes 59 = .ok (.aload_n 0, 1) := by decide +kernel
theorem dX3_passes_60 : decode cX3_passes 60 = .ok (.iload_n 1, 1) := by decide +kernel
theorem dX3_passes_61 : decode cX3_passes 61 = .ok (.invokevirtual 124, 3) := by decide +kernel
theorem dX3_passes_64 : decode cX3_passes 64 = .ok (.iinc 1 1, 3) := by decide +kernel
theorem dX3_passes_67 : decode cX3_passes 67 = .ok (.goto (-65), 3) := by decide +kernel
theorem dX3_passes_70 : decode cX3_passes 70 = .ok (.iconst 0, 1) := by decide +kernel
theorem dX3_passes_71 : decode cX3_passes 71 = .ok (.istore_n 1, 1) := by decide +kernel
theorem dX3_passes_72 : decode cX3_passes 72 = .ok (.iload_n 1, 1) := by decide +kernel
theorem dX3_passes_73 : decode cX3_passes 73 = .ok (.aload_n 0, 1) := by decide +kernel
theorem dX3_passes_74 : decode cX3_passes 74 = .ok (.getfield 60, 3) := by decide +kernel
theorem dX3_passes_77 : decode cX3_passes 77 = .ok (.if_icmp .ge 43, 3) := by decide +kernel
theorem dX3_passes_80 : decode cX3_passes 80 = .ok (.aload_n 0, 1) := by decide +kernel
theorem dX3_passes_81 : decode cX3_passes 81 = .ok (.getfield 41, 3) := by decide +kernel
theorem dX3_passes_84 : decode cX3_passes 84 = .ok (.iload_n 1, 1) := by decide +kernel
theorem dX3_passes_85 : decode cX3_passes 85 = .ok (.aload_n 0, 1) := by decide +kernel
theorem dX3_passes_86 : decode cX3_passes 86 = .ok (.getfield 41, 3) := by decide +kernel
theorem dX3_passes_89 : decode cX3_passes 89 = .ok (.iload_n 1, 1) := by decide +kernel
theorem dX3_passes_90 : decode cX3_passes 90 = .ok (.iaload, 1) := by decide +kernel
theorem dX3_passes_91 : decode cX3_passes 91 = .ok (.ifCond .ne 16, 3) := by decide +kernel
theorem dX3_passes_94 : decode cX3_passes 94 = .ok (.aload_n 0, 1) := by decide +kernel
theorem dX3_passes_95 : decode cX3_passes 95 = .ok (.iload_n 1, 1) := by decide +kernel
theorem dX3_passes_96 : decode cX3_passes 96 = .ok (.iconst 0, 1) := by decide +kernel
theorem dX3_passes_97 : decode cX3_passes 97 = .ok (.invokevirtual 128, 3) := by decide +kernel
theorem dX3_passes_100 : decode cX3_passes 100 = .ok (.ifCond .eq 7, 3) := by decide +kernel
theorem dX3_passes_103 : decode cX3_passes 103 = .ok (.iconst 3, 1) := by decide +kernel
theorem dX3_passes_104 : decode cX3_passes 104 = .ok (.goto 9, 3) := by decide +kernel
theorem dX3_passes_107 : decode cX3_passes 107 = .ok (.aload_n 0, 1) := by decide +kernel
theorem dX3_passes_108 : decode cX3_passes 108 = .ok (.getfield 41, 3) := by decide +kernel
theorem dX3_passes_111 : decode cX3_passes 111 = .ok (.iload_n 1, 1) := by decide +kernel
theorem dX3_passes_112 : decode cX3_passes 112 = .ok (.iaload, 1) := by decide +kernel
theorem dX3_passes_113 : decode cX3_passes 113 = .ok (.iastore, 1) := by decide +kernel
theorem dX3_passes_114 : decode cX3_passes 114 = .ok (.iinc 1 1, 3) := by decide +kernel
theorem dX3_passes_117 : decode cX3_passes 117 = .ok (.goto (-45), 3) := by decide +kernel
theorem dX3_passes_120 : decode cX3_passes 120 = .ok (.iconst 0, 1) := by decide +kernel
theorem dX3_passes_121 : decode cX3_passes 121 = .ok (.istore_n 1, 1) := by decide +kernel
theorem dX3_passes_122 : decode cX3_passes 122 = .ok (.iload_n 1, 1) := by decide +kernel
theorem dX3_passes_123 : decode cX3_passes 123 = .ok (.aload_n 0, 1) := by decide +kernel
theorem dX3_passes_124 : decode cX3_passes 124 = .ok (.getfield 60, 3) := by decide +kernel
theorem dX3_passes_127 : decode cX3_passes 127 = .ok (.if_icmp .ge 52, 3) := by decide +kernel
theorem dX3_passes_130 : decode cX3_passes 130 = .ok (.aload_n 0, 1) := by decide +kernel
theorem dX3_passes_131 : decode cX3_passes 131 = .ok (.getfield 41, 3) := by decide +kernel
theorem dX3_passes_134 : decode cX3_passes 134 = .ok (.iload_n 1, 1) := by decide +kernel
theorem dX3_passes_135 : decode cX3_passes 135 = .ok (.iaload, 1) := by decide +kernel
theorem dX3_passes_136 : decode cX3_passes 136 = .ok (.ifCond .ne 37, 3) := by decide +kernel
theorem dX3_passes_139 : decode cX3_passes 139 = .ok (.aload_n 0, 1) := by decide +kernel
theorem dX3_passes_140 : decode cX3_passes 140 = .ok (.invokevirtual 131, 3) := by decide +kernel
theorem dX3_passes_143 : decode cX3_passes 143 = .ok (.aload_n 0, 1) := by decide +kernel
theorem dX3_passes_144 : decode cX3_passes 144 = .ok (.getfield 99, 3) := by decide +kernel
theorem dX3_passes_147 : decode cX3_passes 147 = .ok (.if_icmp .ge 26, 3) := by decide +kernel
theorem dX3_passes_150 : decode cX3_passes 150 = .ok (.aload_n 0, 1) := by decide +kernel
theorem dX3_passes_151 : decode cX3_passes 151 = .ok (.iload_n 1, 1) := by decide +kernel
theorem dX3_passes_152 : decode cX3_passes 152 = .ok (.iconst 1, 1) := by decide +kernel
theorem dX3_passes_153 : decode cX3_passes 153 = .ok (.invokevirtual 128, 3) := by decide +kernel
theorem dX3_passes_156 : decode cX3_passes 156 = .ok (.ifCond .eq 17, 3) := by decide +kernel
theorem dX3_passes_159 : decode cX3_passes 159 = .ok (.aload_n 0, 1) := by decide +kernel
theorem dX3_passes_160 : decode cX3_passes 160 = .ok (.getfield 41, 3) := by decide +kernel
theorem dX3_passes_163 : decode cX3_passes 163 = .ok (.iload_n 1, 1) := by decide +kernel
theorem dX3_passes_164 : decode cX3_passes 164 = .ok (.iconst 1, 1) := by decide +kernel
theorem dX3_passes_165 : decode cX3_passes 165 = .ok (.iastore, 1) := by decide +kernel
theorem dX3_passes_166 : decode cX3_passes 166 = .ok (.aload_n 0, 1) := by decide +kernel
theorem dX3_passes_167 : decode cX3_passes 167 = .ok (.getfield 44, 3) := by decide +kernel
theorem dX3_passes_170 : decode cX3_passes 170 = .ok (.iload_n 1, 1) := by decide +kernel
theorem dX3_passes_171 : decode cX3_passes 171 = .ok (.iconst 0, 1) := by decide +kernel
theorem dX3_passes_172 : decode cX3_passes 172 = .ok (.iastore, 1) := by decide +kernel
theorem dX3_passes_173 : decode cX3_passes 173 = .ok (.iinc 1 1, 3) := by decide +kernel
theorem dX3_passes_176 : decode cX3_passes 176 = .ok (.goto (-54), 3) := by decide +kernel
theorem dX3_passes_179 : decode cX3_passes 179 = .ok (.aload_n 0, 1) := by decide +kernel
theorem dX3_passes_180 : decode cX3_passes 180 = .ok (.aload_n 0, 1) := by decide +kernel
theorem dX3_passes_181 : decode cX3_passes 181 = .ok (.invokevirtual 131, 3) := by decide +kernel
theorem dX3_passes_184 : decode cX3_passes 184 = .ok (.ifCond .le 7, 3) := by decide +kernel
theorem dX3_passes_187 : decode cX3_passes 187 = .ok (.iconst 1, 1) := by decide +kernel
theorem dX3_passes_188 : decode cX3_passes 188 = .ok (.goto 4, 3) := by decide +kernel
theorem dX3_passes_191 : decode cX3_passes 191 = .ok (.iconst 0, 1) := by decide +kernel
theorem dX3_passes_192 : decode cX3_passes 192 = .ok (.putfield 67, 3) := by decide +kernel
theorem dX3_passes_195 : decode cX3_passes 195 = .ok (.aload_n 0, 1) := by decide +kernel
theorem dX3_passes_196 : decode cX3_passes 196 = .ok (.aload_n 0, 1) := by decide +kernel
theorem dX3_passes_197 : decode cX3_passes 197 = .ok (.getfield 67, 3) := by decide +kernel
theorem dX3_passes_200 : decode cX3_passes 200 = .ok (.ifCond .eq 10, 3) := by decide +kernel
theorem dX3_passes_203 : decode cX3_passes 203 = .ok (.aload_n 0, 1) := by decide +kernel
theorem dX3_passes_204 : decode cX3_passes 204 = .ok (.invokevirtual 108, 3) := by decide +kernel
theorem dX3_passes_207 : decode cX3_passes 207 = .ok (.goto 6, 3) := by decide +kernel
theorem dX3_passes_210 : decode cX3_passes 210 = .ok (.sipush 1000, 3) := by decide +kernel
theorem dX3_passes_213 : decode cX3_passes 213 = .ok (.putfield 105, 3) := by decide +kernel
theorem dX3_passes_216 : decode cX3_passes 216 = .ok (.return_, 1) := by decide +kernel
set_option maxRecDepth 20000 in
theorem ggX3_tick_X3_isIn : GoodIn wsX3_tick wsX3_isIn := goodIn_r _ [5] (by decide +kernel) (by decide +kernel)
set_option maxRecDepth 20000 in
theorem gX3_tick_X3_isIn : GoodIn wsX3_tick (va_wsS RX3 63 yX3_isIn wsX3_isIn) := goodIn_app (goodIn_of _ (by decide +kernel)) ggX3_tick_X3_isIn
set_option maxRecDepth 20000 in
theorem ggX3_tick_X3_goes : GoodIn wsX3_tick wsX3_goes := goodIn_r _ [9, 10, 66, 67, 68, 69, 70, 71, 72, 73, 74, 75, 76, 77, 78, 79, 80, 81, 82, 83, 84, 85, 86, 87, 88] (by decide +kernel) (by decide +kernel)
set_option maxRecDepth 20000 in
theorem gX3_tick_X3_goes : GoodIn wsX3_tick (wsV RX3 71 RX3 yX3_goes wsX3_goes) := goodIn_app (goodIn_of _ (by decide +kernel)) ggX3_tick_X3_goes
set_option maxRecDepth 20000 in
theorem ggX3_tick_X3_passes : GoodIn wsX3_tick wsX3_passes := goodIn_r _ [14, 15, 16, 17, 18, 19, 1, 20, 21, 22, 23, 4, 24, 25, 26, 27, 28, 29, 30, 31, 32, 33, 34, 35, 36, 37, 38, 39, 40, 41, 42, 43, 44, 45, 46, 47, 48, 49, 50, 51, 52, 53, 54, 55, 56, 57, 58, 59, 60, 61, 62, 63, 64, 65, 66, 67, 68, 69, 70, 71, 72, 73, 74, 75, 76, 77, 78, 79, 80, 81, 82, 83, 84, 85, 86, 87, 88] (by decide +kernel) (by decide +kernel)
set_option maxRecDepth 20000 in
theorem gX3_tick_X3_passes : GoodIn wsX3_tick (wsV RX3 134 RX3 yX3_passes wsX3_passes) := goodIn_app (goodIn_of _ (by decide +kernel)) ggX3_tick_X3_passes
theorem dX3_tick_0 : decode cX3_tick 0 = .ok (.aload_n 0, 1) := by decide +kernel
theorem dX3_tick_1 : decode cX3_tick 1 = .ok (.iload_n 1, 1) := by decide +kernel
theorem dX3_tick_2 : decode cX3_tick 2 = .ok (.iconst 1, 1) := by decide +kernel
theorem dX3_tick_3 : decode cX3_tick 3 = .ok (.sipush 200, 3) := by decide +kernel
theorem dX3_tick_6 : decode cX3_tick 6 = .ok (.invokestatic 63, 3) := by decide +kernel
theorem dX3_tick_9 : decode cX3_tick 9 = .ok (.ifCond .ne 7, 3) := by decide +kernel
theorem dX3_tick_12 : decode cX3_tick 12 = .ok (.iconst 1, 1) := by decide +kernel
theorem dX3_tick_13 : decode cX3_tick 13 = .ok (.goto 15, 3) := by decide +kernel
theorem dX3_tick_16 : decode cX3_tick 16 = .ok (.aload_n 0, 1) := by decide +kernel
theorem dX3_tick_17 : decode cX3_tick 17 = .ok (.getfield 67, 3) := by decide +kernel
theorem dX3_tick_20 : decode cX3_tick 20 = .ok (.ifCond .eq 7, 3) := by decide +kernel
theorem dX3_tick_23 : decode cX3_tick 23 = .ok (.iconst 0, 1) := by decide +kernel
theorem dX3_tick_24 : decode cX3_tick 24 = .ok (.goto 4, 3) := by decide +kernel
theorem dX3_tick_27 : decode cX3_tick 27 = .ok (.iconst 2, 1) := by decide +kernel
theorem dX3_tick_28 : decode cX3_tick 28 = .ok (.invokevirtual 71, 3) := by decide +kernel
theorem dX3_tick_31 : decode cX3_tick 31 = .ok (.ifCond .ne 5, 3) := by decide +kernel
theorem dX3_tick_34 : decode cX3_tick 34 = .ok (.iconst 0, 1) := by decide +kernel
theorem dX3_tick_35 : decode cX3_tick 35 = .ok (.ireturn, 1) := by decide +kernel
theorem dX3_tick_36 : decode cX3_tick 36 = .ok (.iconst 0, 1) := by decide +kernel
theorem dX3_tick_37 : decode cX3_tick 37 = .ok (.istore_n 2, 1) := by decide +kernel
theorem dX3_tick_38 : decode cX3_tick 38 = .ok (.iload_n 2, 1) := by decide +kernel
theorem dX3_tick_39 : decode cX3_tick 39 = .ok (.iload_n 1, 1) := by decide +kernel
theorem dX3_tick_40 : decode cX3_tick 40 = .ok (.if_icmp .ge 20, 3) := by decide +kernel
theorem dX3_tick_43 : decode cX3_tick 43 = .ok (.aload_n 0, 1) := by decide +kernel
theorem dX3_tick_44 : decode cX3_tick 44 = .ok (.getfield 67, 3) := by decide +kernel
theorem dX3_tick_47 : decode cX3_tick 47 = .ok (.ifCond .eq 13, 3) := by decide +kernel
theorem dX3_tick_50 : decode cX3_tick 50 = .ok (.aload_n 0, 1) := by decide +kernel
theorem dX3_tick_51 : decode cX3_tick 51 = .ok (.invokevirtual 134, 3) := by decide +kernel
theorem dX3_tick_54 : decode cX3_tick 54 = .ok (.iinc 2 1, 3) := by decide +kernel
theorem dX3_tick_57 : decode cX3_tick 57 = .ok (.goto (-19), 3) := by decide +kernel
theorem dX3_tick_60 : decode cX3_tick 60 = .ok (.iload_n 2, 1) := by decide +kernel
theorem dX3_tick_61 : decode cX3_tick 61 = .ok (.ireturn, 1) := by decide +kernel
theorem dX3_goesOn_0 : decode cX3_goesOn 0 = .ok (.aload_n 0, 1) := by decide +kernel
theorem dX3_goesOn_1 : decode cX3_goesOn 1 = .ok (.iconst 0, 1) := by decide +kernel
theorem dX3_goesOn_2 : decode cX3_goesOn 2 = .ok (.putfield 56, 3) := by decide +kernel
theorem dX3_goesOn_5 : decode cX3_goesOn 5 = .ok (.aload_n 0, 1) := by decide +kernel
theorem dX3_goesOn_6 : decode cX3_goesOn 6 = .ok (.getfield 67, 3) := by decide +kernel
theorem dX3_goesOn_9 : decode cX3_goesOn 9 = .ok (.ireturn, 1) := by decide +kernel
set_option maxRecDepth 20000 in
theorem ggX3_state_X3_asks : GoodIn wsX3_state wsX3_asks := goodIn_r _ [6, 7, 8, 9, 5, 10, 11, 12, 13, 14, 15, 16, 17, 18, 19, 20, 21, 22, 23, 24, 25, 26, 27, 28, 29, 30, 31, 32, 33, 34, 35, 36, 37, 38, 39, 40, 41, 42] (by decide +kernel) (by decide +kernel)
set_option maxRecDepth 20000 in
theorem gX3_state_X3_asks : GoodIn wsX3_state (wsV RX3 89 RX3 yX3_asks wsX3_asks) := goodIn_app (goodIn_of _ (by decide +kernel)) ggX3_state_X3_asks
theorem dX3_state_0 : decode cX3_state 0 = .ok (.aload_n 0, 1) := by decide +kernel
theorem dX3_state_1 : decode cX3_state 1 = .ok (.iload_n 1, 1) := by decide +kernel
theorem dX3_state_2 : decode cX3_state 2 = .ok (.invokevirtual 89, 3) := by decide +kernel
theorem dX3_state_5 : decode cX3_state 5 = .ok (.ifCond .eq 12, 3) := by decide +kernel
theorem dX3_state_8 : decode cX3_state 8 = .ok (.aload_n 0, 1) := by decide +kernel
theorem dX3_state_9 : decode cX3_state 9 = .ok (.getfield 41, 3) := by decide +kernel
theorem dX3_state_12 : decode cX3_state 12 = .ok (.iload_n 1, 1) := by decide +kernel
theorem dX3_state_13 : decode cX3_state 13 = .ok (.iaload, 1) := by decide +kernel
theorem dX3_state_14 : decode cX3_state 14 = .ok (.goto 4, 3) := by decide +kernel
theorem dX3_state_17 : decode cX3_state 17 = .ok (.iconst 0, 1) := by decide +kernel
theorem dX3_state_18 : decode cX3_state 18 = .ok (.ireturn, 1) := by decide +kernel
set_option maxRecDepth 20000 in
theorem ggX3_waitsFor_X3_asks : GoodIn wsX3_waitsFor wsX3_asks := goodIn_r _ [7, 8, 9, 10, 6, 11, 1, 12, 13, 14, 15, 16, 17, 18, 19, 43, 44, 45, 46, 47, 48, 49, 50, 51, 52, 53, 54, 55, 56, 57, 58, 59, 60, 61, 62, 63, 64, 65] (by decide +kernel) (by decide +kernel)
set_option maxRecDepth 20000 in
theorem gX3_waitsFor_X3_asks : GoodIn wsX3_waitsFor (wsV RX3 89 RX3 yX3_asks wsX3_asks) := goodIn_app (goodIn_of _ (by decide +kernel)) ggX3_waitsFor_X3_asks
set_option maxRecDepth 20000 in
theorem ggX3_waitsFor_X3_waits : GoodIn wsX3_waitsFor wsX3_waits := goodIn_r _ [23, 24, 25, 2, 26, 27, 28, 6, 29, 30, 31, 32, 33, 34, 35, 36, 37, 38, 39, 40, 41, 42, 43, 44, 45, 46, 47, 48, 49, 50, 51, 52, 53, 54, 55, 56, 57, 58, 59, 60, 61, 62, 63, 64, 65] (by decide +kernel) (by decide +kernel)
set_option maxRecDepth 20000 in
theorem gX3_waitsFor_X3_waits : GoodIn wsX3_waitsFor (wsV RX3 120 RX3 yX3_waits wsX3_waits) := goodIn_app (goodIn_of _ (by decide +kernel)) ggX3_waitsFor_X3_waits
theorem dX3_waitsFor_0 : decode cX3_waitsFor 0 = .ok (.aload_n 0, 1) := by decide +kernel
theorem dX3_waitsFor_1 : decode cX3_waitsFor 1 = .ok (.iload_n 1, 1) := by decide +kernel
theorem dX3_waitsFor_2 : decode cX3_waitsFor 2 = .ok (.invokevirtual 89, 3) := by decide +kernel
theorem dX3_waitsFor_5 : decode cX3_waitsFor 5 = .ok (.ifCond .ne 5, 3) := by decide +kernel
theorem dX3_waitsFor_8 : decode cX3_waitsFor 8 = .ok (.iconst 0, 1) := by decide +kernel
theorem dX3_waitsFor_9 : decode cX3_waitsFor 9 = .ok (.ireturn, 1) := by decide +kernel
theorem dX3_waitsFor_10 : decode cX3_waitsFor 10 = .ok (.iconst (-1), 1) := by decide +kernel
theorem dX3_waitsFor_11 : decode cX3_waitsFor 11 = .ok (.istore_n 2, 1) := by decide +kernel
theorem dX3_waitsFor_12 : decode cX3_waitsFor 12 = .ok (.aload_n 0, 1) := by decide +kernel
theorem dX3_waitsFor_13 : decode cX3_waitsFor 13 = .ok (.getfield 60, 3) := by decide +kernel
theorem dX3_waitsFor_16 : decode cX3_waitsFor 16 = .ok (.iconst 1, 1) := by decide +kernel
theorem dX3_waitsFor_17 : decode cX3_waitsFor 17 = .ok (.isub, 1) := by decide +kernel
theorem dX3_waitsFor_18 : decode cX3_waitsFor 18 = .ok (.istore_n 3, 1) := by decide +kernel
theorem dX3_waitsFor_19 : decode cX3_waitsFor 19 = .ok (.iload_n 3, 1) := by decide +kernel
theorem dX3_waitsFor_20 : decode cX3_waitsFor 20 = .ok (.ifCond .lt 33, 3) := by decide +kernel
theorem dX3_waitsFor_23 : decode cX3_waitsFor 23 = .ok (.aload_n 0, 1) := by decide +kernel
theorem dX3_waitsFor_24 : decode cX3_waitsFor 24 = .ok (.getfield 41, 3) := by decide +kernel
theorem dX3_waitsFor_27 : decode cX3_waitsFor 27 = .ok (.iload_n 1, 1) := by decide +kernel
theorem dX3_waitsFor_28 : decode cX3_waitsFor 28 = .ok (.iaload, 1) := by decide +kernel
theorem dX3_waitsFor_29 : decode cX3_waitsFor 29 = .ok (.ifCond .ne 16, 3) := by decide +kernel
theorem dX3_waitsFor_32 : decode cX3_waitsFor 32 = .ok (.aload_n 0, 1) := by decide +kernel
theorem dX3_waitsFor_33 : decode cX3_waitsFor 33 = .ok (.iload_n 1, 1) := by decide +kernel
theorem dX3_waitsFor_34 : decode cX3_waitsFor 34 = .ok (.iload_n 3, 1) := by decide +kernel
theorem dX3_waitsFor_35 : decode cX3_waitsFor 35 = .ok (.invokevirtual 120, 3) := by decide +kernel
theorem dX3_waitsFor_38 : decode cX3_waitsFor 38 = .ok (.ifCond .eq 7, 3) := by decide +kernel
theorem dX3_waitsFor_41 : decode cX3_waitsFor 41 = .ok (.iload_n 3, 1) := by decide +kernel
theorem dX3_waitsFor_42 : decode cX3_waitsFor 42 = .ok (.goto 4, 3) := by decide +kernel
theorem dX3_waitsFor_45 : decode cX3_waitsFor 45 = .ok (.iload_n 2, 1) := by decide +kernel
theorem dX3_waitsFor_46 : decode cX3_waitsFor 46 = .ok (.istore_n 2, 1) := by decide +kernel
theorem dX3_waitsFor_47 : decode cX3_waitsFor 47 = .ok (.iinc 3 (-1), 3) := by decide +kernel
theorem dX3_waitsFor_50 : decode cX3_waitsFor 50 = .ok (.goto (-31), 3) := by decide +kernel
theorem dX3_waitsFor_53 : decode cX3_waitsFor 53 = .ok (.iload_n 2, 1) := by decide +kernel
theorem dX3_waitsFor_54 : decode cX3_waitsFor 54 = .ok (.ireturn, 1) := by decide +kernel
theorem dX3_bar_0 : decode cX3_bar 0 = .ok (.aload_n 0, 1) := by decide +kernel
theorem dX3_bar_1 : decode cX3_bar 1 = .ok (.iconst 0, 1) := by decide +kernel
theorem dX3_bar_2 : decode cX3_bar 2 = .ok (.putfield 56, 3) := by decide +kernel
theorem dX3_bar_5 : decode cX3_bar 5 = .ok (.aload_n 0, 1) := by decide +kernel
theorem dX3_bar_6 : decode cX3_bar 6 = .ok (.getfield 96, 3) := by decide +kernel
theorem dX3_bar_9 : decode cX3_bar 9 = .ok (.ifCond .eq 10, 3) := by decide +kernel
theorem dX3_bar_12 : decode cX3_bar 12 = .ok (.aload_n 0, 1) := by decide +kernel
theorem dX3_bar_13 : decode cX3_bar 13 = .ok (.getfield 105, 3) := by decide +kernel
theorem dX3_bar_16 : decode cX3_bar 16 = .ok (.goto 4, 3) := by decide +kernel
theorem dX3_bar_19 : decode cX3_bar 19 = .ok (.iconst 0, 1) := by decide +kernel
theorem dX3_bar_20 : decode cX3_bar 20 = .ok (.ireturn, 1) := by decide +kernel
theorem dX3_ready_0 : decode cX3_ready 0 = .ok (.aload_n 0, 1) := by decide +kernel
theorem dX3_ready_1 : decode cX3_ready 1 = .ok (.iconst 0, 1) := by decide +kernel
theorem dX3_ready_2 : decode cX3_ready 2 = .ok (.putfield 56, 3) := by decide +kernel
theorem dX3_ready_5 : decode cX3_ready 5 = .ok (.iconst 0, 1) := by decide +kernel
theorem dX3_ready_6 : decode cX3_ready 6 = .ok (.istore_n 1, 1) := by decide +kernel
theorem dX3_ready_7 : decode cX3_ready 7 = .ok (.iconst 0, 1) := by decide +kernel
theorem dX3_ready_8 : decode cX3_ready 8 = .ok (.istore_n 2, 1) := by decide +kernel
theorem dX3_ready_9 : decode cX3_ready 9 = .ok (.iload_n 2, 1) := by decide +kernel
theorem dX3_ready_10 : decode cX3_ready 10 = .ok (.aload_n 0, 1) := by decide +kernel
theorem dX3_ready_11 : decode cX3_ready 11 = .ok (.getfield 60, 3) := by decide +kernel
theorem dX3_ready_14 : decode cX3_ready 14 = .ok (.if_icmp .ge 29, 3) := by decide +kernel
theorem dX3_ready_17 : decode cX3_ready 17 = .ok (.iload_n 1, 1) := by decide +kernel
theorem dX3_ready_18 : decode cX3_ready 18 = .ok (.aload_n 0, 1) := by decide +kernel
theorem dX3_ready_19 : decode cX3_ready 19 = .ok (.getfield 41, 3) := by decide +kernel
theorem dX3_ready_22 : decode cX3_ready 22 = .ok (.iload_n 2, 1) := by decide +kernel
theorem dX3_ready_23 : decode cX3_ready 23 = .ok (.iaload, 1) := by decide +kernel
theorem dX3_ready_24 : decode cX3_ready 24 = .ok (.iconst 2, 1) := by decide +kernel
theorem dX3_ready_25 : decode cX3_ready 25 = .ok (.if_icmp .ne 9, 3) := by decide +kernel
theorem dX3_ready_28 : decode cX3_ready 28 = .ok (.iconst 1, 1) := by decide +kernel
theorem dX3_ready_29 : decode cX3_ready 29 = .ok (.iload_n 2, 1) := by decide +kernel
theorem dX3_ready_30 : decode cX3_ready 30 = .ok (.ishl, 1) := by decide +kernel
theorem dX3_ready_31 : decode cX3_ready 31 = .ok (.goto 4, 3) := by decide +kernel
theorem dX3_ready_34 : decode cX3_ready 34 = .ok (.iconst 0, 1) := by decide +kernel
theorem dX3_ready_35 : decode cX3_ready 35 = .ok (.ior, 1) := by decide +kernel
theorem dX3_ready_36 : decode cX3_ready 36 = .ok (.istore_n 1, 1) := by decide +kernel
theorem dX3_ready_37 : decode cX3_ready 37 = .ok (.iinc 2 1, 3) := by decide +kernel
theorem dX3_ready_40 : decode cX3_ready 40 = .ok (.goto (-31), 3) := by decide +kernel
theorem dX3_ready_43 : decode cX3_ready 43 = .ok (.iload_n 1, 1) := by decide +kernel
theorem dX3_ready_44 : decode cX3_ready 44 = .ok (.ireturn, 1) := by decide +kernel
set_option maxRecDepth 20000 in
theorem ggX3_canRunIn_X3_edge : GoodIn wsX3_canRunIn wsX3_edge := goodIn_r _ [10] (by decide +kernel) (by decide +kernel)
set_option maxRecDepth 20000 in
theorem gX3_canRunIn_X3_edge : GoodIn wsX3_canRunIn (va_wsS RX3 75 yX3_edge wsX3_edge) := goodIn_app (goodIn_of _ (by decide +kernel)) ggX3_canRunIn_X3_edge
theorem dX3_canRunIn_0 : decode cX3_canRunIn 0 = .ok (.aload_n 0, 1) := by decide +kernel
theorem dX3_canRunIn_1 : decode cX3_canRunIn 1 = .ok (.getfield 25, 3) := by decide +kernel
theorem dX3_canRunIn_4 : decode cX3_canRunIn 4 = .ok (.iload_n 1, 1) := by decide +kernel
theorem dX3_canRunIn_5 : decode cX3_canRunIn 5 = .ok (.baload, 1) := by decide +kernel
theorem dX3_canRunIn_6 : decode cX3_canRunIn 6 = .ok (.ifCond .ne 22, 3) := by decide +kernel
theorem dX3_canRunIn_9 : decode cX3_canRunIn 9 = .ok (.aload_n 0, 1) := by decide +kernel
theorem dX3_canRunIn_10 : decode cX3_canRunIn 10 = .ok (.getfield 19, 3) := by decide +kernel
theorem dX3_canRunIn_13 : decode cX3_canRunIn 13 = .ok (.iload_n 1, 1) := by decide +kernel
theorem dX3_canRunIn_14 : decode cX3_canRunIn 14 = .ok (.iaload, 1) := by decide +kernel
theorem dX3_canRunIn_15 : decode cX3_canRunIn 15 = .ok (.aload_n 0, 1) := by decide +kernel
theorem dX3_canRunIn_16 : decode cX3_canRunIn 16 = .ok (.getfield 16, 3) := by decide +kernel
theorem dX3_canRunIn_19 : decode cX3_canRunIn 19 = .ok (.iload_n 1, 1) := by decide +kernel
theorem dX3_canRunIn_20 : decode cX3_canRunIn 20 = .ok (.iaload, 1) := by decide +kernel
theorem dX3_canRunIn_21 : decode cX3_canRunIn 21 = .ok (.if_icmp .gt 7, 3) := by decide +kernel
theorem dX3_canRunIn_24 : decode cX3_canRunIn 24 = .ok (.iconst 1, 1) := by decide +kernel
theorem dX3_canRunIn_25 : decode cX3_canRunIn 25 = .ok (.goto 4, 3) := by decide +kernel
theorem dX3_canRunIn_28 : decode cX3_canRunIn 28 = .ok (.iconst 0, 1) := by decide +kernel
theorem dX3_canRunIn_29 : decode cX3_canRunIn 29 = .ok (.istore_n 3, 1) := by decide +kernel
theorem dX3_canRunIn_30 : decode cX3_canRunIn 30 = .ok (.iconst 0, 1) := by decide +kernel
theorem dX3_canRunIn_31 : decode cX3_canRunIn 31 = .ok (.istore 4, 2) := by decide +kernel
theorem dX3_canRunIn_33 : decode cX3_canRunIn 33 = .ok (.iload 4, 2) := by decide +kernel
theorem dX3_canRunIn_35 : decode cX3_canRunIn 35 = .ok (.aload_n 0, 1) := by decide +kernel
theorem dX3_canRunIn_36 : decode cX3_canRunIn 36 = .ok (.getfield 60, 3) := by decide +kernel
theorem dX3_canRunIn_39 : decode cX3_canRunIn 39 = .ok (.if_icmp .ge 81, 3) := by decide +kernel
theorem dX3_canRunIn_42 : decode cX3_canRunIn 42 = .ok (.iload_n 2, 1) := by decide +kernel
theorem dX3_canRunIn_43 : decode cX3_canRunIn 43 = .ok (.iload 4, 2) := by decide +kernel
theorem dX3_canRunIn_45 : decode cX3_canRunIn 45 = .ok (.ishr, 1) := by decide +kernel
theorem dX3_canRunIn_46 : decode cX3_canRunIn 46 = .ok (.iconst 1, 1) := by decide +kernel
theorem dX3_canRunIn_47 : decode cX3_canRunIn 47 = .ok (.iand, 1) := by decide +kernel
theorem dX3_canRunIn_48 : decode cX3_canRunIn 48 = .ok (.iconst 1, 1) := by decide +kernel
theorem dX3_canRunIn_49 : decode cX3_canRunIn 49 = .ok (.if_icmp .eq 29, 3) := by decide +kernel
theorem dX3_canRunIn_52 : decode cX3_canRunIn 52 = .ok (.aload_n 0, 1) := by decide +kernel
theorem dX3_canRunIn_53 : decode cX3_canRunIn 53 = .ok (.getfield 22, 3) := by decide +kernel
theorem dX3_canRunIn_56 : decode cX3_canRunIn 56 = .ok (.iload 4, 2) := by decide +kernel
theorem dX3_canRunIn_58 : decode cX3_canRunIn 58 = .ok (.iaload, 1) := by decide +kernel
theorem dX3_canRunIn_59 : decode cX3_canRunIn 59 = .ok (.iconst (-1), 1) := by decide +kernel
theorem dX3_canRunIn_60 : decode cX3_canRunIn 60 = .ok (.if_icmp .eq 22, 3) := by decide +kernel
theorem dX3_canRunIn_63 : decode cX3_canRunIn 63 = .ok (.iload_n 2, 1) := by decide +kernel
theorem dX3_canRunIn_64 : decode cX3_canRunIn 64 = .ok (.aload_n 0, 1) := by decide +kernel
theorem dX3_canRunIn_65 : decode cX3_canRunIn 65 = .ok (.getfield 22, 3) := by decide +kernel
theorem dX3_canRunIn_68 : decode cX3_canRunIn 68 = .ok (.iload 4, 2) := by decide +kernel
theorem dX3_canRunIn_70 : decode cX3_canRunIn 70 = .ok (.iaload, 1) := by decide +kernel
theorem dX3_canRunIn_71 : decode cX3_canRunIn 71 = .ok (.ishr, 1) := by decide +kernel
theorem dX3_canRunIn_72 : decode cX3_canRunIn 72 = .ok (.iconst 1, 1) := by decide +kernel
theorem dX3_canRunIn_73 : decode cX3_canRunIn 73 = .ok (.iand, 1) := by decide +kernel
theorem dX3_canRunIn_74 : decode cX3_canRunIn 74 = .ok (.iconst 1, 1) := by decide +kernel
theorem dX3_canRunIn_75 : decode cX3_canRunIn 75 = .ok (.if_icmp .ne 7, 3) := by decide +kernel
theorem dX3_canRunIn_78 : decode cX3_canRunIn 78 = .ok (.iconst 1, 1) := by decide +kernel
theorem dX3_canRunIn_79 : decode cX3_canRunIn 79 = .ok (.goto 4, 3) := by decide +kernel
theorem dX3_canRunIn_82 : decode cX3_canRunIn 82 = .ok (.iconst 0, 1) := by decide +kernel
theorem dX3_canRunIn_83 : decode cX3_canRunIn 83 = .ok (.istore 5, 2) := by decide +kernel
theorem dX3_canRunIn_85 : decode cX3_canRunIn 85 = .ok (.iload_n 3, 1) := by decide +kernel
theorem dX3_canRunIn_86 : decode cX3_canRunIn 86 = .ok (.ifCond .eq 26, 3) := by decide +kernel
theorem dX3_canRunIn_89 : decode cX3_canRunIn 89 = .ok (.aload_n 0, 1) := by decide +kernel
theorem dX3_canRunIn_90 : decode cX3_canRunIn 90 = .ok (.getfield 29, 3) := by decide +kernel
theorem dX3_canRunIn_93 : decode cX3_canRunIn 93 = .ok (.iload_n 1, 1) := by decide +kernel
theorem dX3_canRunIn_94 : decode cX3_canRunIn 94 = .ok (.iload 4, 2) := by decide +kernel
theorem dX3_canRunIn_96 : decode cX3_canRunIn 96 = .ok (.invokestatic 75, 3) := by decide +kernel
theorem dX3_canRunIn_99 : decode cX3_canRunIn 99 = .ok (.baload, 1) := by decide +kernel
theorem dX3_canRunIn_100 : decode cX3_canRunIn 100 = .ok (.ifCond .eq 8, 3) := by decide +kernel
theorem dX3_canRunIn_103 : decode cX3_canRunIn 103 = .ok (.iload 5, 2) := by decide +kernel
theorem dX3_canRunIn_105 : decode cX3_canRunIn 105 = .ok (.ifCond .eq 7, 3) := by decide +kernel
theorem dX3_canRunIn_108 : decode cX3_canRunIn 108 = .ok (.iconst 1, 1) := by decide +kernel
theorem dX3_canRunIn_109 : decode cX3_canRunIn 109 = .ok (.goto 4, 3) := by decide +kernel
theorem dX3_canRunIn_112 : decode cX3_canRunIn 112 = .ok (.iconst 0, 1) := by decide +kernel
theorem dX3_canRunIn_113 : decode cX3_canRunIn 113 = .ok (.istore_n 3, 1) := by decide +kernel
theorem dX3_canRunIn_114 : decode cX3_canRunIn 114 = .ok (.iinc 4 1, 3) := by decide +kernel
theorem dX3_canRunIn_117 : decode cX3_canRunIn 117 = .ok (.goto (-84), 3) := by decide +kernel
theorem dX3_canRunIn_120 : decode cX3_canRunIn 120 = .ok (.iload_n 3, 1) := by decide +kernel
theorem dX3_canRunIn_121 : decode cX3_canRunIn 121 = .ok (.ireturn, 1) := by decide +kernel
set_option maxRecDepth 20000 in
theorem ggX3_canRun_X3_canRunIn : GoodIn wsX3_canRun wsX3_canRunIn := goodIn_r _ [7, 8, 9, 10, 2, 11, 12, 13, 14, 6, 15, 16, 17, 18, 19, 20, 21, 22, 23, 24, 25, 26, 27, 28, 29, 30, 31, 32, 33, 34, 35, 36, 37, 38] (by decide +kernel) (by decide +kernel)
set_option maxRecDepth 20000 in
theorem gX3_canRun_X3_canRunIn : GoodIn wsX3_canRun (wsV RX3 137 RX3 yX3_canRunIn wsX3_canRunIn) := goodIn_app (goodIn_of _ (by decide +kernel)) ggX3_canRun_X3_canRunIn
theorem dX3_canRun_0 : decode cX3_canRun 0 = .ok (.aload_n 0, 1) := by decide +kernel
theorem dX3_canRun_1 : decode cX3_canRun 1 = .ok (.iconst 0, 1) := by decide +kernel
theorem dX3_canRun_2 : decode cX3_canRun 2 = .ok (.putfield 56, 3) := by decide +kernel
theorem dX3_canRun_5 : decode cX3_canRun 5 = .ok (.iconst 1, 1) := by decide +kernel
theorem dX3_canRun_6 : decode cX3_canRun 6 = .ok (.aload_n 0, 1) := by decide +kernel
theorem dX3_canRun_7 : decode cX3_canRun 7 = .ok (.getfield 60, 3) := by decide +kernel
theorem dX3_canRun_10 : decode cX3_canRun 10 = .ok (.ishl, 1) := by decide +kernel
theorem dX3_canRun_11 : decode cX3_canRun 11 = .ok (.iconst 1, 1) := by decide +kernel
theorem dX3_canRun_12 : decode cX3_canRun 12 = .ok (.isub, 1) := by decide +kernel
theorem dX3_canRun_13 : decode cX3_canRun 13 = .ok (.istore_n 1, 1) := by decide +kernel
theorem dX3_canRun_14 : decode cX3_canRun 14 = .ok (.iconst 0, 1) := by decide +kernel
theorem dX3_canRun_15 : decode cX3_canRun 15 = .ok (.istore_n 2, 1) := by decide +kernel
theorem dX3_canRun_16 : decode cX3_canRun 16 = .ok (.iload_n 2, 1) := by decide +kernel
theorem dX3_canRun_17 : decode cX3_canRun 17 = .ok (.iload_n 1, 1) := by decide +kernel
theorem dX3_canRun_18 : decode cX3_canRun 18 = .ok (.if_icmp .eq 53, 3) := by decide +kernel
theorem dX3_canRun_21 : decode cX3_canRun 21 = .ok (.iload_n 1, 1) := by decide +kernel
theorem dX3_canRun_22 : decode cX3_canRun 22 = .ok (.istore_n 2, 1) := by decide +kernel
theorem dX3_canRun_23 : decode cX3_canRun 23 = .ok (.iconst 0, 1) := by decide +kernel
theorem dX3_canRun_24 : decode cX3_canRun 24 = .ok (.istore_n 3, 1) := by decide +kernel
theorem dX3_canRun_25 : decode cX3_canRun 25 = .ok (.iload_n 3, 1) := by decide +kernel
theorem dX3_canRun_26 : decode cX3_canRun 26 = .ok (.aload_n 0, 1) := by decide +kernel
theorem dX3_canRun_27 : decode cX3_canRun 27 = .ok (.getfield 60, 3) := by decide +kernel
theorem dX3_canRun_30 : decode cX3_canRun 30 = .ok (.if_icmp .ge 38, 3) := by decide +kernel
theorem dX3_canRun_33 : decode cX3_canRun 33 = .ok (.iload_n 1, 1) := by decide +kernel
theorem dX3_canRun_34 : decode cX3_canRun 34 = .ok (.iload_n 1, 1) := by decide +kernel
theorem dX3_canRun_35 : decode cX3_canRun 35 = .ok (.iload_n 3, 1) := by decide +kernel
theorem dX3_canRun_36 : decode cX3_canRun 36 = .ok (.ishr, 1) := by decide +kernel
theorem dX3_canRun_37 : decode cX3_canRun 37 = .ok (.iconst 1, 1) := by decide +kernel
theorem dX3_canRun_38 : decode cX3_canRun 38 = .ok (.iand, 1) := by decide +kernel
theorem dX3_canRun_39 : decode cX3_canRun 39 = .ok (.ifCond .eq 12, 3) := by decide +kernel
theorem dX3_canRun_42 : decode cX3_canRun 42 = .ok (.aload_n 0, 1) := by decide +kernel
theorem dX3_canRun_43 : decode cX3_canRun 43 = .ok (.iload_n 3, 1) := by decide +kernel
theorem dX3_canRun_44 : decode cX3_canRun 44 = .ok (.iload_n 1, 1) := by decide +kernel
theorem dX3_canRun_45 : decode cX3_canRun 45 = .ok (.invokevirtual 137, 3) := by decide +kernel
theorem dX3_canRun_48 : decode cX3_canRun 48 = .ok (.ifCond .eq 7, 3) := by decide +kernel
theorem dX3_canRun_51 : decode cX3_canRun 51 = .ok (.iload_n 1, 1) := by decide +kernel
theorem dX3_canRun_52 : decode cX3_canRun 52 = .ok (.goto 8, 3) := by decide +kernel
theorem dX3_canRun_55 : decode cX3_canRun 55 = .ok (.iconst 1, 1) := by decide +kernel
theorem dX3_canRun_56 : decode cX3_canRun 56 = .ok (.iload_n 3, 1) := by decide +kernel
theorem dX3_canRun_57 : decode cX3_canRun 57 = .ok (.ishl, 1) := by decide +kernel
theorem dX3_canRun_58 : decode cX3_canRun 58 = .ok (.iconst (-1), 1) := by decide +kernel
theorem dX3_canRun_59 : decode cX3_canRun 59 = .ok (.ixor, 1) := by decide +kernel
theorem dX3_canRun_60 : decode cX3_canRun 60 = .ok (.iand, 1) := by decide +kernel
theorem dX3_canRun_61 : decode cX3_canRun 61 = .ok (.istore_n 1, 1) := by decide +kernel
theorem dX3_canRun_62 : decode cX3_canRun 62 = .ok (.iinc 3 1, 3) := by decide +kernel
theorem dX3_canRun_65 : decode cX3_canRun 65 = .ok (.goto (-40), 3) := by decide +kernel
theorem dX3_canRun_68 : decode cX3_canRun 68 = .ok (.goto (-52), 3) := by decide +kernel
theorem dX3_canRun_71 : decode cX3_canRun 71 = .ok (.iload_n 1, 1) := by decide +kernel
theorem dX3_canRun_72 : decode cX3_canRun 72 = .ok (.ireturn, 1) := by decide +kernel
theorem dJ9_max_7cf53_0 : decode cJ9_max_7cf53 0 = .ok (.iload_n 0, 1) := by decide +kernel
theorem dJ9_max_7cf53_1 : decode cJ9_max_7cf53 1 = .ok (.iload_n 1, 1) := by decide +kernel
theorem dJ9_max_7cf53_2 : decode cJ9_max_7cf53 2 = .ok (.if_icmp .lt 7, 3) := by decide +kernel
theorem dJ9_max_7cf53_5 : decode cJ9_max_7cf53 5 = .ok (.iload_n 0, 1) := by decide +kernel
theorem dJ9_max_7cf53_6 : decode cJ9_max_7cf53 6 = .ok (.goto 4, 3) := by decide +kernel
theorem dJ9_max_7cf53_9 : decode cJ9_max_7cf53 9 = .ok (.iload_n 1, 1) := by decide +kernel
theorem dJ9_max_7cf53_10 : decode cJ9_max_7cf53 10 = .ok (.ireturn, 1) := by decide +kernel
theorem dJ9_min_7cf53_0 : decode cJ9_min_7cf53 0 = .ok (.iload_n 0, 1) := by decide +kernel
theorem dJ9_min_7cf53_1 : decode cJ9_min_7cf53 1 = .ok (.iload_n 1, 1) := by decide +kernel
theorem dJ9_min_7cf53_2 : decode cJ9_min_7cf53 2 = .ok (.if_icmp .gt 7, 3) := by decide +kernel
theorem dJ9_min_7cf53_5 : decode cJ9_min_7cf53 5 = .ok (.iload_n 0, 1) := by decide +kernel
theorem dJ9_min_7cf53_6 : decode cJ9_min_7cf53 6 = .ok (.goto 4, 3) := by decide +kernel
theorem dJ9_min_7cf53_9 : decode cJ9_min_7cf53 9 = .ok (.iload_n 1, 1) := by decide +kernel
theorem dJ9_min_7cf53_10 : decode cJ9_min_7cf53 10 = .ok (.ireturn, 1) := by decide +kernel
theorem dJxa1e45_init_da8c8_0 : decode cJxa1e45_init_da8c8 0 = .ok (.aload_n 0, 1) := by decide +kernel
theorem dJxa1e45_init_da8c8_1 : decode cJxa1e45_init_da8c8 1 = .ok (.invokespecial 1, 3) := by decide +kernel
theorem dJxa1e45_init_da8c8_4 : decode cJxa1e45_init_da8c8 4 = .ok (.return_, 1) := by decide +kernel
set_option maxRecDepth 20000 in
theorem ggJxc12de_init_da8c8_Jxa1e45_init_da8c8 : GoodIn wsJxc12de_init_da8c8 wsJxa1e45_init_da8c8 := goodIn_r _ [5, 6, 7, 8] (by decide +kernel) (by decide +kernel)
set_option maxRecDepth 20000 in
theorem gJxc12de_init_da8c8_Jxa1e45_init_da8c8 : GoodIn wsJxc12de_init_da8c8 (wsJxa1e45_init_da8c8) := ggJxc12de_init_da8c8_Jxa1e45_init_da8c8
theorem dJxc12de_init_da8c8_0 : decode cJxc12de_init_da8c8 0 = .ok (.aload_n 0, 1) := by decide +kernel
theorem dJxc12de_init_da8c8_1 : decode cJxc12de_init_da8c8 1 = .ok (.invokespecial 1, 3) := by decide +kernel
theorem dJxc12de_init_da8c8_4 : decode cJxc12de_init_da8c8 4 = .ok (.aload_n 0, 1) := by decide +kernel
theorem dJxc12de_init_da8c8_5 : decode cJxc12de_init_da8c8 5 = .ok (.iconst 0, 1) := by decide +kernel
theorem dJxc12de_init_da8c8_6 : decode cJxc12de_init_da8c8 6 = .ok (.putfield 7, 3) := by decide +kernel
theorem dJxc12de_init_da8c8_9 : decode cJxc12de_init_da8c8 9 = .ok (.return_, 1) := by decide +kernel
set_option maxRecDepth 20000 in
theorem ggJx4a65c_init_da8c8_Jxc12de_init_da8c8 : GoodIn wsJx4a65c_init_da8c8 wsJxc12de_init_da8c8 := goodIn_r _ [6, 7, 8, 9, 10, 11, 12, 13, 14, 15, 16, 17] (by decide +kernel) (by decide +kernel)
set_option maxRecDepth 20000 in
theorem gJx4a65c_init_da8c8_Jxc12de_init_da8c8 : GoodIn wsJx4a65c_init_da8c8 (wsJxc12de_init_da8c8) := ggJx4a65c_init_da8c8_Jxc12de_init_da8c8
theorem dJx4a65c_init_da8c8_0 : decode cJx4a65c_init_da8c8 0 = .ok (.aload_n 0, 1) := by decide +kernel
theorem dJx4a65c_init_da8c8_1 : decode cJx4a65c_init_da8c8 1 = .ok (.invokespecial 1, 3) := by decide +kernel
theorem dJx4a65c_init_da8c8_4 : decode cJx4a65c_init_da8c8 4 = .ok (.aload_n 0, 1) := by decide +kernel
theorem dJx4a65c_init_da8c8_5 : decode cJx4a65c_init_da8c8 5 = .ok (.getstatic 39, 3) := by decide +kernel
theorem dJx4a65c_init_da8c8_8 : decode cJx4a65c_init_da8c8 8 = .ok (.putfield 9, 3) := by decide +kernel
theorem dJx4a65c_init_da8c8_11 : decode cJx4a65c_init_da8c8 11 = .ok (.return_, 1) := by decide +kernel
set_option maxRecDepth 20000 in
theorem ggJx4a65c_grow_92f84_J8_newLength_cabcc : GoodIn wsJx4a65c_grow_92f84 wsJ8_newLength_cabcc := goodIn_r _ [11, 12, 4, 5, 6, 13, 14, 15, 10, 16] (by decide +kernel) (by decide +kernel)
set_option maxRecDepth 20000 in
theorem gJx4a65c_grow_92f84_J8_newLength_cabcc : GoodIn wsJx4a65c_grow_92f84 (va_wsS RJx4a65c 73 yJ8_newLength_cabcc wsJ8_newLength_cabcc) := goodIn_app (goodIn_of _ (by decide +kernel)) ggJx4a65c_grow_92f84_J8_newLength_cabcc
set_option maxRecDepth 20000 in
theorem ggJx4a65c_grow_92f84_J7_copyOf_1904c : GoodIn wsJx4a65c_grow_92f84 wsJ7_copyOf_1904c := goodIn_r _ [20, 21, 22, 23, 24, 25, 26, 19, 27, 28, 29, 30, 31, 5, 32, 33, 34, 35, 36] (by decide +kernel) (by decide +kernel)
set_option maxRecDepth 20000 in
theorem gJx4a65c_grow_92f84_J7_copyOf_1904c : GoodIn wsJx4a65c_grow_92f84 (va_wsS RJx4a65c 66 yJ7_copyOf_1904c wsJ7_copyOf_1904c) := goodIn_app (goodIn_of _ (by decide +kernel)) ggJx4a65c_grow_92f84_J7_copyOf_1904c
theorem dJx4a65c_grow_92f84_0 : decode cJx4a65c_grow_92f84 0 = .ok (.aload_n 0, 1) := by decide +kernel
theorem dJx4a65c_grow_92f84_1 : decode cJx4a65c_grow_92f84 1 = .ok (.getfield 9, 3) := by decide +kernel
theorem dJx4a65c_grow_92f84_4 : decode cJx4a65c_grow_92f84 4 = .ok (.arraylength, 1) := by decide +kernel
theorem dJx4a65c_grow_92f84_5 : decode cJx4a65c_grow_92f84 5 = .ok (.istore_n 2, 1) := by decide +kernel
theorem dJx4a65c_grow_92f84_6 : decode cJx4a65c_grow_92f84 6 = .ok (.iload_n 2, 1) := by decide +kernel
theorem dJx4a65c_grow_92f84_7 : decode cJx4a65c_grow_92f84 7 = .ok (.ifCond .gt 13, 3) := by decide +kernel
theorem dJx4a65c_grow_92f84_10 : decode cJx4a65c_grow_92f84 10 = .ok (.aload_n 0, 1) := by decide +kernel
theorem dJx4a65c_grow_92f84_11 : decode cJx4a65c_grow_92f84 11 = .ok (.getfield 9, 3) := by decide +kernel
theorem dJx4a65c_grow_92f84_14 : decode cJx4a65c_grow_92f84 14 = .ok (.getstatic 39, 3) := by decide +kernel
theorem dJx4a65c_grow_92f84_17 : decode cJx4a65c_grow_92f84 17 = .ok (.if_acmp .eq 28, 3) := by decide +kernel
theorem dJx4a65c_grow_92f84_20 : decode cJx4a65c_grow_92f84 20 = .ok (.iload_n 2, 1) := by decide +kernel
theorem dJx4a65c_grow_92f84_21 : decode cJx4a65c_grow_92f84 21 = .ok (.iload_n 1, 1) := by decide +kernel
theorem dJx4a65c_grow_92f84_22 : decode cJx4a65c_grow_92f84 22 = .ok (.iload_n 2, 1) := by decide +kernel
theorem dJx4a65c_grow_92f84_23 : decode cJx4a65c_grow_92f84 23 = .ok (.isub, 1) := by decide +kernel
theorem dJx4a65c_grow_92f84_24 : decode cJx4a65c_grow_92f84 24 = .ok (.iload_n 2, 1) := by decide +kernel
theorem dJx4a65c_grow_92f84_25 : decode cJx4a65c_grow_92f84 25 = .ok (.iconst 1, 1) := by decide +kernel
theorem dJx4a65c_grow_92f84_26 : decode cJx4a65c_grow_92f84 26 = .ok (.ishr, 1) := by decide +kernel
theorem dJx4a65c_grow_92f84_27 : decode cJx4a65c_grow_92f84 27 = .ok (.invokestatic 73, 3) := by decide +kernel
theorem dJx4a65c_grow_92f84_30 : decode cJx4a65c_grow_92f84 30 = .ok (.istore_n 3, 1) := by decide +kernel
theorem dJx4a65c_grow_92f84_31 : decode cJx4a65c_grow_92f84 31 = .ok (.aload_n 0, 1) := by decide +kernel
theorem dJx4a65c_grow_92f84_32 : decode cJx4a65c_grow_92f84 32 = .ok (.aload_n 0, 1) := by decide +kernel
theorem dJx4a65c_grow_92f84_33 : decode cJx4a65c_grow_92f84 33 = .ok (.getfield 9, 3) := by decide +kernel
theorem dJx4a65c_grow_92f84_36 : decode cJx4a65c_grow_92f84 36 = .ok (.iload_n 3, 1) := by decide +kernel
theorem dJx4a65c_grow_92f84_37 : decode cJx4a65c_grow_92f84 37 = .ok (.invokestatic 66, 3) := by decide +kernel
theorem dJx4a65c_grow_92f84_40 : decode cJx4a65c_grow_92f84 40 = .ok (.dup_x1, 1) := by decide +kernel
theorem dJx4a65c_grow_92f84_41 : decode cJx4a65c_grow_92f84 41 = .ok (.putfield 9, 3) := by decide +kernel
theorem dJx4a65c_grow_92f84_44 : decode cJx4a65c_grow_92f84 44 = .ok (.areturn, 1) := by decide +kernel
theorem dJx4a65c_grow_92f84_45 : decode cJx4a65c_grow_92f84 45 = .ok (.aload_n 0, 1) := by decide +kernel
theorem dJx4a65c_grow_92f84_46 : decode cJx4a65c_grow_92f84 46 = .ok (.bipush 10, 2) := by decide +kernel
theorem dJx4a65c_grow_92f84_48 : decode cJx4a65c_grow_92f84 48 = .ok (.iload_n 1, 1) := by decide +kernel
theorem dJx4a65c_grow_92f84_49 : decode cJx4a65c_grow_92f84 49 = .ok (.invokestatic 79, 3) := by decide +kernel
theorem dJx4a65c_grow_92f84_52 : decode cJx4a65c_grow_92f84 52 = .ok (.anewarray 7, 3) := by decide +kernel
theorem dJx4a65c_grow_92f84_55 : decode cJx4a65c_grow_92f84 55 = .ok (.dup_x1, 1) := by decide +kernel
theorem dJx4a65c_grow_92f84_56 : decode cJx4a65c_grow_92f84 56 = .ok (.putfield 9, 3) := by decide +kernel
theorem dJx4a65c_grow_92f84_59 : decode cJx4a65c_grow_92f84 59 = .ok (.areturn, 1) := by decide +kernel
set_option maxRecDepth 20000 in
theorem ggJx4a65c_grow_d5877_Jx4a65c_grow_92f84 : GoodIn wsJx4a65c_grow_d5877 wsJx4a65c_grow_92f84 := goodIn_r _ [6, 7, 8, 9, 10, 11, 12, 13, 14, 15, 16, 17, 18, 19, 20, 21, 22, 23, 24, 25, 26, 27, 28, 29, 30, 31, 32, 33, 34, 35, 36, 37, 38, 39, 40, 41, 42, 43, 44, 45] (by decide +kernel) (by decide +kernel)
set_option maxRecDepth 20000 in
theorem gJx4a65c_grow_d5877_Jx4a65c_grow_92f84 : GoodIn wsJx4a65c_grow_d5877 (wsV RJx4a65c 69 RJx4a65c yJx4a65c_grow_92f84 wsJx4a65c_grow_92f84) := goodIn_app (goodIn_of _ (by decide +kernel)) ggJx4a65c_grow_d5877_Jx4a65c_grow_92f84
theorem dJx4a65c_grow_d5877_0 : decode cJx4a65c_grow_d5877 0 = .ok (.aload_n 0, 1) := by decide +kernel
theorem dJx4a65c_grow_d5877_1 : decode cJx4a65c_grow_d5877 1 = .ok (.aload_n 0, 1) := by decide +kernel
theorem dJx4a65c_grow_d5877_2 : decode cJx4a65c_grow_d5877 2 = .ok (.getfield 48, 3) := by decide +kernel
theorem dJx4a65c_grow_d5877_5 : decode cJx4a65c_grow_d5877 5 = .ok (.iconst 1, 1) := by decide +kernel
theorem dJx4a65c_grow_d5877_6 : decode cJx4a65c_grow_d5877 6 = .ok (.iadd, 1) := by decide +kernel
theorem dJx4a65c_grow_d5877_7 : decode cJx4a65c_grow_d5877 7 = .ok (.invokevirtual 69, 3) := by decide +kernel
theorem dJx4a65c_grow_d5877_10 : decode cJx4a65c_grow_d5877 10 = .ok (.areturn, 1) := by decide +kernel
theorem dJx4a65c_size_8abf5_0 : decode cJx4a65c_size_8abf5 0 = .ok (.aload_n 0, 1) := by decide +kernel
theorem dJx4a65c_size_8abf5_1 : decode cJx4a65c_size_8abf5 1 = .ok (.getfield 48, 3) := by decide +kernel
theorem dJx4a65c_size_8abf5_4 : decode cJx4a65c_size_8abf5 4 = .ok (.ireturn, 1) := by decide +kernel
theorem dJx4a65c_elementData_915e3_0 : decode cJx4a65c_elementData_915e3 0 = .ok (.aload_n 0, 1) := by decide +kernel
theorem dJx4a65c_elementData_915e3_1 : decode cJx4a65c_elementData_915e3 1 = .ok (.getfield 9, 3) := by decide +kernel
theorem dJx4a65c_elementData_915e3_4 : decode cJx4a65c_elementData_915e3 4 = .ok (.iload_n 1, 1) := by decide +kernel
theorem dJx4a65c_elementData_915e3_5 : decode cJx4a65c_elementData_915e3 5 = .ok (.aaload, 1) := by decide +kernel
theorem dJx4a65c_elementData_915e3_6 : decode cJx4a65c_elementData_915e3 6 = .ok (.areturn, 1) := by decide +kernel
set_option maxRecDepth 20000 in
theorem ggJx4a65c_get_915e3_J15_checkIndex_7cf53 : GoodIn wsJx4a65c_get_915e3 wsJ15_checkIndex_7cf53 := goodIn_r _ [5, 6, 7, 8, 9] (by decide +kernel) (by decide +kernel)
set_option maxRecDepth 20000 in
theorem gJx4a65c_get_915e3_J15_checkIndex_7cf53 : GoodIn wsJx4a65c_get_915e3 (va_wsS RJx4a65c 118 yJ15_checkIndex_7cf53 wsJ15_checkIndex_7cf53) := goodIn_app (goodIn_of _ (by decide +kernel)) ggJx4a65c_get_915e3_J15_checkIndex_7cf53
set_option maxRecDepth 20000 in
theorem ggJx4a65c_get_915e3_Jx4a65c_elementData_915e3 : GoodIn wsJx4a65c_get_915e3 wsJx4a65c_elementData_915e3 := goodIn_r _ [14, 15, 16, 17, 18] (by decide +kernel) (by decide +kernel)
set_option maxRecDepth 20000 in
theorem gJx4a65c_get_915e3_Jx4a65c_elementData_915e3 : GoodIn wsJx4a65c_get_915e3 (wsV RJx4a65c 123 RJx4a65c yJx4a65c_elementData_915e3 wsJx4a65c_elementData_915e3) := goodIn_app (goodIn_of _ (by decide +kernel)) ggJx4a65c_get_915e3_Jx4a65c_elementData_915e3
theorem dJx4a65c_get_915e3_0 : decode cJx4a65c_get_915e3 0 = .ok (.iload_n 1, 1) := by decide +kernel
theorem dJx4a65c_get_915e3_1 : decode cJx4a65c_get_915e3 1 = .ok (.aload_n 0, 1) := by decide +kernel
theorem dJx4a65c_get_915e3_2 : decode cJx4a65c_get_915e3 2 = .ok (.getfield 48, 3) := by decide +kernel
theorem dJx4a65c_get_915e3_5 : decode cJx4a65c_get_915e3 5 = .ok (.invokestatic 118, 3) := by decide +kernel
theorem dJx4a65c_get_915e3_8 : decode cJx4a65c_get_915e3 8 = .ok (.pop, 1) := by decide +kernel
theorem dJx4a65c_get_915e3_9 : decode cJx4a65c_get_915e3 9 = .ok (.aload_n 0, 1) := by decide +kernel
theorem dJx4a65c_get_915e3_10 : decode cJx4a65c_get_915e3 10 = .ok (.iload_n 1, 1) := by decide +kernel
theorem dJx4a65c_get_915e3_11 : decode cJx4a65c_get_915e3 11 = .ok (.invokevirtual 123, 3) := by decide +kernel
theorem dJx4a65c_get_915e3_14 : decode cJx4a65c_get_915e3 14 = .ok (.areturn, 1) := by decide +kernel
set_option maxRecDepth 20000 in
theorem ggJx4a65c_add_72be8_Jx4a65c_grow_d5877 : GoodIn wsJx4a65c_add_72be8 wsJx4a65c_grow_d5877 := goodIn_r _ [6, 1, 7, 8, 9, 5, 10, 11, 12, 13, 14, 15, 16, 17, 18, 19, 20, 21, 22, 23, 24, 25, 26, 27, 28, 29, 30, 31, 32, 33, 34, 35, 36, 37, 38, 39, 40, 41, 42, 43, 44, 45, 46, 47, 48, 49] (by decide +kernel) (by decide +kernel)
set_option maxRecDepth 20000 in
theorem gJx4a65c_add_72be8_Jx4a65c_grow_d5877 : GoodIn wsJx4a65c_add_72be8 (wsV RJx4a65c 129 RJx4a65c yJx4a65c_grow_d5877 wsJx4a65c_grow_d5877) := goodIn_app (goodIn_of _ (by decide +kernel)) ggJx4a65c_add_72be8_Jx4a65c_grow_d5877
theorem dJx4a65c_add_72be8_0 : decode cJx4a65c_add_72be8 0 = .ok (.iload_n 3, 1) := by decide +kernel
theorem dJx4a65c_add_72be8_1 : decode cJx4a65c_add_72be8 1 = .ok (.aload_n 2, 1) := by decide +kernel
theorem dJx4a65c_add_72be8_2 : decode cJx4a65c_add_72be8 2 = .ok (.arraylength, 1) := by decide +kernel
theorem dJx4a65c_add_72be8_3 : decode cJx4a65c_add_72be8 3 = .ok (.if_icmp .ne 8, 3) := by decide +kernel
theorem dJx4a65c_add_72be8_6 : decode cJx4a65c_add_72be8 6 = .ok (.aload_n 0, 1) := by decide +kernel
theorem dJx4a65c_add_72be8_7 : decode cJx4a65c_add_72be8 7 = .ok (.invokevirtual 129, 3) := by decide +kernel
theorem dJx4a65c_add_72be8_10 : decode cJx4a65c_add_72be8 10 = .ok (.astore_n 2, 1) := by decide +kernel
theorem dJx4a65c_add_72be8_11 : decode cJx4a65c_add_72be8 11 = .ok (.aload_n 2, 1) := by decide +kernel
theorem dJx4a65c_add_72be8_12 : decode cJx4a65c_add_72be8 12 = .ok (.iload_n 3, 1) := by decide +kernel
theorem dJx4a65c_add_72be8_13 : decode cJx4a65c_add_72be8 13 = .ok (.aload_n 1, 1) := by decide +kernel
theorem dJx4a65c_add_72be8_14 : decode cJx4a65c_add_72be8 14 = .ok (.aastore, 1) := by decide +kernel
theorem dJx4a65c_add_72be8_15 : decode cJx4a65c_add_72be8 15 = .ok (.aload_n 0, 1) := by decide +kernel
theorem dJx4a65c_add_72be8_16 : decode cJx4a65c_add_72be8 16 = .ok (.iload_n 3, 1) := by decide +kernel
theorem dJx4a65c_add_72be8_17 : decode cJx4a65c_add_72be8 17 = .ok (.iconst 1, 1) := by decide +kernel
theorem dJx4a65c_add_72be8_18 : decode cJx4a65c_add_72be8 18 = .ok (.iadd, 1) := by decide +kernel
theorem dJx4a65c_add_72be8_19 : decode cJx4a65c_add_72be8 19 = .ok (.putfield 48, 3) := by decide +kernel
theorem dJx4a65c_add_72be8_22 : decode cJx4a65c_add_72be8 22 = .ok (.return_, 1) := by decide +kernel
set_option maxRecDepth 20000 in
theorem ggJx4a65c_add_9ea2d_Jx4a65c_add_72be8 : GoodIn wsJx4a65c_add_9ea2d wsJx4a65c_add_72be8 := goodIn_r _ [9, 4, 10, 11, 12, 8, 13, 14, 15, 16, 17, 3, 18, 19, 20, 21, 22, 23, 24, 25, 26, 27, 28, 29, 30, 31, 32, 33, 34, 35, 36, 37, 38, 39, 40, 41, 42, 43, 44, 45, 46, 47, 48, 49, 50, 51, 52, 53, 54, 55] (by decide +kernel) (by decide +kernel)
set_option maxRecDepth 20000 in
theorem gJx4a65c_add_9ea2d_Jx4a65c_add_72be8 : GoodIn wsJx4a65c_add_9ea2d (wsV RJx4a65c 131 RJx4a65c yJx4a65c_add_72be8 wsJx4a65c_add_72be8) := goodIn_app (goodIn_of _ (by decide +kernel)) ggJx4a65c_add_9ea2d_Jx4a65c_add_72be8
theorem dJx4a65c_add_9ea2d_0 : decode cJx4a65c_add_9ea2d 0 = .ok (.aload_n 0, 1) := by decide +kernel
theorem dJx4a65c_add_9ea2d_1 : decode cJx4a65c_add_9ea2d 1 = .ok (.dup, 1) := by decide +kernel
theorem dJx4a65c_add_9ea2d_2 : decode cJx4a65c_add_9ea2d 2 = .ok (.getfield 63, 3) := by decide +kernel
theorem dJx4a65c_add_9ea2d_5 : decode cJx4a65c_add_9ea2d 5 = .ok (.iconst 1, 1) := by decide +kernel
theorem dJx4a65c_add_9ea2d_6 : decode cJx4a65c_add_9ea2d 6 = .ok (.iadd, 1) := by decide +kernel
theorem dJx4a65c_add_9ea2d_7 : decode cJx4a65c_add_9ea2d 7 = .ok (.putfield 63, 3) := by decide +kernel
theorem dJx4a65c_add_9ea2d_10 : decode cJx4a65c_add_9ea2d 10 = .ok (.aload_n 0, 1) := by decide +kernel
theorem dJx4a65c_add_9ea2d_11 : decode cJx4a65c_add_9ea2d 11 = .ok (.aload_n 1, 1) := by decide +kernel
theorem dJx4a65c_add_9ea2d_12 : decode cJx4a65c_add_9ea2d 12 = .ok (.aload_n 0, 1) := by decide +kernel
theorem dJx4a65c_add_9ea2d_13 : decode cJx4a65c_add_9ea2d 13 = .ok (.getfield 9, 3) := by decide +kernel
theorem dJx4a65c_add_9ea2d_16 : decode cJx4a65c_add_9ea2d 16 = .ok (.aload_n 0, 1) := by decide +kernel
theorem dJx4a65c_add_9ea2d_17 : decode cJx4a65c_add_9ea2d 17 = .ok (.getfield 48, 3) := by decide +kernel
theorem dJx4a65c_add_9ea2d_20 : decode cJx4a65c_add_9ea2d 20 = .ok (.invokevirtual 131, 3) := by decide +kernel
theorem dJx4a65c_add_9ea2d_23 : decode cJx4a65c_add_9ea2d 23 = .ok (.iconst 1, 1) := by decide +kernel
theorem dJx4a65c_add_9ea2d_24 : decode cJx4a65c_add_9ea2d 24 = .ok (.ireturn, 1) := by decide +kernel
set_option maxRecDepth 20000 in
theorem ggJ7_copyOf_1904c_J7_copyOf_6403c : GoodIn wsJ7_copyOf_1904c wsJ7_copyOf_6403c := goodIn_r _ [8, 9, 10, 11, 12, 13, 14, 15, 16, 17, 18] (by decide +kernel) (by decide +kernel)
set_option maxRecDepth 20000 in
theorem gJ7_copyOf_1904c_J7_copyOf_6403c : GoodIn wsJ7_copyOf_1904c (va_wsS RJ7 300 yJ7_copyOf_6403c wsJ7_copyOf_6403c) := goodIn_app (goodIn_of _ (by decide +kernel)) ggJ7_copyOf_1904c_J7_copyOf_6403c
theorem dJ7_copyOf_1904c_0 : decode cJ7_copyOf_1904c 0 = .ok (.aload_n 0, 1) := by decide +kernel
theorem dJ7_copyOf_1904c_1 : decode cJ7_copyOf_1904c 1 = .ok (.iload_n 1, 1) := by decide +kernel
theorem dJ7_copyOf_1904c_2 : decode cJ7_copyOf_1904c 2 = .ok (.aload_n 0, 1) := by decide +kernel
theorem dJ7_copyOf_1904c_3 : decode cJ7_copyOf_1904c 3 = .ok (.invokevirtual 86, 3) := by decide +kernel
theorem dJ7_copyOf_1904c_6 : decode cJ7_copyOf_1904c 6 = .ok (.invokestatic 300, 3) := by decide +kernel
theorem dJ7_copyOf_1904c_9 : decode cJ7_copyOf_1904c 9 = .ok (.areturn, 1) := by decide +kernel
theorem dJ7_copyOf_6403c_0 : decode cJ7_copyOf_6403c 0 = .ok (.aload_n 2, 1) := by decide +kernel
theorem dJ7_copyOf_6403c_1 : decode cJ7_copyOf_6403c 1 = .ok (.ldc 110, 2) := by decide +kernel
theorem dJ7_copyOf_6403c_3 : decode cJ7_copyOf_6403c 3 = .ok (.if_acmp .ne 10, 3) := by decide +kernel
theorem dJ7_copyOf_6403c_6 : decode cJ7_copyOf_6403c 6 = .ok (.iload_n 1, 1) := by decide +kernel
theorem dJ7_copyOf_6403c_7 : decode cJ7_copyOf_6403c 7 = .ok (.anewarray 2, 3) := by decide +kernel
theorem dJ7_copyOf_6403c_10 : decode cJ7_copyOf_6403c 10 = .ok (.goto 14, 3) := by decide +kernel
theorem dJ7_copyOf_6403c_13 : decode cJ7_copyOf_6403c 13 = .ok (.aload_n 2, 1) := by decide +kernel
theorem dJ7_copyOf_6403c_14 : decode cJ7_copyOf_6403c 14 = .ok (.invokevirtual 90, 3) := by decide +kernel
theorem dJ7_copyOf_6403c_17 : decode cJ7_copyOf_6403c 17 = .ok (.iload_n 1, 1) := by decide +kernel
theorem dJ7_copyOf_6403c_18 : decode cJ7_copyOf_6403c 18 = .ok (.invokestatic 95, 3) := by decide +kernel
theorem dJ7_copyOf_6403c_21 : decode cJ7_copyOf_6403c 21 = .ok (.checkcast 110, 3) := by decide +kernel
theorem dJ7_copyOf_6403c_24 : decode cJ7_copyOf_6403c 24 = .ok (.astore_n 3, 1) := by decide +kernel
theorem dJ7_copyOf_6403c_25 : decode cJ7_copyOf_6403c 25 = .ok (.aload_n 0, 1) := by decide +kernel
theorem dJ7_copyOf_6403c_26 : decode cJ7_copyOf_6403c 26 = .ok (.iconst 0, 1) := by decide +kernel
theorem dJ7_copyOf_6403c_27 : decode cJ7_copyOf_6403c 27 = .ok (.aload_n 3, 1) := by decide +kernel
theorem dJ7_copyOf_6403c_28 : decode cJ7_copyOf_6403c 28 = .ok (.iconst 0, 1) := by decide +kernel
theorem dJ7_copyOf_6403c_29 : decode cJ7_copyOf_6403c 29 = .ok (.aload_n 0, 1) := by decide +kernel
theorem dJ7_copyOf_6403c_30 : decode cJ7_copyOf_6403c 30 = .ok (.arraylength, 1) := by decide +kernel
theorem dJ7_copyOf_6403c_31 : decode cJ7_copyOf_6403c 31 = .ok (.iload_n 1, 1) := by decide +kernel
theorem dJ7_copyOf_6403c_32 : decode cJ7_copyOf_6403c 32 = .ok (.invokestatic 304, 3) := by decide +kernel
theorem dJ7_copyOf_6403c_35 : decode cJ7_copyOf_6403c 35 = .ok (.invokestatic 150, 3) := by decide +kernel
theorem dJ7_copyOf_6403c_38 : decode cJ7_copyOf_6403c 38 = .ok (.aload_n 3, 1) := by decide +kernel
theorem dJ7_copyOf_6403c_39 : decode cJ7_copyOf_6403c 39 = .ok (.areturn, 1) := by decide +kernel
set_option maxRecDepth 20000 in
theorem ggJ15_checkIndex_7cf53_J3_checkIndex_8e157 : GoodIn wsJ15_checkIndex_7cf53 wsJ3_checkIndex_8e157 := goodIn_r _ [4] (by decide +kernel) (by decide +kernel)
set_option maxRecDepth 20000 in
theorem gJ15_checkIndex_7cf53_J3_checkIndex_8e157 : GoodIn wsJ15_checkIndex_7cf53 (va_wsS RJ15 105 yJ3_checkIndex_8e157 wsJ3_checkIndex_8e157) := goodIn_app (goodIn_of _ (by decide +kernel)) ggJ15_checkIndex_7cf53_J3_checkIndex_8e157
theorem dJ15_checkIndex_7cf53_0 : decode cJ15_checkIndex_7cf53 0 = .ok (.iload_n 0, 1) := by decide +kernel
theorem dJ15_checkIndex_7cf53_1 : decode cJ15_checkIndex_7cf53 1 = .ok (.iload_n 1, 1) := by decide +kernel
theorem dJ15_checkIndex_7cf53_2 : decode cJ15_checkIndex_7cf53 2 = .ok (.aconst_null, 1) := by decide +kernel
theorem dJ15_checkIndex_7cf53_3 : decode cJ15_checkIndex_7cf53 3 = .ok (.invokestatic 105, 3) := by decide +kernel
theorem dJ15_checkIndex_7cf53_6 : decode cJ15_checkIndex_7cf53 6 = .ok (.ireturn, 1) := by decide +kernel
set_option maxRecDepth 20000 in
theorem ggJ8_newLength_cabcc_J8_hugeLength_7cf53 : GoodIn wsJ8_newLength_cabcc wsJ8_hugeLength_7cf53 := goodIn_r _ [9, 5] (by decide +kernel) (by decide +kernel)
set_option maxRecDepth 20000 in
theorem gJ8_newLength_cabcc_J8_hugeLength_7cf53 : GoodIn wsJ8_newLength_cabcc (va_wsS RJ8 201 yJ8_hugeLength_7cf53 wsJ8_hugeLength_7cf53) := goodIn_app (goodIn_of _ (by decide +kernel)) ggJ8_newLength_cabcc_J8_hugeLength_7cf53
theorem dJ8_newLength_cabcc_0 : decode cJ8_newLength_cabcc 0 = .ok (.iload_n 0, 1) := by decide +kernel
theorem dJ8_newLength_cabcc_1 : decode cJ8_newLength_cabcc 1 = .ok (.iload_n 1, 1) := by decide +kernel
theorem dJ8_newLength_cabcc_2 : decode cJ8_newLength_cabcc 2 = .ok (.iload_n 2, 1) := by decide +kernel
theorem dJ8_newLength_cabcc_3 : decode cJ8_newLength_cabcc 3 = .ok (.invokestatic 194, 3) := by decide +kernel
theorem dJ8_newLength_cabcc_6 : decode cJ8_newLength_cabcc 6 = .ok (.iadd, 1) := by decide +kernel
theorem dJ8_newLength_cabcc_7 : decode cJ8_newLength_cabcc 7 = .ok (.istore_n 3, 1) := by decide +kernel
theorem dJ8_newLength_cabcc_8 : decode cJ8_newLength_cabcc 8 = .ok (.iconst 0, 1) := by decide +kernel
theorem dJ8_newLength_cabcc_9 : decode cJ8_newLength_cabcc 9 = .ok (.iload_n 3, 1) := by decide +kernel
theorem dJ8_newLength_cabcc_10 : decode cJ8_newLength_cabcc 10 = .ok (.if_icmp .ge 11, 3) := by decide +kernel
theorem dJ8_newLength_cabcc_13 : decode cJ8_newLength_cabcc 13 = .ok (.iload_n 3, 1) := by decide +kernel
theorem dJ8_newLength_cabcc_14 : decode cJ8_newLength_cabcc 14 = .ok (.ldc 200, 2) := by decide +kernel
theorem dJ8_newLength_cabcc_16 : decode cJ8_newLength_cabcc 16 = .ok (.if_icmp .gt 5, 3) := by decide +kernel
theorem dJ8_newLength_cabcc_19 : decode cJ8_newLength_cabcc 19 = .ok (.iload_n 3, 1) := by decide +kernel
theorem dJ8_newLength_cabcc_20 : decode cJ8_newLength_cabcc 20 = .ok (.ireturn, 1) := by decide +kernel
theorem dJ8_newLength_cabcc_21 : decode cJ8_newLength_cabcc 21 = .ok (.iload_n 0, 1) := by decide +kernel
theorem dJ8_newLength_cabcc_22 : decode cJ8_newLength_cabcc 22 = .ok (.iload_n 1, 1) := by decide +kernel
theorem dJ8_newLength_cabcc_23 : decode cJ8_newLength_cabcc 23 = .ok (.invokestatic 201, 3) := by decide +kernel
theorem dJ8_newLength_cabcc_26 : decode cJ8_newLength_cabcc 26 = .ok (.ireturn, 1) := by decide +kernel
theorem dJ8_hugeLength_7cf53_0 : decode cJ8_hugeLength_7cf53 0 = .ok (.iload_n 0, 1) := by decide +kernel
theorem dJ8_hugeLength_7cf53_1 : decode cJ8_hugeLength_7cf53 1 = .ok (.iload_n 1, 1) := by decide +kernel
theorem dJ8_hugeLength_7cf53_2 : decode cJ8_hugeLength_7cf53 2 = .ok (.iadd, 1) := by decide +kernel
theorem dJ8_hugeLength_7cf53_3 : decode cJ8_hugeLength_7cf53 3 = .ok (.istore_n 2, 1) := by decide +kernel
theorem dJ8_hugeLength_7cf53_4 : decode cJ8_hugeLength_7cf53 4 = .ok (.iload_n 2, 1) := by decide +kernel
theorem dJ8_hugeLength_7cf53_5 : decode cJ8_hugeLength_7cf53 5 = .ok (.ifCond .ge 44, 3) := by decide +kernel
theorem dJ8_hugeLength_7cf53_8 : decode cJ8_hugeLength_7cf53 8 = .ok (.new 204, 3) := by decide +kernel
theorem dJ8_hugeLength_7cf53_11 : decode cJ8_hugeLength_7cf53 11 = .ok (.dup, 1) := by decide +kernel
theorem dJ8_hugeLength_7cf53_12 : decode cJ8_hugeLength_7cf53 12 = .ok (.new 89, 3) := by decide +kernel
theorem dJ8_hugeLength_7cf53_15 : decode cJ8_hugeLength_7cf53 15 = .ok (.dup, 1) := by decide +kernel
theorem dJ8_hugeLength_7cf53_16 : decode cJ8_hugeLength_7cf53 16 = .ok (.invokespecial 91, 3) := by decide +kernel
theorem dJ8_hugeLength_7cf53_19 : decode cJ8_hugeLength_7cf53 19 = .ok (.ldc 206, 2) := by decide +kernel
theorem dJ8_hugeLength_7cf53_21 : decode cJ8_hugeLength_7cf53 21 = .ok (.invokevirtual 94, 3) := by decide +kernel
theorem dJ8_hugeLength_7cf53_24 : decode cJ8_hugeLength_7cf53 24 = .ok (.iload_n 0, 1) := by decide +kernel
theorem dJ8_hugeLength_7cf53_25 : decode cJ8_hugeLength_7cf53 25 = .ok (.invokevirtual 98, 3) := by decide +kernel
theorem dJ8_hugeLength_7cf53_28 : decode cJ8_hugeLength_7cf53 28 = .ok (.ldc 208, 2) := by decide +kernel
theorem dJ8_hugeLength_7cf53_30 : decode cJ8_hugeLength_7cf53 30 = .ok (.invokevirtual 94, 3) := by decide +kernel
theorem dJ8_hugeLength_7cf53_33 : decode cJ8_hugeLength_7cf53 33 = .ok (.iload_n 1, 1) := by decide +kernel
theorem dJ8_hugeLength_7cf53_34 : decode cJ8_hugeLength_7cf53 34 = .ok (.invokevirtual 98, 3) := by decide +kernel
theorem dJ8_hugeLength_7cf53_37 : decode cJ8_hugeLength_7cf53 37 = .ok (.ldc 210, 2) := by decide +kernel
theorem dJ8_hugeLength_7cf53_39 : decode cJ8_hugeLength_7cf53 39 = .ok (.invokevirtual 94, 3) := by decide +kernel
theorem dJ8_hugeLength_7cf53_42 : decode cJ8_hugeLength_7cf53 42 = .ok (.invokevirtual 101, 3) := by decide +kernel
theorem dJ8_hugeLength_7cf53_45 : decode cJ8_hugeLength_7cf53 45 = .ok (.invokespecial 212, 3) := by decide +kernel
theorem dJ8_hugeLength_7cf53_48 : decode cJ8_hugeLength_7cf53 48 = .ok (.athrow, 1) := by decide +kernel
theorem dJ8_hugeLength_7cf53_49 : decode cJ8_hugeLength_7cf53 49 = .ok (.iload_n 2, 1) := by decide +kernel
theorem dJ8_hugeLength_7cf53_50 : decode cJ8_hugeLength_7cf53 50 = .ok (.ldc 200, 2) := by decide +kernel
theorem dJ8_hugeLength_7cf53_52 : decode cJ8_hugeLength_7cf53 52 = .ok (.if_icmp .gt 6, 3) := by decide +kernel
theorem dJ8_hugeLength_7cf53_55 : decode cJ8_hugeLength_7cf53 55 = .ok (.ldc 200, 2) := by decide +kernel
theorem dJ8_hugeLength_7cf53_57 : decode cJ8_hugeLength_7cf53 57 = .ok (.ireturn, 1) := by decide +kernel
theorem dJ8_hugeLength_7cf53_58 : decode cJ8_hugeLength_7cf53 58 = .ok (.iload_n 2, 1) := by decide +kernel
theorem dJ8_hugeLength_7cf53_59 : decode cJ8_hugeLength_7cf53 59 = .ok (.ireturn, 1) := by decide +kernel
theorem dJ3_checkIndex_8e157_0 : decode cJ3_checkIndex_8e157 0 = .ok (.iload_n 0, 1) := by decide +kernel
theorem dJ3_checkIndex_8e157_1 : decode cJ3_checkIndex_8e157 1 = .ok (.ifCond .lt 8, 3) := by decide +kernel
theorem dJ3_checkIndex_8e157_4 : decode cJ3_checkIndex_8e157 4 = .ok (.iload_n 0, 1) := by decide +kernel
theorem dJ3_checkIndex_8e157_5 : decode cJ3_checkIndex_8e157 5 = .ok (.iload_n 1, 1) := by decide +kernel
theorem dJ3_checkIndex_8e157_6 : decode cJ3_checkIndex_8e157 6 = .ok (.if_icmp .lt 10, 3) := by decide +kernel
theorem dJ3_checkIndex_8e157_9 : decode cJ3_checkIndex_8e157 9 = .ok (.aload_n 2, 1) := by decide +kernel
theorem dJ3_checkIndex_8e157_10 : decode cJ3_checkIndex_8e157 10 = .ok (.iload_n 0, 1) := by decide +kernel
theorem dJ3_checkIndex_8e157_11 : decode cJ3_checkIndex_8e157 11 = .ok (.iload_n 1, 1) := by decide +kernel
theorem dJ3_checkIndex_8e157_12 : decode cJ3_checkIndex_8e157 12 = .ok (.invokestatic 95, 3) := by decide +kernel
theorem dJ3_checkIndex_8e157_15 : decode cJ3_checkIndex_8e157 15 = .ok (.athrow, 1) := by decide +kernel
theorem dJ3_checkIndex_8e157_16 : decode cJ3_checkIndex_8e157 16 = .ok (.iload_n 0, 1) := by decide +kernel
theorem dJ3_checkIndex_8e157_17 : decode cJ3_checkIndex_8e157 17 = .ok (.ireturn, 1) := by decide +kernel
set_option maxRecDepth 20000 in
theorem ggL_add_X2_add : GoodIn wsL_add wsX2_add := goodIn_ca (goodIn_ca (goodIn_r _ [7, 8, 9, 10, 11, 12, 13, 14, 15, 16, 17, 6, 18, 19, 20, 21, 22, 23, 24, 25, 26, 27, 28, 29, 30, 31, 32, 33, 34, 35, 36, 37, 38, 39, 40, 41, 42, 43, 44, 45] (by decide +kernel) (by decide +kernel)) (goodIn_sub (fun _ h => List.mem_cons_of_mem _ (List.mem_append_left _ (List.mem_append_right _ h))) (by decide +kernel))) (goodIn_sub (fun _ h => List.mem_cons_of_mem _ (List.mem_append_right _ h)) (by decide +kernel))
set_option maxRecDepth 20000 in
theorem gL_add_X2_add : GoodIn wsL_add (wsV RL 7 RX2 yX2_add wsX2_add) := goodIn_app (goodIn_of _ (by decide +kernel)) ggL_add_X2_add
