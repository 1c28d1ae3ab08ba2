theorem dX0_init_0 : decode cX0_init 0 = .ok (.aload_n 0, 1) := by decide +kernel
theorem dX0_init_1 : decode cX0_init 1 = .ok (.invokespecial 3, 3) := by decide +kernel
theorem dX0_init_4 : decode cX0_init 4 = .ok (.aload_n 0, 1) := by decide +kernel
theorem dX0_init_5 : decode cX0_init 5 = .ok (.iconst 1, 1) := by decide +kernel
theorem dX0_init_6 : decode cX0_init 6 = .ok (.putfield 9, 3) := by decide +kernel
theorem dX0_init_9 : decode cX0_init 9 = .ok (.aload_n 0, 1) := by decide +kernel
theorem dX0_init_10 : decode cX0_init 10 = .ok (.iconst 0, 1) := by decide +kernel
theorem dX0_init_11 : decode cX0_init 11 = .ok (.putfield 15, 3) := by decide +kernel
theorem dX0_init_14 : decode cX0_init 14 = .ok (.aload_n 0, 1) := by decide +kernel
theorem dX0_init_15 : decode cX0_init 15 = .ok (.bipush 10, 2) := by decide +kernel
theorem dX0_init_17 : decode cX0_init 17 = .ok (.putfield 18, 3) := by decide +kernel
theorem dX0_init_20 : decode cX0_init 20 = .ok (.aload_n 0, 1) := by decide +kernel
theorem dX0_init_21 : decode cX0_init 21 = .ok (.iconst 0, 1) := by decide +kernel
theorem dX0_init_22 : decode cX0_init 22 = .ok (.putfield 21, 3) := by decide +kernel
theorem dX0_init_25 : decode cX0_init 25 = .ok (.aload_n 0, 1) := by decide +kernel
theorem dX0_init_26 : decode cX0_init 26 = .ok (.iconst 0, 1) := by decide +kernel
theorem dX0_init_27 : decode cX0_init 27 = .ok (.putfield 24, 3) := by decide +kernel
theorem dX0_init_30 : decode cX0_init 30 = .ok (.aload_n 0, 1) := by decide +kernel
theorem dX0_init_31 : decode cX0_init 31 = .ok (.aconst_null, 1) := by decide +kernel
theorem dX0_init_32 : decode cX0_init 32 = .ok (.putfield 28, 3) := by decide +kernel
theorem dX0_init_35 : decode cX0_init 35 = .ok (.aload_n 0, 1) := by decide +kernel
theorem dX0_init_36 : decode cX0_init 36 = .ok (.iconst 0, 1) := by decide +kernel
theorem dX0_init_37 : decode cX0_init 37 = .ok (.putfield 32, 3) := by decide +kernel
theorem dX0_init_40 : decode cX0_init 40 = .ok (.aload_n 0, 1) := by decide +kernel
theorem dX0_init_41 : decode cX0_init 41 = .ok (.iconst 0, 1) := by decide +kernel
theorem dX0_init_42 : decode cX0_init 42 = .ok (.putfield 35, 3) := by decide +kernel
theorem dX0_init_45 : decode cX0_init 45 = .ok (.aload_n 0, 1) := by decide +kernel
theorem dX0_init_46 : decode cX0_init 46 = .ok (.iconst 0, 1) := by decide +kernel
theorem dX0_init_47 : decode cX0_init 47 = .ok (.putfield 38, 3) := by decide +kernel
theorem dX0_init_50 : decode cX0_init 50 = .ok (.aload_n 0, 1) := by decide +kernel
theorem dX0_init_51 : decode cX0_init 51 = .ok (.iconst 0, 1) := by decide +kernel
theorem dX0_init_52 : decode cX0_init 52 = .ok (.putfield 41, 3) := by decide +kernel
theorem dX0_init_55 : decode cX0_init 55 = .ok (.aload_n 0, 1) := by decide +kernel
theorem dX0_init_56 : decode cX0_init 56 = .ok (.iconst 0, 1) := by decide +kernel
theorem dX0_init_57 : decode cX0_init 57 = .ok (.putfield 44, 3) := by decide +kernel
theorem dX0_init_60 : decode cX0_init 60 = .ok (.aload_n 0, 1) := by decide +kernel
theorem dX0_init_61 : decode cX0_init 61 = .ok (.iconst 0, 1) := by decide +kernel
theorem dX0_init_62 : decode cX0_init 62 = .ok (.putfield 47, 3) := by decide +kernel
theorem dX0_init_65 : decode cX0_init 65 = .ok (.aload_n 0, 1) := by decide +kernel
theorem dX0_init_66 : decode cX0_init 66 = .ok (.iload_n 1, 1) := by decide +kernel
theorem dX0_init_67 : decode cX0_init 67 = .ok (.putfield 50, 3) := by decide +kernel
theorem dX0_init_70 : decode cX0_init 70 = .ok (.return_, 1) := by decide +kernel
theorem dX0_bit_0 : decode cX0_bit 0 = .ok (.iconst 1, 1) := by decide +kernel
theorem dX0_bit_1 : decode cX0_bit 1 = .ok (.aload_n 0, 1) := by decide +kernel
theorem dX0_bit_2 : decode cX0_bit 2 = .ok (.getfield 50, 3) := by decide +kernel
theorem dX0_bit_5 : decode cX0_bit 5 = .ok (.ishl, 1) := by decide +kernel
theorem dX0_bit_6 : decode cX0_bit 6 = .ok (.ireturn, 1) := by decide +kernel
theorem dX0_resetForStart_0 : decode cX0_resetForStart 0 = .ok (.aload_n 0, 1) := by decide +kernel
theorem dX0_resetForStart_1 : decode cX0_resetForStart 1 = .ok (.aload_n 0, 1) := by decide +kernel
theorem dX0_resetForStart_2 : decode cX0_resetForStart 2 = .ok (.getfield 24, 3) := by decide +kernel
theorem dX0_resetForStart_5 : decode cX0_resetForStart 5 = .ok (.ifCond .eq 7, 3) := by decide +kernel
theorem dX0_resetForStart_8 : decode cX0_resetForStart 8 = .ok (.iconst 4, 1) := by decide +kernel
theorem dX0_resetForStart_9 : decode cX0_resetForStart 9 = .ok (.goto 4, 3) := by decide +kernel
theorem dX0_resetForStart_12 : decode cX0_resetForStart 12 = .ok (.iconst 0, 1) := by decide +kernel
theorem dX0_resetForStart_13 : decode cX0_resetForStart 13 = .ok (.putfield 38, 3) := by decide +kernel
theorem dX0_resetForStart_16 : decode cX0_resetForStart 16 = .ok (.aload_n 0, 1) := by decide +kernel
theorem dX0_resetForStart_17 : decode cX0_resetForStart 17 = .ok (.iconst 0, 1) := by decide +kernel
theorem dX0_resetForStart_18 : decode cX0_resetForStart 18 = .ok (.putfield 44, 3) := by decide +kernel
theorem dX0_resetForStart_21 : decode cX0_resetForStart 21 = .ok (.aload_n 0, 1) := by decide +kernel
theorem dX0_resetForStart_22 : decode cX0_resetForStart 22 = .ok (.aload_n 0, 1) := by decide +kernel
theorem dX0_resetForStart_23 : decode cX0_resetForStart 23 = .ok (.getfield 18, 3) := by decide +kernel
theorem dX0_resetForStart_26 : decode cX0_resetForStart 26 = .ok (.putfield 47, 3) := by decide +kernel
theorem dX0_resetForStart_29 : decode cX0_resetForStart 29 = .ok (.aload_n 0, 1) := by decide +kernel
theorem dX0_resetForStart_30 : decode cX0_resetForStart 30 = .ok (.getfield 24, 3) := by decide +kernel
theorem dX0_resetForStart_33 : decode cX0_resetForStart 33 = .ok (.ifCond .eq 7, 3) := by decide +kernel
theorem dX0_resetForStart_36 : decode cX0_resetForStart 36 = .ok (.iconst 0, 1) := by decide +kernel
theorem dX0_resetForStart_37 : decode cX0_resetForStart 37 = .ok (.goto 7, 3) := by decide +kernel
theorem dX0_resetForStart_40 : decode cX0_resetForStart 40 = .ok (.aload_n 0, 1) := by decide +kernel
theorem dX0_resetForStart_41 : decode cX0_resetForStart 41 = .ok (.getfield 18, 3) := by decide +kernel
theorem dX0_resetForStart_44 : decode cX0_resetForStart 44 = .ok (.ireturn, 1) := by decide +kernel
theorem dX0_isGone_0 : decode cX0_isGone 0 = .ok (.aload_n 0, 1) := by decide +kernel
theorem dX0_isGone_1 : decode cX0_isGone 1 = .ok (.getfield 38, 3) := by decide +kernel
theorem dX0_isGone_4 : decode cX0_isGone 4 = .ok (.iconst 3, 1) := by decide +kernel
theorem dX0_isGone_5 : decode cX0_isGone 5 = .ok (.if_icmp .eq 11, 3) := by decide +kernel
theorem dX0_isGone_8 : decode cX0_isGone 8 = .ok (.aload_n 0, 1) := by decide +kernel
theorem dX0_isGone_9 : decode cX0_isGone 9 = .ok (.getfield 38, 3) := by decide +kernel
theorem dX0_isGone_12 : decode cX0_isGone 12 = .ok (.iconst 4, 1) := by decide +kernel
theorem dX0_isGone_13 : decode cX0_isGone 13 = .ok (.if_icmp .ne 7, 3) := by decide +kernel
theorem dX0_isGone_16 : decode cX0_isGone 16 = .ok (.iconst 1, 1) := by decide +kernel
theorem dX0_isGone_17 : decode cX0_isGone 17 = .ok (.goto 4, 3) := by decide +kernel
theorem dX0_isGone_20 : decode cX0_isGone 20 = .ok (.iconst 0, 1) := by decide +kernel
theorem dX0_isGone_21 : decode cX0_isGone 21 = .ok (.ireturn, 1) := by decide +kernel
set_option maxRecDepth 20000 in
theorem ggX0_isNeedMet_X0_isGone : GoodIn wsX0_isNeedMet wsX0_isGone := goodIn_r _ [7, 1, 8, 9, 10, 11, 12, 13, 14, 15, 16, 17, 18, 19, 20] (by decide +kernel) (by decide +kernel)
set_option maxRecDepth 20000 in
theorem gX0_isNeedMet_X0_isGone : GoodIn wsX0_isNeedMet (wsV RX0 53 RX0 yX0_isGone wsX0_isGone) := goodIn_app (goodIn_of _ (by decide +kernel)) ggX0_isNeedMet_X0_isGone
theorem dX0_isNeedMet_0 : decode cX0_isNeedMet 0 = .ok (.aload_n 0, 1) := by decide +kernel
theorem dX0_isNeedMet_1 : decode cX0_isNeedMet 1 = .ok (.getfield 38, 3) := by decide +kernel
theorem dX0_isNeedMet_4 : decode cX0_isNeedMet 4 = .ok (.iconst 2, 1) := by decide +kernel
theorem dX0_isNeedMet_5 : decode cX0_isNeedMet 5 = .ok (.if_icmp .eq 28, 3) := by decide +kernel
theorem dX0_isNeedMet_8 : decode cX0_isNeedMet 8 = .ok (.aload_n 0, 1) := by decide +kernel
theorem dX0_isNeedMet_9 : decode cX0_isNeedMet 9 = .ok (.invokevirtual 53, 3) := by decide +kernel
theorem dX0_isNeedMet_12 : decode cX0_isNeedMet 12 = .ok (.ifCond .eq 25, 3) := by decide +kernel
theorem dX0_isNeedMet_15 : decode cX0_isNeedMet 15 = .ok (.aload_n 0, 1) := by decide +kernel
theorem dX0_isNeedMet_16 : decode cX0_isNeedMet 16 = .ok (.getfield 28, 3) := by decide +kernel
theorem dX0_isNeedMet_19 : decode cX0_isNeedMet 19 = .ok (.ifnull 18, 3) := by decide +kernel
theorem dX0_isNeedMet_22 : decode cX0_isNeedMet 22 = .ok (.aload_n 0, 1) := by decide +kernel
theorem dX0_isNeedMet_23 : decode cX0_isNeedMet 23 = .ok (.getfield 28, 3) := by decide +kernel
theorem dX0_isNeedMet_26 : decode cX0_isNeedMet 26 = .ok (.getfield 38, 3) := by decide +kernel
theorem dX0_isNeedMet_29 : decode cX0_isNeedMet 29 = .ok (.iconst 2, 1) := by decide +kernel
theorem dX0_isNeedMet_30 : decode cX0_isNeedMet 30 = .ok (.if_icmp .ne 7, 3) := by decide +kernel
theorem dX0_isNeedMet_33 : decode cX0_isNeedMet 33 = .ok (.iconst 1, 1) := by decide +kernel
theorem dX0_isNeedMet_34 : decode cX0_isNeedMet 34 = .ok (.goto 4, 3) := by decide +kernel
theorem dX0_isNeedMet_37 : decode cX0_isNeedMet 37 = .ok (.iconst 0, 1) := by decide +kernel
theorem dX0_isNeedMet_38 : decode cX0_isNeedMet 38 = .ok (.ireturn, 1) := by decide +kernel
set_option maxRecDepth 20000 in
theorem ggX0_isNeedLost_X0_isGone : GoodIn wsX0_isNeedLost wsX0_isGone := goodIn_r _ [6, 7, 8, 9, 10, 11, 12, 13, 14, 15, 16, 17, 18, 19, 20] (by decide +kernel) (by decide +kernel)
set_option maxRecDepth 20000 in
theorem gX0_isNeedLost_X0_isGone : GoodIn wsX0_isNeedLost (wsV RX0 53 RX0 yX0_isGone wsX0_isGone) := goodIn_app (goodIn_of _ (by decide +kernel)) ggX0_isNeedLost_X0_isGone
theorem dX0_isNeedLost_0 : decode cX0_isNeedLost 0 = .ok (.aload_n 0, 1) := by decide +kernel
theorem dX0_isNeedLost_1 : decode cX0_isNeedLost 1 = .ok (.invokevirtual 53, 3) := by decide +kernel
theorem dX0_isNeedLost_4 : decode cX0_isNeedLost 4 = .ok (.ifCond .eq 24, 3) := by decide +kernel
theorem dX0_isNeedLost_7 : decode cX0_isNeedLost 7 = .ok (.aload_n 0, 1) := by decide +kernel
theorem dX0_isNeedLost_8 : decode cX0_isNeedLost 8 = .ok (.getfield 28, 3) := by decide +kernel
theorem dX0_isNeedLost_11 : decode cX0_isNeedLost 11 = .ok (.ifnull 13, 3) := by decide +kernel
theorem dX0_isNeedLost_14 : decode cX0_isNeedLost 14 = .ok (.aload_n 0, 1) := by decide +kernel
theorem dX0_isNeedLost_15 : decode cX0_isNeedLost 15 = .ok (.getfield 28, 3) := by decide +kernel
theorem dX0_isNeedLost_18 : decode cX0_isNeedLost 18 = .ok (.invokevirtual 53, 3) := by decide +kernel
theorem dX0_isNeedLost_21 : decode cX0_isNeedLost 21 = .ok (.ifCond .eq 7, 3) := by decide +kernel
theorem dX0_isNeedLost_24 : decode cX0_isNeedLost 24 = .ok (.iconst 1, 1) := by decide +kernel
theorem dX0_isNeedLost_25 : decode cX0_isNeedLost 25 = .ok (.goto 4, 3) := by decide +kernel
theorem dX0_isNeedLost_28 : decode cX0_isNeedLost 28 = .ok (.iconst 0, 1) := by decide +kernel
theorem dX0_isNeedLost_29 : decode cX0_isNeedLost 29 = .ok (.ireturn, 1) := by decide +kernel
set_option maxRecDepth 20000 in
theorem ggX0_isWishDone_X0_isGone : GoodIn wsX0_isWishDone wsX0_isGone := goodIn_r _ [6, 1, 7, 8, 9, 10, 11, 12, 13, 14, 15, 16, 17, 18, 19] (by decide +kernel) (by decide +kernel)
set_option maxRecDepth 20000 in
theorem gX0_isWishDone_X0_isGone : GoodIn wsX0_isWishDone (wsV RX0 53 RX0 yX0_isGone wsX0_isGone) := goodIn_app (goodIn_of _ (by decide +kernel)) ggX0_isWishDone_X0_isGone
theorem dX0_isWishDone_0 : decode cX0_isWishDone 0 = .ok (.aload_n 0, 1) := by decide +kernel
theorem dX0_isWishDone_1 : decode cX0_isWishDone 1 = .ok (.getfield 38, 3) := by decide +kernel
theorem dX0_isWishDone_4 : decode cX0_isWishDone 4 = .ok (.iconst 2, 1) := by decide +kernel
theorem dX0_isWishDone_5 : decode cX0_isWishDone 5 = .ok (.if_icmp .eq 10, 3) := by decide +kernel
theorem dX0_isWishDone_8 : decode cX0_isWishDone 8 = .ok (.aload_n 0, 1) := by decide +kernel
theorem dX0_isWishDone_9 : decode cX0_isWishDone 9 = .ok (.invokevirtual 53, 3) := by decide +kernel
theorem dX0_isWishDone_12 : decode cX0_isWishDone 12 = .ok (.ifCond .eq 7, 3) := by decide +kernel
theorem dX0_isWishDone_15 : decode cX0_isWishDone 15 = .ok (.iconst 1, 1) := by decide +kernel
theorem dX0_isWishDone_16 : decode cX0_isWishDone 16 = .ok (.goto 4, 3) := by decide +kernel
theorem dX0_isWishDone_19 : decode cX0_isWishDone 19 = .ok (.iconst 0, 1) := by decide +kernel
theorem dX0_isWishDone_20 : decode cX0_isWishDone 20 = .ok (.ireturn, 1) := by decide +kernel
theorem dX0_comeToEnd_0 : decode cX0_comeToEnd 0 = .ok (.aload_n 0, 1) := by decide +kernel
theorem dX0_comeToEnd_1 : decode cX0_comeToEnd 1 = .ok (.getfield 21, 3) := by decide +kernel
theorem dX0_comeToEnd_4 : decode cX0_comeToEnd 4 = .ok (.ifCond .ne 28, 3) := by decide +kernel
theorem dX0_comeToEnd_7 : decode cX0_comeToEnd 7 = .ok (.aload_n 0, 1) := by decide +kernel
theorem dX0_comeToEnd_8 : decode cX0_comeToEnd 8 = .ok (.iconst 2, 1) := by decide +kernel
theorem dX0_comeToEnd_9 : decode cX0_comeToEnd 9 = .ok (.putfield 38, 3) := by decide +kernel
theorem dX0_comeToEnd_12 : decode cX0_comeToEnd 12 = .ok (.aload_n 0, 1) := by decide +kernel
theorem dX0_comeToEnd_13 : decode cX0_comeToEnd 13 = .ok (.iconst 1, 1) := by decide +kernel
theorem dX0_comeToEnd_14 : decode cX0_comeToEnd 14 = .ok (.aload_n 0, 1) := by decide +kernel
theorem dX0_comeToEnd_15 : decode cX0_comeToEnd 15 = .ok (.getfield 18, 3) := by decide +kernel
theorem dX0_comeToEnd_18 : decode cX0_comeToEnd 18 = .ok (.aload_n 0, 1) := by decide +kernel
theorem dX0_comeToEnd_19 : decode cX0_comeToEnd 19 = .ok (.getfield 9, 3) := by decide +kernel
theorem dX0_comeToEnd_22 : decode cX0_comeToEnd 22 = .ok (.iadd, 1) := by decide +kernel
theorem dX0_comeToEnd_23 : decode cX0_comeToEnd 23 = .ok (.iconst 2, 1) := by decide +kernel
theorem dX0_comeToEnd_24 : decode cX0_comeToEnd 24 = .ok (.idiv, 1) := by decide +kernel
theorem dX0_comeToEnd_25 : decode cX0_comeToEnd 25 = .ok (.invokestatic 57, 3) := by decide +kernel
theorem dX0_comeToEnd_28 : decode cX0_comeToEnd 28 = .ok (.putfield 18, 3) := by decide +kernel
theorem dX0_comeToEnd_31 : decode cX0_comeToEnd 31 = .ok (.return_, 1) := by decide +kernel
theorem dX0_comeToEnd_32 : decode cX0_comeToEnd 32 = .ok (.aload_n 0, 1) := by decide +kernel
theorem dX0_comeToEnd_33 : decode cX0_comeToEnd 33 = .ok (.dup, 1) := by decide +kernel
theorem dX0_comeToEnd_34 : decode cX0_comeToEnd 34 = .ok (.getfield 21, 3) := by decide +kernel
theorem dX0_comeToEnd_37 : decode cX0_comeToEnd 37 = .ok (.iconst 1, 1) := by decide +kernel
theorem dX0_comeToEnd_38 : decode cX0_comeToEnd 38 = .ok (.isub, 1) := by decide +kernel
theorem dX0_comeToEnd_39 : decode cX0_comeToEnd 39 = .ok (.putfield 21, 3) := by decide +kernel
theorem dX0_comeToEnd_42 : decode cX0_comeToEnd 42 = .ok (.aload_n 0, 1) := by decide +kernel
theorem dX0_comeToEnd_43 : decode cX0_comeToEnd 43 = .ok (.getfield 44, 3) := by decide +kernel
theorem dX0_comeToEnd_46 : decode cX0_comeToEnd 46 = .ok (.aload_n 0, 1) := by decide +kernel
theorem dX0_comeToEnd_47 : decode cX0_comeToEnd 47 = .ok (.getfield 15, 3) := by decide +kernel
theorem dX0_comeToEnd_50 : decode cX0_comeToEnd 50 = .ok (.if_icmp .ge 21, 3) := by decide +kernel
theorem dX0_comeToEnd_53 : decode cX0_comeToEnd 53 = .ok (.aload_n 0, 1) := by decide +kernel
theorem dX0_comeToEnd_54 : decode cX0_comeToEnd 54 = .ok (.dup, 1) := by decide +kernel
theorem dX0_comeToEnd_55 : decode cX0_comeToEnd 55 = .ok (.getfield 44, 3) := by decide +kernel
theorem dX0_comeToEnd_58 : decode cX0_comeToEnd 58 = .ok (.iconst 1, 1) := by decide +kernel
theorem dX0_comeToEnd_59 : decode cX0_comeToEnd 59 = .ok (.iadd, 1) := by decide +kernel
theorem dX0_comeToEnd_60 : decode cX0_comeToEnd 60 = .ok (.putfield 44, 3) := by decide +kernel
theorem dX0_comeToEnd_63 : decode cX0_comeToEnd 63 = .ok (.aload_n 0, 1) := by decide +kernel
theorem dX0_comeToEnd_64 : decode cX0_comeToEnd 64 = .ok (.iconst 0, 1) := by decide +kernel
theorem dX0_comeToEnd_65 : decode cX0_comeToEnd 65 = .ok (.putfield 38, 3) := by decide +kernel
theorem dX0_comeToEnd_68 : decode cX0_comeToEnd 68 = .ok (.goto 8, 3) := by decide +kernel
theorem dX0_comeToEnd_71 : decode cX0_comeToEnd 71 = .ok (.aload_n 0, 1) := by decide +kernel
theorem dX0_comeToEnd_72 : decode cX0_comeToEnd 72 = .ok (.iconst 3, 1) := by decide +kernel
theorem dX0_comeToEnd_73 : decode cX0_comeToEnd 73 = .ok (.putfield 38, 3) := by decide +kernel
theorem dX0_comeToEnd_76 : decode cX0_comeToEnd 76 = .ok (.return_, 1) := by decide +kernel
theorem dX0_timeDone_0 : decode cX0_timeDone 0 = .ok (.aload_n 0, 1) := by decide +kernel
theorem dX0_timeDone_1 : decode cX0_timeDone 1 = .ok (.getfield 38, 3) := by decide +kernel
theorem dX0_timeDone_4 : decode cX0_timeDone 4 = .ok (.iconst 2, 1) := by decide +kernel
theorem dX0_timeDone_5 : decode cX0_timeDone 5 = .ok (.if_icmp .eq 11, 3) := by decide +kernel
theorem dX0_timeDone_8 : decode cX0_timeDone 8 = .ok (.aload_n 0, 1) := by decide +kernel
theorem dX0_timeDone_9 : decode cX0_timeDone 9 = .ok (.getfield 38, 3) := by decide +kernel
theorem dX0_timeDone_12 : decode cX0_timeDone 12 = .ok (.iconst 3, 1) := by decide +kernel
theorem dX0_timeDone_13 : decode cX0_timeDone 13 = .ok (.if_icmp .ne 8, 3) := by decide +kernel
theorem dX0_timeDone_16 : decode cX0_timeDone 16 = .ok (.aload_n 0, 1) := by decide +kernel
theorem dX0_timeDone_17 : decode cX0_timeDone 17 = .ok (.getfield 47, 3) := by decide +kernel
theorem dX0_timeDone_20 : decode cX0_timeDone 20 = .ok (.ireturn, 1) := by decide +kernel
theorem dX0_timeDone_21 : decode cX0_timeDone 21 = .ok (.aload_n 0, 1) := by decide +kernel
theorem dX0_timeDone_22 : decode cX0_timeDone 22 = .ok (.getfield 38, 3) := by decide +kernel
theorem dX0_timeDone_25 : decode cX0_timeDone 25 = .ok (.iconst 1, 1) := by decide +kernel
theorem dX0_timeDone_26 : decode cX0_timeDone 26 = .ok (.if_icmp .ne 17, 3) := by decide +kernel
theorem dX0_timeDone_29 : decode cX0_timeDone 29 = .ok (.aload_n 0, 1) := by decide +kernel
theorem dX0_timeDone_30 : decode cX0_timeDone 30 = .ok (.getfield 41, 3) := by decide +kernel
theorem dX0_timeDone_33 : decode cX0_timeDone 33 = .ok (.aload_n 0, 1) := by decide +kernel
theorem dX0_timeDone_34 : decode cX0_timeDone 34 = .ok (.getfield 47, 3) := by decide +kernel
theorem dX0_timeDone_37 : decode cX0_timeDone 37 = .ok (.invokestatic 63, 3) := by decide +kernel
theorem dX0_timeDone_40 : decode cX0_timeDone 40 = .ok (.goto 4, 3) := by decide +kernel
theorem dX0_timeDone_43 : decode cX0_timeDone 43 = .ok (.iconst 0, 1) := by decide +kernel
theorem dX0_timeDone_44 : decode cX0_timeDone 44 = .ok (.ireturn, 1) := by decide +kernel
theorem dX1_init_0 : decode cX1_init 0 = .ok (.aload_n 0, 1) := by decide +kernel
theorem dX1_init_1 : decode cX1_init 1 = .ok (.invokespecial 1, 3) := by decide +kernel
theorem dX1_init_4 : decode cX1_init 4 = .ok (.aload_n 0, 1) := by decide +kernel
theorem dX1_init_5 : decode cX1_init 5 = .ok (.aload_n 1, 1) := by decide +kernel
theorem dX1_init_6 : decode cX1_init 6 = .ok (.putfield 7, 3) := by decide +kernel
theorem dX1_init_9 : decode cX1_init 9 = .ok (.aload_n 0, 1) := by decide +kernel
theorem dX1_init_10 : decode cX1_init 10 = .ok (.aload_n 2, 1) := by decide +kernel
theorem dX1_init_11 : decode cX1_init 11 = .ok (.putfield 13, 3) := by decide +kernel
theorem dX1_init_14 : decode cX1_init 14 = .ok (.aload_n 0, 1) := by decide +kernel
theorem dX1_init_15 : decode cX1_init 15 = .ok (.iload_n 3, 1) := by decide +kernel
theorem dX1_init_16 : decode cX1_init 16 = .ok (.putfield 16, 3) := by decide +kernel
theorem dX1_init_19 : decode cX1_init 19 = .ok (.return_, 1) := by decide +kernel
set_option maxRecDepth 20000 in
theorem ggX2_init_Jx4a65c_init_da8c8 : GoodIn wsX2_init wsJx4a65c_init_da8c8 := goodIn_r _ [19, 20, 21, 22, 23, 24, 25, 26, 27, 28, 29, 30, 31, 2, 3, 56, 57, 58] (by decide +kernel) (by decide +kernel)
set_option maxRecDepth 20000 in
theorem gX2_init_Jx4a65c_init_da8c8 : GoodIn wsX2_init (wsJx4a65c_init_da8c8) := ggX2_init_Jx4a65c_init_da8c8
set_option maxRecDepth 20000 in
theorem ggX2_init_X0_init : GoodIn wsX2_init wsX0_init := goodIn_r _ [34, 35, 2, 3, 36, 37, 38, 39, 40, 41, 42, 43, 44, 45, 46, 47, 48, 59, 60, 61, 62, 63, 64, 65, 66, 67, 68, 69, 70, 71] (by decide +kernel) (by decide +kernel)
set_option maxRecDepth 20000 in
theorem gX2_init_X0_init : GoodIn wsX2_init (wsX0_init) := ggX2_init_X0_init
