section
-- ===== PART A: goes FIRST, ahead of the names: the tables' words, and 'selects' of the private methods out of them =====
/-- a private method of a class that the tables say can be made, by its rows of tables_1 -/
def lw_okq (q : MethodName × Nat) : Prop := (q.1.cls ≠ "java/lang/invoke/MethodHandle" ∧ q.1.cls ≠ "java/lang/invoke/VarHandle") ∧ Cond.instantiable q.1.cls q.2 ∈ tables_1 ∧ Cond.privateMethod q.1 ∈ tables_1 ∧ Cond.instanceMethod q.1 ∈ tables_1
theorem lw_p0 : lw_okq (⟨"BootStage", "ableAlone", "()I"⟩, 7) := ⟨⟨by decide +kernel, by decide +kernel⟩, List.mem_of_getElem? (i := 21) (by decide +kernel), List.mem_of_getElem? (i := 159) (by decide +kernel), List.mem_of_getElem? (i := 160) (by decide +kernel)⟩
theorem lw_p1 : lw_okq (⟨"BootStage", "keepSupplied", "(I)I"⟩, 7) := ⟨⟨by decide +kernel, by decide +kernel⟩, List.mem_of_getElem? (i := 21) (by decide +kernel), List.mem_of_getElem? (i := 163) (by decide +kernel), List.mem_of_getElem? (i := 164) (by decide +kernel)⟩
theorem lw_p2 : lw_okq (⟨"BootStage", "contains", "(ILBootStage$Unit;)Z"⟩, 7) := ⟨⟨by decide +kernel, by decide +kernel⟩, List.mem_of_getElem? (i := 21) (by decide +kernel), List.mem_of_getElem? (i := 167) (by decide +kernel), List.mem_of_getElem? (i := 168) (by decide +kernel)⟩
theorem lw_p3 : lw_okq (⟨"BootStage", "checkRange", "(III)V"⟩, 7) := ⟨⟨by decide +kernel, by decide +kernel⟩, List.mem_of_getElem? (i := 21) (by decide +kernel), List.mem_of_getElem? (i := 180) (by decide +kernel), List.mem_of_getElem? (i := 181) (by decide +kernel)⟩
theorem lw_p4 : lw_okq (⟨"java/lang/Throwable", "fillInStackTrace", "(I)Ljava/lang/Throwable;"⟩, 6) := ⟨⟨by decide +kernel, by decide +kernel⟩, List.mem_of_getElem? (i := 222) (by decide +kernel), List.mem_of_getElem? (i := 220) (by decide +kernel), List.mem_of_getElem? (i := 221) (by decide +kernel)⟩
theorem lw_p5 : lw_okq (⟨"BootStage", "checkNoStart", "()V"⟩, 7) := ⟨⟨by decide +kernel, by decide +kernel⟩, List.mem_of_getElem? (i := 21) (by decide +kernel), List.mem_of_getElem? (i := 268) (by decide +kernel), List.mem_of_getElem? (i := 269) (by decide +kernel)⟩
theorem lw_p6 : lw_okq (⟨"BootStage", "unitAt", "(I)LBootStage$Unit;"⟩, 7) := ⟨⟨by decide +kernel, by decide +kernel⟩, List.mem_of_getElem? (i := 21) (by decide +kernel), List.mem_of_getElem? (i := 281) (by decide +kernel), List.mem_of_getElem? (i := 282) (by decide +kernel)⟩
theorem lw_p7 : lw_okq (⟨"BootStage", "reaches", "(LBootStage$Unit;LBootStage$Unit;Z)Z"⟩, 7) := ⟨⟨by decide +kernel, by decide +kernel⟩, List.mem_of_getElem? (i := 21) (by decide +kernel), List.mem_of_getElem? (i := 301) (by decide +kernel), List.mem_of_getElem? (i := 302) (by decide +kernel)⟩
theorem lw_p8 : lw_okq (⟨"BootStage", "checkDifferent", "(LBootStage$Unit;LBootStage$Unit;)V"⟩, 7) := ⟨⟨by decide +kernel, by decide +kernel⟩, List.mem_of_getElem? (i := 21) (by decide +kernel), List.mem_of_getElem? (i := 313) (by decide +kernel), List.mem_of_getElem? (i := 314) (by decide +kernel)⟩
theorem lw_p9 : lw_okq (⟨"BootStage", "findWish", "(LBootStage$Unit;LBootStage$Unit;)LBootStage$Wish;"⟩, 7) := ⟨⟨by decide +kernel, by decide +kernel⟩, List.mem_of_getElem? (i := 21) (by decide +kernel), List.mem_of_getElem? (i := 318) (by decide +kernel), List.mem_of_getElem? (i := 319) (by decide +kernel)⟩
theorem lw_p10 : lw_okq (⟨"java/util/ArrayList", "add", "(Ljava/lang/Object;[Ljava/lang/Object;I)V"⟩, 3) := ⟨⟨by decide +kernel, by decide +kernel⟩, List.mem_of_getElem? (i := 31) (by decide +kernel), List.mem_of_getElem? (i := 363) (by decide +kernel), List.mem_of_getElem? (i := 364) (by decide +kernel)⟩
theorem lw_p11 : lw_okq (⟨"java/util/ArrayList", "grow", "()[Ljava/lang/Object;"⟩, 3) := ⟨⟨by decide +kernel, by decide +kernel⟩, List.mem_of_getElem? (i := 31) (by decide +kernel), List.mem_of_getElem? (i := 367) (by decide +kernel), List.mem_of_getElem? (i := 368) (by decide +kernel)⟩
theorem lw_p12 : lw_okq (⟨"java/util/ArrayList", "grow", "(I)[Ljava/lang/Object;"⟩, 3) := ⟨⟨by decide +kernel, by decide +kernel⟩, List.mem_of_getElem? (i := 31) (by decide +kernel), List.mem_of_getElem? (i := 371) (by decide +kernel), List.mem_of_getElem? (i := 372) (by decide +kernel)⟩
theorem lw_p13 : lw_okq (⟨"BootStage", "cutLoops", "()I"⟩, 7) := ⟨⟨by decide +kernel, by decide +kernel⟩, List.mem_of_getElem? (i := 21) (by decide +kernel), List.mem_of_getElem? (i := 463) (by decide +kernel), List.mem_of_getElem? (i := 464) (by decide +kernel)⟩
theorem lw_p14 : lw_okq (⟨"BootStage", "keepAllWishes", "()V"⟩, 7) := ⟨⟨by decide +kernel, by decide +kernel⟩, List.mem_of_getElem? (i := 21) (by decide +kernel), List.mem_of_getElem? (i := 467) (by decide +kernel), List.mem_of_getElem? (i := 468) (by decide +kernel)⟩
theorem lw_p15 : lw_okq (⟨"BootStage", "raiseBar", "()V"⟩, 7) := ⟨⟨by decide +kernel, by decide +kernel⟩, List.mem_of_getElem? (i := 21) (by decide +kernel), List.mem_of_getElem? (i := 475) (by decide +kernel), List.mem_of_getElem? (i := 476) (by decide +kernel)⟩
def lw_privs_1 : List (MethodName × Nat) := [(⟨"BootStage", "ableAlone", "()I"⟩, 7), (⟨"BootStage", "keepSupplied", "(I)I"⟩, 7), (⟨"BootStage", "contains", "(ILBootStage$Unit;)Z"⟩, 7), (⟨"BootStage", "checkRange", "(III)V"⟩, 7), (⟨"java/lang/Throwable", "fillInStackTrace", "(I)Ljava/lang/Throwable;"⟩, 6), (⟨"BootStage", "checkNoStart", "()V"⟩, 7), (⟨"BootStage", "unitAt", "(I)LBootStage$Unit;"⟩, 7), (⟨"BootStage", "reaches", "(LBootStage$Unit;LBootStage$Unit;Z)Z"⟩, 7), (⟨"BootStage", "checkDifferent", "(LBootStage$Unit;LBootStage$Unit;)V"⟩, 7), (⟨"BootStage", "findWish", "(LBootStage$Unit;LBootStage$Unit;)LBootStage$Wish;"⟩, 7), (⟨"java/util/ArrayList", "add", "(Ljava/lang/Object;[Ljava/lang/Object;I)V"⟩, 3), (⟨"java/util/ArrayList", "grow", "()[Ljava/lang/Object;"⟩, 3), (⟨"java/util/ArrayList", "grow", "(I)[Ljava/lang/Object;"⟩, 3), (⟨"BootStage", "cutLoops", "()I"⟩, 7), (⟨"BootStage", "keepAllWishes", "()V"⟩, 7), (⟨"BootStage", "raiseBar", "()V"⟩, 7)]
theorem lw_r1 : ∀ q ∈ lw_privs_1, lw_okq q := List.forall_mem_cons.mpr ⟨lw_p0, List.forall_mem_cons.mpr ⟨lw_p1, List.forall_mem_cons.mpr ⟨lw_p2, List.forall_mem_cons.mpr ⟨lw_p3, List.forall_mem_cons.mpr ⟨lw_p4, List.forall_mem_cons.mpr ⟨lw_p5, List.forall_mem_cons.mpr ⟨lw_p6, List.forall_mem_cons.mpr ⟨lw_p7, List.forall_mem_cons.mpr ⟨lw_p8, List.forall_mem_cons.mpr ⟨lw_p9, List.forall_mem_cons.mpr ⟨lw_p10, List.forall_mem_cons.mpr ⟨lw_p11, List.forall_mem_cons.mpr ⟨lw_p12, List.forall_mem_cons.mpr ⟨lw_p13, List.forall_mem_cons.mpr ⟨lw_p14, List.forall_mem_cons.mpr ⟨lw_p15, fun _ h => absurd h List.not_mem_nil⟩⟩⟩⟩⟩⟩⟩⟩⟩⟩⟩⟩⟩⟩⟩⟩
theorem lw_p16 : lw_okq (⟨"BootStage", "timeDone", "()I"⟩, 7) := ⟨⟨by decide +kernel, by decide +kernel⟩, List.mem_of_getElem? (i := 21) (by decide +kernel), List.mem_of_getElem? (i := 479) (by decide +kernel), List.mem_of_getElem? (i := 480) (by decide +kernel)⟩
theorem lw_p17 : lw_okq (⟨"BootStage", "passOneTick", "()V"⟩, 7) := ⟨⟨by decide +kernel, by decide +kernel⟩, List.mem_of_getElem? (i := 21) (by decide +kernel), List.mem_of_getElem? (i := 497) (by decide +kernel), List.mem_of_getElem? (i := 498) (by decide +kernel)⟩
theorem lw_p18 : lw_okq (⟨"BootStage", "endStarts", "()V"⟩, 7) := ⟨⟨by decide +kernel, by decide +kernel⟩, List.mem_of_getElem? (i := 21) (by decide +kernel), List.mem_of_getElem? (i := 501) (by decide +kernel), List.mem_of_getElem? (i := 502) (by decide +kernel)⟩
theorem lw_p19 : lw_okq (⟨"BootStage", "failWithoutNeeds", "()V"⟩, 7) := ⟨⟨by decide +kernel, by decide +kernel⟩, List.mem_of_getElem? (i := 21) (by decide +kernel), List.mem_of_getElem? (i := 510) (by decide +kernel), List.mem_of_getElem? (i := 511) (by decide +kernel)⟩
theorem lw_p20 : lw_okq (⟨"BootStage", "lostNeeds", "()I"⟩, 7) := ⟨⟨by decide +kernel, by decide +kernel⟩, List.mem_of_getElem? (i := 21) (by decide +kernel), List.mem_of_getElem? (i := 514) (by decide +kernel), List.mem_of_getElem? (i := 515) (by decide +kernel)⟩
theorem lw_p21 : lw_okq (⟨"BootStage", "startWaiting", "()I"⟩, 7) := ⟨⟨by decide +kernel, by decide +kernel⟩, List.mem_of_getElem? (i := 21) (by decide +kernel), List.mem_of_getElem? (i := 526) (by decide +kernel), List.mem_of_getElem? (i := 527) (by decide +kernel)⟩
theorem lw_p22 : lw_okq (⟨"BootStage", "metNeeds", "()I"⟩, 7) := ⟨⟨by decide +kernel, by decide +kernel⟩, List.mem_of_getElem? (i := 21) (by decide +kernel), List.mem_of_getElem? (i := 530) (by decide +kernel), List.mem_of_getElem? (i := 531) (by decide +kernel)⟩
theorem lw_p23 : lw_okq (⟨"BootStage", "doneWishes", "()I"⟩, 7) := ⟨⟨by decide +kernel, by decide +kernel⟩, List.mem_of_getElem? (i := 21) (by decide +kernel), List.mem_of_getElem? (i := 538) (by decide +kernel), List.mem_of_getElem? (i := 539) (by decide +kernel)⟩
theorem lw_p24 : lw_okq (⟨"BootStage", "countStarting", "()I"⟩, 7) := ⟨⟨by decide +kernel, by decide +kernel⟩, List.mem_of_getElem? (i := 21) (by decide +kernel), List.mem_of_getElem? (i := 546) (by decide +kernel), List.mem_of_getElem? (i := 547) (by decide +kernel)⟩
theorem lw_p25 : lw_okq (⟨"BootStage", "isAwaited", "(LBootStage$Unit;LBootStage$Unit;)Z"⟩, 7) := ⟨⟨by decide +kernel, by decide +kernel⟩, List.mem_of_getElem? (i := 21) (by decide +kernel), List.mem_of_getElem? (i := 564) (by decide +kernel), List.mem_of_getElem? (i := 565) (by decide +kernel)⟩
theorem lw_p26 : lw_okq (⟨"BootStageModel", "goes", "(I)Z"⟩, 23) := ⟨⟨by decide +kernel, by decide +kernel⟩, List.mem_of_getElem? (i := 568) (by decide +kernel), List.mem_of_getElem? (i := 657) (by decide +kernel), List.mem_of_getElem? (i := 658) (by decide +kernel)⟩
theorem lw_p27 : lw_okq (⟨"BootStageModel", "isUnit", "(I)Z"⟩, 23) := ⟨⟨by decide +kernel, by decide +kernel⟩, List.mem_of_getElem? (i := 568) (by decide +kernel), List.mem_of_getElem? (i := 665) (by decide +kernel), List.mem_of_getElem? (i := 666) (by decide +kernel)⟩
theorem lw_p28 : lw_okq (⟨"BootStageModel", "reaches", "(IIZ)Z"⟩, 23) := ⟨⟨by decide +kernel, by decide +kernel⟩, List.mem_of_getElem? (i := 568) (by decide +kernel), List.mem_of_getElem? (i := 669) (by decide +kernel), List.mem_of_getElem? (i := 670) (by decide +kernel)⟩
theorem lw_p29 : lw_okq (⟨"BootStageModel", "asks", "(I)Z"⟩, 23) := ⟨⟨by decide +kernel, by decide +kernel⟩, List.mem_of_getElem? (i := 568) (by decide +kernel), List.mem_of_getElem? (i := 704) (by decide +kernel), List.mem_of_getElem? (i := 705) (by decide +kernel)⟩
theorem lw_p30 : lw_okq (⟨"BootStageModel", "weakest", "()I"⟩, 23) := ⟨⟨by decide +kernel, by decide +kernel⟩, List.mem_of_getElem? (i := 568) (by decide +kernel), List.mem_of_getElem? (i := 716) (by decide +kernel), List.mem_of_getElem? (i := 717) (by decide +kernel)⟩
theorem lw_p31 : lw_okq (⟨"BootStageModel", "raised", "()I"⟩, 23) := ⟨⟨by decide +kernel, by decide +kernel⟩, List.mem_of_getElem? (i := 568) (by decide +kernel), List.mem_of_getElem? (i := 720) (by decide +kernel), List.mem_of_getElem? (i := 721) (by decide +kernel)⟩
def lw_privs_2 : List (MethodName × Nat) := [(⟨"BootStage", "timeDone", "()I"⟩, 7), (⟨"BootStage", "passOneTick", "()V"⟩, 7), (⟨"BootStage", "endStarts", "()V"⟩, 7), (⟨"BootStage", "failWithoutNeeds", "()V"⟩, 7), (⟨"BootStage", "lostNeeds", "()I"⟩, 7), (⟨"BootStage", "startWaiting", "()I"⟩, 7), (⟨"BootStage", "metNeeds", "()I"⟩, 7), (⟨"BootStage", "doneWishes", "()I"⟩, 7), (⟨"BootStage", "countStarting", "()I"⟩, 7), (⟨"BootStage", "isAwaited", "(LBootStage$Unit;LBootStage$Unit;)Z"⟩, 7), (⟨"BootStageModel", "goes", "(I)Z"⟩, 23), (⟨"BootStageModel", "isUnit", "(I)Z"⟩, 23), (⟨"BootStageModel", "reaches", "(IIZ)Z"⟩, 23), (⟨"BootStageModel", "asks", "(I)Z"⟩, 23), (⟨"BootStageModel", "weakest", "()I"⟩, 23), (⟨"BootStageModel", "raised", "()I"⟩, 23)]
theorem lw_r2 : ∀ q ∈ lw_privs_2, lw_okq q := List.forall_mem_cons.mpr ⟨lw_p16, List.forall_mem_cons.mpr ⟨lw_p17, List.forall_mem_cons.mpr ⟨lw_p18, List.forall_mem_cons.mpr ⟨lw_p19, List.forall_mem_cons.mpr ⟨lw_p20, List.forall_mem_cons.mpr ⟨lw_p21, List.forall_mem_cons.mpr ⟨lw_p22, List.forall_mem_cons.mpr ⟨lw_p23, List.forall_mem_cons.mpr ⟨lw_p24, List.forall_mem_cons.mpr ⟨lw_p25, List.forall_mem_cons.mpr ⟨lw_p26, List.forall_mem_cons.mpr ⟨lw_p27, List.forall_mem_cons.mpr ⟨lw_p28, List.forall_mem_cons.mpr ⟨lw_p29, List.forall_mem_cons.mpr ⟨lw_p30, List.forall_mem_cons.mpr ⟨lw_p31, fun _ h => absurd h List.not_mem_nil⟩⟩⟩⟩⟩⟩⟩⟩⟩⟩⟩⟩⟩⟩⟩⟩
theorem lw_p32 : lw_okq (⟨"BootStageModel", "passes", "()V"⟩, 23) := ⟨⟨by decide +kernel, by decide +kernel⟩, List.mem_of_getElem? (i := 568) (by decide +kernel), List.mem_of_getElem? (i := 728) (by decide +kernel), List.mem_of_getElem? (i := 729) (by decide +kernel)⟩
theorem lw_p33 : lw_okq (⟨"BootStageModel", "ends", "(I)V"⟩, 23) := ⟨⟨by decide +kernel, by decide +kernel⟩, List.mem_of_getElem? (i := 568) (by decide +kernel), List.mem_of_getElem? (i := 732) (by decide +kernel), List.mem_of_getElem? (i := 733) (by decide +kernel)⟩
theorem lw_p34 : lw_okq (⟨"BootStageModel", "isSo", "(II)Z"⟩, 23) := ⟨⟨by decide +kernel, by decide +kernel⟩, List.mem_of_getElem? (i := 568) (by decide +kernel), List.mem_of_getElem? (i := 736) (by decide +kernel), List.mem_of_getElem? (i := 737) (by decide +kernel)⟩
theorem lw_p35 : lw_okq (⟨"BootStageModel", "isLost", "(I)Z"⟩, 23) := ⟨⟨by decide +kernel, by decide +kernel⟩, List.mem_of_getElem? (i := 568) (by decide +kernel), List.mem_of_getElem? (i := 740) (by decide +kernel), List.mem_of_getElem? (i := 741) (by decide +kernel)⟩
theorem lw_p36 : lw_okq (⟨"BootStageModel", "isOff", "(I)Z"⟩, 23) := ⟨⟨by decide +kernel, by decide +kernel⟩, List.mem_of_getElem? (i := 568) (by decide +kernel), List.mem_of_getElem? (i := 744) (by decide +kernel), List.mem_of_getElem? (i := 745) (by decide +kernel)⟩
theorem lw_p37 : lw_okq (⟨"BootStageModel", "waits", "(II)Z"⟩, 23) := ⟨⟨by decide +kernel, by decide +kernel⟩, List.mem_of_getElem? (i := 568) (by decide +kernel), List.mem_of_getElem? (i := 748) (by decide +kernel), List.mem_of_getElem? (i := 749) (by decide +kernel)⟩
theorem lw_p38 : lw_okq (⟨"BootStageModel", "isMet", "(I)Z"⟩, 23) := ⟨⟨by decide +kernel, by decide +kernel⟩, List.mem_of_getElem? (i := 568) (by decide +kernel), List.mem_of_getElem? (i := 752) (by decide +kernel), List.mem_of_getElem? (i := 753) (by decide +kernel)⟩
theorem lw_p39 : lw_okq (⟨"BootStageModel", "starting", "()I"⟩, 23) := ⟨⟨by decide +kernel, by decide +kernel⟩, List.mem_of_getElem? (i := 568) (by decide +kernel), List.mem_of_getElem? (i := 756) (by decide +kernel), List.mem_of_getElem? (i := 757) (by decide +kernel)⟩
theorem lw_p40 : lw_okq (⟨"BootStageModel", "canRunIn", "(II)Z"⟩, 23) := ⟨⟨by decide +kernel, by decide +kernel⟩, List.mem_of_getElem? (i := 568) (by decide +kernel), List.mem_of_getElem? (i := 784) (by decide +kernel), List.mem_of_getElem? (i := 785) (by decide +kernel)⟩
def lw_privs_3 : List (MethodName × Nat) := [(⟨"BootStageModel", "passes", "()V"⟩, 23), (⟨"BootStageModel", "ends", "(I)V"⟩, 23), (⟨"BootStageModel", "isSo", "(II)Z"⟩, 23), (⟨"BootStageModel", "isLost", "(I)Z"⟩, 23), (⟨"BootStageModel", "isOff", "(I)Z"⟩, 23), (⟨"BootStageModel", "waits", "(II)Z"⟩, 23), (⟨"BootStageModel", "isMet", "(I)Z"⟩, 23), (⟨"BootStageModel", "starting", "()I"⟩, 23), (⟨"BootStageModel", "canRunIn", "(II)Z"⟩, 23)]
theorem lw_r3 : ∀ q ∈ lw_privs_3, lw_okq q := List.forall_mem_cons.mpr ⟨lw_p32, List.forall_mem_cons.mpr ⟨lw_p33, List.forall_mem_cons.mpr ⟨lw_p34, List.forall_mem_cons.mpr ⟨lw_p35, List.forall_mem_cons.mpr ⟨lw_p36, List.forall_mem_cons.mpr ⟨lw_p37, List.forall_mem_cons.mpr ⟨lw_p38, List.forall_mem_cons.mpr ⟨lw_p39, List.forall_mem_cons.mpr ⟨lw_p40, fun _ h => absurd h List.not_mem_nil⟩⟩⟩⟩⟩⟩⟩⟩⟩
def lw_privs : List (MethodName × Nat) := lw_privs_1 ++ (lw_privs_2 ++ (lw_privs_3))
def lw_tbl : List Cond := k2_sels lw_privs ++ tables_1
theorem lw_privs_ok : ∀ q ∈ lw_privs, lw_okq q := by
  show ∀ q ∈ lw_privs_1 ++ (lw_privs_2 ++ (lw_privs_3)), lw_okq q
  exact List.forall_mem_append.mpr ⟨lw_r1, List.forall_mem_append.mpr ⟨lw_r2, lw_r3⟩⟩
-- ===== end of PART A; then your names; then what follows =====
end
section
/-! ===== BEGIN words of one list among another's, by their places ===== -/
theorem goodIn_r {big : List Cond} (ws : List Cond) (ps : List Nat) (hp : ws = ps.filterMap (fun i => big[i]?)) (h : ws.all goodWord = true) : GoodIn big ws := by
  intro w hw
  have h1 := List.all_eq_true.mp h w hw
  rw [hp] at hw
  obtain ⟨i, -, hi⟩ := List.mem_filterMap.mp hw
  have hm : w ∈ big := by first | exact List.mem_of_getElem? hi | exact List.getElem?_mem hi
  exact ⟨hm, good_of_word h1⟩
theorem goodIn_app {big a b : List Cond} (ha : GoodIn big a) (hb : GoodIn big b) : GoodIn big (a ++ b) := fun w h => (List.mem_append.mp h).elim (ha w) (hb w)
theorem goodIn_ca {big a b : List Cond} {c : Cond} (ha : GoodIn big (c :: a)) (hb : GoodIn big b) : GoodIn big (c :: (a ++ b)) := fun w h => (List.mem_cons.mp h).elim (fun e => ha w (List.mem_cons.mpr (Or.inl e))) (fun h => (List.mem_append.mp h).elim (fun h => ha w (List.mem_cons.mpr (Or.inr h))) (hb w))
theorem goodIn_sub {big ws : List Cond} (hm : ∀ w ∈ ws, w ∈ big) (h : ws.all goodWord = true) : GoodIn big ws := fun w hw => ⟨hm w hw, good_of_word (List.all_eq_true.mp h w hw)⟩
/-! ===== END ===== -/

/-! ===== BEGIN exceptions that leave a method, and their catching by the caller (launches without stack traces) ===== -/
section VXA
/-! The laws vx_back, vx_callV, vx_callS, vx_callSW, vx_throw0, vx_throwS follow proofs of the library, with one case more: JvmDerived/Free/Laws.lean (Back.of_free), Shelf42/LK1.lean (callV, callS), Shelf/KitTraced.lean (throwNew0V, throwNewS). -/
/-- where a method has thrown q: the class by its name, the cell, what was written, the world -/
def vx_T (XC : String → State → State → Prop) (st : State) (q : Addr) (t : State) (mc ms : Nat) (free : Addr → Prop) : Prop :=
  ∃ (E : String) (ce : Cell) (L : List Loc), XC E st t ∧ t.heap[q]? = some ce ∧ ce.vm = .none ∧ st.vm.findClass E = some ce.cls ∧ st.WarmedH t.vm ∧ st.sameButNew ({ t with vm := st.vm } : State) L mc ms ∧ ∀ z ∈ L, free z.base
def vx_Q (Qc : Array Value → State → Outcome → State → Prop) (XC : String → State → State → Prop) (mc ms : Nat) (free : Addr → Prop) : Array Value → State → Outcome → State → Prop := fun a st o t =>
  (Qc a st o t ∧ ∃ L, FrameEnd st o t L mc ms ∧ ∀ q ∈ L, free q.base) ∨ ∃ q, o = .threw q ∧ vx_T XC st q t mc ms free
/-- a callee that returns or throws -/
def vx_Met (l : Launch) (y : MethodName) (ws : List Cond) (rm : Room) (Pc : Array Value → State → Prop) (Qc : Array Value → State → Outcome → State → Prop) (XC : String → State → State → Prop) (mc ms : Nat) (free : Addr → Prop) : Prop :=
  MetFree l y (headSpec ws rm) Pc (fun _ _ _ _ _ => True) (vx_Q Qc XC mc ms free)
def vx_Post (XC : String → State → State → Prop) (mc ms : Nat) (free : Addr → Prop) : Pt → Array Value → Addr → Pt → Prop := fun A a q B =>
  ∃ (g : JFrame) (mk : MethodId) (t : State) (L : List Loc) (E : String) (ce : Cell), B.U.heap = t.heap ∧ B.U.vm = t.vm ∧ XC E (A.U.calling g mk a) t ∧ t.heap[q]? = some ce ∧ ce.vm = .none ∧ A.U.vm.findClass E = some ce.cls ∧ B.locs = A.locs ++ L ∧ (∀ z ∈ L, free z.base) ∧ B.cells = A.cells + mc ∧ B.slots = A.slots + ms
def vx_Back (l : Launch) (R : Room) (p : Program) (e : Env) (below : List Frame) (s : State) (sargs : Array Value) (y : MethodName) (len W9 : Nat)
    (Pre : Pt → Array Value → Prop) (Post : Pt → Array Value → Option Value → Pt → Prop) (PostX : Pt → Array Value → Addr → Pt → Prop) : Prop :=
  ∀ (m : MethodId) (meth : Method) (c : Code) (A : Pt) (g : JFrame) (ig : Instr) (mk : MethodId) (a : Array Value),
    Stand p l e R s m sargs below meth c A.U A.locs A.cells A.slots → g.method = m → g.locals.size = c.maxLocals → decode c.code g.pc = .ok (ig, len) →
    2 * g.monitorRoom + (g.stack.map fun v => v.category).sum ≤ W9 → A.U.methodNamed? y = some mk → Pre A a →
    (∃ (v : Option Value) (B : Pt), Stand p l e R s m sargs below meth c B.U B.locs B.cells B.slots ∧ Post A a v B ∧
      Steps p.tables e below (doInvoke e (A.U.setTop g) [] mk a).1 (B.U.setTop { g with pc := g.pc + len, stack := v.toList ++ g.stack })) ∨
    (∃ (q : Addr) (B : Pt), Stand p l e R s m sargs below meth c B.U B.locs B.cells B.slots ∧ PostX A a q B ∧
      Steps p.tables e below (doInvoke e (A.U.setTop g) [] mk a).1 ((B.U.setTop g).pushFrame (.throwing q)))
section Payer
variable {l : Launch} {R : Room} {p : Program} {e : Env} {below : List Frame} {s : State} {sargs : Array Value} {y : MethodName} {len W9 : Nat}
theorem vx_back {ws : List Cond} {rm : Room} {Pc : Array Value → State → Prop} {Qc : Array Value → State → Outcome → State → Prop} {XC : String → State → State → Prop} {mc ms : Nat} {free : Addr → Prop} {bytes : ByteArray} {maxL : Nat} {ret : Option FieldType}
    (hM : vx_Met l y ws rm Pc Qc XC mc ms free) (hblind : FrameBlind Pc) (hrc : rm.cells = mc) (hrs : rm.slots = ms)
    (hframes : rm.frames + 1 ≤ R.frames) (hlocals : W9 + (maxL + 11) + rm.locals ≤ R.locals)
    (hws : ∀ w ∈ ws, ∀ a' U, s.WarmedH U.vm → w.before a' U = true) (hcode : Cond.code y bytes maxL ret ∈ ws) (hinit : ∀ a' U, s.WarmedH U.vm → (Cond.initialized y.cls).before a' U = true) :
    vx_Back l R p e below s sargs y len W9 (PreOf R mc ms Pc) (PostOf Qc mc ms free) (vx_Post XC mc ms free) := by
  intro m meth c A g ig mk a X hg hsize hdg hW hn hp
  have h1 : (headSpec ws rm).pre.before a A.U = true := atoms_intro fun w hw => hws w hw _ _ X.warmed
  have h2 : (Cond.code y bytes maxL ret).before a A.U = true := hws _ hcode _ _ X.warmed
  have h3 : (Cond.initialized y.cls).before a A.U = true := hinit _ _ X.warmed
  have h4 : A.cells + (headSpec ws rm).room.cells ≤ R.cells := by rw [show (headSpec ws rm).room.cells = mc from hrc]; exact hp.1
  have h5 : A.slots + (headSpec ws rm).room.slots ≤ R.slots := by rw [show (headSpec ws rm).room.slots = ms from hrs]; exact hp.2.1
  have hPc : Pc a (A.U.calling g mk a) := hblind _ _ _ _ hp.2.2
  obtain ⟨U, Ls, c0, s0⟩ := A
  dsimp only [Pt.U, Pt.locs, Pt.cells, Pt.slots] at h1 h2 h3 h4 h5 X hn hPc ⊢
  obtain ⟨methY, cY, hmY, hcY, -, hlY, -, -, -, -⟩ := Cond.code_spec hn h2
  obtain ⟨kY, hkY, -⟩ := className_of_methodNamed hn
  have hinitY : kY.init = .initialized := Cond.initialized_spec (findClass_of_methodNamed hn) hkY h3
  have h : At U g.method c below := by rw [hg]; exact X.here
  have hlocals9 : W9 + (maxL + 11) + (headSpec ws rm).room.locals ≤ R.locals := hlocals
  have happ : (headSpec ws rm).appliesLoose y e.platform (U.calling g mk a) = true :=
    Spec.appliesLoose_calling (g := g) h hdg hn hkY hinitY
      (X.room_calling (g := g) (R' := (headSpec ws rm).room) hsize hmY hcY hframes (by rw [hlY]; omega) h4 h5) h1
  obtain ⟨mid, hmid⟩ := h.above
  have hfr : (U.setTop g).frames = (.java g :: mid) ++ below := by rw [State.frames_setTop' g h.top, hmid]; rfl
  obtain ⟨o, s₂, hsteps, -, hend, hq⟩ := Steps.callFree hM p X.admits X.cas X.clock (acts := []) hfr happ hPc trivial
  have hq' : vx_Q Qc XC mc ms free a (U.calling g mk a) o s₂ := hq
  rw [State.frames_setTop' g h.top] at hend
  obtain ⟨g₀, hg0⟩ := Option.isSome_iff_exists.mp h.top
  obtain ⟨r, hr⟩ := State.topJava?_eq_some.mp hg0
  have hr' : (({ U with heap := s₂.heap, slotsUsed := s₂.slotsUsed } : State).setVm s₂.vm).frames = .java g₀ :: r := hr
  rcases hq' with ⟨hqc, L, hfe, hL⟩ | ⟨q, rfl, E, ce, L, hx, hce, hcv, hcl, hW₂, hsm, hL⟩
  · obtain ⟨⟨v, rfl⟩, hW₂, e2, q2, q3, q4, q5, q6⟩ := id hfe
    have e3 : s₂ = ({ (U.calling g mk a).setFrames s₂.frames with heap := s₂.heap, slotsUsed := s₂.slotsUsed } : State).setVm s₂.vm := by
      have : s₂ = ({ s₂ with vm := (U.calling g mk a).vm } : State).setVm s₂.vm := rfl
      rw [e2] at this
      exact this
    obtain ⟨c₂, i₂, len₂, hc₂, hd₂, hf₂⟩ := hend
    have hW' : U.WarmedH s₂.vm := hW₂
    have hcc : c₂ = c := by
      have h1 : s₂.code? g.method = U.code? g.method := by
        rw [State.code?_eq, State.code?_eq, hW'.alike.method?]
      exact Option.some.inj (hc₂.symm.trans (h1.trans h.code))
    subst hcc
    have hlen : len₂ = len := by rw [hdg] at hd₂; cases hd₂; rfl
    subst hlen
    have hs₂ : s₂ = (({ U with heap := s₂.heap, slotsUsed := s₂.slotsUsed } : State).setVm s₂.vm).setTop { g with pc := g.pc + len₂, stack := v.toList ++ g.stack } := by
      refine e3.trans ?_
      rw [hf₂, State.calling_eq h.top, State.setFrames_setFrames, State.setTop_of_frames _ hr', hr]
      rfl
    have hsame : U.sameButNew ({ U with heap := s₂.heap, slotsUsed := s₂.slotsUsed } : State) L mc ms := by
      refine ⟨?_, q2, q3, q4, q5, q6⟩
      obtain ⟨t, ht, -⟩ := State.frames_cons hr
      show ({ U with heap := s₂.heap, slotsUsed := s₂.slotsUsed } : State) = { U.setFrames U.frames with heap := s₂.heap, slotsUsed := s₂.slotsUsed }
      rw [State.setFrames_self ht]
    subst hg
    refine Or.inl ⟨v, ⟨(({ U with heap := s₂.heap, slotsUsed := s₂.slotsUsed } : State).setVm s₂.vm), Ls ++ L, c0 + mc, s0 + ms⟩,
      ⟨X.admits, X.cas, X.clock, X.frames, X.room, X.hears, X.method, X.code, (X.here.setHeapUsed s₂.heap s₂.slotsUsed).setVm hW'.alike, X.tail, State.WarmedH.trans X.warmed hW', X.limits, X.bytes, X.same.trans (hsame.setVm s.vm)⟩,
      ⟨g, mk, s₂, L, rfl, rfl, hqc, rfl, hL, rfl, rfl⟩, ?_⟩
    show Steps p.tables e below _ ((({ U with heap := s₂.heap, slotsUsed := s₂.slotsUsed } : State).setVm s₂.vm).setTop { g with pc := g.pc + len₂, stack := v.toList ++ g.stack })
    rw [← hs₂]
    exact hsteps
  · obtain ⟨e2, q2, q3, q4, q5, q6⟩ := id hsm
    have e3 : s₂ = ({ (U.calling g mk a).setFrames s₂.frames with heap := s₂.heap, slotsUsed := s₂.slotsUsed } : State).setVm s₂.vm := by
      have : s₂ = ({ s₂ with vm := (U.calling g mk a).vm } : State).setVm s₂.vm := rfl
      rw [e2] at this
      exact this
    have hf₂ : s₂.frames = .throwing q :: .java g :: U.frames.tail := hend
    have hW' : U.WarmedH s₂.vm := hW₂
    have hs₂ : s₂ = ((({ U with heap := s₂.heap, slotsUsed := s₂.slotsUsed } : State).setVm s₂.vm).setTop g).pushFrame (.throwing q) := by
      refine e3.trans ?_
      rw [hf₂, State.calling_eq h.top, State.setFrames_setFrames, State.pushFrame, State.frames_setTop _ hr', State.setTop_of_frames _ hr', State.setFrames_setFrames, hr]
      rfl
    have hsame : U.sameButNew ({ U with heap := s₂.heap, slotsUsed := s₂.slotsUsed } : State) L mc ms := by
      refine ⟨?_, q2, q3, q4, q5, q6⟩
      obtain ⟨t, ht, -⟩ := State.frames_cons hr
      show ({ U with heap := s₂.heap, slotsUsed := s₂.slotsUsed } : State) = { U.setFrames U.frames with heap := s₂.heap, slotsUsed := s₂.slotsUsed }
      rw [State.setFrames_self ht]
    subst hg
    refine Or.inr ⟨q, ⟨(({ U with heap := s₂.heap, slotsUsed := s₂.slotsUsed } : State).setVm s₂.vm), Ls ++ L, c0 + mc, s0 + ms⟩,
      ⟨X.admits, X.cas, X.clock, X.frames, X.room, X.hears, X.method, X.code, (X.here.setHeapUsed s₂.heap s₂.slotsUsed).setVm hW'.alike, X.tail, State.WarmedH.trans X.warmed hW', X.limits, X.bytes, X.same.trans (hsame.setVm s.vm)⟩,
      ⟨g, mk, s₂, L, E, ce, rfl, rfl, hx, hce, hcv, hcl, rfl, hL, rfl, rfl⟩, ?_⟩
    show Steps p.tables e below _ (((({ U with heap := s₂.heap, slotsUsed := s₂.slotsUsed } : State).setVm s₂.vm).setTop g).pushFrame (.throwing q))
    rw [← hs₂]
    exact hsteps
end Payer
section Calls
variable {p : Program} {l : Launch} {e : Env} {R : Room} {s : State} {m : MethodId} {args : Array Value} {below : List Frame} {meth : Method} {c : Code} {T : State} {locs : List Loc} {cells slots : Nat}
theorem vx_callV (X : Stand p l e R s m args below meth c T locs cells slots) (hexec : p.tables.exec = Jvm.exec) {own C : String} {index : Nat} {y : MethodName} {bytes : ByteArray} {maxL : Nat} {ret : Option FieldType}
    (hown : s.vm.findClass own = some m.cls) (hlink : (Cond.methodLink own index y).before args s = true) (hinst : (Cond.instanceMethod y).before args s = true) (hsel : (Cond.selects C y y).before args s = true)
    (hcode : (Cond.code y bytes maxL ret).before args s = true) (hy : y.cls ≠ "java/lang/invoke/MethodHandle" ∧ y.cls ≠ "java/lang/invoke/VarHandle")
    {W9 : Nat} {Pre : Pt → Array Value → Prop} {Post : Pt → Array Value → Option Value → Pt → Prop} {PostX : Pt → Array Value → Addr → Pt → Prop} (hK : vx_Back l R p e below s args y 3 W9 Pre Post PostX)
    {b : Addr} {cellB : Cell} (hcell : T.heap[b]? = some cellB) (hobj : cellB.vm.isStatics = false) (hcls : s.vm.findClass C = some cellB.cls)
    {g : JFrame} (hg : g.method = m) (hsize : g.locals.size = c.maxLocals) {argsL rest : List Value} (hlen : ∀ sig, parseMethodDescriptor y.desc = some sig → argsL.length = sig.parameters.length)
    (hstack : g.stack = argsL.reverse ++ .ref b :: rest) (hW : 2 * g.monitorRoom + (rest.map fun v => v.category).sum ≤ W9) (hdg : decode c.code g.pc = .ok (.invokevirtual index, 3))
    (hpre : ∀ vm₁, s.WarmedH vm₁ → Pre ⟨T.setVm vm₁, locs, cells, slots⟩ (Value.ref b :: argsL).toArray) :
    (∃ (v : Option Value) (vm₁ : Vm) (B : Pt), s.WarmedH vm₁ ∧ Stand p l e R s m args below meth c B.U B.locs B.cells B.slots ∧ Post ⟨T.setVm vm₁, locs, cells, slots⟩ (Value.ref b :: argsL).toArray v B ∧
      ∀ target, Steps p.tables e below (B.U.setTop { g with pc := g.pc + 3, stack := v.toList ++ rest }) target → Steps p.tables e below (T.setTop g) target) ∨
    (∃ (q : Addr) (vm₁ : Vm) (B : Pt), s.WarmedH vm₁ ∧ Stand p l e R s m args below meth c B.U B.locs B.cells B.slots ∧ PostX ⟨T.setVm vm₁, locs, cells, slots⟩ (Value.ref b :: argsL).toArray q B ∧
      Steps p.tables e below (T.setTop g) ((B.U.setTop { g with stack := rest }).pushFrame (.throwing q))) := by
  obtain ⟨mk, methM, hnamed, hmethM, hstM, habM⟩ := Cond.instanceMethod_spec hinst
  obtain ⟨methM', cM, hmethM', -, -, -, -, -, -, hsigM⟩ := Cond.code_spec hnamed hcode
  cases hmethM.symm.trans hmethM'
  obtain ⟨c2, r2, m2, q1, q2, q3, q4, kP, hkP, hkPi⟩ := Cond.selects_spec hsel
  cases hcls.symm.trans q1
  cases (State.methodFound?_of_named hnamed hy).symm.trans q2
  cases hnamed.symm.trans q3
  have hselP : selectMethod e.platform s.vm cellB.cls mk = .method mk := by rw [Launch.admits_selectMethod X.admits]; exact q4
  obtain ⟨vm₁, X₁, hstep₁⟩ := X.invokevirtual hexec hown hlink hnamed hmethM hstM hkP hkPi hy (a := b) (cell := cellB) hcell
    (fun z h => by rw [h] at hobj; cases hobj) hselP hmethM habM hkP hkPi (g := g) hg (argsL := argsL) (rest := rest) (hlen _ hsigM) hstack hdg
  rcases hK m meth c ⟨T.setVm vm₁, locs, cells, slots⟩ { g with stack := rest } (.invokevirtual index) mk (Value.ref b :: argsL).toArray X₁ hg hsize hdg hW (X₁.named hnamed) (hpre vm₁ X₁.warmed) with ⟨v, B, X', hpost, hsteps⟩ | ⟨q, B, X', hpost, hsteps⟩
  · exact Or.inl ⟨v, vm₁, B, X₁.warmed, X', hpost, fun target h => hstep₁ _ fun acts => by rw [doInvoke_state]; exact hsteps.trans h⟩
  · exact Or.inr ⟨q, vm₁, B, X₁.warmed, X', hpost, hstep₁ _ fun acts => by rw [doInvoke_state]; exact hsteps⟩
theorem vx_callS (X : Stand p l e R s m args below meth c T locs cells slots) (hexec : p.tables.exec = Jvm.exec) {own : String} {index : Nat} {y : MethodName} {bytes : ByteArray} {maxL : Nat} {ret : Option FieldType}
    (hown : s.vm.findClass own = some m.cls) (hlink : (Cond.methodLink own index y).before args s = true) (hstat : (Cond.static y).before args s = true) (hinit : (Cond.initialized y.cls).before args s = true)
    (hcode : (Cond.code y bytes maxL ret).before args s = true) (hy : y.cls ≠ "java/lang/invoke/MethodHandle" ∧ y.cls ≠ "java/lang/invoke/VarHandle")
    {W9 : Nat} {Pre : Pt → Array Value → Prop} {Post : Pt → Array Value → Option Value → Pt → Prop} {PostX : Pt → Array Value → Addr → Pt → Prop} (hK : vx_Back l R p e below s args y 3 W9 Pre Post PostX)
    {g : JFrame} (hg : g.method = m) (hsize : g.locals.size = c.maxLocals) {argsL rest : List Value} (hlen : ∀ sig, parseMethodDescriptor y.desc = some sig → argsL.length = sig.parameters.length)
    (hstack : g.stack = argsL.reverse ++ rest) (hW : 2 * g.monitorRoom + (rest.map fun v => v.category).sum ≤ W9) (hdg : decode c.code g.pc = .ok (.invokestatic index, 3))
    (hpre : ∀ vm₁, s.WarmedH vm₁ → Pre ⟨T.setVm vm₁, locs, cells, slots⟩ argsL.toArray) :
    (∃ (v : Option Value) (vm₁ : Vm) (B : Pt), s.WarmedH vm₁ ∧ Stand p l e R s m args below meth c B.U B.locs B.cells B.slots ∧ Post ⟨T.setVm vm₁, locs, cells, slots⟩ argsL.toArray v B ∧
      ∀ target, Steps p.tables e below (B.U.setTop { g with pc := g.pc + 3, stack := v.toList ++ rest }) target → Steps p.tables e below (T.setTop g) target) ∨
    (∃ (q : Addr) (vm₁ : Vm) (B : Pt), s.WarmedH vm₁ ∧ Stand p l e R s m args below meth c B.U B.locs B.cells B.slots ∧ PostX ⟨T.setVm vm₁, locs, cells, slots⟩ argsL.toArray q B ∧
      Steps p.tables e below (T.setTop g) ((B.U.setTop { g with stack := rest }).pushFrame (.throwing q))) := by
  obtain ⟨mk, hnamed⟩ := Cond.code_named hcode
  obtain ⟨methM, cM, hmethM, -, -, -, -, -, -, hsigM⟩ := Cond.code_spec hnamed hcode
  have hstatic : methM.isStatic = true := Cond.static_spec hnamed hmethM hstat
  obtain ⟨kP, hkP, -⟩ := className_of_methodNamed hnamed
  have hinitP : kP.init = .initialized := Cond.initialized_spec (findClass_of_methodNamed hnamed) hkP hinit
  obtain ⟨vm₁, X₁, hstep₁⟩ := X.invokestatic hexec hown hlink hnamed hmethM hstatic hkP hinitP hy (g := g) hg (argsL := argsL) (rest := rest) (hlen _ hsigM) hstack hdg
  rcases hK m meth c ⟨T.setVm vm₁, locs, cells, slots⟩ { g with stack := rest } (.invokestatic index) mk argsL.toArray X₁ hg hsize hdg hW (X₁.named hnamed) (hpre vm₁ X₁.warmed) with ⟨v, B, X', hpost, hsteps⟩ | ⟨q, B, X', hpost, hsteps⟩
  · exact Or.inl ⟨v, vm₁, B, X₁.warmed, X', hpost, fun target h => hstep₁ _ fun acts => by rw [doInvoke_state]; exact hsteps.trans h⟩
  · exact Or.inr ⟨q, vm₁, B, X₁.warmed, X', hpost, hstep₁ _ fun acts => by rw [doInvoke_state]; exact hsteps⟩
end Calls
theorem vx_cls {s : State} {T : State} {vm₁ : Vm} {E : String} {k : ClassId} (hW : s.WarmedH vm₁) (h : (T.setVm vm₁).vm.findClass E = some k) : s.vm.findClass E = some k := by
  have h1 : vm₁.findClass E = some k := h
  rw [hW.alike.findClass] at h1
  exact h1
/-- the method's frame g, with q thrown over it -/
def vx_W (p : Program) (l : Launch) (e : Env) (R : Room) (s : State) (m : MethodId) (args : Array Value) (below : List Frame) (meth : Method) (c : Code) (H : Heap) (locs : List Loc) (cells slots : Nat) (Q : State → Prop) (g : JFrame) (q : Addr) : Prop :=
  ∀ T : State, T.heap = H → Stand p l e R s m args below meth c T locs cells slots → ∃ t, Steps p.tables e below ((T.setTop g).pushFrame (.throwing q)) t ∧ Q t
def vx_Run (p : Program) (l : Launch) (e : Env) (R : Room) (s : State) (m : MethodId) (args : Array Value) (below : List Frame) (meth : Method) (c : Code) (H : Heap) (locs : List Loc) (cells slots mc ms : Nat) (g : JFrame) (rest : List Value) (Qa : State → Outcome → State → Prop) (XC : String → State → State → Prop) (free : Addr → Prop) : Prop :=
  ∀ T : State, T.heap = H → Stand p l e R s m args below meth c T locs cells slots →
    (∃ (v : Option Value) (st₀ t T' : State) (L : List Loc), st₀.heap = H ∧ Stand p l e R s m args below meth c T' (locs ++ L) (cells + mc) (slots + ms) ∧ (∀ q ∈ L, free q.base) ∧ T'.heap = t.heap ∧ T'.vm = t.vm ∧ Qa st₀ (.returned v) t ∧
      Goes p e below T g T' { g with pc := g.pc + 3, stack := v.toList ++ rest }) ∨
    (∃ (q : Addr) (st₀ t T' : State) (L : List Loc) (E : String) (ce : Cell), st₀.heap = H ∧ Stand p l e R s m args below meth c T' (locs ++ L) (cells + mc) (slots + ms) ∧ (∀ z ∈ L, free z.base) ∧ T'.heap = t.heap ∧ T'.vm = t.vm ∧ XC E st₀ t ∧ t.heap[q]? = some ce ∧ ce.vm = .none ∧ s.vm.findClass E = some ce.cls ∧
      Steps p.tables e below (T.setTop g) ((T'.setTop { g with stack := rest }).pushFrame (.throwing q)))
def vx_X {S : Type} (px : S → Prop) (B : String → S → State → Prop) (A : Nat → Prop) : String → State → State → Prop := fun E st t => ∃ u : S, px u ∧ B E u t ∧ va_F A st t
section Runs
variable {p : Program} {l : Launch} {e : Env} {R : Room} {s : State} {m : MethodId} {args : Array Value} {below : List Frame} {meth : Method} {c : Code} {H : Heap} {locs : List Loc} {cells slots : Nat}
variable {y : MethodName} {bytes cc : ByteArray} {maxL nL mc ms n index : Nat} {ret : Option FieldType} {ws : List Cond} {rm : Room} {Pc : Array Value → State → Prop} {Qc : Array Value → State → Outcome → State → Prop} {XC : String → State → State → Prop} {free : Addr → Prop} {Ts : List Cond} {own C : String} {b : Addr} {As rest : List Value} {g : JFrame}
theorem vx_callBack (cb : CallB R s args own index y bytes maxL ret ws rm mc ms n) (hM : vx_Met l y ws rm Pc Qc XC mc ms free) (hbl : FrameBlind Pc) : vx_Back l R p e below s args y 3 8 (PreOf R mc ms Pc) (PostOf Qc mc ms free) (vx_Post XC mc ms free) := by
  obtain ⟨hrc, hrs, hfr, hlo, hws, hcw, -, hini, -⟩ := cb
  exact vx_back (bytes := bytes) (maxL := maxL) (ret := ret) hM hbl hrc hrs hfr hlo hws hcw (fun a' U hW => word_at hW (Or.inl (by first | rfl | simp [Cond.onTables, Cond.keeps, Cond.steady])) hini)
theorem vx_runV (S : CallFix p m c cc nL s args Ts own) (hM : vx_Met l y ws rm Pc Qc XC mc ms free) (cw : CallW R s args own C index y bytes maxL ret ws rm mc ms n) (hp : PreV s H C b Pc As)
    (hg : g.method = m) (hn : As.length = n) (hsize : g.locals.size = nL) (hstack : g.stack = As.reverse ++ .ref b :: rest) (hW : 2 * g.monitorRoom + (rest.map fun v => v.category).sum ≤ 8) (hdg : decode cc g.pc = .ok (.invokevirtual index, 3)) (hf : cells + mc ≤ R.cells ∧ slots + ms ≤ R.slots) :
    vx_Run p l e R s m args below meth c H locs cells slots mc ms g rest (Qc (Value.ref b :: As).toArray) XC free := by
  have hK : vx_Back l R p e below s args y 3 8 (PreOf R mc ms Pc) (PostOf Qc mc ms free) (vx_Post XC mc ms free) := vx_callBack cw.1 hM hp.1
  obtain ⟨⟨-, -, -, -, -, -, hcode, -, hy, hlen, hl⟩, hin, hse⟩ := cw
  obtain ⟨hx, hb, hml, ho, -⟩ := S
  obtain ⟨-, ⟨cellB, hcB, hoB, hclB⟩, hPc⟩ := hp
  intro T hT X
  rcases vx_callV X hx (C := C) (bytes := bytes) (maxL := maxL) (ret := ret) ho hl hin hse hcode hy hK (by rw [hT]; exact hcB) hoB hclB hg (hsize.trans hml.symm) (argsL := As) (rest := rest) (fun sig h => hn.trans (hlen sig h)) hstack hW (by rw [hb]; exact hdg)
    (fun vm₁ hW₁ => ⟨hf.1, hf.2, hPc (T.setVm vm₁) hT hW₁⟩) with ⟨v, vm₁, ⟨U', l2, c2, s2⟩, hW₁, X', ⟨g', mk, t, L, e1, e2, hq, h1, hL, h2, h3⟩, st⟩ | ⟨q, vm₁, ⟨U', l2, c2, s2⟩, hW₁, X', ⟨g', mk, t, L, E, ce, e1, e2, hq, hce, hcv, hcl, h1, hL, h2, h3⟩, st⟩
  · dsimp only [Pt.U, Pt.locs, Pt.cells, Pt.slots] at X' e1 e2 h1 h2 h3 st
    subst h1; subst h2; subst h3
    exact Or.inl ⟨v, (T.setVm vm₁).calling g' mk (Value.ref b :: As).toArray, t, U', L, hT, X', hL, e1, e2, hq, st⟩
  · dsimp only [Pt.U, Pt.locs, Pt.cells, Pt.slots] at X' e1 e2 h1 h2 h3 st hcl
    subst h1; subst h2; subst h3
    exact Or.inr ⟨q, (T.setVm vm₁).calling g' mk (Value.ref b :: As).toArray, t, U', L, E, ce, hT, X', hL, e1, e2, hq, hce, hcv, vx_cls hW₁ hcl, st⟩
theorem vx_runS (S : CallFix p m c cc nL s args Ts own) (hM : vx_Met l y ws rm Pc Qc XC mc ms free) (cw : CallB R s args own index y bytes maxL ret ws rm mc ms n ∧ (Cond.static y).before args s = true) (hp : PreS s H Pc As)
    (hg : g.method = m) (hn : As.length = n) (hsize : g.locals.size = nL) (hstack : g.stack = As.reverse ++ rest) (hW : 2 * g.monitorRoom + (rest.map fun v => v.category).sum ≤ 8) (hdg : decode cc g.pc = .ok (.invokestatic index, 3)) (hf : cells + mc ≤ R.cells ∧ slots + ms ≤ R.slots) :
    vx_Run p l e R s m args below meth c H locs cells slots mc ms g rest (Qc As.toArray) XC free := by
  have hK : vx_Back l R p e below s args y 3 8 (PreOf R mc ms Pc) (PostOf Qc mc ms free) (vx_Post XC mc ms free) := vx_callBack cw.1 hM hp.1
  obtain ⟨⟨-, -, -, -, -, -, hcode, hini, hy, hlen, hl⟩, hstt⟩ := cw
  obtain ⟨hx, hb, hml, ho, -⟩ := S
  intro T hT X
  rcases vx_callS X hx (bytes := bytes) (maxL := maxL) (ret := ret) ho hl hstt hini hcode hy hK hg (hsize.trans hml.symm) (argsL := As) (rest := rest) (fun sig h => hn.trans (hlen sig h)) hstack hW (by rw [hb]; exact hdg)
    (fun vm₁ hW₁ => ⟨hf.1, hf.2, hp.2 (T.setVm vm₁) hT hW₁⟩) with ⟨v, vm₁, ⟨U', l2, c2, s2⟩, hW₁, X', ⟨g', mk, t, L, e1, e2, hq, h1, hL, h2, h3⟩, st⟩ | ⟨q, vm₁, ⟨U', l2, c2, s2⟩, hW₁, X', ⟨g', mk, t, L, E, ce, e1, e2, hq, hce, hcv, hcl, h1, hL, h2, h3⟩, st⟩
  · dsimp only [Pt.U, Pt.locs, Pt.cells, Pt.slots] at X' e1 e2 h1 h2 h3 st
    subst h1; subst h2; subst h3
    exact Or.inl ⟨v, (T.setVm vm₁).calling g' mk As.toArray, t, U', L, hT, X', hL, e1, e2, hq, st⟩
  · dsimp only [Pt.U, Pt.locs, Pt.cells, Pt.slots] at X' e1 e2 h1 h2 h3 st hcl
    subst h1; subst h2; subst h3
    exact Or.inr ⟨q, (T.setVm vm₁).calling g' mk As.toArray, t, U', L, E, ce, hT, X', hL, e1, e2, hq, hce, hcv, vx_cls hW₁ hcl, st⟩
end Runs
section Rows
variable {p : Program} {l : Launch} {e : Env} {R : Room} {s : State} {m : MethodId} {args : Array Value} {below : List Frame} {meth : Method} {c : Code} {H : Heap} {locs : List Loc} {cells slots : Nat} {Q : State → Prop}
variable {mc ms : Nat} {free : Addr → Prop} {A0 A1 : Nat → Prop} {H0 : Heap} {a : Array Value} {pc : Nat} {ls : Array Slot} {st0 rest : List Value}
theorem vx_keep {st₀ t T' : State} {L : List Loc} (h0 : st₀.heap = H) (e1 : T'.heap = t.heap) (hS : va_S A0 H0 H locs) (hA : ∀ q, q < H.size → A1 q → A0 q) (hf : ∀ q, free q → A0 q) (hL : ∀ q ∈ L, free q.base) (hF : va_F A1 st₀ t) :
    H.size ≤ T'.heap.size ∧ (∀ q : Nat, q < H.size → ¬ A1 q → T'.heap[q]? = H[q]?) ∧ va_S A0 H0 T'.heap (locs ++ L) := by
  obtain ⟨hz, hk⟩ := hF
  rw [h0] at hz hk
  exact ⟨by rw [e1]; exact hz, fun q h1 h2 => by rw [e1]; exact hk q h1 h2,
    ⟨Nat.le_trans hS.1 (by rw [e1]; exact hz), fun q h1 h2 => by rw [e1, hk q (Nat.lt_of_lt_of_le h1 hS.1) (fun z => h2 (hA q (Nat.lt_of_lt_of_le h1 hS.1) z))]; exact hS.2.1 q h1 h2, fun q hq => by
      rcases List.mem_append.mp hq with h | h
      · exact hS.2.2 q h
      · exact hf _ (hL q h)⟩⟩
theorem vx_calli {S SX : Type} {post : Int32 → S → Prop} {px : SX → Prop} {B : S → State → Prop} {BX : String → SX → State → Prop} {AX : Nat → Prop} (hr : vx_Run p l e R s m args below meth c H locs cells slots mc ms (F0 m pc ls st0) rest (va_Qi post B A1 a) (vx_X px BX AX) free) (hS : va_S A0 H0 H locs) (hA : ∀ q, q < H.size → A1 q → A0 q) (hf : ∀ q, free q → A0 q) (hAX : ∀ q, q < H.size → AX q → A0 q)
    (kx : ∀ (E : String) (ce : Cell) (q9 : Addr) (u : SX) (t : State) (H1 : Heap) (locs1 : List Loc), t.heap = H1 → s.vm.Alike t.vm → px u → BX E u t → H.size ≤ H1.size → (∀ q : Nat, q < H.size → ¬ AX q → H1[q]? = H[q]?) → va_S A0 H0 H1 locs1 → H1[q9]? = some ce → ce.vm = .none → s.vm.findClass E = some ce.cls → vx_W p l e R s m args below meth c H1 locs1 (cells + mc) (slots + ms) Q (F0 m pc ls rest) q9)
    (kk : ∀ (r : Int32) (u : S) (t : State) (H1 : Heap) (locs1 : List Loc), t.heap = H1 → s.vm.Alike t.vm → post r u → B u t → H.size ≤ H1.size → (∀ q : Nat, q < H.size → ¬ A1 q → H1[q]? = H[q]?) → va_S A0 H0 H1 locs1 → W p l e R s m args below meth c H1 locs1 (cells + mc) (slots + ms) Q (F0 m (pc + 3) ls (.int r :: rest))) : W p l e R s m args below meth c H locs cells slots Q (F0 m pc ls st0) := by
  intro T hT X
  rcases hr T hT X with ⟨v, st₀, t, T', L, h0, X', hL, e1, e2, ⟨⟨r, u, hv, hp, hb⟩, hF⟩, st⟩ | ⟨q, st₀, t, T', L, E, ce, h0, X', hL, e1, e2, ⟨u, hp, hb, hF⟩, hce, hcv, hcl, st⟩
  · cases hv
    obtain ⟨k1, k2, k3⟩ := vx_keep h0 e1 hS hA hf hL hF
    obtain ⟨t2, a1, b1⟩ := kk r u t T'.heap (locs ++ L) e1.symm (by rw [← e2]; exact X'.warmed.alike) hp hb k1 k2 k3 T' rfl X'
    exact ⟨t2, st t2 a1, b1⟩
  · obtain ⟨k1, k2, k3⟩ := vx_keep h0 e1 hS hAX hf hL hF
    obtain ⟨t2, a1, b1⟩ := kx E ce q u t T'.heap (locs ++ L) e1.symm (by rw [← e2]; exact X'.warmed.alike) hp hb k1 k2 k3 (by rw [e1]; exact hce) hcv hcl T' rfl X'
    exact ⟨t2, st.trans a1, b1⟩
theorem vx_calll {S SX : Type} {post : Int64 → S → Prop} {px : SX → Prop} {B : S → State → Prop} {BX : String → SX → State → Prop} {AX : Nat → Prop} (hr : vx_Run p l e R s m args below meth c H locs cells slots mc ms (F0 m pc ls st0) rest (va_Ql post B A1 a) (vx_X px BX AX) free) (hS : va_S A0 H0 H locs) (hA : ∀ q, q < H.size → A1 q → A0 q) (hf : ∀ q, free q → A0 q) (hAX : ∀ q, q < H.size → AX q → A0 q)
    (kx : ∀ (E : String) (ce : Cell) (q9 : Addr) (u : SX) (t : State) (H1 : Heap) (locs1 : List Loc), t.heap = H1 → s.vm.Alike t.vm → px u → BX E u t → H.size ≤ H1.size → (∀ q : Nat, q < H.size → ¬ AX q → H1[q]? = H[q]?) → va_S A0 H0 H1 locs1 → H1[q9]? = some ce → ce.vm = .none → s.vm.findClass E = some ce.cls → vx_W p l e R s m args below meth c H1 locs1 (cells + mc) (slots + ms) Q (F0 m pc ls rest) q9)
    (kk : ∀ (r : Int64) (u : S) (t : State) (H1 : Heap) (locs1 : List Loc), t.heap = H1 → s.vm.Alike t.vm → post r u → B u t → H.size ≤ H1.size → (∀ q : Nat, q < H.size → ¬ A1 q → H1[q]? = H[q]?) → va_S A0 H0 H1 locs1 → W p l e R s m args below meth c H1 locs1 (cells + mc) (slots + ms) Q (F0 m (pc + 3) ls (.long r :: rest))) : W p l e R s m args below meth c H locs cells slots Q (F0 m pc ls st0) := by
  intro T hT X
  rcases hr T hT X with ⟨v, st₀, t, T', L, h0, X', hL, e1, e2, ⟨⟨r, u, hv, hp, hb⟩, hF⟩, st⟩ | ⟨q, st₀, t, T', L, E, ce, h0, X', hL, e1, e2, ⟨u, hp, hb, hF⟩, hce, hcv, hcl, st⟩
  · cases hv
    obtain ⟨k1, k2, k3⟩ := vx_keep h0 e1 hS hA hf hL hF
    obtain ⟨t2, a1, b1⟩ := kk r u t T'.heap (locs ++ L) e1.symm (by rw [← e2]; exact X'.warmed.alike) hp hb k1 k2 k3 T' rfl X'
    exact ⟨t2, st t2 a1, b1⟩
  · obtain ⟨k1, k2, k3⟩ := vx_keep h0 e1 hS hAX hf hL hF
    obtain ⟨t2, a1, b1⟩ := kx E ce q u t T'.heap (locs ++ L) e1.symm (by rw [← e2]; exact X'.warmed.alike) hp hb k1 k2 k3 (by rw [e1]; exact hce) hcv hcl T' rfl X'
    exact ⟨t2, st.trans a1, b1⟩
theorem vx_callf {S SX : Type} {post : UInt32 → S → Prop} {px : SX → Prop} {B : S → State → Prop} {BX : String → SX → State → Prop} {AX : Nat → Prop} (hr : vx_Run p l e R s m args below meth c H locs cells slots mc ms (F0 m pc ls st0) rest (va_Qf post B A1 a) (vx_X px BX AX) free) (hS : va_S A0 H0 H locs) (hA : ∀ q, q < H.size → A1 q → A0 q) (hf : ∀ q, free q → A0 q) (hAX : ∀ q, q < H.size → AX q → A0 q)
    (kx : ∀ (E : String) (ce : Cell) (q9 : Addr) (u : SX) (t : State) (H1 : Heap) (locs1 : List Loc), t.heap = H1 → s.vm.Alike t.vm → px u → BX E u t → H.size ≤ H1.size → (∀ q : Nat, q < H.size → ¬ AX q → H1[q]? = H[q]?) → va_S A0 H0 H1 locs1 → H1[q9]? = some ce → ce.vm = .none → s.vm.findClass E = some ce.cls → vx_W p l e R s m args below meth c H1 locs1 (cells + mc) (slots + ms) Q (F0 m pc ls rest) q9)
    (kk : ∀ (r : UInt32) (u : S) (t : State) (H1 : Heap) (locs1 : List Loc), t.heap = H1 → s.vm.Alike t.vm → post r u → B u t → H.size ≤ H1.size → (∀ q : Nat, q < H.size → ¬ A1 q → H1[q]? = H[q]?) → va_S A0 H0 H1 locs1 → W p l e R s m args below meth c H1 locs1 (cells + mc) (slots + ms) Q (F0 m (pc + 3) ls (.float r :: rest))) : W p l e R s m args below meth c H locs cells slots Q (F0 m pc ls st0) := by
  intro T hT X
  rcases hr T hT X with ⟨v, st₀, t, T', L, h0, X', hL, e1, e2, ⟨⟨r, u, hv, hp, hb⟩, hF⟩, st⟩ | ⟨q, st₀, t, T', L, E, ce, h0, X', hL, e1, e2, ⟨u, hp, hb, hF⟩, hce, hcv, hcl, st⟩
  · cases hv
    obtain ⟨k1, k2, k3⟩ := vx_keep h0 e1 hS hA hf hL hF
    obtain ⟨t2, a1, b1⟩ := kk r u t T'.heap (locs ++ L) e1.symm (by rw [← e2]; exact X'.warmed.alike) hp hb k1 k2 k3 T' rfl X'
    exact ⟨t2, st t2 a1, b1⟩
  · obtain ⟨k1, k2, k3⟩ := vx_keep h0 e1 hS hAX hf hL hF
    obtain ⟨t2, a1, b1⟩ := kx E ce q u t T'.heap (locs ++ L) e1.symm (by rw [← e2]; exact X'.warmed.alike) hp hb k1 k2 k3 (by rw [e1]; exact hce) hcv hcl T' rfl X'
    exact ⟨t2, st.trans a1, b1⟩
theorem vx_calld {S SX : Type} {post : UInt64 → S → Prop} {px : SX → Prop} {B : S → State → Prop} {BX : String → SX → State → Prop} {AX : Nat → Prop} (hr : vx_Run p l e R s m args below meth c H locs cells slots mc ms (F0 m pc ls st0) rest (va_Qd post B A1 a) (vx_X px BX AX) free) (hS : va_S A0 H0 H locs) (hA : ∀ q, q < H.size → A1 q → A0 q) (hf : ∀ q, free q → A0 q) (hAX : ∀ q, q < H.size → AX q → A0 q)
    (kx : ∀ (E : String) (ce : Cell) (q9 : Addr) (u : SX) (t : State) (H1 : Heap) (locs1 : List Loc), t.heap = H1 → s.vm.Alike t.vm → px u → BX E u t → H.size ≤ H1.size → (∀ q : Nat, q < H.size → ¬ AX q → H1[q]? = H[q]?) → va_S A0 H0 H1 locs1 → H1[q9]? = some ce → ce.vm = .none → s.vm.findClass E = some ce.cls → vx_W p l e R s m args below meth c H1 locs1 (cells + mc) (slots + ms) Q (F0 m pc ls rest) q9)
    (kk : ∀ (r : UInt64) (u : S) (t : State) (H1 : Heap) (locs1 : List Loc), t.heap = H1 → s.vm.Alike t.vm → post r u → B u t → H.size ≤ H1.size → (∀ q : Nat, q < H.size → ¬ A1 q → H1[q]? = H[q]?) → va_S A0 H0 H1 locs1 → W p l e R s m args below meth c H1 locs1 (cells + mc) (slots + ms) Q (F0 m (pc + 3) ls (.double r :: rest))) : W p l e R s m args below meth c H locs cells slots Q (F0 m pc ls st0) := by
  intro T hT X
  rcases hr T hT X with ⟨v, st₀, t, T', L, h0, X', hL, e1, e2, ⟨⟨r, u, hv, hp, hb⟩, hF⟩, st⟩ | ⟨q, st₀, t, T', L, E, ce, h0, X', hL, e1, e2, ⟨u, hp, hb, hF⟩, hce, hcv, hcl, st⟩
  · cases hv
    obtain ⟨k1, k2, k3⟩ := vx_keep h0 e1 hS hA hf hL hF
    obtain ⟨t2, a1, b1⟩ := kk r u t T'.heap (locs ++ L) e1.symm (by rw [← e2]; exact X'.warmed.alike) hp hb k1 k2 k3 T' rfl X'
    exact ⟨t2, st t2 a1, b1⟩
  · obtain ⟨k1, k2, k3⟩ := vx_keep h0 e1 hS hAX hf hL hF
    obtain ⟨t2, a1, b1⟩ := kx E ce q u t T'.heap (locs ++ L) e1.symm (by rw [← e2]; exact X'.warmed.alike) hp hb k1 k2 k3 (by rw [e1]; exact hce) hcv hcl T' rfl X'
    exact ⟨t2, st.trans a1, b1⟩
theorem vx_callv {S SX : Type} {post : S → Prop} {px : SX → Prop} {B : S → State → Prop} {BX : String → SX → State → Prop} {AX : Nat → Prop} (hr : vx_Run p l e R s m args below meth c H locs cells slots mc ms (F0 m pc ls st0) rest (va_Qv post B A1 a) (vx_X px BX AX) free) (hS : va_S A0 H0 H locs) (hA : ∀ q, q < H.size → A1 q → A0 q) (hf : ∀ q, free q → A0 q) (hAX : ∀ q, q < H.size → AX q → A0 q)
    (kx : ∀ (E : String) (ce : Cell) (q9 : Addr) (u : SX) (t : State) (H1 : Heap) (locs1 : List Loc), t.heap = H1 → s.vm.Alike t.vm → px u → BX E u t → H.size ≤ H1.size → (∀ q : Nat, q < H.size → ¬ AX q → H1[q]? = H[q]?) → va_S A0 H0 H1 locs1 → H1[q9]? = some ce → ce.vm = .none → s.vm.findClass E = some ce.cls → vx_W p l e R s m args below meth c H1 locs1 (cells + mc) (slots + ms) Q (F0 m pc ls rest) q9)
    (kk : ∀ (u : S) (t : State) (H1 : Heap) (locs1 : List Loc), t.heap = H1 → s.vm.Alike t.vm → post u → B u t → H.size ≤ H1.size → (∀ q : Nat, q < H.size → ¬ A1 q → H1[q]? = H[q]?) → va_S A0 H0 H1 locs1 → W p l e R s m args below meth c H1 locs1 (cells + mc) (slots + ms) Q (F0 m (pc + 3) ls (rest))) : W p l e R s m args below meth c H locs cells slots Q (F0 m pc ls st0) := by
  intro T hT X
  rcases hr T hT X with ⟨v, st₀, t, T', L, h0, X', hL, e1, e2, ⟨⟨u, hv, hp, hb⟩, hF⟩, st⟩ | ⟨q, st₀, t, T', L, E, ce, h0, X', hL, e1, e2, ⟨u, hp, hb, hF⟩, hce, hcv, hcl, st⟩
  · cases hv
    obtain ⟨k1, k2, k3⟩ := vx_keep h0 e1 hS hA hf hL hF
    obtain ⟨t2, a1, b1⟩ := kk u t T'.heap (locs ++ L) e1.symm (by rw [← e2]; exact X'.warmed.alike) hp hb k1 k2 k3 T' rfl X'
    exact ⟨t2, st t2 a1, b1⟩
  · obtain ⟨k1, k2, k3⟩ := vx_keep h0 e1 hS hAX hf hL hF
    obtain ⟨t2, a1, b1⟩ := kx E ce q u t T'.heap (locs ++ L) e1.symm (by rw [← e2]; exact X'.warmed.alike) hp hb k1 k2 k3 (by rw [e1]; exact hce) hcv hcl T' rfl X'
    exact ⟨t2, st.trans a1, b1⟩
/-- caught by the row x of this method's table; the rows ahead don't take it -/
theorem vx_catch {own name : String} {E : String} {ce : Cell} {q : Addr} (hown : s.vm.findClass own = some m.cls) (pre : List ExceptionTableEntry) (x : ExceptionTableEntry) (suf : List ExceptionTableEntry) (hsplit : c.exceptionTable.toList = pre ++ x :: suf)
    (hpass : ∀ z ∈ pre, covers z pc = false ∨ (z.catchType ≠ 0 ∧ ∃ nm : String, (Cond.classLink own z.catchType nm).before args s = true ∧ va_Nc E nm s)) (hx : covers x pc = true) (h0 : x.catchType ≠ 0)
    (hlink : (Cond.classLink own x.catchType name).before args s = true) (hcast : (Cond.castable E name).before args s = true) (hcell : H[q]? = some ce) (hv : ce.vm = .none) (hcl : s.vm.findClass E = some ce.cls)
    (kk : W p l e R s m args below meth c H locs cells slots Q (F0 m x.handlerPc ls [.ref q])) : vx_W p l e R s m args below meth c H locs cells slots Q (F0 m pc ls rest) q := by
  intro T hT X
  have hpl : e.platform.magicAccessors = ({} : Platform).magicAccessors := by rw [X.admits.platform]
  obtain ⟨c3, c4, hc3, hc4, hasg⟩ := Cond.castable_spec hcast
  cases Option.some.inj (hc3.symm.trans hcl)
  obtain ⟨c5, hc5, hcl5⟩ := Cond.classLink_spec hown hlink e.platform hpl
  cases Option.some.inj (hc4.symm.trans hc5)
  obtain ⟨vm', X', st⟩ := X.thenCaughtThrough q (g := F0 m pc ls rest) rfl (Steps.refl _) (by rw [hT]; exact hcell) (by rw [hv]; rfl) (by obtain ⟨k9, h9, -⟩ := Vm.findClass_spec hcl; exact ⟨k9, h9⟩) pre x suf hsplit
    (fun z hz => by
      rcases hpass z hz with h | ⟨hz0, nm, hl1, hn1⟩
      · exact Or.inl h
      · obtain ⟨c6, hc6, hcl6⟩ := Cond.classLink_spec hown hl1 e.platform hpl
        obtain ⟨a8, b8, h1, h2, h3⟩ := hn1
        cases Option.some.inj (h1.symm.trans hcl)
        cases Option.some.inj (h2.symm.trans hc6)
        exact Or.inr ⟨hz0, _, hcl6, h3⟩) hx (Or.inr ⟨h0, c4, hcl5, hasg⟩)
  obtain ⟨t, a1, b1⟩ := kk (T.setVm vm') hT X'
  exact ⟨t, st.trans a1, b1⟩
end Rows
section Ends
variable {p : Program} {l : Launch} {e : Env} {R : Room} {s : State} {m : MethodId} {args : Array Value} {below : List Frame} {meth : Method} {c : Code} {H : Heap} {locs : List Loc} {cells slots : Nat} {Q : State → Prop}
variable {mc ms : Nat} {free : Addr → Prop} {A0 A1 : Nat → Prop} {H0 : Heap} {a : Array Value} {ls : Array Slot} {st0 rest : List Value}
variable {Qc : Array Value → State → Outcome → State → Prop} {XC : String → State → State → Prop}
/-- what a body that may throw owes at its end -/
def vx_MQ (below : List Frame) (Qc : Array Value → State → Outcome → State → Prop) (XC : String → State → State → Prop) (a : Array Value) (s : State) (mc ms : Nat) (free : Addr → Prop) : State → Prop := fun t =>
  ∃ o, t.status = .running ∧ Ended t below o ∧ vx_Q Qc XC mc ms free a s o t
theorem vx_ret {g : JFrame} {mc ms : Nat} (k : W p l e R s m args below meth c H locs cells slots (MQ below Qc args s mc ms free) g) : W p l e R s m args below meth c H locs cells slots (vx_MQ below Qc XC args s mc ms free) g := by
  intro T hT X
  obtain ⟨t, a1, o, b1, b2, b3, b4⟩ := k T hT X
  exact ⟨t, a1, o, b1, b2, Or.inl ⟨b3, b4⟩⟩
/-- not caught here: it goes on to the caller -/
theorem vx_widen {g : JFrame} {q : Addr} {k n : Nat} (h1 : cells ≤ k) (h2 : slots ≤ n) (kk : vx_W p l e R s m args below meth c H locs k n Q g q) : vx_W p l e R s m args below meth c H locs cells slots Q g q := fun T hT X => kk T hT (stand_widen X h1 h2)
theorem vx_out {pc : Nat} {E : String} {ce : Cell} {q : Addr} {mc ms : Nat} (hout : ∀ x ∈ c.exceptionTable.toList, covers x pc = false) (hlocks : meth.locks = false) (hcell : H[q]? = some ce) (hv : ce.vm = .none) (hcl : s.vm.findClass E = some ce.cls)
    (hx : ∀ t : State, t.heap = H → s.vm.Alike t.vm → XC E s t) (hf : ∀ z ∈ locs, free z.base) (hc : cells ≤ mc) (hs : slots ≤ ms) :
    vx_W p l e R s m args below meth c H locs cells slots (vx_MQ below Qc XC args s mc ms free) (F0 m pc ls rest) q := by
  intro T hT X
  obtain ⟨st1, hrun, hend, hW, hsm⟩ := X.leaveThrown q (g := F0 m pc ls rest) rfl rfl rfl hout hlocks
  have hcell9 : (T.setFrames (.throwing q :: below)).heap[q]? = some ce := by
    show T.heap[q]? = some ce
    rw [hT]; exact hcell
  exact ⟨_, st1, .threw q, hrun, hend, Or.inr ⟨q, rfl, E, ce, locs, hx _ hT hW.alike, hcell9, hv, hcl, hW, hsm.mono hc hs, hf⟩⟩
theorem vx_frame {U : State} {k n : Nat} (h : s.sameButNew ({ U with vm := s.vm } : State) locs k n) : s.heap.size ≤ U.heap.size ∧ ∀ q : Nat, q < s.heap.size → (∀ z ∈ locs, z.base ≠ q) → U.heap[q]? = s.heap[q]? := by
  obtain ⟨-, h2, -, -, -, h6⟩ := h
  refine ⟨h2, fun q hq hz => ?_⟩
  obtain ⟨c9, e1, e2, e3, e4⟩ := h6 q _ (Array.getElem?_eq_getElem hq)
  have hs : c9.slots = (s.heap[q]).slots := Array.ext_getElem? fun i => e4 i fun hm => hz _ hm rfl
  have h9 : c9 = s.heap[q] := by
    rw [hs] at e2
    exact e2
  have e5 : U.heap[q]? = some c9 := e1
  rw [e5, h9, Array.getElem?_eq_getElem hq]
/-- the words of a throw but the four that speak of the heap -/
def vx_no (w : Cond) : Bool := decide (w ≠ .isRef (.static Bundle.tN "UNASSIGNED_STACK" Bundle.steD)) && decide (w ≠ .isRef (.static Bundle.tN "SUPPRESSED_SENTINEL" Bundle.listD)) && decide (w ≠ .laysStatic Bundle.tN "UNASSIGNED_STACK" Bundle.steD) && decide (w ≠ .laysStatic Bundle.tN "SUPPRESSED_SENTINEL" Bundle.listD)
def vx_at0 (own : String) (ic : Nat) (X : String) (names : List String) : List Cond := (Bundle.ownAtoms0 own ic X names).filter vx_no
def vx_atS (own : String) (ic : Nat) (X : String) (names : List String) : List Cond := (Bundle.ownAtoms own ic X names).filter vx_no
/-- a word that the tables alone decide, or a good one -/
def vx_ot (w : Cond) : Bool := w.onTables || goodWord w
theorem vx_ot_at {args a' : Array Value} {s U : State} {w : Cond} (hW : s.WarmedH U.vm) (hvm : s.vm = U.vm) (hg : vx_ot w = true) (h : w.before args s = true) : w.before a' U = true := by
  simp only [vx_ot, Bool.or_eq_true] at hg
  rcases hg with hg | hg
  · exact va_tabs hg hvm h
  · exact word_at hW (good_of_word hg) h
/-- a list's words: the good ones out of the method's own list, the others by premises of their own -/
theorem vx_hat {args : Array Value} {s : State} {L B : List Cond} (h1 : ∀ w ∈ L.filter goodWord, w.before args s = true) (h2 : ∀ w ∈ L.filter (fun w => !goodWord w), w ∈ B) (h3 : ∀ w ∈ B, w.before args s = true) : ∀ w ∈ L, w.before args s = true := by
  intro w hw
  by_cases g : goodWord w = true
  · exact h1 w (List.mem_filter.mpr ⟨hw, g⟩)
  · refine h3 w (h2 w (List.mem_filter.mpr ⟨hw, ?_⟩))
    show (!goodWord w) = true
    cases hgw : goodWord w
    · rfl
    · exact absurd hgw g
theorem vx_c {args : Array Value} {s : State} {w : Cond} {B : List Cond} (h : w.before args s = true) (t : ∀ w ∈ B, w.before args s = true) : ∀ w' ∈ w :: B, w'.before args s = true := fun w' h' => (List.mem_cons.mp h').elim (fun e => by rw [e]; exact h) (t w')
theorem vx_n {args : Array Value} {s : State} : ∀ w ∈ ([] : List Cond), w.before args s = true := fun _ h => nomatch h
theorem vx_own {args : Array Value} {s : State} {L : List Cond} (h1 : ∀ w ∈ L.filter vx_no, w.before args s = true)
    (hU : (Cond.isRef (.static Bundle.tN "UNASSIGNED_STACK" Bundle.steD)).before args s = true) (hN : (Cond.isRef (.static Bundle.tN "SUPPRESSED_SENTINEL" Bundle.listD)).before args s = true)
    (lU : (Cond.laysStatic Bundle.tN "UNASSIGNED_STACK" Bundle.steD).before args s = true) (lN : (Cond.laysStatic Bundle.tN "SUPPRESSED_SENTINEL" Bundle.listD).before args s = true) : ∀ w ∈ L, w.before args s = true := by
  intro w hw
  by_cases e1 : w = .isRef (.static Bundle.tN "UNASSIGNED_STACK" Bundle.steD)
  · rw [e1]; exact hU
  · by_cases e2 : w = .isRef (.static Bundle.tN "SUPPRESSED_SENTINEL" Bundle.listD)
    · rw [e2]; exact hN
    · by_cases e3 : w = .laysStatic Bundle.tN "UNASSIGNED_STACK" Bundle.steD
      · rw [e3]; exact lU
      · by_cases e4 : w = .laysStatic Bundle.tN "SUPPRESSED_SENTINEL" Bundle.listD
        · rw [e4]; exact lN
        · exact h1 w (List.mem_filter.mpr ⟨hw, by unfold vx_no; rw [decide_eq_true e1, decide_eq_true e2, decide_eq_true e3, decide_eq_true e4]; rfl⟩)
/-- where a static field lies, its class's statics cell in H -/
def vx_L (C n d : String) (A : Nat → Prop) (U : State) (H : Heap) : Prop := ∃ (c : ClassId) (k : Class) (i : Nat) (f : Field) (a : Nat) (cell : Cell), U.vm.findClass C = some c ∧ U.fieldFound? C n d = some (c, k, i, f) ∧ f.isStatic = true ∧ k.statics = some a ∧ H[a]? = some cell ∧ cell.vm.isStatics = true ∧ cell.cls = c ∧ f.slot < cell.slots.size ∧ k.staticTypes[f.slot]? = some f.type ∧ ¬ A a
theorem vx_L.moved {C n d : String} {A : Nat → Prop} {u U : State} {H : Heap} (hvm : u.vm.Alike U.vm) (h : vx_L C n d A u H) : vx_L C n d A U H := by
  obtain ⟨c, k, i, f, a, cell, h1, h2, h3, h4, h5, h6, h7, h8, h9, h10⟩ := h
  obtain ⟨k', hi', he⟩ := State.fieldFound?_setVm hvm h2
  exact ⟨c, k', i, f, a, cell, by rw [hvm.findClass]; exact h1, hi', h3, by rw [he]; exact h4, h5, h6, h7, h8, by rw [he]; exact h9, h10⟩
theorem vx_L.kept {C n d : String} {A : Nat → Prop} {U : State} {H H1 : Heap} (h : vx_L C n d A U H) (hq : ∀ a : Nat, a < H.size → ¬ A a → H1[a]? = H[a]?) : vx_L C n d A U H1 := by
  obtain ⟨c, k, i, f, a, cell, h1, h2, h3, h4, h5, h6, h7, h8, h9, h10⟩ := h
  exact ⟨c, k, i, f, a, cell, h1, h2, h3, h4, by rw [hq a (Array.getElem?_eq_some_iff.mp h5).1 h10]; exact h5, h6, h7, h8, h9, h10⟩
theorem vx_L.narrow {C n d : String} {A B : Nat → Prop} {U : State} {H : Heap} (h : vx_L C n d A U H) (hAB : ∀ q, B q → A q) : vx_L C n d B U H := by
  obtain ⟨c, k, i, f, a, cell, h1, h2, h3, h4, h5, h6, h7, h8, h9, h10⟩ := h
  exact ⟨c, k, i, f, a, cell, h1, h2, h3, h4, h5, h6, h7, h8, h9, fun z => h10 (hAB _ z)⟩
theorem vx_L.word {C n d : String} {A : Nat → Prop} {s : State} {args : Array Value} (h : vx_L C n d A s s.heap) : (Cond.laysStatic C n d).before args s = true := by
  obtain ⟨c, k, i, f, a, cell, h1, h2, h3, h4, h5, h6, h7, h8, h9, -⟩ := h
  show (Cond.laysStatic C n d).holds args s none s [] = true
  exact Cond.laysStatic_of h1 h2 h3 h4 h5 h6 h7 h8 h9
/-- .. and what it holds: null or some reference -/
def vx_Zq (C n d : String) (A : Nat → Prop) (U : State) (H : Heap) : Prop := va_Zq C n d A U H ∧ vx_L C n d A U H
theorem vx_Zq.moved {C n d : String} {A : Nat → Prop} {u U : State} {H : Heap} (hvm : u.vm.Alike U.vm) (h : vx_Zq C n d A u H) : vx_Zq C n d A U H := ⟨va_Zq.moved hvm h.1, vx_L.moved hvm h.2⟩
theorem vx_Zq.kept {C n d : String} {A : Nat → Prop} {U : State} {H H1 : Heap} (h : vx_Zq C n d A U H) (hq : ∀ a : Nat, a < H.size → ¬ A a → H1[a]? = H[a]?) : vx_Zq C n d A U H1 := ⟨va_Zq.kept h.1 hq, vx_L.kept h.2 hq⟩
theorem vx_Zq.narrow {C n d : String} {A B : Nat → Prop} {U : State} {H : Heap} (h : vx_Zq C n d A U H) (hAB : ∀ q, B q → A q) : vx_Zq C n d B U H := ⟨va_Zq.narrow h.1 hAB, vx_L.narrow h.2 hAB⟩
theorem vx_Zqof {args : Array Value} {s : State} {C n d : String} {A : Nat → Prop} (hl : (Cond.laysStatic C n d).before args s = true) (hini : (Cond.initialized C).before args s = true) (h : (Cond.isRef (.static C n d)).before args s = true) (hA : ∀ a : Nat, a < s.heap.size → ¬ A a) : vx_Zq C n d A s s.heap := by
  refine ⟨va_Zqof hl hini h hA, ?_⟩
  obtain ⟨c, k, i, f, a, cell, h1, h2, h3, h4, h5, h6, h7, h8, h9⟩ := Cond.laysStatic_spec hl
  exact ⟨c, k, i, f, a, cell, h1, h2, h3, h4, h5, h6, h7, h8, h9, hA a (Array.getElem?_eq_some_iff.mp h5).1⟩
theorem vx_isRef {C n d : String} {v : Value} {A : Nat → Prop} {s : State} {args : Array Value} (h : va_Z C n d v A s s.heap) (hv : v.isRef = true) : (Cond.isRef (.static C n d)).before args s = true := by
  obtain ⟨cf, kf, fi, f, a, cell, h1, h2, h3, h4, h5, h6, h7, -⟩ := h
  have he : (Term.static C n d).eval args s none [] s = some v := by
    simp [Term.eval, State.fieldNamed?, h1, h2, h4, h5, h6, h7]
  simp only [Cond.before, Cond.holds, Cond.value, he]
  cases v <;> simp_all [Value.isRef]
theorem vx_isRefq {C n d : String} {A : Nat → Prop} {s : State} {args : Array Value} (h : va_Zq C n d A s s.heap) : (Cond.isRef (.static C n d)).before args s = true := by
  rcases h with h | ⟨t, h⟩
  · exact vx_isRef h rfl
  · exact vx_isRef h rfl
/-- the same frame, seen from here: as if the method were called anew in this heap -/
theorem vx_rebase {T : State} (X : Stand p l e R s m args below meth c T locs cells slots) {R' : Room} (hf : R'.frames ≤ R.frames) (hl : R'.locals ≤ R.locals) (hc : cells + R'.cells ≤ R.cells) (hs : slots + R'.slots ≤ R.slots) :
    Stand p l e R' ((T.setVm s.vm).setFrames (.invoking m args :: below)) m args below meth c T [] 0 0 := by
  have htop : (T.setVm s.vm).topJava?.isSome := X.here.top
  have hF : ((T.setVm s.vm).setFrames (.invoking m args :: below)).frames = .invoking m args :: below := State.frames_setFrames _ (State.cur_lt_of_top htop)
  obtain ⟨g₀, hg0⟩ := Option.isSome_iff_exists.mp htop
  obtain ⟨r, hr⟩ := State.topJava?_eq_some.mp hg0
  have hl9 : e.platform.stackLimits (T.setVm s.vm).me = e.platform.stackLimits s.me := X.limits
  have hb9 : (T.setVm s.vm).me.stackBytes = s.me.stackBytes := X.bytes
  refine ⟨X.admits, X.cas, X.clock, hF, ?_, X.hears, X.method, X.code, X.here, X.tail, X.warmed, ?_, ?_, ?_⟩
  · have h := X.room
    have hU : ((T.setVm s.vm).setFrames (.invoking m args :: below)).localsInUse = s.localsInUse := by
      rw [State.localsInUse_invoking hF (meth := meth) (c := c) X.method X.code, State.localsInUse_invoking X.frames X.method X.code]
    simp only [State.hasRoom, Bool.and_eq_true, decide_eq_true_eq] at h ⊢
    obtain ⟨⟨⟨⟨h1, h2, h3, h4, h5, h6⟩, h7⟩, h8⟩, h9⟩ := h
    rw [X.frames, List.length_cons] at h2 h3
    have q1 := X.heapSize
    have q2 := X.used
    simp only [hF, hU, List.length_cons, State.stackLimits_setFrames, State.stackBytes_setFrames, hl9, hb9]
    refine ⟨⟨⟨⟨by omega, by omega, by omega, by omega, by omega, h6⟩, ?_⟩, ?_⟩, X.book⟩
    · show T.heap.size + R'.cells ≤ e.platform.maxCells
      omega
    · show T.slotsUsed + R'.slots ≤ e.platform.maxSlots
      omega
  · rw [State.stackLimits_setFrames]; rfl
  · rw [State.stackBytes_setFrames]; rfl
  · refine ⟨?_, Nat.le_refl _, Nat.le_refl _, ?_, ?_, fun a c9 h9 => ⟨c9, h9, rfl, rfl, fun _ _ => rfl⟩⟩
    · obtain ⟨t, ht, -⟩ := State.frames_cons hr
      show T.setVm s.vm = { ((T.setVm s.vm).setFrames (.invoking m args :: below)).setFrames (T.setVm s.vm).frames with heap := T.heap, slotsUsed := T.slotsUsed }
      rw [State.setFrames_setFrames, State.setFrames_self ht]
      rfl
    · show T.slotsUsed = T.slotsUsed + ((T.heap.toList.drop T.heap.size).map (·.slots.size)).sum
      rw [List.drop_eq_nil_of_le (Nat.le_of_eq Array.length_toList)]
      rfl
    · show ((T.heap.toList.drop T.heap.size).map (·.slots.size)).sum ≤ 0
      rw [List.drop_eq_nil_of_le (Nat.le_of_eq Array.length_toList)]
      exact Nat.le_refl _
/-- 'throw new E()': new; dup; invokespecial; athrow -/
theorem vx_throw0 {cc : ByteArray} {pc : Nat} (hexec : p.tables.exec = Jvm.exec) (hb : c.code = cc) (hl : l.stackTraces = false) {own cls : String} {names : List String} {ik ic mc ms : Nat} {A : Nat → Prop}
    (hown : s.vm.findClass own = some m.cls) (hcls : Bundle.fit cls = true) (hnames : ∀ n ∈ names, Bundle.fit n = true)
    (hk : (Cond.classLink own ik cls).before args s = true) (hini : (Cond.initialized cls).before args s = true) (hat : ∀ w ∈ vx_at0 own ic cls names, w.before args s = true)
    (hgood : ∀ w ∈ Cond.classLink own ik cls :: Cond.initialized cls :: vx_at0 own ic cls names, vx_ot w = true)
    (hU : vx_Zq Bundle.tN "UNASSIGNED_STACK" Bundle.steD A s s.heap) (hN : vx_Zq Bundle.tN "SUPPRESSED_SENTINEL" Bundle.listD A s s.heap) (hS : va_S A s.heap H locs) (hsize : ls.size = c.maxLocals)
    (d0 : decode cc pc = .ok (.new ik, 3)) (d3 : decode cc (pc + 3) = .ok (.dup, 1)) (d4 : decode cc (pc + 4) = .ok (.invokespecial ic, 3)) (d7 : decode cc (pc + 7) = .ok (.athrow, 1))
    (hout : ∀ x ∈ c.exceptionTable.toList, covers x (pc + 7) = false)
    (hRframes : names.length + 3 < R.frames) (hRlocals : (rest.map fun v => v.category).sum + (13 * (names.length + 1) + 42) ≤ R.locals) (hRcells : cells + 1 ≤ R.cells) (hRslots : slots + 6 ≤ R.slots) (hlocks : meth.locks = false)
    (hx : ∀ t : State, s.vm.Alike t.vm → H.size ≤ t.heap.size → (∀ q : Nat, q < H.size → t.heap[q]? = H[q]?) → XC cls s t)
    (hf : ∀ z ∈ locs, free z.base) (hc : cells + 1 ≤ mc) (hs : slots + 6 ≤ ms) :
    W p l e R s m args below meth c H locs cells slots (vx_MQ below Qc XC args s mc ms free) (F0 m pc ls rest) := by
  intro T hT X
  have htr : e.platform.stackTraces = false := (show e.platform.stackTraces = l.stackTraces by rw [X.admits.platform]).trans hl
  have Y := vx_rebase X (R' := { frames := R.frames, locals := R.locals, cells := 1, slots := 6 }) (Nat.le_refl _) (Nat.le_refl _) hRcells hRslots
  obtain ⟨s', hA⟩ : ∃ z, z = (T.setVm s.vm).setFrames (.invoking m args :: below) := ⟨_, rfl⟩
  rw [← hA] at Y
  have hvm : s'.vm = s.vm := by rw [hA]; rfl
  have hhp : s'.heap = H := by rw [hA]; exact hT
  have hW0 : s.WarmedH s'.vm := by rw [hvm]; exact State.WarmedH.refl s
  have hat' : ∀ w ∈ vx_at0 own ic cls names, w.before args s' = true := fun w hw => vx_ot_at hW0 hvm.symm (hgood w (List.mem_cons_of_mem _ (List.mem_cons_of_mem _ hw))) (hat w hw)
  have hk' : (Cond.classLink own ik cls).before args s' = true := vx_ot_at hW0 hvm.symm (hgood _ List.mem_cons_self) hk
  have hini' : (Cond.initialized cls).before args s' = true := vx_ot_at hW0 hvm.symm (hgood _ (List.mem_cons_of_mem _ List.mem_cons_self)) hini
  have hU' : vx_Zq Bundle.tN "UNASSIGNED_STACK" Bundle.steD A s' s'.heap := by rw [hhp]; exact vx_Zq.moved hW0.alike (hU.kept hS.2.1)
  have hN' : vx_Zq Bundle.tN "SUPPRESSED_SENTINEL" Bundle.listD A s' s'.heap := by rw [hhp]; exact vx_Zq.moved hW0.alike (hN.kept hS.2.1)
  have h : ∀ w ∈ Bundle.ownAtoms0 own ic cls names, w.before args s' = true := vx_own hat' (vx_isRefq hU'.1) (vx_isRefq hN'.1) hU'.2.word hN'.2.word
  have hown' : s'.vm.findClass own = some m.cls := by rw [hvm]; exact hown
  have hins : (Cond.instantiable cls 6).before args s' = true := h _ (by simp [Bundle.ownAtoms0])
  obtain ⟨vm₁, cX, kX, hfX, hkX, -, -, X₁, st1⟩ := Y.newCold hexec (own := own) (C := cls) (index := ik) (n := 6) hown' hk' hins hini'
    (g := F0 m pc ls rest) rfl (by rw [hb]; exact d0) (Nat.le_refl _) (Nat.le_refl _)
  generalize hT1 : (T.setVm vm₁).pushCell { cls := cX, slots := kX.instanceTypes.map defaultValue, vm := .none } = T1 at X₁ st1
  have hcat : (Value.ref T.heap.size).category = 1 := rfl
  have hcellA : T1.heap[T.heap.size]? = some (freshCell cX kX) := by rw [← hT1]; exact State.heap_pushCell_size _ _
  have d3' : decode c.code (pc + 3) = .ok (.dup, 1) := by rw [hb]; exact d3
  obtain ⟨U, hsteps, hrun, hend, hW, hsame, ce, hce, hO⟩ := X₁.ctorThrow0 hexec htr (own := own) (cls := cls) (names := names) (ic := ic) hown' hcls hnames h (fun x hx => nomatch hx) hfX hkX hcellA (by rw [hhp, hT]; exact Nat.le_refl _)
    (g := { method := m, pc := pc + 4, locals := ls, stack := .ref T.heap.size :: .ref T.heap.size :: rest, locked := none }) rfl hsize rfl rfl (rest := rest) rfl
    (by rw [hb]; exact d4) (by rw [hb]; exact d7) hout hRframes (by simp only [List.map_cons, List.sum_cons, hcat]; omega) hlocks
  obtain ⟨f1, f2⟩ := vx_frame hsame
  rw [hhp] at f1 f2
  have hWs : s.WarmedH U.vm := State.WarmedH.trans hW0 hW
  have hcl : s.vm.findClass cls = some ce.cls := by
    have h9 := hO.cls
    rw [hvm] at h9
    exact h9
  have hall : s.sameButNew ({ U with vm := s.vm } : State) locs mc ms := by
    subst hA
    obtain ⟨e1, e2⟩ := hsame
    rw [State.setFrames_setFrames] at e1
    have h2 : (T.setVm s.vm).sameButNew ({ U with vm := s.vm } : State) [] (0 + 1) (0 + 6) := ⟨e1, e2⟩
    have h3 := X.same.trans h2
    rw [List.append_nil] at h3
    exact h3.mono hc hs
  refine ⟨U, ?_, .threw T.heap.size, hrun, hend, Or.inr ⟨T.heap.size, rfl, cls, ce, locs, hx U hWs.alike f1 (fun q hq => f2 q hq (fun z hz => nomatch hz)), hce, hO.vm, hcl, hWs, hall, hf⟩⟩
  refine st1 _ ?_
  show Steps p.tables e below (T1.setTop { method := m, pc := pc + 3, locals := ls, stack := .ref T.heap.size :: rest, locked := none }) _
  jvm_step X₁.here [X₁.here.top, hexec, d3', Value.category]
  exact hsteps
/-- 'throw new E("text")': new; dup; ldc; invokespecial; athrow -/
theorem vx_throwS {cc : ByteArray} {pc : Nat} (hexec : p.tables.exec = Jvm.exec) (hb : c.code = cc) (hl : l.stackTraces = false) {own cls text : String} {names : List String} {ik is ic mc ms sa : Nat} {A : Nat → Prop}
    (hown : s.vm.findClass own = some m.cls) (hcls : Bundle.fit cls = true) (hnames : ∀ n ∈ names, Bundle.fit n = true)
    (hk : (Cond.classLink own ik cls).before args s = true) (hini : (Cond.initialized cls).before args s = true) (hstr : vk_R own is text sa s) (hat : ∀ w ∈ vx_atS own ic cls names, w.before args s = true)
    (hgood : ∀ w ∈ Cond.classLink own ik cls :: Cond.initialized cls :: vx_atS own ic cls names, vx_ot w = true)
    (hU : vx_Zq Bundle.tN "UNASSIGNED_STACK" Bundle.steD A s s.heap) (hN : vx_Zq Bundle.tN "SUPPRESSED_SENTINEL" Bundle.listD A s s.heap) (hS : va_S A s.heap H locs) (hsize : ls.size = c.maxLocals)
    (d0 : decode cc pc = .ok (.new ik, 3)) (d3 : decode cc (pc + 3) = .ok (.dup, 1)) (d4 : decode cc (pc + 4) = .ok (.ldc is, 2)) (d6 : decode cc (pc + 6) = .ok (.invokespecial ic, 3)) (d9 : decode cc (pc + 9) = .ok (.athrow, 1))
    (hout : ∀ x ∈ c.exceptionTable.toList, covers x (pc + 9) = false)
    (hRframes : names.length + 3 < R.frames) (hRlocals : (rest.map fun v => v.category).sum + (13 * (names.length + 1) + 43) ≤ R.locals) (hRcells : cells + 1 ≤ R.cells) (hRslots : slots + 6 ≤ R.slots) (hlocks : meth.locks = false)
    (hx : ∀ t : State, s.vm.Alike t.vm → H.size ≤ t.heap.size → (∀ q : Nat, q < H.size → t.heap[q]? = H[q]?) → XC cls s t)
    (hf : ∀ z ∈ locs, free z.base) (hc : cells + 1 ≤ mc) (hs : slots + 6 ≤ ms) :
    W p l e R s m args below meth c H locs cells slots (vx_MQ below Qc XC args s mc ms free) (F0 m pc ls rest) := by
  intro T hT X
  have htr : e.platform.stackTraces = false := (show e.platform.stackTraces = l.stackTraces by rw [X.admits.platform]).trans hl
  have Y := vx_rebase X (R' := { frames := R.frames, locals := R.locals, cells := 1, slots := 6 }) (Nat.le_refl _) (Nat.le_refl _) hRcells hRslots
  obtain ⟨s', hA⟩ : ∃ z, z = (T.setVm s.vm).setFrames (.invoking m args :: below) := ⟨_, rfl⟩
  rw [← hA] at Y
  have hvm : s'.vm = s.vm := by rw [hA]; rfl
  have hhp : s'.heap = H := by rw [hA]; exact hT
  have hW0 : s.WarmedH s'.vm := by rw [hvm]; exact State.WarmedH.refl s
  have hat' : ∀ w ∈ vx_atS own ic cls names, w.before args s' = true := fun w hw => vx_ot_at hW0 hvm.symm (hgood w (List.mem_cons_of_mem _ (List.mem_cons_of_mem _ hw))) (hat w hw)
  have hk' : (Cond.classLink own ik cls).before args s' = true := vx_ot_at hW0 hvm.symm (hgood _ List.mem_cons_self) hk
  have hini' : (Cond.initialized cls).before args s' = true := vx_ot_at hW0 hvm.symm (hgood _ (List.mem_cons_of_mem _ List.mem_cons_self)) hini
  have hU' : vx_Zq Bundle.tN "UNASSIGNED_STACK" Bundle.steD A s' s'.heap := by rw [hhp]; exact vx_Zq.moved hW0.alike (hU.kept hS.2.1)
  have hN' : vx_Zq Bundle.tN "SUPPRESSED_SENTINEL" Bundle.listD A s' s'.heap := by rw [hhp]; exact vx_Zq.moved hW0.alike (hN.kept hS.2.1)
  have h : ∀ w ∈ Bundle.ownAtoms own ic cls names, w.before args s' = true := vx_own hat' (vx_isRefq hU'.1) (vx_isRefq hN'.1) hU'.2.word hN'.2.word
  have hown' : s'.vm.findClass own = some m.cls := by rw [hvm]; exact hown
  have hins : (Cond.instantiable cls 6).before args s' = true := h _ (by simp [Bundle.ownAtoms])
  obtain ⟨vm₁, cX, kX, hfX, hkX, -, -, X₁, st1⟩ := Y.newCold hexec (own := own) (C := cls) (index := ik) (n := 6) hown' hk' hins hini'
    (g := F0 m pc ls rest) rfl (by rw [hb]; exact d0) (Nat.le_refl _) (Nat.le_refl _)
  generalize hT1 : (T.setVm vm₁).pushCell { cls := cX, slots := kX.instanceTypes.map defaultValue, vm := .none } = T1 at X₁ st1
  have hcat : (Value.ref T.heap.size).category = 1 := rfl
  have hcellA : T1.heap[T.heap.size]? = some (freshCell cX kX) := by rw [← hT1]; exact State.heap_pushCell_size _ _
  have d3' : decode c.code (pc + 3) = .ok (.dup, 1) := by rw [hb]; exact d3
  have d4' : decode c.code (pc + 4) = .ok (.ldc is, 2) := by rw [hb]; exact d4
  have hstr' : vk_R own is text sa s' := vk_R.warm hW0 hstr
  obtain ⟨U, hsteps, hrun, hend, hW, hsame, ce, hce, hO⟩ := X₁.ctorThrowS hexec htr (own := own) (cls := cls) (names := names) (ic := ic) hown' hcls hnames h (fun x hx => nomatch hx) hfX hkX hcellA (by rw [hhp, hT]; exact Nat.le_refl _) (msg := .ref sa) rfl
    (g := { method := m, pc := pc + 6, locals := ls, stack := .ref sa :: .ref T.heap.size :: .ref T.heap.size :: rest, locked := none }) rfl hsize rfl rfl (rest := rest) rfl
    (by rw [hb]; exact d6) (by rw [hb]; exact d9) hout hRframes (by simp only [List.map_cons, List.sum_cons, hcat]; omega) hlocks
  obtain ⟨f1, f2⟩ := vx_frame hsame
  rw [hhp] at f1 f2
  have hWs : s.WarmedH U.vm := State.WarmedH.trans hW0 hW
  have hcl : s.vm.findClass cls = some ce.cls := by
    have h9 := hO.cls
    rw [hvm] at h9
    exact h9
  have hall : s.sameButNew ({ U with vm := s.vm } : State) locs mc ms := by
    subst hA
    obtain ⟨e1, e2⟩ := hsame
    rw [State.setFrames_setFrames] at e1
    have h2 : (T.setVm s.vm).sameButNew ({ U with vm := s.vm } : State) [] (0 + 1) (0 + 6) := ⟨e1, e2⟩
    have h3 := X.same.trans h2
    rw [List.append_nil] at h3
    exact h3.mono hc hs
  refine ⟨U, ?_, .threw T.heap.size, hrun, hend, Or.inr ⟨T.heap.size, rfl, cls, ce, locs, hx U hWs.alike f1 (fun q hq => f2 q hq (fun z hz => nomatch hz)), hce, hO.vm, hcl, hWs, hall, hf⟩⟩
  refine st1 _ ?_
  show Steps p.tables e below (T1.setTop { method := m, pc := pc + 3, locals := ls, stack := .ref T.heap.size :: rest, locked := none }) _
  jvm_step X₁.here [X₁.here.top, hexec, d3', Value.category]
  exact X₁.ldcString hexec (own := own) (text := text) (index := is) (a := sa) hown' hstr'.1 hstr'.2
    (g := { method := m, pc := pc + 4, locals := ls, stack := .ref T.heap.size :: .ref T.heap.size :: rest, locked := none }) rfl d4' _ hsteps
/-- 'throw new E("text")', the text by a wide index -/
theorem vx_throwSW {cc : ByteArray} {pc : Nat} (hexec : p.tables.exec = Jvm.exec) (hb : c.code = cc) (hl : l.stackTraces = false) {own cls text : String} {names : List String} {ik is ic mc ms sa : Nat} {A : Nat → Prop}
    (hown : s.vm.findClass own = some m.cls) (hcls : Bundle.fit cls = true) (hnames : ∀ n ∈ names, Bundle.fit n = true)
    (hk : (Cond.classLink own ik cls).before args s = true) (hini : (Cond.initialized cls).before args s = true) (hstr : vk_R own is text sa s) (hat : ∀ w ∈ vx_atS own ic cls names, w.before args s = true)
    (hgood : ∀ w ∈ Cond.classLink own ik cls :: Cond.initialized cls :: vx_atS own ic cls names, vx_ot w = true)
    (hU : vx_Zq Bundle.tN "UNASSIGNED_STACK" Bundle.steD A s s.heap) (hN : vx_Zq Bundle.tN "SUPPRESSED_SENTINEL" Bundle.listD A s s.heap) (hS : va_S A s.heap H locs) (hsize : ls.size = c.maxLocals)
    (d0 : decode cc pc = .ok (.new ik, 3)) (d3 : decode cc (pc + 3) = .ok (.dup, 1)) (d4 : decode cc (pc + 4) = .ok (.ldc_w is, 3)) (d7 : decode cc (pc + 7) = .ok (.invokespecial ic, 3)) (d10 : decode cc (pc + 10) = .ok (.athrow, 1))
    (hout : ∀ x ∈ c.exceptionTable.toList, covers x (pc + 10) = false)
    (hRframes : names.length + 3 < R.frames) (hRlocals : (rest.map fun v => v.category).sum + (13 * (names.length + 1) + 43) ≤ R.locals) (hRcells : cells + 1 ≤ R.cells) (hRslots : slots + 6 ≤ R.slots) (hlocks : meth.locks = false)
    (hx : ∀ t : State, s.vm.Alike t.vm → H.size ≤ t.heap.size → (∀ q : Nat, q < H.size → t.heap[q]? = H[q]?) → XC cls s t)
    (hf : ∀ z ∈ locs, free z.base) (hc : cells + 1 ≤ mc) (hs : slots + 6 ≤ ms) :
    W p l e R s m args below meth c H locs cells slots (vx_MQ below Qc XC args s mc ms free) (F0 m pc ls rest) := by
  intro T hT X
  have htr : e.platform.stackTraces = false := (show e.platform.stackTraces = l.stackTraces by rw [X.admits.platform]).trans hl
  have Y := vx_rebase X (R' := { frames := R.frames, locals := R.locals, cells := 1, slots := 6 }) (Nat.le_refl _) (Nat.le_refl _) hRcells hRslots
  obtain ⟨s', hA⟩ : ∃ z, z = (T.setVm s.vm).setFrames (.invoking m args :: below) := ⟨_, rfl⟩
  rw [← hA] at Y
  have hvm : s'.vm = s.vm := by rw [hA]; rfl
  have hhp : s'.heap = H := by rw [hA]; exact hT
  have hW0 : s.WarmedH s'.vm := by rw [hvm]; exact State.WarmedH.refl s
  have hat' : ∀ w ∈ vx_atS own ic cls names, w.before args s' = true := fun w hw => vx_ot_at hW0 hvm.symm (hgood w (List.mem_cons_of_mem _ (List.mem_cons_of_mem _ hw))) (hat w hw)
  have hk' : (Cond.classLink own ik cls).before args s' = true := vx_ot_at hW0 hvm.symm (hgood _ List.mem_cons_self) hk
  have hini' : (Cond.initialized cls).before args s' = true := vx_ot_at hW0 hvm.symm (hgood _ (List.mem_cons_of_mem _ List.mem_cons_self)) hini
  have hU' : vx_Zq Bundle.tN "UNASSIGNED_STACK" Bundle.steD A s' s'.heap := by rw [hhp]; exact vx_Zq.moved hW0.alike (hU.kept hS.2.1)
  have hN' : vx_Zq Bundle.tN "SUPPRESSED_SENTINEL" Bundle.listD A s' s'.heap := by rw [hhp]; exact vx_Zq.moved hW0.alike (hN.kept hS.2.1)
  have h : ∀ w ∈ Bundle.ownAtoms own ic cls names, w.before args s' = true := vx_own hat' (vx_isRefq hU'.1) (vx_isRefq hN'.1) hU'.2.word hN'.2.word
  have hown' : s'.vm.findClass own = some m.cls := by rw [hvm]; exact hown
  have hins : (Cond.instantiable cls 6).before args s' = true := h _ (by simp [Bundle.ownAtoms])
  obtain ⟨vm₁, cX, kX, hfX, hkX, -, -, X₁, st1⟩ := Y.newCold hexec (own := own) (C := cls) (index := ik) (n := 6) hown' hk' hins hini'
    (g := F0 m pc ls rest) rfl (by rw [hb]; exact d0) (Nat.le_refl _) (Nat.le_refl _)
  generalize hT1 : (T.setVm vm₁).pushCell { cls := cX, slots := kX.instanceTypes.map defaultValue, vm := .none } = T1 at X₁ st1
  have hcat : (Value.ref T.heap.size).category = 1 := rfl
  have hcellA : T1.heap[T.heap.size]? = some (freshCell cX kX) := by rw [← hT1]; exact State.heap_pushCell_size _ _
  have d3' : decode c.code (pc + 3) = .ok (.dup, 1) := by rw [hb]; exact d3
  have d4' : decode c.code (pc + 4) = .ok (.ldc_w is, 3) := by rw [hb]; exact d4
  have hstr' : vk_R own is text sa s' := vk_R.warm hW0 hstr
  obtain ⟨U, hsteps, hrun, hend, hW, hsame, ce, hce, hO⟩ := X₁.ctorThrowS hexec htr (own := own) (cls := cls) (names := names) (ic := ic) hown' hcls hnames h (fun x hx => nomatch hx) hfX hkX hcellA (by rw [hhp, hT]; exact Nat.le_refl _) (msg := .ref sa) rfl
    (g := { method := m, pc := pc + 7, locals := ls, stack := .ref sa :: .ref T.heap.size :: .ref T.heap.size :: rest, locked := none }) rfl hsize rfl rfl (rest := rest) rfl
    (by rw [hb]; exact d7) (by rw [hb]; exact d10) hout hRframes (by simp only [List.map_cons, List.sum_cons, hcat]; omega) hlocks
  obtain ⟨f1, f2⟩ := vx_frame hsame
  rw [hhp] at f1 f2
  have hWs : s.WarmedH U.vm := State.WarmedH.trans hW0 hW
  have hcl : s.vm.findClass cls = some ce.cls := by
    have h9 := hO.cls
    rw [hvm] at h9
    exact h9
  have hall : s.sameButNew ({ U with vm := s.vm } : State) locs mc ms := by
    subst hA
    obtain ⟨e1, e2⟩ := hsame
    rw [State.setFrames_setFrames] at e1
    have h2 : (T.setVm s.vm).sameButNew ({ U with vm := s.vm } : State) [] (0 + 1) (0 + 6) := ⟨e1, e2⟩
    have h3 := X.same.trans h2
    rw [List.append_nil] at h3
    exact h3.mono hc hs
  refine ⟨U, ?_, .threw T.heap.size, hrun, hend, Or.inr ⟨T.heap.size, rfl, cls, ce, locs, hx U hWs.alike f1 (fun q hq => f2 q hq (fun z hz => nomatch hz)), hce, hO.vm, hcl, hWs, hall, hf⟩⟩
  refine st1 _ ?_
  show Steps p.tables e below (T1.setTop { method := m, pc := pc + 3, locals := ls, stack := .ref T.heap.size :: rest, locked := none }) _
  jvm_step X₁.here [X₁.here.top, hexec, d3', Value.category]
  exact X₁.ldcStringW hexec (own := own) (text := text) (index := is) (a := sa) hown' hstr'.1 hstr'.2
    (g := { method := m, pc := pc + 4, locals := ls, stack := .ref T.heap.size :: .ref T.heap.size :: rest, locked := none }) rfl d4' _ hsteps
end Ends
section Bodies
variable {l : Launch}
theorem vx_ofW {y : MethodName} {ws ws' : List Cond} {rm : Room} {Pc : Array Value → State → Prop} {Qc : Array Value → State → Outcome → State → Prop} {XC : String → State → State → Prop} {mc ms : Nat} {free : Addr → Prop} {cc : ByteArray} {maxL : Nat} {ret : Option FieldType}
    (hy : plainName y.cls = true) (hw : ws = Cond.code y cc maxL ret :: ws')
    (body : ∀ p e s m args below meth c s₁, BodyLoose p l y (headSpec ws rm) cc maxL ret e s m args below meth c s₁ → c.maxLocals = maxL → (∀ x ∈ c.exceptionTable.toList, False) → Pc args s →
      W p l e (headSpec ws rm).room s m args below meth c s.heap [] 0 0 (vx_MQ below Qc XC args s mc ms free) (entryFrame m args maxL)) : vx_Met l y ws rm Pc Qc XC mc ms free := by
  refine MetFree.of_bodyS (code := cc) (maxLocals := maxL) (ret := ret) hy ?_ ?_
  · intro args s m h hn
    obtain ⟨meth, c, h1, h2, h3, h4, h5, h6, -, -⟩ := Cond.code_spec hn (atoms_spec (ws := ws) h _ (by rw [hw]; exact List.mem_cons_self))
    exact ⟨meth, c, h1, h2, h3, h4, h5, h6⟩
  · intro p e s m args below meth c s₁ B hml hP _
    have hh0 : s₁.heap = s.heap := by rw [B.state]; rfl
    have ht : ∀ x ∈ c.exceptionTable.toList, False := by
      obtain ⟨meth9, c9, h1, h2, -, -, -, -, h7, -⟩ := Cond.code_spec B.named (atoms_spec (ws := ws) B.pre _ (by rw [hw]; exact List.mem_cons_self))
      cases Option.some.inj (h1.symm.trans B.method)
      cases Option.some.inj (h2.symm.trans (Stand.of_body B).code)
      intro x hx
      rw [Array.isEmpty_iff.mp h7] at hx
      cases hx
    obtain ⟨t, a1, o, b1, b2, b3⟩ := body p e s m args below meth c s₁ B hml ht hP s₁ hh0 (Stand.of_body B)
    exact ⟨t, o, a1, b1, b2, b3⟩
/-- the table of a body with handlers -/
theorem vx_table {p : Program} {x y : MethodName} {S : Spec} {cc bytes : ByteArray} {maxL maxL' : Nat} {ret ret' : Option FieldType} {e : Env} {s s₁ : State} {m : MethodId} {args : Array Value} {below : List Frame} {meth : Method} {c : Code} {hh : List (Nat × Nat × Nat × Nat)}
    (B : BodyLoose p l y S cc maxL ret e s m args below meth c s₁) (h : (Cond.codeWith y bytes maxL' ret' hh).before args s = true) : c.exceptionTable.toList = tableOf hh := by
  obtain ⟨m9, meth9, c9, hn9, h1, h2, -, -, h6, -⟩ := Cond.codeWith_spec h
  cases Option.some.inj (hn9.symm.trans B.named)
  cases Option.some.inj (h1.symm.trans B.method)
  cases Option.some.inj (h2.symm.trans (Stand.of_body B).code)
  rw [← h6, table_eq]
end Bodies
end VXA
/-! ===== END ===== -/
/-! ===== BEGIN a static call of a method with an exception table ===== -/
section VXS
variable {p : Program} {l : Launch} {e : Env} {R : Room} {s : State} {m : MethodId} {args : Array Value} {below : List Frame} {meth : Method} {c : Code} {T : State} {H : Heap} {locs : List Loc} {cells slots : Nat}
abbrev vx_CSW (R : Room) (s : State) (args : Array Value) (own : String) (index : Nat) (y : MethodName) (bytes : ByteArray) (maxL : Nat) (ret : Option FieldType) (hh : List (Nat × Nat × Nat × Nat)) (ws : List Cond) (rm : Room) (mc ms n : Nat) : Prop :=
  (rm.cells = mc ∧ rm.slots = ms ∧ rm.frames + 1 ≤ R.frames ∧ 8 + (maxL + 11) + rm.locals ≤ R.locals ∧ (∀ w ∈ ws, ∀ (a' : Array Value) (U : State), s.WarmedH U.vm → w.before a' U = true) ∧ Cond.codeWith y bytes maxL ret hh ∈ ws) ∧
  (Cond.codeWith y bytes maxL ret hh).before args s = true ∧ (Cond.initialized y.cls).before args s = true ∧ (y.cls ≠ "java/lang/invoke/MethodHandle" ∧ y.cls ≠ "java/lang/invoke/VarHandle") ∧
  (∀ sig, parseMethodDescriptor y.desc = some sig → n = sig.parameters.length) ∧ (Cond.methodLink own index y).before args s = true ∧ (Cond.static y).before args s = true
theorem vx_cwSW {own : String} {index maxL mc ms : Nat} {y : MethodName} {bytes : ByteArray} {ret : Option FieldType} {hh : List (Nat × Nat × Nat × Nat)} {Ts ws ws' : List Cond} {rm : Room} (n : Nat) (ht : ∀ w ∈ Ts, w.before args s = true) (hT : GoodIn Ts (va_wsS own index y ws)) (hw : ws = Cond.codeWith y bytes maxL ret hh :: ws') (hrc : rm.cells = mc) (hrs : rm.slots = ms)
    (hd : y.cls ≠ "java/lang/invoke/MethodHandle" ∧ y.cls ≠ "java/lang/invoke/VarHandle" ∧ (parseMethodDescriptor y.desc).map (fun d => d.parameters.length) = some n) (hR : rm.frames + 1 ≤ R.frames ∧ 8 + (maxL + 11) + rm.locals ≤ R.locals) :
    vx_CSW R s args own index y bytes maxL ret hh ws rm mc ms n := by
  have ok : ∀ w ∈ va_wsS own index y ws, w.before args s = true := fun w h => ht w (hT w h).1
  have hG : GoodIn Ts ws := fun w h => hT w (by unfold va_wsS; exact List.mem_append_right _ h)
  have hc : Cond.codeWith y bytes maxL ret hh ∈ ws := by rw [hw]; exact List.mem_cons_self
  refine ⟨⟨hrc, hrs, hR.1, hR.2, pay_in ht hG, hc⟩, ht _ (hG _ hc).1, ok _ (by simp [va_wsS]), ⟨hd.1, hd.2.1⟩, fun sig h => ?_, ok _ (by simp [va_wsS]), ok _ (by simp [va_wsS])⟩
  have h2 := hd.2.2
  rw [h] at h2
  exact (Option.some.inj h2).symm
theorem vx_callSW (X : Stand p l e R s m args below meth c T locs cells slots) (hexec : p.tables.exec = Jvm.exec) {own : String} {index : Nat} {y : MethodName} {bytes : ByteArray} {maxL : Nat} {ret : Option FieldType} {hh : List (Nat × Nat × Nat × Nat)}
    (hown : s.vm.findClass own = some m.cls) (hlink : (Cond.methodLink own index y).before args s = true) (hstat : (Cond.static y).before args s = true) (hinit : (Cond.initialized y.cls).before args s = true)
    (hcode : (Cond.codeWith y bytes maxL ret hh).before args s = true) (hy : y.cls ≠ "java/lang/invoke/MethodHandle" ∧ y.cls ≠ "java/lang/invoke/VarHandle")
    {W9 : Nat} {Pre : Pt → Array Value → Prop} {Post : Pt → Array Value → Option Value → Pt → Prop} (hK : Back l R p e below s args y 3 W9 Pre Post)
    {g : JFrame} (hg : g.method = m) (hsize : g.locals.size = c.maxLocals) {argsL rest : List Value} (hlen : ∀ sig, parseMethodDescriptor y.desc = some sig → argsL.length = sig.parameters.length)
    (hstack : g.stack = argsL.reverse ++ rest) (hW : 2 * g.monitorRoom + (rest.map fun v => v.category).sum ≤ W9) (hdg : decode c.code g.pc = .ok (.invokestatic index, 3))
    (hpre : ∀ vm₁, s.WarmedH vm₁ → Pre ⟨T.setVm vm₁, locs, cells, slots⟩ argsL.toArray) :
    ∃ (v : Option Value) (vm₁ : Vm) (B : Pt), s.WarmedH vm₁ ∧ Stand p l e R s m args below meth c B.U B.locs B.cells B.slots ∧ Post ⟨T.setVm vm₁, locs, cells, slots⟩ argsL.toArray v B ∧
      ∀ target, Steps p.tables e below (B.U.setTop { g with pc := g.pc + 3, stack := v.toList ++ rest }) target → Steps p.tables e below (T.setTop g) target := by
  obtain ⟨mk, methM, cM, hnamed, hmethM, -, -, -, -, -, -, hsigM⟩ := Cond.codeWith_spec hcode
  have hstatic : methM.isStatic = true := Cond.static_spec hnamed hmethM hstat
  obtain ⟨kP, hkP, -⟩ := className_of_methodNamed hnamed
  have hinitP : kP.init = .initialized := Cond.initialized_spec (findClass_of_methodNamed hnamed) hkP hinit
  obtain ⟨vm₁, X₁, hstep₁⟩ := X.invokestatic hexec hown hlink hnamed hmethM hstatic hkP hinitP hy (g := g) hg (argsL := argsL) (rest := rest) (hlen _ hsigM) hstack hdg
  obtain ⟨v, B, X', hpost, hsteps⟩ := hK m meth c ⟨T.setVm vm₁, locs, cells, slots⟩ { g with stack := rest } (.invokestatic index) mk argsL.toArray X₁ hg hsize hdg hW (X₁.named hnamed) (hpre vm₁ X₁.warmed)
  exact ⟨v, vm₁, B, X₁.warmed, X', hpost, fun target h => hstep₁ _ fun acts => by rw [doInvoke_state]; exact hsteps.trans h⟩
theorem vx_runSW {y : MethodName} {bytes cc : ByteArray} {maxL nL mc ms n index : Nat} {ret : Option FieldType} {hh : List (Nat × Nat × Nat × Nat)} {ws : List Cond} {rm : Room} {Pc : Array Value → State → Prop} {Qc : Array Value → State → Outcome → State → Prop} {free : Addr → Prop} {Ts : List Cond} {own : String} {As rest : List Value} {g : JFrame}
    (S : CallFix p m c cc nL s args Ts own) (hM : Met l y ws rm Pc Qc mc ms free) (cw : vx_CSW R s args own index y bytes maxL ret hh ws rm mc ms n) (hp : PreS s H Pc As)
    (hg : g.method = m) (hn : As.length = n) (hsize : g.locals.size = nL) (hstack : g.stack = As.reverse ++ rest) (hW : 2 * g.monitorRoom + (rest.map fun v => v.category).sum ≤ 8) (hdg : decode cc g.pc = .ok (.invokestatic index, 3)) (hf : cells + mc ≤ R.cells ∧ slots + ms ≤ R.slots) :
    va_Run p l e R s m args below meth c H locs cells slots mc ms g rest (Qc As.toArray) (free) := by
  obtain ⟨⟨hrc, hrs, hfr, hlo, hws, hcw⟩, hcode, hini, hy, hlen, hl, hstt⟩ := cw
  have hK : Back l R p e below s args y 3 8 (PreOf R mc ms Pc) (PostOf Qc mc ms free) := va_backW (hh := hh) (bytes := bytes) (maxL := maxL) (ret := ret) hM hp.1 hrc hrs hfr hlo hws hcw (fun a' U hW => word_at hW (Or.inl (by first | rfl | simp [Cond.onTables, Cond.keeps, Cond.steady])) hini)
  obtain ⟨hx, hb, hml, ho, -⟩ := S
  intro T hT X
  obtain ⟨v, vm₁, ⟨U', l2, c2, s2⟩, hW₁, X', ⟨g', mk, t, L, e1, e2, hq, h1, hL, h2, h3⟩, st⟩ := vx_callSW X hx (hh := hh) (bytes := bytes) (maxL := maxL) (ret := ret) ho hl hstt hini hcode hy hK hg (hsize.trans hml.symm) (argsL := As) (rest := rest) (fun sig h => hn.trans (hlen sig h)) hstack hW (by rw [hb]; exact hdg)
    (fun vm₁ hW₁ => ⟨hf.1, hf.2, hp.2 (T.setVm vm₁) hT hW₁⟩)
  dsimp only [Pt.U, Pt.locs, Pt.cells, Pt.slots] at X' e1 e2 h1 h2 h3 st
  subst h1; subst h2; subst h3
  exact ⟨v, (T.setVm vm₁).calling g' mk As.toArray, t, U', L, hT, X', hL, e1, e2, hq, st⟩
/-- not caught here, past rows that name other classes: it goes on to the caller -/
theorem vx_outP {p : Program} {l : Launch} {e : Env} {R : Room} {s : State} {m : MethodId} {args : Array Value} {below : List Frame} {meth : Method} {c : Code} {H : Heap} {locs : List Loc} {cells slots : Nat} {free : Addr → Prop} {ls : Array Slot} {rest : List Value} {Qc : Array Value → State → Outcome → State → Prop} {XC : String → State → State → Prop}
    {pc : Nat} {own E : String} {ce : Cell} {q : Addr} {mc ms : Nat} (hown : s.vm.findClass own = some m.cls) (hlocks : meth.locks = false)
    (hpass : ∀ z ∈ c.exceptionTable.toList, covers z pc = false ∨ (z.catchType ≠ 0 ∧ ∃ nm : String, (Cond.classLink own z.catchType nm).before args s = true ∧ va_Nc E nm s)) (hcell : H[q]? = some ce) (hv : ce.vm = .none) (hcl : s.vm.findClass E = some ce.cls)
    (hx : ∀ t : State, t.heap = H → s.vm.Alike t.vm → XC E s t) (hf : ∀ z ∈ locs, free z.base) (hc : cells ≤ mc) (hs : slots ≤ ms) :
    vx_W p l e R s m args below meth c H locs cells slots (vx_MQ below Qc XC args s mc ms free) (F0 m pc ls rest) q := by
  intro T hT X
  have hpl : e.platform.magicAccessors = ({} : Platform).magicAccessors := by rw [X.admits.platform]
  obtain ⟨vm', hW', X', st⟩ := X.outThrough hlocks q (g := F0 m pc ls rest) rfl rfl rfl (cell := ce) (by rw [hT]; exact hcell) (by rw [hv]; rfl)
    (by obtain ⟨k9, h9, -⟩ := Vm.findClass_spec hcl; exact ⟨k9, h9⟩) (fun z hz => by
      rcases hpass z hz with h | ⟨hz0, nm, hl1, hn1⟩
      · exact Or.inl h
      · obtain ⟨c6, hc6, hcl6⟩ := Cond.classLink_spec hown hl1 e.platform hpl
        obtain ⟨a8, b8, h1, h2, h3⟩ := hn1
        cases Option.some.inj (h1.symm.trans hcl)
        cases Option.some.inj (h2.symm.trans hc6)
        exact Or.inr ⟨hz0, _, hcl6, h3⟩)
  obtain ⟨g₀, hfr⟩ := X'.frames_eq
  have hcell9 : ((T.setVm vm').setFrames (.throwing q :: below)).heap[q]? = some ce := by
    show T.heap[q]? = some ce
    rw [hT]; exact hcell
  have hend : Ended ((T.setVm vm').setFrames (.throwing q :: below)) below (.threw q) := State.frames_setFrames _ (State.cur_lt_of_frames hfr)
  refine ⟨(T.setVm vm').setFrames (.throwing q :: below), ?_, .threw q, X'.here.running, hend, Or.inr ⟨q, rfl, E, ce, locs, hx _ hT (X'.ends _).1.alike, hcell9, hv, hcl, (X'.ends _).1, (X'.ends _).2.mono hc hs, hf⟩⟩
  rw [X.pushThrowing_eq]
  exact st
/-- a thing of a world lies in the heap -/
theorem vx_lt {D : va_G} {cl : List vw_C} {ws : va_W} {H1 : Heap} (h : va_P D cl ws H1) {k : Nat} {q : Nat × va_E} (hk : ws[k]? = some q) : q.1 < H1.size := (h k q hk).lt
end VXS
/-! ===== END ===== -/
/-! ===== BEGIN methods with a table of their own: called by a name, returning or throwing ===== -/
section VXH
/-! vx_backW, vx_callVX, vx_callSX, vx_callVW, vx_runVW, vx_runVX, vx_runSX, vx_ofWH follow the same proofs as their sisters above (Free/Laws.lean, Shelf42/LK1.lean); vx_outP calls Shelf42/NT130.lean (outThrough). -/
section
variable {l : Launch} {R : Room} {p : Program} {e : Env} {below : List Frame} {s : State} {sargs : Array Value} {y : MethodName} {len W9 : Nat}
theorem vx_backW {ws : List Cond} {rm : Room} {Pc : Array Value → State → Prop} {Qc : Array Value → State → Outcome → State → Prop} {XC : String → State → State → Prop} {mc ms : Nat} {free : Addr → Prop} {bytes : ByteArray} {maxL : Nat} {ret : Option FieldType} {hh : List (Nat × Nat × Nat × Nat)}
    (hM : vx_Met l y ws rm Pc Qc XC mc ms free) (hblind : FrameBlind Pc) (hrc : rm.cells = mc) (hrs : rm.slots = ms)
    (hframes : rm.frames + 1 ≤ R.frames) (hlocals : W9 + (maxL + 11) + rm.locals ≤ R.locals)
    (hws : ∀ w ∈ ws, ∀ a' U, s.WarmedH U.vm → w.before a' U = true) (hcode : Cond.codeWith y bytes maxL ret hh ∈ ws) (hinit : ∀ a' U, s.WarmedH U.vm → (Cond.initialized y.cls).before a' U = true) :
    vx_Back l R p e below s sargs y len W9 (PreOf R mc ms Pc) (PostOf Qc mc ms free) (vx_Post XC mc ms free) := by
  intro m meth c A g ig mk a X hg hsize hdg hW hn hp
  have h1 : (headSpec ws rm).pre.before a A.U = true := atoms_intro fun w hw => hws w hw _ _ X.warmed
  have h2 : (Cond.codeWith y bytes maxL ret hh).before a A.U = true := hws _ hcode _ _ X.warmed
  have h3 : (Cond.initialized y.cls).before a A.U = true := hinit _ _ X.warmed
  have h4 : A.cells + (headSpec ws rm).room.cells ≤ R.cells := by rw [show (headSpec ws rm).room.cells = mc from hrc]; exact hp.1
  have h5 : A.slots + (headSpec ws rm).room.slots ≤ R.slots := by rw [show (headSpec ws rm).room.slots = ms from hrs]; exact hp.2.1
  have hPc : Pc a (A.U.calling g mk a) := hblind _ _ _ _ hp.2.2
  obtain ⟨U, Ls, c0, s0⟩ := A
  dsimp only [Pt.U, Pt.locs, Pt.cells, Pt.slots] at h1 h2 h3 h4 h5 X hn hPc ⊢
  obtain ⟨m9, methY, cY, hn9, hmY, hcY, -, hlY, -⟩ := Cond.codeWith_spec h2
  cases Option.some.inj (hn9.symm.trans hn)
  obtain ⟨kY, hkY, -⟩ := className_of_methodNamed hn
  have hinitY : kY.init = .initialized := Cond.initialized_spec (findClass_of_methodNamed hn) hkY h3
  have h : At U g.method c below := by rw [hg]; exact X.here
  have hlocals9 : W9 + (maxL + 11) + (headSpec ws rm).room.locals ≤ R.locals := hlocals
  have happ : (headSpec ws rm).appliesLoose y e.platform (U.calling g mk a) = true :=
    Spec.appliesLoose_calling (g := g) h hdg hn hkY hinitY
      (X.room_calling (g := g) (R' := (headSpec ws rm).room) hsize hmY hcY hframes (by rw [hlY]; omega) h4 h5) h1
  obtain ⟨mid, hmid⟩ := h.above
  have hfr : (U.setTop g).frames = (.java g :: mid) ++ below := by rw [State.frames_setTop' g h.top, hmid]; rfl
  obtain ⟨o, s₂, hsteps, -, hend, hq⟩ := Steps.callFree hM p X.admits X.cas X.clock (acts := []) hfr happ hPc trivial
  have hq' : vx_Q Qc XC mc ms free a (U.calling g mk a) o s₂ := hq
  rw [State.frames_setTop' g h.top] at hend
  obtain ⟨g₀, hg0⟩ := Option.isSome_iff_exists.mp h.top
  obtain ⟨r, hr⟩ := State.topJava?_eq_some.mp hg0
  have hr' : (({ U with heap := s₂.heap, slotsUsed := s₂.slotsUsed } : State).setVm s₂.vm).frames = .java g₀ :: r := hr
  rcases hq' with ⟨hqc, L, hfe, hL⟩ | ⟨q, rfl, E, ce, L, hx, hce, hcv, hcl, hW₂, hsm, hL⟩
  · obtain ⟨⟨v, rfl⟩, hW₂, e2, q2, q3, q4, q5, q6⟩ := id hfe
    have e3 : s₂ = ({ (U.calling g mk a).setFrames s₂.frames with heap := s₂.heap, slotsUsed := s₂.slotsUsed } : State).setVm s₂.vm := by
      have : s₂ = ({ s₂ with vm := (U.calling g mk a).vm } : State).setVm s₂.vm := rfl
      rw [e2] at this
      exact this
    obtain ⟨c₂, i₂, len₂, hc₂, hd₂, hf₂⟩ := hend
    have hW' : U.WarmedH s₂.vm := hW₂
    have hcc : c₂ = c := by
      have h1 : s₂.code? g.method = U.code? g.method := by
        rw [State.code?_eq, State.code?_eq, hW'.alike.method?]
      exact Option.some.inj (hc₂.symm.trans (h1.trans h.code))
    subst hcc
    have hlen : len₂ = len := by rw [hdg] at hd₂; cases hd₂; rfl
    subst hlen
    have hs₂ : s₂ = (({ U with heap := s₂.heap, slotsUsed := s₂.slotsUsed } : State).setVm s₂.vm).setTop { g with pc := g.pc + len₂, stack := v.toList ++ g.stack } := by
      refine e3.trans ?_
      rw [hf₂, State.calling_eq h.top, State.setFrames_setFrames, State.setTop_of_frames _ hr', hr]
      rfl
    have hsame : U.sameButNew ({ U with heap := s₂.heap, slotsUsed := s₂.slotsUsed } : State) L mc ms := by
      refine ⟨?_, q2, q3, q4, q5, q6⟩
      obtain ⟨t, ht, -⟩ := State.frames_cons hr
      show ({ U with heap := s₂.heap, slotsUsed := s₂.slotsUsed } : State) = { U.setFrames U.frames with heap := s₂.heap, slotsUsed := s₂.slotsUsed }
      rw [State.setFrames_self ht]
    subst hg
    refine Or.inl ⟨v, ⟨(({ U with heap := s₂.heap, slotsUsed := s₂.slotsUsed } : State).setVm s₂.vm), Ls ++ L, c0 + mc, s0 + ms⟩,
      ⟨X.admits, X.cas, X.clock, X.frames, X.room, X.hears, X.method, X.code, (X.here.setHeapUsed s₂.heap s₂.slotsUsed).setVm hW'.alike, X.tail, State.WarmedH.trans X.warmed hW', X.limits, X.bytes, X.same.trans (hsame.setVm s.vm)⟩,
      ⟨g, mk, s₂, L, rfl, rfl, hqc, rfl, hL, rfl, rfl⟩, ?_⟩
    show Steps p.tables e below _ ((({ U with heap := s₂.heap, slotsUsed := s₂.slotsUsed } : State).setVm s₂.vm).setTop { g with pc := g.pc + len₂, stack := v.toList ++ g.stack })
    rw [← hs₂]
    exact hsteps
  · obtain ⟨e2, q2, q3, q4, q5, q6⟩ := id hsm
    have e3 : s₂ = ({ (U.calling g mk a).setFrames s₂.frames with heap := s₂.heap, slotsUsed := s₂.slotsUsed } : State).setVm s₂.vm := by
      have : s₂ = ({ s₂ with vm := (U.calling g mk a).vm } : State).setVm s₂.vm := rfl
      rw [e2] at this
      exact this
    have hf₂ : s₂.frames = .throwing q :: .java g :: U.frames.tail := hend
    have hW' : U.WarmedH s₂.vm := hW₂
    have hs₂ : s₂ = ((({ U with heap := s₂.heap, slotsUsed := s₂.slotsUsed } : State).setVm s₂.vm).setTop g).pushFrame (.throwing q) := by
      refine e3.trans ?_
      rw [hf₂, State.calling_eq h.top, State.setFrames_setFrames, State.pushFrame, State.frames_setTop _ hr', State.setTop_of_frames _ hr', State.setFrames_setFrames, hr]
      rfl
    have hsame : U.sameButNew ({ U with heap := s₂.heap, slotsUsed := s₂.slotsUsed } : State) L mc ms := by
      refine ⟨?_, q2, q3, q4, q5, q6⟩
      obtain ⟨t, ht, -⟩ := State.frames_cons hr
      show ({ U with heap := s₂.heap, slotsUsed := s₂.slotsUsed } : State) = { U.setFrames U.frames with heap := s₂.heap, slotsUsed := s₂.slotsUsed }
      rw [State.setFrames_self ht]
    subst hg
    refine Or.inr ⟨q, ⟨(({ U with heap := s₂.heap, slotsUsed := s₂.slotsUsed } : State).setVm s₂.vm), Ls ++ L, c0 + mc, s0 + ms⟩,
      ⟨X.admits, X.cas, X.clock, X.frames, X.room, X.hears, X.method, X.code, (X.here.setHeapUsed s₂.heap s₂.slotsUsed).setVm hW'.alike, X.tail, State.WarmedH.trans X.warmed hW', X.limits, X.bytes, X.same.trans (hsame.setVm s.vm)⟩,
      ⟨g, mk, s₂, L, E, ce, rfl, rfl, hx, hce, hcv, hcl, rfl, hL, rfl, rfl⟩, ?_⟩
    show Steps p.tables e below _ (((({ U with heap := s₂.heap, slotsUsed := s₂.slotsUsed } : State).setVm s₂.vm).setTop g).pushFrame (.throwing q))
    rw [← hs₂]
    exact hsteps
end
variable {p : Program} {l : Launch} {e : Env} {R : Room} {s : State} {m : MethodId} {args : Array Value} {below : List Frame} {meth : Method} {c : Code} {T : State} {H : Heap} {locs : List Loc} {cells slots : Nat}
theorem vx_callVX (X : Stand p l e R s m args below meth c T locs cells slots) (hexec : p.tables.exec = Jvm.exec) {own C : String} {index : Nat} {y : MethodName} {bytes : ByteArray} {maxL : Nat} {ret : Option FieldType} {hh : List (Nat × Nat × Nat × Nat)}
    (hown : s.vm.findClass own = some m.cls) (hlink : (Cond.methodLink own index y).before args s = true) (hinst : (Cond.instanceMethod y).before args s = true) (hsel : (Cond.selects C y y).before args s = true)
    (hcode : (Cond.codeWith y bytes maxL ret hh).before args s = true) (hy : y.cls ≠ "java/lang/invoke/MethodHandle" ∧ y.cls ≠ "java/lang/invoke/VarHandle")
    {W9 : Nat} {Pre : Pt → Array Value → Prop} {Post : Pt → Array Value → Option Value → Pt → Prop} {PostX : Pt → Array Value → Addr → Pt → Prop} (hK : vx_Back l R p e below s args y 3 W9 Pre Post PostX)
    {b : Addr} {cellB : Cell} (hcell : T.heap[b]? = some cellB) (hobj : cellB.vm.isStatics = false) (hcls : s.vm.findClass C = some cellB.cls)
    {g : JFrame} (hg : g.method = m) (hsize : g.locals.size = c.maxLocals) {argsL rest : List Value} (hlen : ∀ sig, parseMethodDescriptor y.desc = some sig → argsL.length = sig.parameters.length)
    (hstack : g.stack = argsL.reverse ++ .ref b :: rest) (hW : 2 * g.monitorRoom + (rest.map fun v => v.category).sum ≤ W9) (hdg : decode c.code g.pc = .ok (.invokevirtual index, 3))
    (hpre : ∀ vm₁, s.WarmedH vm₁ → Pre ⟨T.setVm vm₁, locs, cells, slots⟩ (Value.ref b :: argsL).toArray) :
    (∃ (v : Option Value) (vm₁ : Vm) (B : Pt), s.WarmedH vm₁ ∧ Stand p l e R s m args below meth c B.U B.locs B.cells B.slots ∧ Post ⟨T.setVm vm₁, locs, cells, slots⟩ (Value.ref b :: argsL).toArray v B ∧
      ∀ target, Steps p.tables e below (B.U.setTop { g with pc := g.pc + 3, stack := v.toList ++ rest }) target → Steps p.tables e below (T.setTop g) target) ∨
    (∃ (q : Addr) (vm₁ : Vm) (B : Pt), s.WarmedH vm₁ ∧ Stand p l e R s m args below meth c B.U B.locs B.cells B.slots ∧ PostX ⟨T.setVm vm₁, locs, cells, slots⟩ (Value.ref b :: argsL).toArray q B ∧
      Steps p.tables e below (T.setTop g) ((B.U.setTop { g with stack := rest }).pushFrame (.throwing q))) := by
  obtain ⟨mk, methM, hnamed, hmethM, hstM, habM⟩ := Cond.instanceMethod_spec hinst
  obtain ⟨m8, methM', cM, hn8, hmethM', -, -, -, -, -, -, hsigM⟩ := Cond.codeWith_spec hcode
  cases Option.some.inj (hn8.symm.trans hnamed)
  cases hmethM.symm.trans hmethM'
  obtain ⟨c2, r2, m2, q1, q2, q3, q4, kP, hkP, hkPi⟩ := Cond.selects_spec hsel
  cases hcls.symm.trans q1
  cases (State.methodFound?_of_named hnamed hy).symm.trans q2
  cases hnamed.symm.trans q3
  have hselP : selectMethod e.platform s.vm cellB.cls mk = .method mk := by rw [Launch.admits_selectMethod X.admits]; exact q4
  obtain ⟨vm₁, X₁, hstep₁⟩ := X.invokevirtual hexec hown hlink hnamed hmethM hstM hkP hkPi hy (a := b) (cell := cellB) hcell
    (fun z h => by rw [h] at hobj; cases hobj) hselP hmethM habM hkP hkPi (g := g) hg (argsL := argsL) (rest := rest) (hlen _ hsigM) hstack hdg
  rcases hK m meth c ⟨T.setVm vm₁, locs, cells, slots⟩ { g with stack := rest } (.invokevirtual index) mk (Value.ref b :: argsL).toArray X₁ hg hsize hdg hW (X₁.named hnamed) (hpre vm₁ X₁.warmed) with ⟨v, B, X', hpost, hsteps⟩ | ⟨q, B, X', hpost, hsteps⟩
  · exact Or.inl ⟨v, vm₁, B, X₁.warmed, X', hpost, fun target h => hstep₁ _ fun acts => by rw [doInvoke_state]; exact hsteps.trans h⟩
  · exact Or.inr ⟨q, vm₁, B, X₁.warmed, X', hpost, hstep₁ _ fun acts => by rw [doInvoke_state]; exact hsteps⟩
theorem vx_callSX (X : Stand p l e R s m args below meth c T locs cells slots) (hexec : p.tables.exec = Jvm.exec) {own : String} {index : Nat} {y : MethodName} {bytes : ByteArray} {maxL : Nat} {ret : Option FieldType} {hh : List (Nat × Nat × Nat × Nat)}
    (hown : s.vm.findClass own = some m.cls) (hlink : (Cond.methodLink own index y).before args s = true) (hstat : (Cond.static y).before args s = true) (hinit : (Cond.initialized y.cls).before args s = true)
    (hcode : (Cond.codeWith y bytes maxL ret hh).before args s = true) (hy : y.cls ≠ "java/lang/invoke/MethodHandle" ∧ y.cls ≠ "java/lang/invoke/VarHandle")
    {W9 : Nat} {Pre : Pt → Array Value → Prop} {Post : Pt → Array Value → Option Value → Pt → Prop} {PostX : Pt → Array Value → Addr → Pt → Prop} (hK : vx_Back l R p e below s args y 3 W9 Pre Post PostX)
    {g : JFrame} (hg : g.method = m) (hsize : g.locals.size = c.maxLocals) {argsL rest : List Value} (hlen : ∀ sig, parseMethodDescriptor y.desc = some sig → argsL.length = sig.parameters.length)
    (hstack : g.stack = argsL.reverse ++ rest) (hW : 2 * g.monitorRoom + (rest.map fun v => v.category).sum ≤ W9) (hdg : decode c.code g.pc = .ok (.invokestatic index, 3))
    (hpre : ∀ vm₁, s.WarmedH vm₁ → Pre ⟨T.setVm vm₁, locs, cells, slots⟩ argsL.toArray) :
    (∃ (v : Option Value) (vm₁ : Vm) (B : Pt), s.WarmedH vm₁ ∧ Stand p l e R s m args below meth c B.U B.locs B.cells B.slots ∧ Post ⟨T.setVm vm₁, locs, cells, slots⟩ argsL.toArray v B ∧
      ∀ target, Steps p.tables e below (B.U.setTop { g with pc := g.pc + 3, stack := v.toList ++ rest }) target → Steps p.tables e below (T.setTop g) target) ∨
    (∃ (q : Addr) (vm₁ : Vm) (B : Pt), s.WarmedH vm₁ ∧ Stand p l e R s m args below meth c B.U B.locs B.cells B.slots ∧ PostX ⟨T.setVm vm₁, locs, cells, slots⟩ argsL.toArray q B ∧
      Steps p.tables e below (T.setTop g) ((B.U.setTop { g with stack := rest }).pushFrame (.throwing q))) := by
  obtain ⟨mk, methM, cM, hnamed, hmethM, -, -, -, -, -, -, hsigM⟩ := Cond.codeWith_spec hcode
  have hstatic : methM.isStatic = true := Cond.static_spec hnamed hmethM hstat
  obtain ⟨kP, hkP, -⟩ := className_of_methodNamed hnamed
  have hinitP : kP.init = .initialized := Cond.initialized_spec (findClass_of_methodNamed hnamed) hkP hinit
  obtain ⟨vm₁, X₁, hstep₁⟩ := X.invokestatic hexec hown hlink hnamed hmethM hstatic hkP hinitP hy (g := g) hg (argsL := argsL) (rest := rest) (hlen _ hsigM) hstack hdg
  rcases hK m meth c ⟨T.setVm vm₁, locs, cells, slots⟩ { g with stack := rest } (.invokestatic index) mk argsL.toArray X₁ hg hsize hdg hW (X₁.named hnamed) (hpre vm₁ X₁.warmed) with ⟨v, B, X', hpost, hsteps⟩ | ⟨q, B, X', hpost, hsteps⟩
  · exact Or.inl ⟨v, vm₁, B, X₁.warmed, X', hpost, fun target h => hstep₁ _ fun acts => by rw [doInvoke_state]; exact hsteps.trans h⟩
  · exact Or.inr ⟨q, vm₁, B, X₁.warmed, X', hpost, hstep₁ _ fun acts => by rw [doInvoke_state]; exact hsteps⟩
theorem vx_callVW (X : Stand p l e R s m args below meth c T locs cells slots) (hexec : p.tables.exec = Jvm.exec) {own C : String} {index : Nat} {y : MethodName} {bytes : ByteArray} {maxL : Nat} {ret : Option FieldType} {hh : List (Nat × Nat × Nat × Nat)}
    (hown : s.vm.findClass own = some m.cls) (hlink : (Cond.methodLink own index y).before args s = true) (hinst : (Cond.instanceMethod y).before args s = true) (hsel : (Cond.selects C y y).before args s = true)
    (hcode : (Cond.codeWith y bytes maxL ret hh).before args s = true) (hy : y.cls ≠ "java/lang/invoke/MethodHandle" ∧ y.cls ≠ "java/lang/invoke/VarHandle")
    {W9 : Nat} {Pre : Pt → Array Value → Prop} {Post : Pt → Array Value → Option Value → Pt → Prop} (hK : Back l R p e below s args y 3 W9 Pre Post)
    {b : Addr} {cellB : Cell} (hcell : T.heap[b]? = some cellB) (hobj : cellB.vm.isStatics = false) (hcls : s.vm.findClass C = some cellB.cls)
    {g : JFrame} (hg : g.method = m) (hsize : g.locals.size = c.maxLocals) {argsL rest : List Value} (hlen : ∀ sig, parseMethodDescriptor y.desc = some sig → argsL.length = sig.parameters.length)
    (hstack : g.stack = argsL.reverse ++ .ref b :: rest) (hW : 2 * g.monitorRoom + (rest.map fun v => v.category).sum ≤ W9) (hdg : decode c.code g.pc = .ok (.invokevirtual index, 3))
    (hpre : ∀ vm₁, s.WarmedH vm₁ → Pre ⟨T.setVm vm₁, locs, cells, slots⟩ (Value.ref b :: argsL).toArray) :
    ∃ (v : Option Value) (vm₁ : Vm) (B : Pt), s.WarmedH vm₁ ∧ Stand p l e R s m args below meth c B.U B.locs B.cells B.slots ∧ Post ⟨T.setVm vm₁, locs, cells, slots⟩ (Value.ref b :: argsL).toArray v B ∧
      ∀ target, Steps p.tables e below (B.U.setTop { g with pc := g.pc + 3, stack := v.toList ++ rest }) target → Steps p.tables e below (T.setTop g) target := by
  obtain ⟨mk, methM, hnamed, hmethM, hstM, habM⟩ := Cond.instanceMethod_spec hinst
  obtain ⟨m8, methM', cM, hn8, hmethM', -, -, -, -, -, -, hsigM⟩ := Cond.codeWith_spec hcode
  cases Option.some.inj (hn8.symm.trans hnamed)
  cases hmethM.symm.trans hmethM'
  obtain ⟨c2, r2, m2, q1, q2, q3, q4, kP, hkP, hkPi⟩ := Cond.selects_spec hsel
  cases hcls.symm.trans q1
  cases (State.methodFound?_of_named hnamed hy).symm.trans q2
  cases hnamed.symm.trans q3
  have hselP : selectMethod e.platform s.vm cellB.cls mk = .method mk := by rw [Launch.admits_selectMethod X.admits]; exact q4
  obtain ⟨vm₁, X₁, hstep₁⟩ := X.invokevirtual hexec hown hlink hnamed hmethM hstM hkP hkPi hy (a := b) (cell := cellB) hcell
    (fun z h => by rw [h] at hobj; cases hobj) hselP hmethM habM hkP hkPi (g := g) hg (argsL := argsL) (rest := rest) (hlen _ hsigM) hstack hdg
  obtain ⟨v, B, X', hpost, hsteps⟩ := hK m meth c ⟨T.setVm vm₁, locs, cells, slots⟩ { g with stack := rest } (.invokevirtual index) mk (Value.ref b :: argsL).toArray X₁ hg hsize hdg hW (X₁.named hnamed) (hpre vm₁ X₁.warmed)
  exact ⟨v, vm₁, B, X₁.warmed, X', hpost, fun target h => hstep₁ _ fun acts => by rw [doInvoke_state]; exact hsteps.trans h⟩
abbrev vx_CVW (R : Room) (s : State) (args : Array Value) (own C : String) (index : Nat) (y : MethodName) (bytes : ByteArray) (maxL : Nat) (ret : Option FieldType) (hh : List (Nat × Nat × Nat × Nat)) (ws : List Cond) (rm : Room) (mc ms n : Nat) : Prop :=
  (rm.cells = mc ∧ rm.slots = ms ∧ rm.frames + 1 ≤ R.frames ∧ 8 + (maxL + 11) + rm.locals ≤ R.locals ∧ (∀ w ∈ ws, ∀ (a' : Array Value) (U : State), s.WarmedH U.vm → w.before a' U = true) ∧ Cond.codeWith y bytes maxL ret hh ∈ ws) ∧
  (Cond.codeWith y bytes maxL ret hh).before args s = true ∧ (Cond.initialized y.cls).before args s = true ∧ (y.cls ≠ "java/lang/invoke/MethodHandle" ∧ y.cls ≠ "java/lang/invoke/VarHandle") ∧
  (∀ sig, parseMethodDescriptor y.desc = some sig → n = sig.parameters.length) ∧ (Cond.methodLink own index y).before args s = true ∧ (Cond.instanceMethod y).before args s = true ∧ (Cond.selects C y y).before args s = true
theorem vx_cwVW {own C : String} {index maxL mc ms : Nat} {y : MethodName} {bytes : ByteArray} {ret : Option FieldType} {hh : List (Nat × Nat × Nat × Nat)} {Ts ws ws' : List Cond} {rm : Room} (n : Nat) (ht : ∀ w ∈ Ts, w.before args s = true) (hT : GoodIn Ts (wsV own index C y ws)) (hw : ws = Cond.codeWith y bytes maxL ret hh :: ws') (hrc : rm.cells = mc) (hrs : rm.slots = ms)
    (hd : y.cls = C ∧ y.cls ≠ "java/lang/invoke/MethodHandle" ∧ y.cls ≠ "java/lang/invoke/VarHandle" ∧ (parseMethodDescriptor y.desc).map (fun d => d.parameters.length) = some n) (hR : rm.frames + 1 ≤ R.frames ∧ 8 + (maxL + 11) + rm.locals ≤ R.locals) :
    vx_CVW R s args own C index y bytes maxL ret hh ws rm mc ms n := by
  obtain ⟨hC, hd⟩ := hd
  subst hC
  have ok : ∀ w ∈ wsV own index y.cls y ws, w.before args s = true := fun w h => ht w (hT w h).1
  have hG : GoodIn Ts ws := fun w h => hT w (by unfold wsV; exact List.mem_append_right _ h)
  have hc : Cond.codeWith y bytes maxL ret hh ∈ ws := by rw [hw]; exact List.mem_cons_self
  refine ⟨⟨hrc, hrs, hR.1, hR.2, pay_in ht hG, hc⟩, ht _ (hG _ hc).1, ok _ (by simp [wsV]), ⟨hd.1, hd.2.1⟩, fun sig h => ?_, ok _ (by simp [wsV]), ok _ (by simp [wsV]), ok _ (by simp [wsV])⟩
  have h2 := hd.2.2
  rw [h] at h2
  exact (Option.some.inj h2).symm
theorem vx_runVW {y : MethodName} {bytes cc : ByteArray} {maxL nL mc ms n index : Nat} {ret : Option FieldType} {hh : List (Nat × Nat × Nat × Nat)} {ws : List Cond} {rm : Room} {Pc : Array Value → State → Prop} {Qc : Array Value → State → Outcome → State → Prop} {free : Addr → Prop} {Ts : List Cond} {own C : String} {b : Addr} {As rest : List Value} {g : JFrame}
    (S : CallFix p m c cc nL s args Ts own) (hM : Met l y ws rm Pc Qc mc ms free) (cw : vx_CVW R s args own C index y bytes maxL ret hh ws rm mc ms n) (hp : PreV s H C b Pc As)
    (hg : g.method = m) (hn : As.length = n) (hsize : g.locals.size = nL) (hstack : g.stack = As.reverse ++ .ref b :: rest) (hW : 2 * g.monitorRoom + (rest.map fun v => v.category).sum ≤ 8) (hdg : decode cc g.pc = .ok (.invokevirtual index, 3)) (hf : cells + mc ≤ R.cells ∧ slots + ms ≤ R.slots) :
    va_Run p l e R s m args below meth c H locs cells slots mc ms g rest (Qc (Value.ref b :: As).toArray) free := by
  obtain ⟨⟨hrc, hrs, hfr, hlo, hws, hcw⟩, hcode, hini, hy, hlen, hl, hin, hse⟩ := cw
  have hK : Back l R p e below s args y 3 8 (PreOf R mc ms Pc) (PostOf Qc mc ms free) := va_backW (hh := hh) (bytes := bytes) (maxL := maxL) (ret := ret) hM hp.1 hrc hrs hfr hlo hws hcw (fun a' U hW => word_at hW (Or.inl (by first | rfl | simp [Cond.onTables, Cond.keeps, Cond.steady])) hini)
  obtain ⟨hx, hb, hml, ho, -⟩ := S
  obtain ⟨-, ⟨cellB, hcB, hoB, hclB⟩, hPc⟩ := hp
  intro T hT X
  obtain ⟨v, vm₁, ⟨U', l2, c2, s2⟩, hW₁, X', ⟨g', mk, t, L, e1, e2, hq, h1, hL, h2, h3⟩, st⟩ := vx_callVW X hx (C := C) (hh := hh) (bytes := bytes) (maxL := maxL) (ret := ret) ho hl hin hse hcode hy hK (by rw [hT]; exact hcB) hoB hclB hg (hsize.trans hml.symm) (argsL := As) (rest := rest) (fun sig h => hn.trans (hlen sig h)) hstack hW (by rw [hb]; exact hdg)
    (fun vm₁ hW₁ => ⟨hf.1, hf.2, hPc (T.setVm vm₁) hT hW₁⟩)
  dsimp only [Pt.U, Pt.locs, Pt.cells, Pt.slots] at X' e1 e2 h1 h2 h3 st
  subst h1; subst h2; subst h3
  exact ⟨v, (T.setVm vm₁).calling g' mk (Value.ref b :: As).toArray, t, U', L, hT, X', hL, e1, e2, hq, st⟩
section
variable {y : MethodName} {bytes cc : ByteArray} {maxL nL mc ms n index : Nat} {ret : Option FieldType} {ws : List Cond} {rm : Room} {Pc : Array Value → State → Prop} {Qc : Array Value → State → Outcome → State → Prop} {XC : String → State → State → Prop} {free : Addr → Prop} {Ts : List Cond} {own C : String} {b : Addr} {As rest : List Value} {g : JFrame}
theorem vx_runVX {hh : List (Nat × Nat × Nat × Nat)} (S : CallFix p m c cc nL s args Ts own) (hM : vx_Met l y ws rm Pc Qc XC mc ms free) (cw : vx_CVW R s args own C index y bytes maxL ret hh ws rm mc ms n) (hp : PreV s H C b Pc As)
    (hg : g.method = m) (hn : As.length = n) (hsize : g.locals.size = nL) (hstack : g.stack = As.reverse ++ .ref b :: rest) (hW : 2 * g.monitorRoom + (rest.map fun v => v.category).sum ≤ 8) (hdg : decode cc g.pc = .ok (.invokevirtual index, 3)) (hf : cells + mc ≤ R.cells ∧ slots + ms ≤ R.slots) :
    vx_Run p l e R s m args below meth c H locs cells slots mc ms g rest (Qc (Value.ref b :: As).toArray) XC free := by
  obtain ⟨⟨hrc, hrs, hfr, hlo, hws, hcw⟩, hcode, hini, hy, hlen, hl, hin, hse⟩ := cw
  have hK : vx_Back l R p e below s args y 3 8 (PreOf R mc ms Pc) (PostOf Qc mc ms free) (vx_Post XC mc ms free) := vx_backW (hh := hh) (bytes := bytes) (maxL := maxL) (ret := ret) hM hp.1 hrc hrs hfr hlo hws hcw (fun a' U hW => word_at hW (Or.inl (by first | rfl | simp [Cond.onTables, Cond.keeps, Cond.steady])) hini)
  obtain ⟨hx, hb, hml, ho, -⟩ := S
  obtain ⟨-, ⟨cellB, hcB, hoB, hclB⟩, hPc⟩ := hp
  intro T hT X
  rcases vx_callVX X hx (C := C) (hh := hh) (bytes := bytes) (maxL := maxL) (ret := ret) ho hl hin hse hcode hy hK (by rw [hT]; exact hcB) hoB hclB hg (hsize.trans hml.symm) (argsL := As) (rest := rest) (fun sig h => hn.trans (hlen sig h)) hstack hW (by rw [hb]; exact hdg)
    (fun vm₁ hW₁ => ⟨hf.1, hf.2, hPc (T.setVm vm₁) hT hW₁⟩) with ⟨v, vm₁, ⟨U', l2, c2, s2⟩, hW₁, X', ⟨g', mk, t, L, e1, e2, hq, h1, hL, h2, h3⟩, st⟩ | ⟨q, vm₁, ⟨U', l2, c2, s2⟩, hW₁, X', ⟨g', mk, t, L, E, ce, e1, e2, hq, hce, hcv, hcl, h1, hL, h2, h3⟩, st⟩
  · dsimp only [Pt.U, Pt.locs, Pt.cells, Pt.slots] at X' e1 e2 h1 h2 h3 st
    subst h1; subst h2; subst h3
    exact Or.inl ⟨v, (T.setVm vm₁).calling g' mk (Value.ref b :: As).toArray, t, U', L, hT, X', hL, e1, e2, hq, st⟩
  · dsimp only [Pt.U, Pt.locs, Pt.cells, Pt.slots] at X' e1 e2 h1 h2 h3 st hcl
    subst h1; subst h2; subst h3
    exact Or.inr ⟨q, (T.setVm vm₁).calling g' mk (Value.ref b :: As).toArray, t, U', L, E, ce, hT, X', hL, e1, e2, hq, hce, hcv, vx_cls hW₁ hcl, st⟩
theorem vx_runSX {hh : List (Nat × Nat × Nat × Nat)} (S : CallFix p m c cc nL s args Ts own) (hM : vx_Met l y ws rm Pc Qc XC mc ms free) (cw : vx_CSW R s args own index y bytes maxL ret hh ws rm mc ms n) (hp : PreS s H Pc As)
    (hg : g.method = m) (hn : As.length = n) (hsize : g.locals.size = nL) (hstack : g.stack = As.reverse ++ rest) (hW : 2 * g.monitorRoom + (rest.map fun v => v.category).sum ≤ 8) (hdg : decode cc g.pc = .ok (.invokestatic index, 3)) (hf : cells + mc ≤ R.cells ∧ slots + ms ≤ R.slots) :
    vx_Run p l e R s m args below meth c H locs cells slots mc ms g rest (Qc As.toArray) XC free := by
  obtain ⟨⟨hrc, hrs, hfr, hlo, hws, hcw⟩, hcode, hini, hy, hlen, hl, hstt⟩ := cw
  have hK : vx_Back l R p e below s args y 3 8 (PreOf R mc ms Pc) (PostOf Qc mc ms free) (vx_Post XC mc ms free) := vx_backW (hh := hh) (bytes := bytes) (maxL := maxL) (ret := ret) hM hp.1 hrc hrs hfr hlo hws hcw (fun a' U hW => word_at hW (Or.inl (by first | rfl | simp [Cond.onTables, Cond.keeps, Cond.steady])) hini)
  obtain ⟨hx, hb, hml, ho, -⟩ := S
  intro T hT X
  rcases vx_callSX X hx (hh := hh) (bytes := bytes) (maxL := maxL) (ret := ret) ho hl hstt hini hcode hy hK hg (hsize.trans hml.symm) (argsL := As) (rest := rest) (fun sig h => hn.trans (hlen sig h)) hstack hW (by rw [hb]; exact hdg)
    (fun vm₁ hW₁ => ⟨hf.1, hf.2, hp.2 (T.setVm vm₁) hT hW₁⟩) with ⟨v, vm₁, ⟨U', l2, c2, s2⟩, hW₁, X', ⟨g', mk, t, L, e1, e2, hq, h1, hL, h2, h3⟩, st⟩ | ⟨q, vm₁, ⟨U', l2, c2, s2⟩, hW₁, X', ⟨g', mk, t, L, E, ce, e1, e2, hq, hce, hcv, hcl, h1, hL, h2, h3⟩, st⟩
  · dsimp only [Pt.U, Pt.locs, Pt.cells, Pt.slots] at X' e1 e2 h1 h2 h3 st
    subst h1; subst h2; subst h3
    exact Or.inl ⟨v, (T.setVm vm₁).calling g' mk As.toArray, t, U', L, hT, X', hL, e1, e2, hq, st⟩
  · dsimp only [Pt.U, Pt.locs, Pt.cells, Pt.slots] at X' e1 e2 h1 h2 h3 st hcl
    subst h1; subst h2; subst h3
    exact Or.inr ⟨q, (T.setVm vm₁).calling g' mk As.toArray, t, U', L, E, ce, hT, X', hL, e1, e2, hq, hce, hcv, vx_cls hW₁ hcl, st⟩
end
end VXH
theorem vx_ofWH {l : Launch} {y : MethodName} {ws ws' : List Cond} {rm : Room} {Pc : Array Value → State → Prop} {Qc : Array Value → State → Outcome → State → Prop} {XC : String → State → State → Prop} {mc ms : Nat} {free : Addr → Prop} {cc : ByteArray} {maxL : Nat} {ret : Option FieldType} {hh : List (Nat × Nat × Nat × Nat)}
    (hy : plainName y.cls = true) (hw : ws = Cond.codeWith y cc maxL ret hh :: ws')
    (body : ∀ p e s m args below meth c s₁, BodyLoose p l y (headSpec ws rm) cc maxL ret e s m args below meth c s₁ → c.maxLocals = maxL → Pc args s →
      W p l e (headSpec ws rm).room s m args below meth c s.heap [] 0 0 (vx_MQ below Qc XC args s mc ms free) (entryFrame m args maxL)) : vx_Met l y ws rm Pc Qc XC mc ms free := by
  refine MetFree.of_bodyS (code := cc) (maxLocals := maxL) (ret := ret) hy ?_ ?_
  · intro args s m h hn
    obtain ⟨m9, meth, c, hn9, h1, h2, h3, h4, -, h5, h6, -⟩ := Cond.codeWith_spec (atoms_spec (ws := ws) h _ (by rw [hw]; exact List.mem_cons_self))
    cases hn.symm.trans hn9
    exact ⟨meth, c, h1, h2, h3, h4, h5, h6⟩
  · intro p e s m args below meth c s₁ B hml hP _
    have hh0 : s₁.heap = s.heap := by rw [B.state]; rfl
    obtain ⟨t, a1, o, b1, b2, b3⟩ := body p e s m args below meth c s₁ B hml hP s₁ hh0 (Stand.of_body B)
    exact ⟨t, o, a1, b1, b2, b3⟩
/-! ===== END ===== -/
end
section
/-! ===== BEGIN printed: names, fields, word lists, decode rows ===== -/
def RX0 : String := "BootStage$Unit"
def TX0 : u_T := fun k => match k with
  | 0 => ("BootStage$Unit", "number", "I", true)
  | 1 => ("BootStage$Unit", "time", "I", false)
  | 2 => ("BootStage$Unit", "retries", "I", false)
  | 3 => ("BootStage$Unit", "learned", "I", false)
  | 4 => ("BootStage$Unit", "faults", "I", false)
  | 5 => ("BootStage$Unit", "isHeld", "Z", false)
  | 6 => ("BootStage$Unit", "substitute", "LBootStage$Unit;", false)
  | 7 => ("BootStage$Unit", "needs", "I", false)
  | 8 => ("BootStage$Unit", "keptWishes", "I", false)
  | 9 => ("BootStage$Unit", "state", "I", false)
  | 10 => ("BootStage$Unit", "ticksStarting", "I", false)
  | 11 => ("BootStage$Unit", "retriesUsed", "I", false)
  | _ => ("BootStage$Unit", "learnedAtBegin", "I", false)
def tyX0 : Nat → FieldType := fun k => match k with
  | 0 => .int
  | 1 => .int
  | 2 => .int
  | 3 => .int
  | 4 => .int
  | 5 => .boolean
  | 6 => .object "BootStage$Unit"
  | 7 => .int
  | 8 => .int
  | 9 => .int
  | 10 => .int
  | 11 => .int
  | _ => .int
abbrev wsX00 : List Cond := u_ws RX0 TX0 13
theorem nmX0 : ∀ a, a < 13 → ∀ b, b < 13 → a ≠ b → (TX0 a).2.1 ≠ (TX0 b).2.1 := by decide +kernel
theorem tyX0_ok : ∀ k, k < 13 → parseFieldDescriptor (TX0 k).2.2.1 = some (tyX0 k) := by decide +kernel
abbrev cX0_init : ByteArray := prog_2_method_1_code
def yX0_init : MethodName := ⟨RX0, "<init>", "(I)V"⟩
abbrev cX0_bit : ByteArray := prog_2_method_2_code
def yX0_bit : MethodName := ⟨RX0, "bit", "()I"⟩
abbrev cX0_resetForStart : ByteArray := prog_2_method_3_code
def yX0_resetForStart : MethodName := ⟨RX0, "resetForStart", "()I"⟩
abbrev cX0_isGone : ByteArray := prog_2_method_4_code
def yX0_isGone : MethodName := ⟨RX0, "isGone", "()Z"⟩
abbrev cX0_isNeedMet : ByteArray := prog_2_method_5_code
def yX0_isNeedMet : MethodName := ⟨RX0, "isNeedMet", "()Z"⟩
abbrev cX0_isNeedLost : ByteArray := prog_2_method_6_code
def yX0_isNeedLost : MethodName := ⟨RX0, "isNeedLost", "()Z"⟩
abbrev cX0_isWishDone : ByteArray := prog_2_method_7_code
def yX0_isWishDone : MethodName := ⟨RX0, "isWishDone", "()Z"⟩
abbrev cX0_comeToEnd : ByteArray := prog_2_method_8_code
def yX0_comeToEnd : MethodName := ⟨RX0, "comeToEnd", "()V"⟩
abbrev cX0_timeDone : ByteArray := prog_2_method_9_code
def yX0_timeDone : MethodName := ⟨RX0, "timeDone", "()I"⟩
def RX1 : String := "BootStage$Wish"
def TX1 : u_T := fun k => match k with
  | 0 => ("BootStage$Wish", "wishing", "LBootStage$Unit;", true)
  | 1 => ("BootStage$Wish", "wished", "LBootStage$Unit;", true)
  | _ => ("BootStage$Wish", "weight", "I", false)
def tyX1 : Nat → FieldType := fun k => match k with
  | 0 => .object "BootStage$Unit"
  | 1 => .object "BootStage$Unit"
  | _ => .int
abbrev wsX10 : List Cond := u_ws RX1 TX1 3
theorem nmX1 : ∀ a, a < 3 → ∀ b, b < 3 → a ≠ b → (TX1 a).2.1 ≠ (TX1 b).2.1 := by decide +kernel
theorem tyX1_ok : ∀ k, k < 3 → parseFieldDescriptor (TX1 k).2.2.1 = some (tyX1 k) := by decide +kernel
abbrev cX1_init : ByteArray := prog_3_method_1_code
def yX1_init : MethodName := ⟨RX1, "<init>", "(LBootStage$Unit;LBootStage$Unit;I)V"⟩
def RX2 : String := "BootStage"
def TX2 : u_T := fun k => match k with
  | 0 => ("BootStage", "rows", "[LBootStage$Unit;", true)
  | 1 => ("BootStage", "count", "I", false)
  | 2 => ("BootStage", "wishes", "Ljava/util/ArrayList;", true)
  | 3 => ("BootStage", "isGoingOn", "Z", false)
  | 4 => ("BootStage", "bound", "I", false)
  | 5 => ("BootStage", "total", "I", false)
  | _ => ("BootStage", "reachedBar", "I", false)
def tyX2 : Nat → FieldType := fun k => match k with
  | 0 => .array (.object "BootStage$Unit")
  | 1 => .int
  | 2 => .object "java/util/ArrayList"
  | 3 => .boolean
  | 4 => .int
  | 5 => .int
  | _ => .int
abbrev wsX20 : List Cond := u_ws RX2 TX2 7
theorem nmX2 : ∀ a, a < 7 → ∀ b, b < 7 → a ≠ b → (TX2 a).2.1 ≠ (TX2 b).2.1 := by decide +kernel
theorem tyX2_ok : ∀ k, k < 7 → parseFieldDescriptor (TX2 k).2.2.1 = some (tyX2 k) := by decide +kernel
abbrev cX2_init : ByteArray := prog_1_method_1_code
def yX2_init : MethodName := ⟨RX2, "<init>", "()V"⟩
abbrev cX2_add : ByteArray := prog_1_method_2_code
def yX2_add : MethodName := ⟨RX2, "add", "(II)I"⟩
abbrev cX2_need : ByteArray := prog_1_method_3_code
def yX2_need : MethodName := ⟨RX2, "need", "(II)Z"⟩
abbrev cX2_wish : ByteArray := prog_1_method_4_code
def yX2_wish : MethodName := ⟨RX2, "wish", "(III)I"⟩
abbrev cX2_standIn : ByteArray := prog_1_method_5_code
def yX2_standIn : MethodName := ⟨RX2, "standIn", "(II)I"⟩
abbrev cX2_hold : ByteArray := prog_1_method_6_code
def yX2_hold : MethodName := ⟨RX2, "hold", "(IZ)Z"⟩
abbrev cX2_setFaults : ByteArray := prog_1_method_7_code
def yX2_setFaults : MethodName := ⟨RX2, "setFaults", "(II)I"⟩
abbrev cX2_setTime : ByteArray := prog_1_method_8_code
def yX2_setTime : MethodName := ⟨RX2, "setTime", "(II)I"⟩
abbrev cX2_units : ByteArray := prog_1_method_9_code
def yX2_units : MethodName := ⟨RX2, "units", "()I"⟩
abbrev cX2_learned : ByteArray := prog_1_method_10_code
def yX2_learned : MethodName := ⟨RX2, "learned", "(I)I"⟩
abbrev cX2_faults : ByteArray := prog_1_method_11_code
def yX2_faults : MethodName := ⟨RX2, "faults", "(I)I"⟩
abbrev cX2_begin : ByteArray := prog_1_method_12_code
def yX2_begin : MethodName := ⟨RX2, "begin", "(I)I"⟩
abbrev cX2_tick : ByteArray := prog_1_method_13_code
def yX2_tick : MethodName := ⟨RX2, "tick", "(I)I"⟩
abbrev cX2_goesOn : ByteArray := prog_1_method_14_code
def yX2_goesOn : MethodName := ⟨RX2, "goesOn", "()Z"⟩
abbrev cX2_state : ByteArray := prog_1_method_15_code
def yX2_state : MethodName := ⟨RX2, "state", "(I)I"⟩
abbrev cX2_waitsFor : ByteArray := prog_1_method_16_code
def yX2_waitsFor : MethodName := ⟨RX2, "waitsFor", "(I)I"⟩
abbrev cX2_bar : ByteArray := prog_1_method_17_code
def yX2_bar : MethodName := ⟨RX2, "bar", "()I"⟩
abbrev cX2_ready : ByteArray := prog_1_method_18_code
def yX2_ready : MethodName := ⟨RX2, "ready", "()I"⟩
abbrev cX2_canRun : ByteArray := prog_1_method_19_code
def yX2_canRun : MethodName := ⟨RX2, "canRun", "()I"⟩
abbrev cX2_unitAt : ByteArray := prog_1_method_20_code
def yX2_unitAt : MethodName := ⟨RX2, "unitAt", "(I)LBootStage$Unit;"⟩
abbrev cX2_checkRange : ByteArray := prog_1_method_21_code
def yX2_checkRange : MethodName := ⟨RX2, "checkRange", "(III)V"⟩
abbrev cX2_checkDifferent : ByteArray := prog_1_method_22_code
def yX2_checkDifferent : MethodName := ⟨RX2, "checkDifferent", "(LBootStage$Unit;LBootStage$Unit;)V"⟩
abbrev cX2_checkNoStart : ByteArray := prog_1_method_23_code
def yX2_checkNoStart : MethodName := ⟨RX2, "checkNoStart", "()V"⟩
abbrev cX2_contains : ByteArray := prog_1_method_24_code
def yX2_contains : MethodName := ⟨RX2, "contains", "(ILBootStage$Unit;)Z"⟩
abbrev cX2_findWish : ByteArray := prog_1_method_25_code
def yX2_findWish : MethodName := ⟨RX2, "findWish", "(LBootStage$Unit;LBootStage$Unit;)LBootStage$Wish;"⟩
abbrev cX2_reaches : ByteArray := prog_1_method_26_code
def yX2_reaches : MethodName := ⟨RX2, "reaches", "(LBootStage$Unit;LBootStage$Unit;Z)Z"⟩
abbrev cX2_cutLoops : ByteArray := prog_1_method_27_code
def yX2_cutLoops : MethodName := ⟨RX2, "cutLoops", "()I"⟩
abbrev cX2_keepAllWishes : ByteArray := prog_1_method_28_code
def yX2_keepAllWishes : MethodName := ⟨RX2, "keepAllWishes", "()V"⟩
abbrev cX2_isAwaited : ByteArray := prog_1_method_29_code
def yX2_isAwaited : MethodName := ⟨RX2, "isAwaited", "(LBootStage$Unit;LBootStage$Unit;)Z"⟩
abbrev cX2_passOneTick : ByteArray := prog_1_method_30_code
def yX2_passOneTick : MethodName := ⟨RX2, "passOneTick", "()V"⟩
abbrev cX2_endStarts : ByteArray := prog_1_method_31_code
def yX2_endStarts : MethodName := ⟨RX2, "endStarts", "()V"⟩
abbrev cX2_failWithoutNeeds : ByteArray := prog_1_method_32_code
def yX2_failWithoutNeeds : MethodName := ⟨RX2, "failWithoutNeeds", "()V"⟩
abbrev cX2_startWaiting : ByteArray := prog_1_method_33_code
def yX2_startWaiting : MethodName := ⟨RX2, "startWaiting", "()I"⟩
abbrev cX2_countStarting : ByteArray := prog_1_method_34_code
def yX2_countStarting : MethodName := ⟨RX2, "countStarting", "()I"⟩
abbrev cX2_metNeeds : ByteArray := prog_1_method_35_code
def yX2_metNeeds : MethodName := ⟨RX2, "metNeeds", "()I"⟩
abbrev cX2_lostNeeds : ByteArray := prog_1_method_36_code
def yX2_lostNeeds : MethodName := ⟨RX2, "lostNeeds", "()I"⟩
abbrev cX2_doneWishes : ByteArray := prog_1_method_37_code
def yX2_doneWishes : MethodName := ⟨RX2, "doneWishes", "()I"⟩
abbrev cX2_raiseBar : ByteArray := prog_1_method_38_code
def yX2_raiseBar : MethodName := ⟨RX2, "raiseBar", "()V"⟩
abbrev cX2_timeDone : ByteArray := prog_1_method_39_code
def yX2_timeDone : MethodName := ⟨RX2, "timeDone", "()I"⟩
abbrev cX2_ableAlone : ByteArray := prog_1_method_40_code
def yX2_ableAlone : MethodName := ⟨RX2, "ableAlone", "()I"⟩
abbrev cX2_keepSupplied : ByteArray := prog_1_method_41_code
def yX2_keepSupplied : MethodName := ⟨RX2, "keepSupplied", "(I)I"⟩
def RX3 : String := "BootStageModel"
def TX3 : u_T := fun k => match k with
  | 0 => ("BootStageModel", "units", "I", false)
  | 1 => ("BootStageModel", "times", "[I", true)
  | 2 => ("BootStageModel", "learned", "[I", true)
  | 3 => ("BootStageModel", "retries", "[I", true)
  | 4 => ("BootStageModel", "faults", "[I", true)
  | 5 => ("BootStageModel", "standIns", "[I", true)
  | 6 => ("BootStageModel", "isHeld", "[Z", true)
  | 7 => ("BootStageModel", "needs", "[Z", true)
  | 8 => ("BootStageModel", "weights", "[I", true)
  | 9 => ("BootStageModel", "toldAt", "[I", true)
  | 10 => ("BootStageModel", "told", "I", false)
  | 11 => ("BootStageModel", "isCut", "[Z", true)
  | 12 => ("BootStageModel", "wasBegun", "Z", false)
  | 13 => ("BootStageModel", "goesOn", "Z", false)
  | 14 => ("BootStageModel", "bound", "I", false)
  | 15 => ("BootStageModel", "total", "I", false)
  | 16 => ("BootStageModel", "bar", "I", false)
  | 17 => ("BootStageModel", "states", "[I", true)
  | 18 => ("BootStageModel", "ticks", "[I", true)
  | 19 => ("BootStageModel", "used", "[I", true)
  | 20 => ("BootStageModel", "counted", "[I", true)
  | 21 => ("BootStageModel", "isReached", "[Z", true)
  | _ => ("BootStageModel", "thrown", "I", false)
def tyX3 : Nat → FieldType := fun k => match k with
  | 0 => .int
  | 1 => .array .int
  | 2 => .array .int
  | 3 => .array .int
  | 4 => .array .int
  | 5 => .array .int
  | 6 => .array .boolean
  | 7 => .array .boolean
  | 8 => .array .int
  | 9 => .array .int
  | 10 => .int
  | 11 => .array .boolean
  | 12 => .boolean
  | 13 => .boolean
  | 14 => .int
  | 15 => .int
  | 16 => .int
  | 17 => .array .int
  | 18 => .array .int
  | 19 => .array .int
  | 20 => .array .int
  | 21 => .array .boolean
  | _ => .int
abbrev wsX30 : List Cond := u_ws RX3 TX3 23
theorem nmX3 : ∀ a, a < 23 → ∀ b, b < 23 → a ≠ b → (TX3 a).2.1 ≠ (TX3 b).2.1 := by decide +kernel
theorem tyX3_ok : ∀ k, k < 23 → parseFieldDescriptor (TX3 k).2.2.1 = some (tyX3 k) := by decide +kernel
abbrev cX3_init : ByteArray := prog_5_method_1_code
def yX3_init : MethodName := ⟨RX3, "<init>", "()V"⟩
abbrev cX3_thrown : ByteArray := prog_5_method_2_code
def yX3_thrown : MethodName := ⟨RX3, "thrown", "()I"⟩
abbrev cX3_goes : ByteArray := prog_5_method_3_code
def yX3_goes : MethodName := ⟨RX3, "goes", "(I)Z"⟩
abbrev cX3_isIn : ByteArray := prog_5_method_4_code
def yX3_isIn : MethodName := ⟨RX3, "isIn", "(III)Z"⟩
abbrev cX3_isUnit : ByteArray := prog_5_method_5_code
def yX3_isUnit : MethodName := ⟨RX3, "isUnit", "(I)Z"⟩
abbrev cX3_edge : ByteArray := prog_5_method_6_code
def yX3_edge : MethodName := ⟨RX3, "edge", "(II)I"⟩
abbrev cX3_add : ByteArray := prog_5_method_7_code
def yX3_add : MethodName := ⟨RX3, "add", "(II)I"⟩
abbrev cX3_reaches : ByteArray := prog_5_method_8_code
def yX3_reaches : MethodName := ⟨RX3, "reaches", "(IIZ)Z"⟩
abbrev cX3_need : ByteArray := prog_5_method_9_code
def yX3_need : MethodName := ⟨RX3, "need", "(II)Z"⟩
abbrev cX3_wish : ByteArray := prog_5_method_10_code
def yX3_wish : MethodName := ⟨RX3, "wish", "(III)I"⟩
abbrev cX3_standIn : ByteArray := prog_5_method_11_code
def yX3_standIn : MethodName := ⟨RX3, "standIn", "(II)I"⟩
abbrev cX3_hold : ByteArray := prog_5_method_12_code
def yX3_hold : MethodName := ⟨RX3, "hold", "(IZ)Z"⟩
abbrev cX3_setFaults : ByteArray := prog_5_method_13_code
def yX3_setFaults : MethodName := ⟨RX3, "setFaults", "(II)I"⟩
abbrev cX3_setTime : ByteArray := prog_5_method_14_code
def yX3_setTime : MethodName := ⟨RX3, "setTime", "(II)I"⟩
abbrev cX3_units : ByteArray := prog_5_method_15_code
def yX3_units : MethodName := ⟨RX3, "units", "()I"⟩
abbrev cX3_asks : ByteArray := prog_5_method_16_code
def yX3_asks : MethodName := ⟨RX3, "asks", "(I)Z"⟩
abbrev cX3_learned : ByteArray := prog_5_method_17_code
def yX3_learned : MethodName := ⟨RX3, "learned", "(I)I"⟩
abbrev cX3_faults : ByteArray := prog_5_method_18_code
def yX3_faults : MethodName := ⟨RX3, "faults", "(I)I"⟩
abbrev cX3_weakest : ByteArray := prog_5_method_19_code
def yX3_weakest : MethodName := ⟨RX3, "weakest", "()I"⟩
abbrev cX3_begin : ByteArray := prog_5_method_20_code
def yX3_begin : MethodName := ⟨RX3, "begin", "(I)I"⟩
abbrev cX3_isOff : ByteArray := prog_5_method_21_code
def yX3_isOff : MethodName := ⟨RX3, "isOff", "(I)Z"⟩
abbrev cX3_isMet : ByteArray := prog_5_method_22_code
def yX3_isMet : MethodName := ⟨RX3, "isMet", "(I)Z"⟩
abbrev cX3_isLost : ByteArray := prog_5_method_23_code
def yX3_isLost : MethodName := ⟨RX3, "isLost", "(I)Z"⟩
abbrev cX3_waits : ByteArray := prog_5_method_24_code
def yX3_waits : MethodName := ⟨RX3, "waits", "(II)Z"⟩
abbrev cX3_starting : ByteArray := prog_5_method_25_code
def yX3_starting : MethodName := ⟨RX3, "starting", "()I"⟩
abbrev cX3_ends : ByteArray := prog_5_method_26_code
def yX3_ends : MethodName := ⟨RX3, "ends", "(I)V"⟩
abbrev cX3_isSo : ByteArray := prog_5_method_27_code
def yX3_isSo : MethodName := ⟨RX3, "isSo", "(II)Z"⟩
abbrev cX3_raised : ByteArray := prog_5_method_28_code
def yX3_raised : MethodName := ⟨RX3, "raised", "()I"⟩
abbrev cX3_passes : ByteArray := prog_5_method_29_code
def yX3_passes : MethodName := ⟨RX3, "passes", "()V"⟩
abbrev cX3_tick : ByteArray := prog_5_method_30_code
def yX3_tick : MethodName := ⟨RX3, "tick", "(I)I"⟩
abbrev cX3_goesOn : ByteArray := prog_5_method_31_code
def yX3_goesOn : MethodName := ⟨RX3, "goesOn", "()Z"⟩
abbrev cX3_state : ByteArray := prog_5_method_32_code
def yX3_state : MethodName := ⟨RX3, "state", "(I)I"⟩
abbrev cX3_waitsFor : ByteArray := prog_5_method_33_code
def yX3_waitsFor : MethodName := ⟨RX3, "waitsFor", "(I)I"⟩
abbrev cX3_bar : ByteArray := prog_5_method_34_code
def yX3_bar : MethodName := ⟨RX3, "bar", "()I"⟩
abbrev cX3_ready : ByteArray := prog_5_method_35_code
def yX3_ready : MethodName := ⟨RX3, "ready", "()I"⟩
abbrev cX3_canRunIn : ByteArray := prog_5_method_36_code
def yX3_canRunIn : MethodName := ⟨RX3, "canRunIn", "(II)Z"⟩
abbrev cX3_canRun : ByteArray := prog_5_method_37_code
def yX3_canRun : MethodName := ⟨RX3, "canRun", "()I"⟩
def RJx145de : String := "java/io/Serializable"
def TJx145de : u_T := fun k => match k with
  | _ => ("", "", "", false)
def tyJx145de : Nat → FieldType := fun k => match k with
  | _ => .int
abbrev wsJx145de0 : List Cond := u_ws RJx145de TJx145de 0
theorem nmJx145de : ∀ a, a < 0 → ∀ b, b < 0 → a ≠ b → (TJx145de a).2.1 ≠ (TJx145de b).2.1 := by decide +kernel
theorem tyJx145de_ok : ∀ k, k < 0 → parseFieldDescriptor (TJx145de k).2.2.1 = some (tyJx145de k) := by decide +kernel
def RJx8e188 : String := "java/lang/Cloneable"
def TJx8e188 : u_T := fun k => match k with
  | _ => ("", "", "", false)
def tyJx8e188 : Nat → FieldType := fun k => match k with
  | _ => .int
abbrev wsJx8e1880 : List Cond := u_ws RJx8e188 TJx8e188 0
theorem nmJx8e188 : ∀ a, a < 0 → ∀ b, b < 0 → a ≠ b → (TJx8e188 a).2.1 ≠ (TJx8e188 b).2.1 := by decide +kernel
theorem tyJx8e188_ok : ∀ k, k < 0 → parseFieldDescriptor (TJx8e188 k).2.2.1 = some (tyJx8e188 k) := by decide +kernel
def RJxab1ab : String := "java/lang/Iterable"
def TJxab1ab : u_T := fun k => match k with
  | _ => ("", "", "", false)
def tyJxab1ab : Nat → FieldType := fun k => match k with
  | _ => .int
abbrev wsJxab1ab0 : List Cond := u_ws RJxab1ab TJxab1ab 0
theorem nmJxab1ab : ∀ a, a < 0 → ∀ b, b < 0 → a ≠ b → (TJxab1ab a).2.1 ≠ (TJxab1ab b).2.1 := by decide +kernel
theorem tyJxab1ab_ok : ∀ k, k < 0 → parseFieldDescriptor (TJxab1ab k).2.2.1 = some (tyJxab1ab k) := by decide +kernel
def RJ9 : String := "java/lang/Math"
def TJ9 : u_T := fun k => match k with
  | _ => ("", "", "", false)
def tyJ9 : Nat → FieldType := fun k => match k with
  | _ => .int
abbrev wsJ90 : List Cond := u_ws RJ9 TJ9 0
theorem nmJ9 : ∀ a, a < 0 → ∀ b, b < 0 → a ≠ b → (TJ9 a).2.1 ≠ (TJ9 b).2.1 := by decide +kernel
theorem tyJ9_ok : ∀ k, k < 0 → parseFieldDescriptor (TJ9 k).2.2.1 = some (tyJ9 k) := by decide +kernel
abbrev cJ9_max_7cf53 : ByteArray := prog_13_method_65_code
def yJ9_max_7cf53 : MethodName := ⟨RJ9, "max", "(II)I"⟩
abbrev cJ9_min_7cf53 : ByteArray := prog_13_method_69_code
def yJ9_min_7cf53 : MethodName := ⟨RJ9, "min", "(II)I"⟩
def RJ0 : String := "java/lang/String"
def TJ0 : u_T := fun k => match k with
  | _ => ("", "", "", false)
def tyJ0 : Nat → FieldType := fun k => match k with
  | _ => .int
abbrev wsJ00 : List Cond := u_ws RJ0 TJ0 0
theorem nmJ0 : ∀ a, a < 0 → ∀ b, b < 0 → a ≠ b → (TJ0 a).2.1 ≠ (TJ0 b).2.1 := by decide +kernel
theorem tyJ0_ok : ∀ k, k < 0 → parseFieldDescriptor (TJ0 k).2.2.1 = some (tyJ0 k) := by decide +kernel
def RJ10 : String := "java/lang/System"
def TJ10 : u_T := fun k => match k with
  | _ => ("", "", "", false)
def tyJ10 : Nat → FieldType := fun k => match k with
  | _ => .int
abbrev wsJ100 : List Cond := u_ws RJ10 TJ10 0
theorem nmJ10 : ∀ a, a < 0 → ∀ b, b < 0 → a ≠ b → (TJ10 a).2.1 ≠ (TJ10 b).2.1 := by decide +kernel
theorem tyJ10_ok : ∀ k, k < 0 → parseFieldDescriptor (TJ10 k).2.2.1 = some (tyJ10 k) := by decide +kernel
def RJxa1e45 : String := "java/util/AbstractCollection"
def TJxa1e45 : u_T := fun k => match k with
  | _ => ("", "", "", false)
def tyJxa1e45 : Nat → FieldType := fun k => match k with
  | _ => .int
abbrev wsJxa1e450 : List Cond := u_ws RJxa1e45 TJxa1e45 0
theorem nmJxa1e45 : ∀ a, a < 0 → ∀ b, b < 0 → a ≠ b → (TJxa1e45 a).2.1 ≠ (TJxa1e45 b).2.1 := by decide +kernel
theorem tyJxa1e45_ok : ∀ k, k < 0 → parseFieldDescriptor (TJxa1e45 k).2.2.1 = some (tyJxa1e45 k) := by decide +kernel
abbrev cJxa1e45_init_da8c8 : ByteArray := prog_18_method_1_code
def yJxa1e45_init_da8c8 : MethodName := ⟨RJxa1e45, "<init>", "()V"⟩
def RJxc12de : String := "java/util/AbstractList"
def TJxc12de : u_T := fun k => match k with
  | _ => ("", "", "", false)
def tyJxc12de : Nat → FieldType := fun k => match k with
  | _ => .int
abbrev wsJxc12de0 : List Cond := u_ws RJxc12de TJxc12de 0
theorem nmJxc12de : ∀ a, a < 0 → ∀ b, b < 0 → a ≠ b → (TJxc12de a).2.1 ≠ (TJxc12de b).2.1 := by decide +kernel
theorem tyJxc12de_ok : ∀ k, k < 0 → parseFieldDescriptor (TJxc12de k).2.2.1 = some (tyJxc12de k) := by decide +kernel
abbrev cJxc12de_init_da8c8 : ByteArray := prog_19_method_1_code
def yJxc12de_init_da8c8 : MethodName := ⟨RJxc12de, "<init>", "()V"⟩
def RJx4a65c : String := "java/util/ArrayList"
def TJx4a65c : u_T := fun k => match k with
  | 0 => ("java/util/AbstractList", "modCount", "I", false)
  | 1 => ("java/util/ArrayList", "elementData", "[Ljava/lang/Object;", false)
  | _ => ("java/util/ArrayList", "size", "I", false)
def tyJx4a65c : Nat → FieldType := fun k => match k with
  | 0 => .int
  | 1 => .array (.object "java/lang/Object")
  | _ => .int
abbrev wsJx4a65c0 : List Cond := u_ws RJx4a65c TJx4a65c 3
theorem nmJx4a65c : ∀ a, a < 3 → ∀ b, b < 3 → a ≠ b → (TJx4a65c a).2.1 ≠ (TJx4a65c b).2.1 := by decide +kernel
theorem tyJx4a65c_ok : ∀ k, k < 3 → parseFieldDescriptor (TJx4a65c k).2.2.1 = some (tyJx4a65c k) := by decide +kernel
abbrev cJx4a65c_init_da8c8 : ByteArray := prog_20_method_2_code
def yJx4a65c_init_da8c8 : MethodName := ⟨RJx4a65c, "<init>", "()V"⟩
abbrev cJx4a65c_grow_92f84 : ByteArray := prog_20_method_6_code
def yJx4a65c_grow_92f84 : MethodName := ⟨RJx4a65c, "grow", "(I)[Ljava/lang/Object;"⟩
abbrev cJx4a65c_grow_d5877 : ByteArray := prog_20_method_7_code
def yJx4a65c_grow_d5877 : MethodName := ⟨RJx4a65c, "grow", "()[Ljava/lang/Object;"⟩
abbrev cJx4a65c_size_8abf5 : ByteArray := prog_20_method_8_code
def yJx4a65c_size_8abf5 : MethodName := ⟨RJx4a65c, "size", "()I"⟩
abbrev cJx4a65c_elementData_915e3 : ByteArray := prog_20_method_18_code
def yJx4a65c_elementData_915e3 : MethodName := ⟨RJx4a65c, "elementData", "(I)Ljava/lang/Object;"⟩
abbrev cJx4a65c_get_915e3 : ByteArray := prog_20_method_20_code
def yJx4a65c_get_915e3 : MethodName := ⟨RJx4a65c, "get", "(I)Ljava/lang/Object;"⟩
abbrev cJx4a65c_add_72be8 : ByteArray := prog_20_method_24_code
def yJx4a65c_add_72be8 : MethodName := ⟨RJx4a65c, "add", "(Ljava/lang/Object;[Ljava/lang/Object;I)V"⟩
abbrev cJx4a65c_add_9ea2d : ByteArray := prog_20_method_25_code
def yJx4a65c_add_9ea2d : MethodName := ⟨RJx4a65c, "add", "(Ljava/lang/Object;)Z"⟩
def RJ7 : String := "java/util/Arrays"
def TJ7 : u_T := fun k => match k with
  | _ => ("", "", "", false)
def tyJ7 : Nat → FieldType := fun k => match k with
  | _ => .int
abbrev wsJ70 : List Cond := u_ws RJ7 TJ7 0
theorem nmJ7 : ∀ a, a < 0 → ∀ b, b < 0 → a ≠ b → (TJ7 a).2.1 ≠ (TJ7 b).2.1 := by decide +kernel
theorem tyJ7_ok : ∀ k, k < 0 → parseFieldDescriptor (TJ7 k).2.2.1 = some (tyJ7 k) := by decide +kernel
abbrev cJ7_copyOf_1904c : ByteArray := prog_21_method_119_code
def yJ7_copyOf_1904c : MethodName := ⟨RJ7, "copyOf", "([Ljava/lang/Object;I)[Ljava/lang/Object;"⟩
abbrev cJ7_copyOf_6403c : ByteArray := prog_21_method_120_code
def yJ7_copyOf_6403c : MethodName := ⟨RJ7, "copyOf", "([Ljava/lang/Object;ILjava/lang/Class;)[Ljava/lang/Object;"⟩
def RJx5ef63 : String := "java/util/Collection"
def TJx5ef63 : u_T := fun k => match k with
  | _ => ("", "", "", false)
def tyJx5ef63 : Nat → FieldType := fun k => match k with
  | _ => .int
abbrev wsJx5ef630 : List Cond := u_ws RJx5ef63 TJx5ef63 0
theorem nmJx5ef63 : ∀ a, a < 0 → ∀ b, b < 0 → a ≠ b → (TJx5ef63 a).2.1 ≠ (TJx5ef63 b).2.1 := by decide +kernel
theorem tyJx5ef63_ok : ∀ k, k < 0 → parseFieldDescriptor (TJx5ef63 k).2.2.1 = some (tyJx5ef63 k) := by decide +kernel
def RJxbd725 : String := "java/util/List"
def TJxbd725 : u_T := fun k => match k with
  | _ => ("", "", "", false)
def tyJxbd725 : Nat → FieldType := fun k => match k with
  | _ => .int
abbrev wsJxbd7250 : List Cond := u_ws RJxbd725 TJxbd725 0
theorem nmJxbd725 : ∀ a, a < 0 → ∀ b, b < 0 → a ≠ b → (TJxbd725 a).2.1 ≠ (TJxbd725 b).2.1 := by decide +kernel
theorem tyJxbd725_ok : ∀ k, k < 0 → parseFieldDescriptor (TJxbd725 k).2.2.1 = some (tyJxbd725 k) := by decide +kernel
def RJ15 : String := "java/util/Objects"
def TJ15 : u_T := fun k => match k with
  | _ => ("", "", "", false)
def tyJ15 : Nat → FieldType := fun k => match k with
  | _ => .int
abbrev wsJ150 : List Cond := u_ws RJ15 TJ15 0
theorem nmJ15 : ∀ a, a < 0 → ∀ b, b < 0 → a ≠ b → (TJ15 a).2.1 ≠ (TJ15 b).2.1 := by decide +kernel
theorem tyJ15_ok : ∀ k, k < 0 → parseFieldDescriptor (TJ15 k).2.2.1 = some (tyJ15 k) := by decide +kernel
abbrev cJ15_checkIndex_7cf53 : ByteArray := prog_24_method_17_code
def yJ15_checkIndex_7cf53 : MethodName := ⟨RJ15, "checkIndex", "(II)I"⟩
def RJxf0a74 : String := "java/util/RandomAccess"
def TJxf0a74 : u_T := fun k => match k with
  | _ => ("", "", "", false)
def tyJxf0a74 : Nat → FieldType := fun k => match k with
  | _ => .int
abbrev wsJxf0a740 : List Cond := u_ws RJxf0a74 TJxf0a74 0
theorem nmJxf0a74 : ∀ a, a < 0 → ∀ b, b < 0 → a ≠ b → (TJxf0a74 a).2.1 ≠ (TJxf0a74 b).2.1 := by decide +kernel
theorem tyJxf0a74_ok : ∀ k, k < 0 → parseFieldDescriptor (TJxf0a74 k).2.2.1 = some (tyJxf0a74 k) := by decide +kernel
def RJxa66e6 : String := "java/util/SequencedCollection"
def TJxa66e6 : u_T := fun k => match k with
  | _ => ("", "", "", false)
def tyJxa66e6 : Nat → FieldType := fun k => match k with
  | _ => .int
abbrev wsJxa66e60 : List Cond := u_ws RJxa66e6 TJxa66e6 0
theorem nmJxa66e6 : ∀ a, a < 0 → ∀ b, b < 0 → a ≠ b → (TJxa66e6 a).2.1 ≠ (TJxa66e6 b).2.1 := by decide +kernel
theorem tyJxa66e6_ok : ∀ k, k < 0 → parseFieldDescriptor (TJxa66e6 k).2.2.1 = some (tyJxa66e6 k) := by decide +kernel
def RJ8 : String := "jdk/internal/util/ArraysSupport"
def TJ8 : u_T := fun k => match k with
  | _ => ("", "", "", false)
def tyJ8 : Nat → FieldType := fun k => match k with
  | _ => .int
abbrev wsJ80 : List Cond := u_ws RJ8 TJ8 0
theorem nmJ8 : ∀ a, a < 0 → ∀ b, b < 0 → a ≠ b → (TJ8 a).2.1 ≠ (TJ8 b).2.1 := by decide +kernel
theorem tyJ8_ok : ∀ k, k < 0 → parseFieldDescriptor (TJ8 k).2.2.1 = some (tyJ8 k) := by decide +kernel
abbrev cJ8_newLength_cabcc : ByteArray := prog_27_method_27_code
def yJ8_newLength_cabcc : MethodName := ⟨RJ8, "newLength", "(III)I"⟩
abbrev cJ8_hugeLength_7cf53 : ByteArray := prog_27_method_28_code
def yJ8_hugeLength_7cf53 : MethodName := ⟨RJ8, "hugeLength", "(II)I"⟩
def RJ3 : String := "jdk/internal/util/Preconditions"
def TJ3 : u_T := fun k => match k with
  | _ => ("", "", "", false)
def tyJ3 : Nat → FieldType := fun k => match k with
  | _ => .int
abbrev wsJ30 : List Cond := u_ws RJ3 TJ3 0
theorem nmJ3 : ∀ a, a < 0 → ∀ b, b < 0 → a ≠ b → (TJ3 a).2.1 ≠ (TJ3 b).2.1 := by decide +kernel
theorem tyJ3_ok : ∀ k, k < 0 → parseFieldDescriptor (TJ3 k).2.2.1 = some (tyJ3 k) := by decide +kernel
abbrev cJ3_checkIndex_8e157 : ByteArray := prog_28_method_11_code
def yJ3_checkIndex_8e157 : MethodName := ⟨RJ3, "checkIndex", "(IILjava/util/function/BiFunction;)I"⟩
def RL : String := "BootStageLaw"
abbrev cL_add : ByteArray := method_3_code
def yL_add : MethodName := ⟨RL, "add", "(LBootStage;II[J)I"⟩
abbrev cL_need : ByteArray := method_4_code
def yL_need : MethodName := ⟨RL, "need", "(LBootStage;II[J)I"⟩
abbrev cL_wish : ByteArray := method_5_code
def yL_wish : MethodName := ⟨RL, "wish", "(LBootStage;III[J)I"⟩
abbrev cL_standIn : ByteArray := method_6_code
def yL_standIn : MethodName := ⟨RL, "standIn", "(LBootStage;II[J)I"⟩
abbrev cL_hold : ByteArray := method_7_code
def yL_hold : MethodName := ⟨RL, "hold", "(LBootStage;IZ[J)I"⟩
abbrev cL_setFaults : ByteArray := method_8_code
def yL_setFaults : MethodName := ⟨RL, "setFaults", "(LBootStage;II[J)I"⟩
abbrev cL_setTime : ByteArray := method_9_code
def yL_setTime : MethodName := ⟨RL, "setTime", "(LBootStage;II[J)I"⟩
abbrev cL_learned : ByteArray := method_10_code
def yL_learned : MethodName := ⟨RL, "learned", "(LBootStage;I[J)I"⟩
abbrev cL_faults : ByteArray := method_11_code
def yL_faults : MethodName := ⟨RL, "faults", "(LBootStage;I[J)I"⟩
abbrev cL_begin : ByteArray := method_12_code
def yL_begin : MethodName := ⟨RL, "begin", "(LBootStage;I[J)I"⟩
abbrev cL_tick : ByteArray := method_13_code
def yL_tick : MethodName := ⟨RL, "tick", "(LBootStage;I[J)I"⟩
abbrev cL_state : ByteArray := method_14_code
def yL_state : MethodName := ⟨RL, "state", "(LBootStage;I[J)I"⟩
abbrev cL_waitsFor : ByteArray := method_15_code
def yL_waitsFor : MethodName := ⟨RL, "waitsFor", "(LBootStage;I[J)I"⟩
abbrev cL_law : ByteArray := code
def yL_law : MethodName := ⟨RL, "law", "([I)Z"⟩
def wsX0_init : List Cond := .code yX0_init cX0_init 2 none :: ([.methodLink RX0 3 objectInit, .instanceMethod objectInit, .code objectInit ⟨#[0xb1]⟩ 1 none, .fieldLink RX0 9 "BootStage$Unit" "time" "I", .fieldLink RX0 15 "BootStage$Unit" "retries" "I", .fieldLink RX0 18 "BootStage$Unit" "learned" "I", .fieldLink RX0 21 "BootStage$Unit" "faults" "I", .fieldLink RX0 24 "BootStage$Unit" "isHeld" "Z", .fieldLink RX0 28 "BootStage$Unit" "substitute" "LBootStage$Unit;", .fieldLink RX0 32 "BootStage$Unit" "needs" "I", .fieldLink RX0 35 "BootStage$Unit" "keptWishes" "I", .fieldLink RX0 38 "BootStage$Unit" "state" "I", .fieldLink RX0 41 "BootStage$Unit" "ticksStarting" "I", .fieldLink RX0 44 "BootStage$Unit" "retriesUsed" "I", .fieldLink RX0 47 "BootStage$Unit" "learnedAtBegin" "I", .fieldLink RX0 50 "BootStage$Unit" "number" "I"] ++ wsX00)
def wsX0_bit : List Cond := .code yX0_bit cX0_bit 1 (some .int) :: ([.fieldLink RX0 50 "BootStage$Unit" "number" "I"] ++ wsX00)
def wsX0_resetForStart : List Cond := .code yX0_resetForStart cX0_resetForStart 1 (some .int) :: ([.fieldLink RX0 24 "BootStage$Unit" "isHeld" "Z", .fieldLink RX0 38 "BootStage$Unit" "state" "I", .fieldLink RX0 44 "BootStage$Unit" "retriesUsed" "I", .fieldLink RX0 18 "BootStage$Unit" "learned" "I", .fieldLink RX0 47 "BootStage$Unit" "learnedAtBegin" "I"] ++ wsX00)
def wsX0_isGone : List Cond := .code yX0_isGone cX0_isGone 1 (some .boolean) :: ([.fieldLink RX0 38 "BootStage$Unit" "state" "I"] ++ wsX00)
def wsX0_isNeedMet : List Cond := .code yX0_isNeedMet cX0_isNeedMet 1 (some .boolean) :: ([.fieldLink RX0 38 "BootStage$Unit" "state" "I", .fieldLink RX0 28 "BootStage$Unit" "substitute" "LBootStage$Unit;", .methodLink RX0 53 yX0_isGone, .instanceMethod yX0_isGone, .selects RX0 yX0_isGone yX0_isGone, .initialized RX0, .code yX0_isGone cX0_isGone 1 (some .boolean)] ++ wsX00)
def wsX0_isNeedLost : List Cond := .code yX0_isNeedLost cX0_isNeedLost 1 (some .boolean) :: ([.fieldLink RX0 28 "BootStage$Unit" "substitute" "LBootStage$Unit;", .methodLink RX0 53 yX0_isGone, .instanceMethod yX0_isGone, .selects RX0 yX0_isGone yX0_isGone, .initialized RX0, .code yX0_isGone cX0_isGone 1 (some .boolean), .fieldLink RX0 38 "BootStage$Unit" "state" "I"] ++ wsX00)
def wsX0_isWishDone : List Cond := .code yX0_isWishDone cX0_isWishDone 1 (some .boolean) :: ([.fieldLink RX0 38 "BootStage$Unit" "state" "I", .methodLink RX0 53 yX0_isGone, .instanceMethod yX0_isGone, .selects RX0 yX0_isGone yX0_isGone, .initialized RX0, .code yX0_isGone cX0_isGone 1 (some .boolean)] ++ wsX00)
def wsX0_comeToEnd : List Cond := .code yX0_comeToEnd cX0_comeToEnd 1 none :: ([.fieldLink RX0 21 "BootStage$Unit" "faults" "I", .fieldLink RX0 38 "BootStage$Unit" "state" "I", .fieldLink RX0 18 "BootStage$Unit" "learned" "I", .fieldLink RX0 9 "BootStage$Unit" "time" "I", .methodLink RX0 57 Lib.Math.max.name, .static Lib.Math.max.name, .initialized "java/lang/Math", .code Lib.Math.max.name Lib.Math.max.code 2 (some .int), .fieldLink RX0 44 "BootStage$Unit" "retriesUsed" "I", .fieldLink RX0 15 "BootStage$Unit" "retries" "I"] ++ wsX00)
def wsX0_timeDone : List Cond := .code yX0_timeDone cX0_timeDone 1 (some .int) :: ([.fieldLink RX0 38 "BootStage$Unit" "state" "I", .fieldLink RX0 47 "BootStage$Unit" "learnedAtBegin" "I", .fieldLink RX0 41 "BootStage$Unit" "ticksStarting" "I", .methodLink RX0 63 Lib.Math.min.name, .static Lib.Math.min.name, .initialized "java/lang/Math", .code Lib.Math.min.name Lib.Math.min.code 2 (some .int)] ++ wsX00)
def wsX1_init : List Cond := .code yX1_init cX1_init 4 none :: ([.methodLink RX1 1 objectInit, .instanceMethod objectInit, .code objectInit ⟨#[0xb1]⟩ 1 none, .fieldLink RX1 7 "BootStage$Wish" "wishing" "LBootStage$Unit;", .fieldLink RX1 13 "BootStage$Wish" "wished" "LBootStage$Unit;", .fieldLink RX1 16 "BootStage$Wish" "weight" "I"] ++ wsX10)
def wsJxa1e45_init_da8c8 : List Cond := .code yJxa1e45_init_da8c8 cJxa1e45_init_da8c8 1 none :: ([.methodLink RJxa1e45 1 objectInit, .instanceMethod objectInit, .code objectInit ⟨#[0xb1]⟩ 1 none])
def wsJxc12de_init_da8c8 : List Cond := .code yJxc12de_init_da8c8 cJxc12de_init_da8c8 1 none :: ([.fieldLink RJxc12de 7 "java/util/AbstractList" "modCount" "I", .methodLink RJxc12de 1 yJxa1e45_init_da8c8, .instanceMethod yJxa1e45_init_da8c8, .initialized RJxa1e45, .code yJxa1e45_init_da8c8 cJxa1e45_init_da8c8 1 none, .methodLink RJxa1e45 1 objectInit, .instanceMethod objectInit, .code objectInit ⟨#[0xb1]⟩ 1 none] ++ wsJx4a65c0)
def wsJx4a65c_init_da8c8 : List Cond := .code yJx4a65c_init_da8c8 cJx4a65c_init_da8c8 1 none :: ([.fieldLink RJx4a65c 39 "java/util/ArrayList" "DEFAULTCAPACITY_EMPTY_ELEMENTDATA" "[Ljava/lang/Object;", .fieldLink RJx4a65c 9 "java/util/ArrayList" "elementData" "[Ljava/lang/Object;", .methodLink RJx4a65c 1 yJxc12de_init_da8c8, .instanceMethod yJxc12de_init_da8c8, .initialized RJxc12de, .code yJxc12de_init_da8c8 cJxc12de_init_da8c8 1 none, .fieldLink RJxc12de 7 "java/util/AbstractList" "modCount" "I", .methodLink RJxc12de 1 yJxa1e45_init_da8c8, .instanceMethod yJxa1e45_init_da8c8, .initialized RJxa1e45, .code yJxa1e45_init_da8c8 cJxa1e45_init_da8c8 1 none, .methodLink RJxa1e45 1 objectInit, .instanceMethod objectInit, .code objectInit ⟨#[0xb1]⟩ 1 none] ++ wsJx4a65c0)
def wsX2_init_r1 : List Cond := [Cond.methodLink RX2 1 objectInit, Cond.instanceMethod objectInit, Cond.code objectInit ⟨#[0xb1]⟩ 1 none, Cond.classLink RX2 9 RX0, Cond.fieldLink RX2 11 "BootStage" "rows" "[LBootStage$Unit;", Cond.fieldLink RX2 15 "BootStage" "count" "I", Cond.classLink RX2 19 RJx4a65c, Cond.instantiable RJx4a65c 3, Cond.initialized RJx4a65c, Cond.fieldLink RX2 22 "BootStage" "wishes" "Ljava/util/ArrayList;", Cond.fieldLink RX2 26 "BootStage" "isGoingOn" "Z", Cond.fieldLink RX2 30 "BootStage" "bound" "I", Cond.fieldLink RX2 33 "BootStage" "total" "I", Cond.fieldLink RX2 36 "BootStage" "reachedBar" "I", Cond.instantiable RX0 13, Cond.initialized RX0, Cond.methodLink RX2 21 yJx4a65c_init_da8c8, Cond.instanceMethod yJx4a65c_init_da8c8, Cond.code yJx4a65c_init_da8c8 cJx4a65c_init_da8c8 1 none, Cond.fieldLink RJx4a65c 39 "java/util/ArrayList" "DEFAULTCAPACITY_EMPTY_ELEMENTDATA" "[Ljava/lang/Object;", Cond.fieldLink RJx4a65c 9 "java/util/ArrayList" "elementData" "[Ljava/lang/Object;", Cond.methodLink RJx4a65c 1 yJxc12de_init_da8c8, Cond.instanceMethod yJxc12de_init_da8c8, Cond.initialized RJxc12de]
def wsX2_init_r2 : List Cond := [Cond.code yJxc12de_init_da8c8 cJxc12de_init_da8c8 1 none, Cond.fieldLink RJxc12de 7 "java/util/AbstractList" "modCount" "I", Cond.methodLink RJxc12de 1 yJxa1e45_init_da8c8, Cond.instanceMethod yJxa1e45_init_da8c8, Cond.initialized RJxa1e45, Cond.code yJxa1e45_init_da8c8 cJxa1e45_init_da8c8 1 none, Cond.methodLink RJxa1e45 1 objectInit, Cond.methodLink RX2 39 yX0_init, Cond.instanceMethod yX0_init, Cond.code yX0_init cX0_init 2 none, Cond.methodLink RX0 3 objectInit, Cond.fieldLink RX0 9 "BootStage$Unit" "time" "I", Cond.fieldLink RX0 15 "BootStage$Unit" "retries" "I", Cond.fieldLink RX0 18 "BootStage$Unit" "learned" "I", Cond.fieldLink RX0 21 "BootStage$Unit" "faults" "I", Cond.fieldLink RX0 24 "BootStage$Unit" "isHeld" "Z", Cond.fieldLink RX0 28 "BootStage$Unit" "substitute" "LBootStage$Unit;", Cond.fieldLink RX0 32 "BootStage$Unit" "needs" "I", Cond.fieldLink RX0 35 "BootStage$Unit" "keptWishes" "I", Cond.fieldLink RX0 38 "BootStage$Unit" "state" "I", Cond.fieldLink RX0 41 "BootStage$Unit" "ticksStarting" "I", Cond.fieldLink RX0 44 "BootStage$Unit" "retriesUsed" "I", Cond.fieldLink RX0 47 "BootStage$Unit" "learnedAtBegin" "I", Cond.fieldLink RX0 50 "BootStage$Unit" "number" "I"]
def wsX2_init : List Cond := .code yX2_init cX2_init 2 none :: ((wsX2_init_r1 ++ wsX2_init_r2) ++ wsX20 ++ wsJx4a65c0 ++ wsX00)
def wsX2_checkRange : List Cond := .code yX2_checkRange cX2_checkRange 4 none :: ([.classLink RX2 155 "java/lang/IllegalArgumentException", .initialized "java/lang/IllegalArgumentException"] ++ (vx_atS RX2 159 "java/lang/IllegalArgumentException" ["java/lang/RuntimeException", "java/lang/Exception"]).filter goodWord)
def wsX2_checkNoStart : List Cond := .code yX2_checkNoStart cX2_checkNoStart 1 none :: ([.classLink RX2 46 "java/lang/IllegalStateException", .initialized "java/lang/IllegalStateException", .fieldLink RX2 26 "BootStage" "isGoingOn" "Z"] ++ wsX20 ++ (vx_atS RX2 50 "java/lang/IllegalStateException" ["java/lang/RuntimeException", "java/lang/Exception"]).filter goodWord)
def wsX2_add : List Cond := .code yX2_add cX2_add 4 (some .int) :: ([.classLink RX2 46 "java/lang/IllegalStateException", .initialized "java/lang/IllegalStateException", .fieldLink RX2 15 "BootStage" "count" "I", .fieldLink RX2 11 "BootStage" "rows" "[LBootStage$Unit;", .fieldLink RX2 56 "BootStage$Unit" "time" "I", .fieldLink RX2 59 "BootStage$Unit" "retries" "I", .fieldLink RX2 62 "BootStage$Unit" "number" "I", .methodLink RX2 42 yX2_checkRange, .instanceMethod yX2_checkRange, .selects RX2 yX2_checkRange yX2_checkRange, .initialized RX2, .code yX2_checkRange cX2_checkRange 4 none, .classLink RX2 155 "java/lang/IllegalArgumentException", .initialized "java/lang/IllegalArgumentException", .methodLink RX2 53 yX2_checkNoStart, .instanceMethod yX2_checkNoStart, .selects RX2 yX2_checkNoStart yX2_checkNoStart, .code yX2_checkNoStart cX2_checkNoStart 1 none, .fieldLink RX2 26 "BootStage" "isGoingOn" "Z"] ++ wsX20 ++ wsX00 ++ (vx_atS RX2 50 "java/lang/IllegalStateException" ["java/lang/RuntimeException", "java/lang/Exception"]).filter goodWord ++ (vx_atS RX2 159 "java/lang/IllegalArgumentException" ["java/lang/RuntimeException", "java/lang/Exception"]).filter goodWord)
def wsX2_unitAt : List Cond := .code yX2_unitAt cX2_unitAt 2 (some (.object "BootStage$Unit")) :: ([.classLink RX2 150 "java/lang/IndexOutOfBoundsException", .initialized "java/lang/IndexOutOfBoundsException", .fieldLink RX2 15 "BootStage" "count" "I", .fieldLink RX2 11 "BootStage" "rows" "[LBootStage$Unit;"] ++ wsX20 ++ (vx_atS RX2 154 "java/lang/IndexOutOfBoundsException" ["java/lang/RuntimeException", "java/lang/Exception"]).filter goodWord)
def wsX2_contains : List Cond := .code yX2_contains cX2_contains 3 (some .boolean) :: ([.methodLink RX2 82 yX0_bit, .instanceMethod yX0_bit, .selects RX0 yX0_bit yX0_bit, .initialized RX0, .code yX0_bit cX0_bit 1 (some .int), .fieldLink RX0 50 "BootStage$Unit" "number" "I"] ++ wsX00)
def wsX2_reaches : List Cond := .code yX2_reaches cX2_reaches 8 (some .boolean) :: ([.fieldLink RX2 15 "BootStage" "count" "I", .fieldLink RX2 11 "BootStage" "rows" "[LBootStage$Unit;", .fieldLink RX2 75 "BootStage$Unit" "needs" "I", .fieldLink RX2 103 "BootStage$Unit" "keptWishes" "I", .methodLink RX2 82 yX0_bit, .instanceMethod yX0_bit, .selects RX0 yX0_bit yX0_bit, .initialized RX0, .code yX0_bit cX0_bit 1 (some .int), .fieldLink RX0 50 "BootStage$Unit" "number" "I", .methodLink RX2 78 yX2_contains, .instanceMethod yX2_contains, .selects RX2 yX2_contains yX2_contains, .initialized RX2, .code yX2_contains cX2_contains 3 (some .boolean)] ++ wsX20 ++ wsX00)
def wsX2_need_r1 : List Cond := [Cond.classLink RX2 46 "java/lang/IllegalStateException", Cond.initialized "java/lang/IllegalStateException", Cond.fieldLink RX2 75 "BootStage$Unit" "needs" "I", Cond.methodLink RX2 65 yX2_unitAt, Cond.instanceMethod yX2_unitAt, Cond.selects RX2 yX2_unitAt yX2_unitAt, Cond.initialized RX2, Cond.code yX2_unitAt cX2_unitAt 2 (some (.object "BootStage$Unit")), Cond.classLink RX2 150 "java/lang/IndexOutOfBoundsException", Cond.initialized "java/lang/IndexOutOfBoundsException", Cond.fieldLink RX2 15 "BootStage" "count" "I", Cond.fieldLink RX2 11 "BootStage" "rows" "[LBootStage$Unit;", Cond.methodLink RX2 69 yX2_reaches, Cond.instanceMethod yX2_reaches, Cond.selects RX2 yX2_reaches yX2_reaches, Cond.code yX2_reaches cX2_reaches 8 (some .boolean), Cond.fieldLink RX2 103 "BootStage$Unit" "keptWishes" "I", Cond.methodLink RX2 82 yX0_bit, Cond.instanceMethod yX0_bit, Cond.selects RX0 yX0_bit yX0_bit, Cond.initialized RX0, Cond.code yX0_bit cX0_bit 1 (some .int), Cond.fieldLink RX0 50 "BootStage$Unit" "number" "I", Cond.methodLink RX2 78 yX2_contains]
def wsX2_need_r2 : List Cond := [Cond.instanceMethod yX2_contains, Cond.selects RX2 yX2_contains yX2_contains, Cond.code yX2_contains cX2_contains 3 (some .boolean), Cond.methodLink RX2 53 yX2_checkNoStart, Cond.instanceMethod yX2_checkNoStart, Cond.selects RX2 yX2_checkNoStart yX2_checkNoStart, Cond.code yX2_checkNoStart cX2_checkNoStart 1 none, Cond.fieldLink RX2 26 "BootStage" "isGoingOn" "Z"]
def wsX2_need : List Cond := .code yX2_need cX2_need 6 (some .boolean) :: ((wsX2_need_r1 ++ wsX2_need_r2) ++ wsX00 ++ wsX20 ++ (vx_atS RX2 50 "java/lang/IllegalStateException" ["java/lang/RuntimeException", "java/lang/Exception"]).filter goodWord ++ (vx_atS RX2 154 "java/lang/IndexOutOfBoundsException" ["java/lang/RuntimeException", "java/lang/Exception"]).filter goodWord)
def wsX2_checkDifferent : List Cond := .code yX2_checkDifferent cX2_checkDifferent 3 none :: ([.classLink RX2 155 "java/lang/IllegalArgumentException", .initialized "java/lang/IllegalArgumentException"] ++ (vx_atS RX2 159 "java/lang/IllegalArgumentException" ["java/lang/RuntimeException", "java/lang/Exception"]).filter goodWord)
def wsJx4a65c_size_8abf5 : List Cond := .code yJx4a65c_size_8abf5 cJx4a65c_size_8abf5 1 (some .int) :: ([.fieldLink RJx4a65c 48 "java/util/ArrayList" "size" "I"] ++ wsJx4a65c0)
def wsJ3_checkIndex_8e157 : List Cond := .code yJ3_checkIndex_8e157 cJ3_checkIndex_8e157 3 (some .int) :: ([])
def wsJ15_checkIndex_7cf53 : List Cond := .code yJ15_checkIndex_7cf53 cJ15_checkIndex_7cf53 2 (some .int) :: ([.methodLink RJ15 105 yJ3_checkIndex_8e157, .static yJ3_checkIndex_8e157, .initialized RJ3, .code yJ3_checkIndex_8e157 cJ3_checkIndex_8e157 3 (some .int)])
def wsJx4a65c_elementData_915e3 : List Cond := .code yJx4a65c_elementData_915e3 cJx4a65c_elementData_915e3 2 (some (.object "java/lang/Object")) :: ([.fieldLink RJx4a65c 9 "java/util/ArrayList" "elementData" "[Ljava/lang/Object;"] ++ wsJx4a65c0)
def wsJx4a65c_get_915e3 : List Cond := .code yJx4a65c_get_915e3 cJx4a65c_get_915e3 2 (some (.object "java/lang/Object")) :: ([.fieldLink RJx4a65c 48 "java/util/ArrayList" "size" "I", .methodLink RJx4a65c 118 yJ15_checkIndex_7cf53, .static yJ15_checkIndex_7cf53, .initialized RJ15, .code yJ15_checkIndex_7cf53 cJ15_checkIndex_7cf53 2 (some .int), .methodLink RJ15 105 yJ3_checkIndex_8e157, .static yJ3_checkIndex_8e157, .initialized RJ3, .code yJ3_checkIndex_8e157 cJ3_checkIndex_8e157 3 (some .int), .methodLink RJx4a65c 123 yJx4a65c_elementData_915e3, .instanceMethod yJx4a65c_elementData_915e3, .selects RJx4a65c yJx4a65c_elementData_915e3 yJx4a65c_elementData_915e3, .initialized RJx4a65c, .code yJx4a65c_elementData_915e3 cJx4a65c_elementData_915e3 2 (some (.object "java/lang/Object")), .fieldLink RJx4a65c 9 "java/util/ArrayList" "elementData" "[Ljava/lang/Object;"] ++ wsJx4a65c0)
def wsX2_findWish_r1 : List Cond := [Cond.fieldLink RX2 22 "BootStage" "wishes" "Ljava/util/ArrayList;", Cond.classLink RX2 94 "BootStage$Wish", Cond.fieldLink RX2 171 "BootStage$Wish" "wishing" "LBootStage$Unit;", Cond.fieldLink RX2 174 "BootStage$Wish" "wished" "LBootStage$Unit;", Cond.methodLink RX2 164 yJx4a65c_size_8abf5, Cond.instanceMethod yJx4a65c_size_8abf5, Cond.selects RJx4a65c yJx4a65c_size_8abf5 yJx4a65c_size_8abf5, Cond.initialized RJx4a65c, Cond.code yJx4a65c_size_8abf5 cJx4a65c_size_8abf5 1 (some .int), Cond.fieldLink RJx4a65c 48 "java/util/ArrayList" "size" "I", Cond.methodLink RX2 167 yJx4a65c_get_915e3, Cond.instanceMethod yJx4a65c_get_915e3, Cond.selects RJx4a65c yJx4a65c_get_915e3 yJx4a65c_get_915e3, Cond.code yJx4a65c_get_915e3 cJx4a65c_get_915e3 2 (some (.object "java/lang/Object")), Cond.methodLink RJx4a65c 118 yJ15_checkIndex_7cf53, Cond.static yJ15_checkIndex_7cf53, Cond.initialized RJ15, Cond.code yJ15_checkIndex_7cf53 cJ15_checkIndex_7cf53 2 (some .int), Cond.methodLink RJ15 105 yJ3_checkIndex_8e157, Cond.static yJ3_checkIndex_8e157, Cond.initialized RJ3, Cond.code yJ3_checkIndex_8e157 cJ3_checkIndex_8e157 3 (some .int), Cond.methodLink RJx4a65c 123 yJx4a65c_elementData_915e3, Cond.instanceMethod yJx4a65c_elementData_915e3]
def wsX2_findWish_r2 : List Cond := [Cond.selects RJx4a65c yJx4a65c_elementData_915e3 yJx4a65c_elementData_915e3, Cond.code yJx4a65c_elementData_915e3 cJx4a65c_elementData_915e3 2 (some (.object "java/lang/Object")), Cond.fieldLink RJx4a65c 9 "java/util/ArrayList" "elementData" "[Ljava/lang/Object;"]
def wsX2_findWish : List Cond := .code yX2_findWish cX2_findWish 5 (some (.object "BootStage$Wish")) :: ((wsX2_findWish_r1 ++ wsX2_findWish_r2) ++ wsX20 ++ wsX10 ++ wsJx4a65c0)
def wsJ8_hugeLength_7cf53 : List Cond := .code yJ8_hugeLength_7cf53 cJ8_hugeLength_7cf53 3 (some .int) :: ([.constant RJ8 200 (2147483639)])
def wsJ8_newLength_cabcc : List Cond := .code yJ8_newLength_cabcc cJ8_newLength_cabcc 4 (some .int) :: ([.methodLink RJ8 194 Lib.Math.max.name, .static Lib.Math.max.name, .initialized "java/lang/Math", .code Lib.Math.max.name Lib.Math.max.code 2 (some .int), .constant RJ8 200 (2147483639), .methodLink RJ8 201 yJ8_hugeLength_7cf53, .static yJ8_hugeLength_7cf53, .initialized RJ8, .code yJ8_hugeLength_7cf53 cJ8_hugeLength_7cf53 3 (some .int)])
def wsJ7_copyOf_6403c : List Cond := .code yJ7_copyOf_6403c cJ7_copyOf_6403c 4 (some (.array (.object "java/lang/Object"))) :: ([.classLink RJ7 110 "[Ljava/lang/Object;", .classLink RJ7 2 "java/lang/Object", .methodLink RJ7 304 Lib.Math.min.name, .static Lib.Math.min.name, .initialized "java/lang/Math", .code Lib.Math.min.name Lib.Math.min.code 2 (some .int), .methodLink RJ7 150 arraycopyName, .native arraycopyName, .static arraycopyName, .initialized "java/lang/System"])
def wsJ7_copyOf_1904c : List Cond := .code yJ7_copyOf_1904c cJ7_copyOf_1904c 2 (some (.array (.object "java/lang/Object"))) :: ([.methodLink RJ7 86 ⟨"java/lang/Object", "getClass", "()Ljava/lang/Class;"⟩, .selects "[Ljava/lang/Object;" ⟨"java/lang/Object", "getClass", "()Ljava/lang/Class;"⟩ ⟨"java/lang/Object", "getClass", "()Ljava/lang/Class;"⟩, .instanceMethod ⟨"java/lang/Object", "getClass", "()Ljava/lang/Class;"⟩, .native ⟨"java/lang/Object", "getClass", "()Ljava/lang/Class;"⟩, .methodLink RJ7 300 yJ7_copyOf_6403c, .static yJ7_copyOf_6403c, .initialized RJ7, .code yJ7_copyOf_6403c cJ7_copyOf_6403c 4 (some (.array (.object "java/lang/Object"))), .classLink RJ7 110 "[Ljava/lang/Object;", .classLink RJ7 2 "java/lang/Object", .methodLink RJ7 304 Lib.Math.min.name, .static Lib.Math.min.name, .initialized "java/lang/Math", .code Lib.Math.min.name Lib.Math.min.code 2 (some .int), .methodLink RJ7 150 arraycopyName, .native arraycopyName, .static arraycopyName, .initialized "java/lang/System"])
def wsJx4a65c_grow_92f84_r1 : List Cond := [Cond.fieldLink RJx4a65c 9 "java/util/ArrayList" "elementData" "[Ljava/lang/Object;", Cond.fieldLink RJx4a65c 39 "java/util/ArrayList" "DEFAULTCAPACITY_EMPTY_ELEMENTDATA" "[Ljava/lang/Object;", Cond.methodLink RJx4a65c 79 Lib.Math.max.name, Cond.static Lib.Math.max.name, Cond.initialized "java/lang/Math", Cond.code Lib.Math.max.name Lib.Math.max.code 2 (some .int), Cond.classLink RJx4a65c 7 "java/lang/Object", Cond.methodLink RJx4a65c 73 yJ8_newLength_cabcc, Cond.static yJ8_newLength_cabcc, Cond.initialized RJ8, Cond.code yJ8_newLength_cabcc cJ8_newLength_cabcc 4 (some .int), Cond.methodLink RJ8 194 Lib.Math.max.name, Cond.constant RJ8 200 (2147483639), Cond.methodLink RJ8 201 yJ8_hugeLength_7cf53, Cond.static yJ8_hugeLength_7cf53, Cond.code yJ8_hugeLength_7cf53 cJ8_hugeLength_7cf53 3 (some .int), Cond.methodLink RJx4a65c 66 yJ7_copyOf_1904c, Cond.static yJ7_copyOf_1904c, Cond.initialized RJ7, Cond.code yJ7_copyOf_1904c cJ7_copyOf_1904c 2 (some (.array (.object "java/lang/Object"))), Cond.methodLink RJ7 86 ⟨"java/lang/Object", "getClass", "()Ljava/lang/Class;"⟩, Cond.selects "[Ljava/lang/Object;" ⟨"java/lang/Object", "getClass", "()Ljava/lang/Class;"⟩ ⟨"java/lang/Object", "getClass", "()Ljava/lang/Class;"⟩, Cond.instanceMethod ⟨"java/lang/Object", "getClass", "()Ljava/lang/Class;"⟩, Cond.native ⟨"java/lang/Object", "getClass", "()Ljava/lang/Class;"⟩]
def wsJx4a65c_grow_92f84_r2 : List Cond := [Cond.methodLink RJ7 300 yJ7_copyOf_6403c, Cond.static yJ7_copyOf_6403c, Cond.code yJ7_copyOf_6403c cJ7_copyOf_6403c 4 (some (.array (.object "java/lang/Object"))), Cond.classLink RJ7 110 "[Ljava/lang/Object;", Cond.classLink RJ7 2 "java/lang/Object", Cond.methodLink RJ7 304 Lib.Math.min.name, Cond.static Lib.Math.min.name, Cond.code Lib.Math.min.name Lib.Math.min.code 2 (some .int), Cond.methodLink RJ7 150 arraycopyName, Cond.native arraycopyName, Cond.static arraycopyName, Cond.initialized "java/lang/System"]
def wsJx4a65c_grow_92f84 : List Cond := .code yJx4a65c_grow_92f84 cJx4a65c_grow_92f84 4 (some (.array (.object "java/lang/Object"))) :: ((wsJx4a65c_grow_92f84_r1 ++ wsJx4a65c_grow_92f84_r2) ++ wsJx4a65c0)
def wsJx4a65c_grow_d5877_r1 : List Cond := [Cond.fieldLink RJx4a65c 48 "java/util/ArrayList" "size" "I", Cond.methodLink RJx4a65c 69 yJx4a65c_grow_92f84, Cond.instanceMethod yJx4a65c_grow_92f84, Cond.selects RJx4a65c yJx4a65c_grow_92f84 yJx4a65c_grow_92f84, Cond.initialized RJx4a65c, Cond.code yJx4a65c_grow_92f84 cJx4a65c_grow_92f84 4 (some (.array (.object "java/lang/Object"))), Cond.fieldLink RJx4a65c 9 "java/util/ArrayList" "elementData" "[Ljava/lang/Object;", Cond.fieldLink RJx4a65c 39 "java/util/ArrayList" "DEFAULTCAPACITY_EMPTY_ELEMENTDATA" "[Ljava/lang/Object;", Cond.methodLink RJx4a65c 79 Lib.Math.max.name, Cond.static Lib.Math.max.name, Cond.initialized "java/lang/Math", Cond.code Lib.Math.max.name Lib.Math.max.code 2 (some .int), Cond.classLink RJx4a65c 7 "java/lang/Object", Cond.methodLink RJx4a65c 73 yJ8_newLength_cabcc, Cond.static yJ8_newLength_cabcc, Cond.initialized RJ8, Cond.code yJ8_newLength_cabcc cJ8_newLength_cabcc 4 (some .int), Cond.methodLink RJ8 194 Lib.Math.max.name, Cond.constant RJ8 200 (2147483639), Cond.methodLink RJ8 201 yJ8_hugeLength_7cf53, Cond.static yJ8_hugeLength_7cf53, Cond.code yJ8_hugeLength_7cf53 cJ8_hugeLength_7cf53 3 (some .int), Cond.methodLink RJx4a65c 66 yJ7_copyOf_1904c, Cond.static yJ7_copyOf_1904c]
def wsJx4a65c_grow_d5877_r2 : List Cond := [Cond.initialized RJ7, Cond.code yJ7_copyOf_1904c cJ7_copyOf_1904c 2 (some (.array (.object "java/lang/Object"))), Cond.methodLink RJ7 86 ⟨"java/lang/Object", "getClass", "()Ljava/lang/Class;"⟩, Cond.selects "[Ljava/lang/Object;" ⟨"java/lang/Object", "getClass", "()Ljava/lang/Class;"⟩ ⟨"java/lang/Object", "getClass", "()Ljava/lang/Class;"⟩, Cond.instanceMethod ⟨"java/lang/Object", "getClass", "()Ljava/lang/Class;"⟩, Cond.native ⟨"java/lang/Object", "getClass", "()Ljava/lang/Class;"⟩, Cond.methodLink RJ7 300 yJ7_copyOf_6403c, Cond.static yJ7_copyOf_6403c, Cond.code yJ7_copyOf_6403c cJ7_copyOf_6403c 4 (some (.array (.object "java/lang/Object"))), Cond.classLink RJ7 110 "[Ljava/lang/Object;", Cond.classLink RJ7 2 "java/lang/Object", Cond.methodLink RJ7 304 Lib.Math.min.name, Cond.static Lib.Math.min.name, Cond.code Lib.Math.min.name Lib.Math.min.code 2 (some .int), Cond.methodLink RJ7 150 arraycopyName, Cond.native arraycopyName, Cond.static arraycopyName, Cond.initialized "java/lang/System"]
def wsJx4a65c_grow_d5877 : List Cond := .code yJx4a65c_grow_d5877 cJx4a65c_grow_d5877 1 (some (.array (.object "java/lang/Object"))) :: ((wsJx4a65c_grow_d5877_r1 ++ wsJx4a65c_grow_d5877_r2) ++ wsJx4a65c0)
def wsJx4a65c_add_72be8_r1 : List Cond := [Cond.fieldLink RJx4a65c 48 "java/util/ArrayList" "size" "I", Cond.methodLink RJx4a65c 129 yJx4a65c_grow_d5877, Cond.instanceMethod yJx4a65c_grow_d5877, Cond.selects RJx4a65c yJx4a65c_grow_d5877 yJx4a65c_grow_d5877, Cond.initialized RJx4a65c, Cond.code yJx4a65c_grow_d5877 cJx4a65c_grow_d5877 1 (some (.array (.object "java/lang/Object"))), Cond.methodLink RJx4a65c 69 yJx4a65c_grow_92f84, Cond.instanceMethod yJx4a65c_grow_92f84, Cond.selects RJx4a65c yJx4a65c_grow_92f84 yJx4a65c_grow_92f84, Cond.code yJx4a65c_grow_92f84 cJx4a65c_grow_92f84 4 (some (.array (.object "java/lang/Object"))), Cond.fieldLink RJx4a65c 9 "java/util/ArrayList" "elementData" "[Ljava/lang/Object;", Cond.fieldLink RJx4a65c 39 "java/util/ArrayList" "DEFAULTCAPACITY_EMPTY_ELEMENTDATA" "[Ljava/lang/Object;", Cond.methodLink RJx4a65c 79 Lib.Math.max.name, Cond.static Lib.Math.max.name, Cond.initialized "java/lang/Math", Cond.code Lib.Math.max.name Lib.Math.max.code 2 (some .int), Cond.classLink RJx4a65c 7 "java/lang/Object", Cond.methodLink RJx4a65c 73 yJ8_newLength_cabcc, Cond.static yJ8_newLength_cabcc, Cond.initialized RJ8, Cond.code yJ8_newLength_cabcc cJ8_newLength_cabcc 4 (some .int), Cond.methodLink RJ8 194 Lib.Math.max.name, Cond.constant RJ8 200 (2147483639), Cond.methodLink RJ8 201 yJ8_hugeLength_7cf53]
def wsJx4a65c_add_72be8_r2 : List Cond := [Cond.static yJ8_hugeLength_7cf53, Cond.code yJ8_hugeLength_7cf53 cJ8_hugeLength_7cf53 3 (some .int), Cond.methodLink RJx4a65c 66 yJ7_copyOf_1904c, Cond.static yJ7_copyOf_1904c, Cond.initialized RJ7, Cond.code yJ7_copyOf_1904c cJ7_copyOf_1904c 2 (some (.array (.object "java/lang/Object"))), Cond.methodLink RJ7 86 ⟨"java/lang/Object", "getClass", "()Ljava/lang/Class;"⟩, Cond.selects "[Ljava/lang/Object;" ⟨"java/lang/Object", "getClass", "()Ljava/lang/Class;"⟩ ⟨"java/lang/Object", "getClass", "()Ljava/lang/Class;"⟩, Cond.instanceMethod ⟨"java/lang/Object", "getClass", "()Ljava/lang/Class;"⟩, Cond.native ⟨"java/lang/Object", "getClass", "()Ljava/lang/Class;"⟩, Cond.methodLink RJ7 300 yJ7_copyOf_6403c, Cond.static yJ7_copyOf_6403c, Cond.code yJ7_copyOf_6403c cJ7_copyOf_6403c 4 (some (.array (.object "java/lang/Object"))), Cond.classLink RJ7 110 "[Ljava/lang/Object;", Cond.classLink RJ7 2 "java/lang/Object", Cond.methodLink RJ7 304 Lib.Math.min.name, Cond.static Lib.Math.min.name, Cond.code Lib.Math.min.name Lib.Math.min.code 2 (some .int), Cond.methodLink RJ7 150 arraycopyName, Cond.native arraycopyName, Cond.static arraycopyName, Cond.initialized "java/lang/System"]
def wsJx4a65c_add_72be8 : List Cond := .code yJx4a65c_add_72be8 cJx4a65c_add_72be8 4 none :: ((wsJx4a65c_add_72be8_r1 ++ wsJx4a65c_add_72be8_r2) ++ wsJx4a65c0)
def wsJx4a65c_add_9ea2d_r1 : List Cond := [Cond.fieldLink RJx4a65c 63 "java/util/ArrayList" "modCount" "I", Cond.sameField "java/util/ArrayList" "java/util/AbstractList" "modCount" "I", Cond.fieldLink RJx4a65c 9 "java/util/ArrayList" "elementData" "[Ljava/lang/Object;", Cond.fieldLink RJx4a65c 48 "java/util/ArrayList" "size" "I", Cond.methodLink RJx4a65c 131 yJx4a65c_add_72be8, Cond.instanceMethod yJx4a65c_add_72be8, Cond.selects RJx4a65c yJx4a65c_add_72be8 yJx4a65c_add_72be8, Cond.initialized RJx4a65c, Cond.code yJx4a65c_add_72be8 cJx4a65c_add_72be8 4 none, Cond.methodLink RJx4a65c 129 yJx4a65c_grow_d5877, Cond.instanceMethod yJx4a65c_grow_d5877, Cond.selects RJx4a65c yJx4a65c_grow_d5877 yJx4a65c_grow_d5877, Cond.code yJx4a65c_grow_d5877 cJx4a65c_grow_d5877 1 (some (.array (.object "java/lang/Object"))), Cond.methodLink RJx4a65c 69 yJx4a65c_grow_92f84, Cond.instanceMethod yJx4a65c_grow_92f84, Cond.selects RJx4a65c yJx4a65c_grow_92f84 yJx4a65c_grow_92f84, Cond.code yJx4a65c_grow_92f84 cJx4a65c_grow_92f84 4 (some (.array (.object "java/lang/Object"))), Cond.fieldLink RJx4a65c 39 "java/util/ArrayList" "DEFAULTCAPACITY_EMPTY_ELEMENTDATA" "[Ljava/lang/Object;", Cond.methodLink RJx4a65c 79 Lib.Math.max.name, Cond.static Lib.Math.max.name, Cond.initialized "java/lang/Math", Cond.code Lib.Math.max.name Lib.Math.max.code 2 (some .int), Cond.classLink RJx4a65c 7 "java/lang/Object", Cond.methodLink RJx4a65c 73 yJ8_newLength_cabcc]
def wsJx4a65c_add_9ea2d_r2 : List Cond := [Cond.static yJ8_newLength_cabcc, Cond.initialized RJ8, Cond.code yJ8_newLength_cabcc cJ8_newLength_cabcc 4 (some .int), Cond.methodLink RJ8 194 Lib.Math.max.name, Cond.constant RJ8 200 (2147483639), Cond.methodLink RJ8 201 yJ8_hugeLength_7cf53, Cond.static yJ8_hugeLength_7cf53, Cond.code yJ8_hugeLength_7cf53 cJ8_hugeLength_7cf53 3 (some .int), Cond.methodLink RJx4a65c 66 yJ7_copyOf_1904c, Cond.static yJ7_copyOf_1904c, Cond.initialized RJ7, Cond.code yJ7_copyOf_1904c cJ7_copyOf_1904c 2 (some (.array (.object "java/lang/Object"))), Cond.methodLink RJ7 86 ⟨"java/lang/Object", "getClass", "()Ljava/lang/Class;"⟩, Cond.selects "[Ljava/lang/Object;" ⟨"java/lang/Object", "getClass", "()Ljava/lang/Class;"⟩ ⟨"java/lang/Object", "getClass", "()Ljava/lang/Class;"⟩, Cond.instanceMethod ⟨"java/lang/Object", "getClass", "()Ljava/lang/Class;"⟩, Cond.native ⟨"java/lang/Object", "getClass", "()Ljava/lang/Class;"⟩, Cond.methodLink RJ7 300 yJ7_copyOf_6403c, Cond.static yJ7_copyOf_6403c, Cond.code yJ7_copyOf_6403c cJ7_copyOf_6403c 4 (some (.array (.object "java/lang/Object"))), Cond.classLink RJ7 110 "[Ljava/lang/Object;", Cond.classLink RJ7 2 "java/lang/Object", Cond.methodLink RJ7 304 Lib.Math.min.name, Cond.static Lib.Math.min.name, Cond.code Lib.Math.min.name Lib.Math.min.code 2 (some .int)]
def wsJx4a65c_add_9ea2d_r3 : List Cond := [Cond.methodLink RJ7 150 arraycopyName, Cond.native arraycopyName, Cond.static arraycopyName, Cond.initialized "java/lang/System"]
def wsJx4a65c_add_9ea2d : List Cond := .code yJx4a65c_add_9ea2d cJx4a65c_add_9ea2d 2 (some .boolean) :: ((wsJx4a65c_add_9ea2d_r1 ++ (wsJx4a65c_add_9ea2d_r2 ++ wsJx4a65c_add_9ea2d_r3)) ++ wsJx4a65c0)
def wsX2_wish_r1 : List Cond := [Cond.fieldLink RX2 22 "BootStage" "wishes" "Ljava/util/ArrayList;", Cond.classLink RX2 94 RX1, Cond.instantiable RX1 3, Cond.initialized RX1, Cond.fieldLink RX2 103 "BootStage$Unit" "keptWishes" "I", Cond.fieldLink RX2 106 "BootStage$Wish" "weight" "I", Cond.methodLink RX2 65 yX2_unitAt, Cond.instanceMethod yX2_unitAt, Cond.selects RX2 yX2_unitAt yX2_unitAt, Cond.initialized RX2, Cond.code yX2_unitAt cX2_unitAt 2 (some (.object "BootStage$Unit")), Cond.classLink RX2 150 "java/lang/IndexOutOfBoundsException", Cond.initialized "java/lang/IndexOutOfBoundsException", Cond.fieldLink RX2 15 "BootStage" "count" "I", Cond.fieldLink RX2 11 "BootStage" "rows" "[LBootStage$Unit;", Cond.methodLink RX2 42 yX2_checkRange, Cond.instanceMethod yX2_checkRange, Cond.selects RX2 yX2_checkRange yX2_checkRange, Cond.code yX2_checkRange cX2_checkRange 4 none, Cond.classLink RX2 155 "java/lang/IllegalArgumentException", Cond.initialized "java/lang/IllegalArgumentException", Cond.methodLink RX2 86 yX2_checkDifferent, Cond.instanceMethod yX2_checkDifferent, Cond.selects RX2 yX2_checkDifferent yX2_checkDifferent]
def wsX2_wish_r2 : List Cond := [Cond.code yX2_checkDifferent cX2_checkDifferent 3 none, Cond.methodLink RX2 53 yX2_checkNoStart, Cond.instanceMethod yX2_checkNoStart, Cond.selects RX2 yX2_checkNoStart yX2_checkNoStart, Cond.code yX2_checkNoStart cX2_checkNoStart 1 none, Cond.classLink RX2 46 "java/lang/IllegalStateException", Cond.initialized "java/lang/IllegalStateException", Cond.fieldLink RX2 26 "BootStage" "isGoingOn" "Z", Cond.methodLink RX2 90 yX2_findWish, Cond.instanceMethod yX2_findWish, Cond.selects RX2 yX2_findWish yX2_findWish, Cond.code yX2_findWish cX2_findWish 5 (some (.object "BootStage$Wish")), Cond.classLink RX2 94 "BootStage$Wish", Cond.fieldLink RX2 171 "BootStage$Wish" "wishing" "LBootStage$Unit;", Cond.fieldLink RX2 174 "BootStage$Wish" "wished" "LBootStage$Unit;", Cond.methodLink RX2 164 yJx4a65c_size_8abf5, Cond.instanceMethod yJx4a65c_size_8abf5, Cond.selects RJx4a65c yJx4a65c_size_8abf5 yJx4a65c_size_8abf5, Cond.initialized RJx4a65c, Cond.code yJx4a65c_size_8abf5 cJx4a65c_size_8abf5 1 (some .int), Cond.fieldLink RJx4a65c 48 "java/util/ArrayList" "size" "I", Cond.methodLink RX2 167 yJx4a65c_get_915e3, Cond.instanceMethod yJx4a65c_get_915e3, Cond.selects RJx4a65c yJx4a65c_get_915e3 yJx4a65c_get_915e3]
def wsX2_wish_r3 : List Cond := [Cond.code yJx4a65c_get_915e3 cJx4a65c_get_915e3 2 (some (.object "java/lang/Object")), Cond.methodLink RJx4a65c 118 yJ15_checkIndex_7cf53, Cond.static yJ15_checkIndex_7cf53, Cond.initialized RJ15, Cond.code yJ15_checkIndex_7cf53 cJ15_checkIndex_7cf53 2 (some .int), Cond.methodLink RJ15 105 yJ3_checkIndex_8e157, Cond.static yJ3_checkIndex_8e157, Cond.initialized RJ3, Cond.code yJ3_checkIndex_8e157 cJ3_checkIndex_8e157 3 (some .int), Cond.methodLink RJx4a65c 123 yJx4a65c_elementData_915e3, Cond.instanceMethod yJx4a65c_elementData_915e3, Cond.selects RJx4a65c yJx4a65c_elementData_915e3 yJx4a65c_elementData_915e3, Cond.code yJx4a65c_elementData_915e3 cJx4a65c_elementData_915e3 2 (some (.object "java/lang/Object")), Cond.fieldLink RJx4a65c 9 "java/util/ArrayList" "elementData" "[Ljava/lang/Object;", Cond.methodLink RX2 96 yX1_init, Cond.instanceMethod yX1_init, Cond.code yX1_init cX1_init 4 none, Cond.methodLink RX1 1 objectInit, Cond.instanceMethod objectInit, Cond.code objectInit ⟨#[0xb1]⟩ 1 none, Cond.fieldLink RX1 7 "BootStage$Wish" "wishing" "LBootStage$Unit;", Cond.fieldLink RX1 13 "BootStage$Wish" "wished" "LBootStage$Unit;", Cond.fieldLink RX1 16 "BootStage$Wish" "weight" "I", Cond.methodLink RX2 99 yJx4a65c_add_9ea2d]
def wsX2_wish_r4 : List Cond := [Cond.instanceMethod yJx4a65c_add_9ea2d, Cond.selects RJx4a65c yJx4a65c_add_9ea2d yJx4a65c_add_9ea2d, Cond.code yJx4a65c_add_9ea2d cJx4a65c_add_9ea2d 2 (some .boolean), Cond.fieldLink RJx4a65c 63 "java/util/ArrayList" "modCount" "I", Cond.sameField "java/util/ArrayList" "java/util/AbstractList" "modCount" "I", Cond.methodLink RJx4a65c 131 yJx4a65c_add_72be8, Cond.instanceMethod yJx4a65c_add_72be8, Cond.selects RJx4a65c yJx4a65c_add_72be8 yJx4a65c_add_72be8, Cond.code yJx4a65c_add_72be8 cJx4a65c_add_72be8 4 none, Cond.methodLink RJx4a65c 129 yJx4a65c_grow_d5877, Cond.instanceMethod yJx4a65c_grow_d5877, Cond.selects RJx4a65c yJx4a65c_grow_d5877 yJx4a65c_grow_d5877, Cond.code yJx4a65c_grow_d5877 cJx4a65c_grow_d5877 1 (some (.array (.object "java/lang/Object"))), Cond.methodLink RJx4a65c 69 yJx4a65c_grow_92f84, Cond.instanceMethod yJx4a65c_grow_92f84, Cond.selects RJx4a65c yJx4a65c_grow_92f84 yJx4a65c_grow_92f84, Cond.code yJx4a65c_grow_92f84 cJx4a65c_grow_92f84 4 (some (.array (.object "java/lang/Object"))), Cond.fieldLink RJx4a65c 39 "java/util/ArrayList" "DEFAULTCAPACITY_EMPTY_ELEMENTDATA" "[Ljava/lang/Object;", Cond.methodLink RJx4a65c 79 Lib.Math.max.name, Cond.static Lib.Math.max.name, Cond.initialized "java/lang/Math", Cond.code Lib.Math.max.name Lib.Math.max.code 2 (some .int), Cond.classLink RJx4a65c 7 "java/lang/Object", Cond.methodLink RJx4a65c 73 yJ8_newLength_cabcc]
def wsX2_wish_r5 : List Cond := [Cond.static yJ8_newLength_cabcc, Cond.initialized RJ8, Cond.code yJ8_newLength_cabcc cJ8_newLength_cabcc 4 (some .int), Cond.methodLink RJ8 194 Lib.Math.max.name, Cond.constant RJ8 200 (2147483639), Cond.methodLink RJ8 201 yJ8_hugeLength_7cf53, Cond.static yJ8_hugeLength_7cf53, Cond.code yJ8_hugeLength_7cf53 cJ8_hugeLength_7cf53 3 (some .int), Cond.methodLink RJx4a65c 66 yJ7_copyOf_1904c, Cond.static yJ7_copyOf_1904c, Cond.initialized RJ7, Cond.code yJ7_copyOf_1904c cJ7_copyOf_1904c 2 (some (.array (.object "java/lang/Object"))), Cond.methodLink RJ7 86 ⟨"java/lang/Object", "getClass", "()Ljava/lang/Class;"⟩, Cond.selects "[Ljava/lang/Object;" ⟨"java/lang/Object", "getClass", "()Ljava/lang/Class;"⟩ ⟨"java/lang/Object", "getClass", "()Ljava/lang/Class;"⟩, Cond.instanceMethod ⟨"java/lang/Object", "getClass", "()Ljava/lang/Class;"⟩, Cond.native ⟨"java/lang/Object", "getClass", "()Ljava/lang/Class;"⟩, Cond.methodLink RJ7 300 yJ7_copyOf_6403c, Cond.static yJ7_copyOf_6403c, Cond.code yJ7_copyOf_6403c cJ7_copyOf_6403c 4 (some (.array (.object "java/lang/Object"))), Cond.classLink RJ7 110 "[Ljava/lang/Object;", Cond.classLink RJ7 2 "java/lang/Object", Cond.methodLink RJ7 304 Lib.Math.min.name, Cond.static Lib.Math.min.name, Cond.code Lib.Math.min.name Lib.Math.min.code 2 (some .int)]
def wsX2_wish_r6 : List Cond := [Cond.methodLink RJ7 150 arraycopyName, Cond.native arraycopyName, Cond.static arraycopyName, Cond.initialized "java/lang/System", Cond.methodLink RX2 82 yX0_bit, Cond.instanceMethod yX0_bit, Cond.selects RX0 yX0_bit yX0_bit, Cond.initialized RX0, Cond.code yX0_bit cX0_bit 1 (some .int), Cond.fieldLink RX0 50 "BootStage$Unit" "number" "I"]
def wsX2_wish : List Cond := .code yX2_wish cX2_wish 8 (some .int) :: ((wsX2_wish_r1 ++ (wsX2_wish_r2 ++ (wsX2_wish_r3 ++ (wsX2_wish_r4 ++ (wsX2_wish_r5 ++ wsX2_wish_r6))))) ++ wsX20 ++ wsX10 ++ wsX00 ++ wsJx4a65c0 ++ (vx_atS RX2 154 "java/lang/IndexOutOfBoundsException" ["java/lang/RuntimeException", "java/lang/Exception"]).filter goodWord ++ (vx_atS RX2 159 "java/lang/IllegalArgumentException" ["java/lang/RuntimeException", "java/lang/Exception"]).filter goodWord ++ (vx_atS RX2 50 "java/lang/IllegalStateException" ["java/lang/RuntimeException", "java/lang/Exception"]).filter goodWord)
def wsX2_standIn : List Cond := .code yX2_standIn cX2_standIn 6 (some .int) :: ([.fieldLink RX2 109 "BootStage$Unit" "substitute" "LBootStage$Unit;", .fieldLink RX2 62 "BootStage$Unit" "number" "I", .methodLink RX2 65 yX2_unitAt, .instanceMethod yX2_unitAt, .selects RX2 yX2_unitAt yX2_unitAt, .initialized RX2, .code yX2_unitAt cX2_unitAt 2 (some (.object "BootStage$Unit")), .classLink RX2 150 "java/lang/IndexOutOfBoundsException", .initialized "java/lang/IndexOutOfBoundsException", .fieldLink RX2 15 "BootStage" "count" "I", .fieldLink RX2 11 "BootStage" "rows" "[LBootStage$Unit;", .methodLink RX2 86 yX2_checkDifferent, .instanceMethod yX2_checkDifferent, .selects RX2 yX2_checkDifferent yX2_checkDifferent, .code yX2_checkDifferent cX2_checkDifferent 3 none, .classLink RX2 155 "java/lang/IllegalArgumentException", .initialized "java/lang/IllegalArgumentException", .methodLink RX2 53 yX2_checkNoStart, .instanceMethod yX2_checkNoStart, .selects RX2 yX2_checkNoStart yX2_checkNoStart, .code yX2_checkNoStart cX2_checkNoStart 1 none, .classLink RX2 46 "java/lang/IllegalStateException", .initialized "java/lang/IllegalStateException", .fieldLink RX2 26 "BootStage" "isGoingOn" "Z"] ++ wsX00 ++ wsX20 ++ (vx_atS RX2 154 "java/lang/IndexOutOfBoundsException" ["java/lang/RuntimeException", "java/lang/Exception"]).filter goodWord ++ (vx_atS RX2 159 "java/lang/IllegalArgumentException" ["java/lang/RuntimeException", "java/lang/Exception"]).filter goodWord ++ (vx_atS RX2 50 "java/lang/IllegalStateException" ["java/lang/RuntimeException", "java/lang/Exception"]).filter goodWord)
def wsX2_hold : List Cond := .code yX2_hold cX2_hold 5 (some .boolean) :: ([.fieldLink RX2 113 "BootStage$Unit" "isHeld" "Z", .methodLink RX2 65 yX2_unitAt, .instanceMethod yX2_unitAt, .selects RX2 yX2_unitAt yX2_unitAt, .initialized RX2, .code yX2_unitAt cX2_unitAt 2 (some (.object "BootStage$Unit")), .classLink RX2 150 "java/lang/IndexOutOfBoundsException", .initialized "java/lang/IndexOutOfBoundsException", .fieldLink RX2 15 "BootStage" "count" "I", .fieldLink RX2 11 "BootStage" "rows" "[LBootStage$Unit;", .methodLink RX2 53 yX2_checkNoStart, .instanceMethod yX2_checkNoStart, .selects RX2 yX2_checkNoStart yX2_checkNoStart, .code yX2_checkNoStart cX2_checkNoStart 1 none, .classLink RX2 46 "java/lang/IllegalStateException", .initialized "java/lang/IllegalStateException", .fieldLink RX2 26 "BootStage" "isGoingOn" "Z"] ++ wsX00 ++ wsX20 ++ (vx_atS RX2 154 "java/lang/IndexOutOfBoundsException" ["java/lang/RuntimeException", "java/lang/Exception"]).filter goodWord ++ (vx_atS RX2 50 "java/lang/IllegalStateException" ["java/lang/RuntimeException", "java/lang/Exception"]).filter goodWord)
def wsX2_setFaults : List Cond := .code yX2_setFaults cX2_setFaults 5 (some .int) :: ([.fieldLink RX2 116 "BootStage$Unit" "faults" "I", .methodLink RX2 65 yX2_unitAt, .instanceMethod yX2_unitAt, .selects RX2 yX2_unitAt yX2_unitAt, .initialized RX2, .code yX2_unitAt cX2_unitAt 2 (some (.object "BootStage$Unit")), .classLink RX2 150 "java/lang/IndexOutOfBoundsException", .initialized "java/lang/IndexOutOfBoundsException", .fieldLink RX2 15 "BootStage" "count" "I", .fieldLink RX2 11 "BootStage" "rows" "[LBootStage$Unit;", .methodLink RX2 42 yX2_checkRange, .instanceMethod yX2_checkRange, .selects RX2 yX2_checkRange yX2_checkRange, .code yX2_checkRange cX2_checkRange 4 none, .classLink RX2 155 "java/lang/IllegalArgumentException", .initialized "java/lang/IllegalArgumentException"] ++ wsX00 ++ wsX20 ++ (vx_atS RX2 154 "java/lang/IndexOutOfBoundsException" ["java/lang/RuntimeException", "java/lang/Exception"]).filter goodWord ++ (vx_atS RX2 159 "java/lang/IllegalArgumentException" ["java/lang/RuntimeException", "java/lang/Exception"]).filter goodWord)
def wsX2_setTime : List Cond := .code yX2_setTime cX2_setTime 5 (some .int) :: ([.fieldLink RX2 56 "BootStage$Unit" "time" "I", .methodLink RX2 65 yX2_unitAt, .instanceMethod yX2_unitAt, .selects RX2 yX2_unitAt yX2_unitAt, .initialized RX2, .code yX2_unitAt cX2_unitAt 2 (some (.object "BootStage$Unit")), .classLink RX2 150 "java/lang/IndexOutOfBoundsException", .initialized "java/lang/IndexOutOfBoundsException", .fieldLink RX2 15 "BootStage" "count" "I", .fieldLink RX2 11 "BootStage" "rows" "[LBootStage$Unit;", .methodLink RX2 42 yX2_checkRange, .instanceMethod yX2_checkRange, .selects RX2 yX2_checkRange yX2_checkRange, .code yX2_checkRange cX2_checkRange 4 none, .classLink RX2 155 "java/lang/IllegalArgumentException", .initialized "java/lang/IllegalArgumentException"] ++ wsX00 ++ wsX20 ++ (vx_atS RX2 154 "java/lang/IndexOutOfBoundsException" ["java/lang/RuntimeException", "java/lang/Exception"]).filter goodWord ++ (vx_atS RX2 159 "java/lang/IllegalArgumentException" ["java/lang/RuntimeException", "java/lang/Exception"]).filter goodWord)
def wsX2_units : List Cond := .code yX2_units cX2_units 1 (some .int) :: ([.fieldLink RX2 15 "BootStage" "count" "I"] ++ wsX20)
def wsX2_learned : List Cond := .code yX2_learned cX2_learned 2 (some .int) :: ([.fieldLink RX2 119 "BootStage$Unit" "learned" "I", .methodLink RX2 65 yX2_unitAt, .instanceMethod yX2_unitAt, .selects RX2 yX2_unitAt yX2_unitAt, .initialized RX2, .code yX2_unitAt cX2_unitAt 2 (some (.object "BootStage$Unit")), .classLink RX2 150 "java/lang/IndexOutOfBoundsException", .initialized "java/lang/IndexOutOfBoundsException", .fieldLink RX2 15 "BootStage" "count" "I", .fieldLink RX2 11 "BootStage" "rows" "[LBootStage$Unit;"] ++ wsX00 ++ wsX20 ++ (vx_atS RX2 154 "java/lang/IndexOutOfBoundsException" ["java/lang/RuntimeException", "java/lang/Exception"]).filter goodWord)
def wsX2_faults : List Cond := .code yX2_faults cX2_faults 2 (some .int) :: ([.fieldLink RX2 116 "BootStage$Unit" "faults" "I", .methodLink RX2 65 yX2_unitAt, .instanceMethod yX2_unitAt, .selects RX2 yX2_unitAt yX2_unitAt, .initialized RX2, .code yX2_unitAt cX2_unitAt 2 (some (.object "BootStage$Unit")), .classLink RX2 150 "java/lang/IndexOutOfBoundsException", .initialized "java/lang/IndexOutOfBoundsException", .fieldLink RX2 15 "BootStage" "count" "I", .fieldLink RX2 11 "BootStage" "rows" "[LBootStage$Unit;"] ++ wsX00 ++ wsX20 ++ (vx_atS RX2 154 "java/lang/IndexOutOfBoundsException" ["java/lang/RuntimeException", "java/lang/Exception"]).filter goodWord)
def wsX2_keepAllWishes_r1 : List Cond := [Cond.fieldLink RX2 22 "BootStage" "wishes" "Ljava/util/ArrayList;", Cond.classLink RX2 94 "BootStage$Wish", Cond.fieldLink RX2 171 "BootStage$Wish" "wishing" "LBootStage$Unit;", Cond.fieldLink RX2 103 "BootStage$Unit" "keptWishes" "I", Cond.fieldLink RX2 174 "BootStage$Wish" "wished" "LBootStage$Unit;", Cond.methodLink RX2 164 yJx4a65c_size_8abf5, Cond.instanceMethod yJx4a65c_size_8abf5, Cond.selects RJx4a65c yJx4a65c_size_8abf5 yJx4a65c_size_8abf5, Cond.initialized RJx4a65c, Cond.code yJx4a65c_size_8abf5 cJx4a65c_size_8abf5 1 (some .int), Cond.fieldLink RJx4a65c 48 "java/util/ArrayList" "size" "I", Cond.methodLink RX2 167 yJx4a65c_get_915e3, Cond.instanceMethod yJx4a65c_get_915e3, Cond.selects RJx4a65c yJx4a65c_get_915e3 yJx4a65c_get_915e3, Cond.code yJx4a65c_get_915e3 cJx4a65c_get_915e3 2 (some (.object "java/lang/Object")), Cond.methodLink RJx4a65c 118 yJ15_checkIndex_7cf53, Cond.static yJ15_checkIndex_7cf53, Cond.initialized RJ15, Cond.code yJ15_checkIndex_7cf53 cJ15_checkIndex_7cf53 2 (some .int), Cond.methodLink RJ15 105 yJ3_checkIndex_8e157, Cond.static yJ3_checkIndex_8e157, Cond.initialized RJ3, Cond.code yJ3_checkIndex_8e157 cJ3_checkIndex_8e157 3 (some .int), Cond.methodLink RJx4a65c 123 yJx4a65c_elementData_915e3]
def wsX2_keepAllWishes_r2 : List Cond := [Cond.instanceMethod yJx4a65c_elementData_915e3, Cond.selects RJx4a65c yJx4a65c_elementData_915e3 yJx4a65c_elementData_915e3, Cond.code yJx4a65c_elementData_915e3 cJx4a65c_elementData_915e3 2 (some (.object "java/lang/Object")), Cond.fieldLink RJx4a65c 9 "java/util/ArrayList" "elementData" "[Ljava/lang/Object;", Cond.methodLink RX2 82 yX0_bit, Cond.instanceMethod yX0_bit, Cond.selects RX0 yX0_bit yX0_bit, Cond.initialized RX0, Cond.code yX0_bit cX0_bit 1 (some .int), Cond.fieldLink RX0 50 "BootStage$Unit" "number" "I"]
def wsX2_keepAllWishes : List Cond := .code yX2_keepAllWishes cX2_keepAllWishes 3 none :: ((wsX2_keepAllWishes_r1 ++ wsX2_keepAllWishes_r2) ++ wsX20 ++ wsX10 ++ wsX00 ++ wsJx4a65c0)
def wsX2_cutLoops_r1 : List Cond := [Cond.fieldLink RX2 22 "BootStage" "wishes" "Ljava/util/ArrayList;", Cond.classLink RX2 94 "BootStage$Wish", Cond.fieldLink RX2 106 "BootStage$Wish" "weight" "I", Cond.fieldLink RX2 174 "BootStage$Wish" "wished" "LBootStage$Unit;", Cond.fieldLink RX2 171 "BootStage$Wish" "wishing" "LBootStage$Unit;", Cond.fieldLink RX2 103 "BootStage$Unit" "keptWishes" "I", Cond.methodLink RX2 177 yX2_keepAllWishes, Cond.instanceMethod yX2_keepAllWishes, Cond.selects RX2 yX2_keepAllWishes yX2_keepAllWishes, Cond.initialized RX2, Cond.code yX2_keepAllWishes cX2_keepAllWishes 3 none, Cond.methodLink RX2 164 yJx4a65c_size_8abf5, Cond.instanceMethod yJx4a65c_size_8abf5, Cond.selects RJx4a65c yJx4a65c_size_8abf5 yJx4a65c_size_8abf5, Cond.initialized RJx4a65c, Cond.code yJx4a65c_size_8abf5 cJx4a65c_size_8abf5 1 (some .int), Cond.fieldLink RJx4a65c 48 "java/util/ArrayList" "size" "I", Cond.methodLink RX2 167 yJx4a65c_get_915e3, Cond.instanceMethod yJx4a65c_get_915e3, Cond.selects RJx4a65c yJx4a65c_get_915e3 yJx4a65c_get_915e3, Cond.code yJx4a65c_get_915e3 cJx4a65c_get_915e3 2 (some (.object "java/lang/Object")), Cond.methodLink RJx4a65c 118 yJ15_checkIndex_7cf53, Cond.static yJ15_checkIndex_7cf53, Cond.initialized RJ15]
def wsX2_cutLoops_r2 : List Cond := [Cond.code yJ15_checkIndex_7cf53 cJ15_checkIndex_7cf53 2 (some .int), Cond.methodLink RJ15 105 yJ3_checkIndex_8e157, Cond.static yJ3_checkIndex_8e157, Cond.initialized RJ3, Cond.code yJ3_checkIndex_8e157 cJ3_checkIndex_8e157 3 (some .int), Cond.methodLink RJx4a65c 123 yJx4a65c_elementData_915e3, Cond.instanceMethod yJx4a65c_elementData_915e3, Cond.selects RJx4a65c yJx4a65c_elementData_915e3 yJx4a65c_elementData_915e3, Cond.code yJx4a65c_elementData_915e3 cJx4a65c_elementData_915e3 2 (some (.object "java/lang/Object")), Cond.fieldLink RJx4a65c 9 "java/util/ArrayList" "elementData" "[Ljava/lang/Object;", Cond.methodLink RX2 82 yX0_bit, Cond.instanceMethod yX0_bit, Cond.selects RX0 yX0_bit yX0_bit, Cond.initialized RX0, Cond.code yX0_bit cX0_bit 1 (some .int), Cond.fieldLink RX0 50 "BootStage$Unit" "number" "I", Cond.methodLink RX2 69 yX2_reaches, Cond.instanceMethod yX2_reaches, Cond.selects RX2 yX2_reaches yX2_reaches, Cond.code yX2_reaches cX2_reaches 8 (some .boolean), Cond.fieldLink RX2 15 "BootStage" "count" "I", Cond.fieldLink RX2 11 "BootStage" "rows" "[LBootStage$Unit;", Cond.fieldLink RX2 75 "BootStage$Unit" "needs" "I", Cond.methodLink RX2 78 yX2_contains]
def wsX2_cutLoops_r3 : List Cond := [Cond.instanceMethod yX2_contains, Cond.selects RX2 yX2_contains yX2_contains, Cond.code yX2_contains cX2_contains 3 (some .boolean)]
def wsX2_cutLoops : List Cond := .code yX2_cutLoops cX2_cutLoops 5 (some .int) :: ((wsX2_cutLoops_r1 ++ (wsX2_cutLoops_r2 ++ wsX2_cutLoops_r3)) ++ wsX20 ++ wsX10 ++ wsX00 ++ wsJx4a65c0)
def wsX2_timeDone : List Cond := .code yX2_timeDone cX2_timeDone 3 (some .int) :: ([.fieldLink RX2 15 "BootStage" "count" "I", .fieldLink RX2 11 "BootStage" "rows" "[LBootStage$Unit;", .methodLink RX2 226 yX0_timeDone, .instanceMethod yX0_timeDone, .selects RX0 yX0_timeDone yX0_timeDone, .initialized RX0, .code yX0_timeDone cX0_timeDone 1 (some .int), .fieldLink RX0 38 "BootStage$Unit" "state" "I", .fieldLink RX0 47 "BootStage$Unit" "learnedAtBegin" "I", .fieldLink RX0 41 "BootStage$Unit" "ticksStarting" "I", .methodLink RX0 63 Lib.Math.min.name, .static Lib.Math.min.name, .initialized "java/lang/Math", .code Lib.Math.min.name Lib.Math.min.code 2 (some .int)] ++ wsX20 ++ wsX00)
def wsX2_raiseBar_r1 : List Cond := [Cond.fieldLink RX2 26 "BootStage" "isGoingOn" "Z", Cond.fieldLink RX2 33 "BootStage" "total" "I", Cond.fieldLink RX2 36 "BootStage" "reachedBar" "I", Cond.methodLink RX2 220 Lib.Math.max.name, Cond.static Lib.Math.max.name, Cond.initialized "java/lang/Math", Cond.code Lib.Math.max.name Lib.Math.max.code 2 (some .int), Cond.methodLink RX2 217 yX2_timeDone, Cond.instanceMethod yX2_timeDone, Cond.selects RX2 yX2_timeDone yX2_timeDone, Cond.initialized RX2, Cond.code yX2_timeDone cX2_timeDone 3 (some .int), Cond.fieldLink RX2 15 "BootStage" "count" "I", Cond.fieldLink RX2 11 "BootStage" "rows" "[LBootStage$Unit;", Cond.methodLink RX2 226 yX0_timeDone, Cond.instanceMethod yX0_timeDone, Cond.selects RX0 yX0_timeDone yX0_timeDone, Cond.initialized RX0, Cond.code yX0_timeDone cX0_timeDone 1 (some .int), Cond.fieldLink RX0 38 "BootStage$Unit" "state" "I", Cond.fieldLink RX0 47 "BootStage$Unit" "learnedAtBegin" "I", Cond.fieldLink RX0 41 "BootStage$Unit" "ticksStarting" "I", Cond.methodLink RX0 63 Lib.Math.min.name, Cond.static Lib.Math.min.name]
def wsX2_raiseBar_r2 : List Cond := [Cond.code Lib.Math.min.name Lib.Math.min.code 2 (some .int)]
def wsX2_raiseBar : List Cond := .code yX2_raiseBar cX2_raiseBar 2 none :: ((wsX2_raiseBar_r1 ++ wsX2_raiseBar_r2) ++ wsX20 ++ wsX00)
def wsX2_begin_r1 : List Cond := [Cond.fieldLink RX2 30 "BootStage" "bound" "I", Cond.fieldLink RX2 33 "BootStage" "total" "I", Cond.fieldLink RX2 15 "BootStage" "count" "I", Cond.fieldLink RX2 11 "BootStage" "rows" "[LBootStage$Unit;", Cond.fieldLink RX2 26 "BootStage" "isGoingOn" "Z", Cond.fieldLink RX2 36 "BootStage" "reachedBar" "I", Cond.methodLink RX2 42 yX2_checkRange, Cond.instanceMethod yX2_checkRange, Cond.selects RX2 yX2_checkRange yX2_checkRange, Cond.initialized RX2, Cond.code yX2_checkRange cX2_checkRange 4 none, Cond.classLink RX2 155 "java/lang/IllegalArgumentException", Cond.initialized "java/lang/IllegalArgumentException", Cond.methodLink RX2 53 yX2_checkNoStart, Cond.instanceMethod yX2_checkNoStart, Cond.selects RX2 yX2_checkNoStart yX2_checkNoStart, Cond.code yX2_checkNoStart cX2_checkNoStart 1 none, Cond.classLink RX2 46 "java/lang/IllegalStateException", Cond.initialized "java/lang/IllegalStateException", Cond.methodLink RX2 122 yX2_cutLoops, Cond.instanceMethod yX2_cutLoops, Cond.selects RX2 yX2_cutLoops yX2_cutLoops, Cond.code yX2_cutLoops cX2_cutLoops 5 (some .int), Cond.fieldLink RX2 22 "BootStage" "wishes" "Ljava/util/ArrayList;"]
def wsX2_begin_r2 : List Cond := [Cond.classLink RX2 94 "BootStage$Wish", Cond.fieldLink RX2 106 "BootStage$Wish" "weight" "I", Cond.fieldLink RX2 174 "BootStage$Wish" "wished" "LBootStage$Unit;", Cond.fieldLink RX2 171 "BootStage$Wish" "wishing" "LBootStage$Unit;", Cond.fieldLink RX2 103 "BootStage$Unit" "keptWishes" "I", Cond.methodLink RX2 177 yX2_keepAllWishes, Cond.instanceMethod yX2_keepAllWishes, Cond.selects RX2 yX2_keepAllWishes yX2_keepAllWishes, Cond.code yX2_keepAllWishes cX2_keepAllWishes 3 none, Cond.methodLink RX2 164 yJx4a65c_size_8abf5, Cond.instanceMethod yJx4a65c_size_8abf5, Cond.selects RJx4a65c yJx4a65c_size_8abf5 yJx4a65c_size_8abf5, Cond.initialized RJx4a65c, Cond.code yJx4a65c_size_8abf5 cJx4a65c_size_8abf5 1 (some .int), Cond.fieldLink RJx4a65c 48 "java/util/ArrayList" "size" "I", Cond.methodLink RX2 167 yJx4a65c_get_915e3, Cond.instanceMethod yJx4a65c_get_915e3, Cond.selects RJx4a65c yJx4a65c_get_915e3 yJx4a65c_get_915e3, Cond.code yJx4a65c_get_915e3 cJx4a65c_get_915e3 2 (some (.object "java/lang/Object")), Cond.methodLink RJx4a65c 118 yJ15_checkIndex_7cf53, Cond.static yJ15_checkIndex_7cf53, Cond.initialized RJ15, Cond.code yJ15_checkIndex_7cf53 cJ15_checkIndex_7cf53 2 (some .int), Cond.methodLink RJ15 105 yJ3_checkIndex_8e157]
def wsX2_begin_r3 : List Cond := [Cond.static yJ3_checkIndex_8e157, Cond.initialized RJ3, Cond.code yJ3_checkIndex_8e157 cJ3_checkIndex_8e157 3 (some .int), Cond.methodLink RJx4a65c 123 yJx4a65c_elementData_915e3, Cond.instanceMethod yJx4a65c_elementData_915e3, Cond.selects RJx4a65c yJx4a65c_elementData_915e3 yJx4a65c_elementData_915e3, Cond.code yJx4a65c_elementData_915e3 cJx4a65c_elementData_915e3 2 (some (.object "java/lang/Object")), Cond.fieldLink RJx4a65c 9 "java/util/ArrayList" "elementData" "[Ljava/lang/Object;", Cond.methodLink RX2 82 yX0_bit, Cond.instanceMethod yX0_bit, Cond.selects RX0 yX0_bit yX0_bit, Cond.initialized RX0, Cond.code yX0_bit cX0_bit 1 (some .int), Cond.fieldLink RX0 50 "BootStage$Unit" "number" "I", Cond.methodLink RX2 69 yX2_reaches, Cond.instanceMethod yX2_reaches, Cond.selects RX2 yX2_reaches yX2_reaches, Cond.code yX2_reaches cX2_reaches 8 (some .boolean), Cond.fieldLink RX2 75 "BootStage$Unit" "needs" "I", Cond.methodLink RX2 78 yX2_contains, Cond.instanceMethod yX2_contains, Cond.selects RX2 yX2_contains yX2_contains, Cond.code yX2_contains cX2_contains 3 (some .boolean), Cond.methodLink RX2 125 yX0_resetForStart]
def wsX2_begin_r4 : List Cond := [Cond.instanceMethod yX0_resetForStart, Cond.selects RX0 yX0_resetForStart yX0_resetForStart, Cond.code yX0_resetForStart cX0_resetForStart 1 (some .int), Cond.fieldLink RX0 24 "BootStage$Unit" "isHeld" "Z", Cond.fieldLink RX0 38 "BootStage$Unit" "state" "I", Cond.fieldLink RX0 44 "BootStage$Unit" "retriesUsed" "I", Cond.fieldLink RX0 18 "BootStage$Unit" "learned" "I", Cond.fieldLink RX0 47 "BootStage$Unit" "learnedAtBegin" "I", Cond.methodLink RX2 128 yX2_raiseBar, Cond.instanceMethod yX2_raiseBar, Cond.selects RX2 yX2_raiseBar yX2_raiseBar, Cond.code yX2_raiseBar cX2_raiseBar 2 none, Cond.methodLink RX2 220 Lib.Math.max.name, Cond.static Lib.Math.max.name, Cond.initialized "java/lang/Math", Cond.code Lib.Math.max.name Lib.Math.max.code 2 (some .int), Cond.methodLink RX2 217 yX2_timeDone, Cond.instanceMethod yX2_timeDone, Cond.selects RX2 yX2_timeDone yX2_timeDone, Cond.code yX2_timeDone cX2_timeDone 3 (some .int), Cond.methodLink RX2 226 yX0_timeDone, Cond.instanceMethod yX0_timeDone, Cond.selects RX0 yX0_timeDone yX0_timeDone, Cond.code yX0_timeDone cX0_timeDone 1 (some .int)]
def wsX2_begin_r5 : List Cond := [Cond.fieldLink RX0 41 "BootStage$Unit" "ticksStarting" "I", Cond.methodLink RX0 63 Lib.Math.min.name, Cond.static Lib.Math.min.name, Cond.code Lib.Math.min.name Lib.Math.min.code 2 (some .int)]
def wsX2_begin : List Cond := .code yX2_begin cX2_begin 4 (some .int) :: ((wsX2_begin_r1 ++ (wsX2_begin_r2 ++ (wsX2_begin_r3 ++ (wsX2_begin_r4 ++ wsX2_begin_r5)))) ++ wsX20 ++ wsX10 ++ wsX00 ++ wsJx4a65c0 ++ (vx_atS RX2 159 "java/lang/IllegalArgumentException" ["java/lang/RuntimeException", "java/lang/Exception"]).filter goodWord ++ (vx_atS RX2 50 "java/lang/IllegalStateException" ["java/lang/RuntimeException", "java/lang/Exception"]).filter goodWord)
def wsX2_endStarts : List Cond := .code yX2_endStarts cX2_endStarts 3 none :: ([.fieldLink RX2 15 "BootStage" "count" "I", .fieldLink RX2 11 "BootStage" "rows" "[LBootStage$Unit;", .fieldLink RX2 136 "BootStage$Unit" "state" "I", .fieldLink RX2 199 "BootStage$Unit" "ticksStarting" "I", .fieldLink RX2 56 "BootStage$Unit" "time" "I", .methodLink RX2 202 yX0_comeToEnd, .instanceMethod yX0_comeToEnd, .selects RX0 yX0_comeToEnd yX0_comeToEnd, .initialized RX0, .code yX0_comeToEnd cX0_comeToEnd 1 none, .fieldLink RX0 21 "BootStage$Unit" "faults" "I", .fieldLink RX0 38 "BootStage$Unit" "state" "I", .fieldLink RX0 18 "BootStage$Unit" "learned" "I", .fieldLink RX0 9 "BootStage$Unit" "time" "I", .methodLink RX0 57 Lib.Math.max.name, .static Lib.Math.max.name, .initialized "java/lang/Math", .code Lib.Math.max.name Lib.Math.max.code 2 (some .int), .fieldLink RX0 44 "BootStage$Unit" "retriesUsed" "I", .fieldLink RX0 15 "BootStage$Unit" "retries" "I"] ++ wsX20 ++ wsX00)
def wsX2_lostNeeds : List Cond := .code yX2_lostNeeds cX2_lostNeeds 3 (some .int) :: ([.fieldLink RX2 15 "BootStage" "count" "I", .fieldLink RX2 11 "BootStage" "rows" "[LBootStage$Unit;", .methodLink RX2 184 yX0_isNeedLost, .instanceMethod yX0_isNeedLost, .selects RX0 yX0_isNeedLost yX0_isNeedLost, .initialized RX0, .code yX0_isNeedLost cX0_isNeedLost 1 (some .boolean), .fieldLink RX0 28 "BootStage$Unit" "substitute" "LBootStage$Unit;", .methodLink RX0 53 yX0_isGone, .instanceMethod yX0_isGone, .selects RX0 yX0_isGone yX0_isGone, .code yX0_isGone cX0_isGone 1 (some .boolean), .fieldLink RX0 38 "BootStage$Unit" "state" "I", .methodLink RX2 82 yX0_bit, .instanceMethod yX0_bit, .selects RX0 yX0_bit yX0_bit, .code yX0_bit cX0_bit 1 (some .int), .fieldLink RX0 50 "BootStage$Unit" "number" "I"] ++ wsX20 ++ wsX00)
def wsX2_failWithoutNeeds_r1 : List Cond := [Cond.fieldLink RX2 15 "BootStage" "count" "I", Cond.fieldLink RX2 11 "BootStage" "rows" "[LBootStage$Unit;", Cond.fieldLink RX2 136 "BootStage$Unit" "state" "I", Cond.fieldLink RX2 75 "BootStage$Unit" "needs" "I", Cond.methodLink RX2 205 yX2_lostNeeds, Cond.instanceMethod yX2_lostNeeds, Cond.selects RX2 yX2_lostNeeds yX2_lostNeeds, Cond.initialized RX2, Cond.code yX2_lostNeeds cX2_lostNeeds 3 (some .int), Cond.methodLink RX2 184 yX0_isNeedLost, Cond.instanceMethod yX0_isNeedLost, Cond.selects RX0 yX0_isNeedLost yX0_isNeedLost, Cond.initialized RX0, Cond.code yX0_isNeedLost cX0_isNeedLost 1 (some .boolean), Cond.fieldLink RX0 28 "BootStage$Unit" "substitute" "LBootStage$Unit;", Cond.methodLink RX0 53 yX0_isGone, Cond.instanceMethod yX0_isGone, Cond.selects RX0 yX0_isGone yX0_isGone, Cond.code yX0_isGone cX0_isGone 1 (some .boolean), Cond.fieldLink RX0 38 "BootStage$Unit" "state" "I", Cond.methodLink RX2 82 yX0_bit, Cond.instanceMethod yX0_bit, Cond.selects RX0 yX0_bit yX0_bit, Cond.code yX0_bit cX0_bit 1 (some .int)]
def wsX2_failWithoutNeeds_r2 : List Cond := [Cond.fieldLink RX0 50 "BootStage$Unit" "number" "I"]
def wsX2_failWithoutNeeds : List Cond := .code yX2_failWithoutNeeds cX2_failWithoutNeeds 4 none :: ((wsX2_failWithoutNeeds_r1 ++ wsX2_failWithoutNeeds_r2) ++ wsX20 ++ wsX00)
def wsX2_metNeeds : List Cond := .code yX2_metNeeds cX2_metNeeds 3 (some .int) :: ([.fieldLink RX2 15 "BootStage" "count" "I", .fieldLink RX2 11 "BootStage" "rows" "[LBootStage$Unit;", .methodLink RX2 180 yX0_isNeedMet, .instanceMethod yX0_isNeedMet, .selects RX0 yX0_isNeedMet yX0_isNeedMet, .initialized RX0, .code yX0_isNeedMet cX0_isNeedMet 1 (some .boolean), .fieldLink RX0 38 "BootStage$Unit" "state" "I", .fieldLink RX0 28 "BootStage$Unit" "substitute" "LBootStage$Unit;", .methodLink RX0 53 yX0_isGone, .instanceMethod yX0_isGone, .selects RX0 yX0_isGone yX0_isGone, .code yX0_isGone cX0_isGone 1 (some .boolean), .methodLink RX2 82 yX0_bit, .instanceMethod yX0_bit, .selects RX0 yX0_bit yX0_bit, .code yX0_bit cX0_bit 1 (some .int), .fieldLink RX0 50 "BootStage$Unit" "number" "I"] ++ wsX20 ++ wsX00)
def wsX2_doneWishes : List Cond := .code yX2_doneWishes cX2_doneWishes 3 (some .int) :: ([.fieldLink RX2 15 "BootStage" "count" "I", .fieldLink RX2 11 "BootStage" "rows" "[LBootStage$Unit;", .methodLink RX2 187 yX0_isWishDone, .instanceMethod yX0_isWishDone, .selects RX0 yX0_isWishDone yX0_isWishDone, .initialized RX0, .code yX0_isWishDone cX0_isWishDone 1 (some .boolean), .fieldLink RX0 38 "BootStage$Unit" "state" "I", .methodLink RX0 53 yX0_isGone, .instanceMethod yX0_isGone, .selects RX0 yX0_isGone yX0_isGone, .code yX0_isGone cX0_isGone 1 (some .boolean), .methodLink RX2 82 yX0_bit, .instanceMethod yX0_bit, .selects RX0 yX0_bit yX0_bit, .code yX0_bit cX0_bit 1 (some .int), .fieldLink RX0 50 "BootStage$Unit" "number" "I"] ++ wsX20 ++ wsX00)
def wsX2_countStarting : List Cond := .code yX2_countStarting cX2_countStarting 3 (some .int) :: ([.fieldLink RX2 15 "BootStage" "count" "I", .fieldLink RX2 11 "BootStage" "rows" "[LBootStage$Unit;", .fieldLink RX2 136 "BootStage$Unit" "state" "I"] ++ wsX20 ++ wsX00)
def wsX2_startWaiting_r1 : List Cond := [Cond.fieldLink RX2 15 "BootStage" "count" "I", Cond.fieldLink RX2 30 "BootStage" "bound" "I", Cond.fieldLink RX2 11 "BootStage" "rows" "[LBootStage$Unit;", Cond.fieldLink RX2 136 "BootStage$Unit" "state" "I", Cond.fieldLink RX2 75 "BootStage$Unit" "needs" "I", Cond.fieldLink RX2 103 "BootStage$Unit" "keptWishes" "I", Cond.fieldLink RX2 199 "BootStage$Unit" "ticksStarting" "I", Cond.methodLink RX2 208 yX2_metNeeds, Cond.instanceMethod yX2_metNeeds, Cond.selects RX2 yX2_metNeeds yX2_metNeeds, Cond.initialized RX2, Cond.code yX2_metNeeds cX2_metNeeds 3 (some .int), Cond.methodLink RX2 180 yX0_isNeedMet, Cond.instanceMethod yX0_isNeedMet, Cond.selects RX0 yX0_isNeedMet yX0_isNeedMet, Cond.initialized RX0, Cond.code yX0_isNeedMet cX0_isNeedMet 1 (some .boolean), Cond.fieldLink RX0 38 "BootStage$Unit" "state" "I", Cond.fieldLink RX0 28 "BootStage$Unit" "substitute" "LBootStage$Unit;", Cond.methodLink RX0 53 yX0_isGone, Cond.instanceMethod yX0_isGone, Cond.selects RX0 yX0_isGone yX0_isGone, Cond.code yX0_isGone cX0_isGone 1 (some .boolean), Cond.methodLink RX2 82 yX0_bit]
def wsX2_startWaiting_r2 : List Cond := [Cond.instanceMethod yX0_bit, Cond.selects RX0 yX0_bit yX0_bit, Cond.code yX0_bit cX0_bit 1 (some .int), Cond.fieldLink RX0 50 "BootStage$Unit" "number" "I", Cond.methodLink RX2 211 yX2_doneWishes, Cond.instanceMethod yX2_doneWishes, Cond.selects RX2 yX2_doneWishes yX2_doneWishes, Cond.code yX2_doneWishes cX2_doneWishes 3 (some .int), Cond.methodLink RX2 187 yX0_isWishDone, Cond.instanceMethod yX0_isWishDone, Cond.selects RX0 yX0_isWishDone yX0_isWishDone, Cond.code yX0_isWishDone cX0_isWishDone 1 (some .boolean), Cond.methodLink RX2 214 yX2_countStarting, Cond.instanceMethod yX2_countStarting, Cond.selects RX2 yX2_countStarting yX2_countStarting, Cond.code yX2_countStarting cX2_countStarting 3 (some .int)]
def wsX2_startWaiting : List Cond := .code yX2_startWaiting cX2_startWaiting 6 (some .int) :: ((wsX2_startWaiting_r1 ++ wsX2_startWaiting_r2) ++ wsX20 ++ wsX00)
def wsX2_passOneTick_r1 : List Cond := [Cond.fieldLink RX2 26 "BootStage" "isGoingOn" "Z", Cond.methodLink RX2 190 yX2_endStarts, Cond.instanceMethod yX2_endStarts, Cond.selects RX2 yX2_endStarts yX2_endStarts, Cond.initialized RX2, Cond.code yX2_endStarts cX2_endStarts 3 none, Cond.fieldLink RX2 15 "BootStage" "count" "I", Cond.fieldLink RX2 11 "BootStage" "rows" "[LBootStage$Unit;", Cond.fieldLink RX2 136 "BootStage$Unit" "state" "I", Cond.fieldLink RX2 199 "BootStage$Unit" "ticksStarting" "I", Cond.fieldLink RX2 56 "BootStage$Unit" "time" "I", Cond.methodLink RX2 202 yX0_comeToEnd, Cond.instanceMethod yX0_comeToEnd, Cond.selects RX0 yX0_comeToEnd yX0_comeToEnd, Cond.initialized RX0, Cond.code yX0_comeToEnd cX0_comeToEnd 1 none, Cond.fieldLink RX0 21 "BootStage$Unit" "faults" "I", Cond.fieldLink RX0 38 "BootStage$Unit" "state" "I", Cond.fieldLink RX0 18 "BootStage$Unit" "learned" "I", Cond.fieldLink RX0 9 "BootStage$Unit" "time" "I", Cond.methodLink RX0 57 Lib.Math.max.name, Cond.static Lib.Math.max.name, Cond.initialized "java/lang/Math", Cond.code Lib.Math.max.name Lib.Math.max.code 2 (some .int)]
def wsX2_passOneTick_r2 : List Cond := [Cond.fieldLink RX0 44 "BootStage$Unit" "retriesUsed" "I", Cond.fieldLink RX0 15 "BootStage$Unit" "retries" "I", Cond.methodLink RX2 193 yX2_failWithoutNeeds, Cond.instanceMethod yX2_failWithoutNeeds, Cond.selects RX2 yX2_failWithoutNeeds yX2_failWithoutNeeds, Cond.code yX2_failWithoutNeeds cX2_failWithoutNeeds 4 none, Cond.fieldLink RX2 75 "BootStage$Unit" "needs" "I", Cond.methodLink RX2 205 yX2_lostNeeds, Cond.instanceMethod yX2_lostNeeds, Cond.selects RX2 yX2_lostNeeds yX2_lostNeeds, Cond.code yX2_lostNeeds cX2_lostNeeds 3 (some .int), Cond.methodLink RX2 184 yX0_isNeedLost, Cond.instanceMethod yX0_isNeedLost, Cond.selects RX0 yX0_isNeedLost yX0_isNeedLost, Cond.code yX0_isNeedLost cX0_isNeedLost 1 (some .boolean), Cond.fieldLink RX0 28 "BootStage$Unit" "substitute" "LBootStage$Unit;", Cond.methodLink RX0 53 yX0_isGone, Cond.instanceMethod yX0_isGone, Cond.selects RX0 yX0_isGone yX0_isGone, Cond.code yX0_isGone cX0_isGone 1 (some .boolean), Cond.methodLink RX2 82 yX0_bit, Cond.instanceMethod yX0_bit, Cond.selects RX0 yX0_bit yX0_bit, Cond.code yX0_bit cX0_bit 1 (some .int)]
def wsX2_passOneTick_r3 : List Cond := [Cond.fieldLink RX0 50 "BootStage$Unit" "number" "I", Cond.methodLink RX2 196 yX2_startWaiting, Cond.instanceMethod yX2_startWaiting, Cond.selects RX2 yX2_startWaiting yX2_startWaiting, Cond.code yX2_startWaiting cX2_startWaiting 6 (some .int), Cond.fieldLink RX2 30 "BootStage" "bound" "I", Cond.fieldLink RX2 103 "BootStage$Unit" "keptWishes" "I", Cond.methodLink RX2 208 yX2_metNeeds, Cond.instanceMethod yX2_metNeeds, Cond.selects RX2 yX2_metNeeds yX2_metNeeds, Cond.code yX2_metNeeds cX2_metNeeds 3 (some .int), Cond.methodLink RX2 180 yX0_isNeedMet, Cond.instanceMethod yX0_isNeedMet, Cond.selects RX0 yX0_isNeedMet yX0_isNeedMet, Cond.code yX0_isNeedMet cX0_isNeedMet 1 (some .boolean), Cond.methodLink RX2 211 yX2_doneWishes, Cond.instanceMethod yX2_doneWishes, Cond.selects RX2 yX2_doneWishes yX2_doneWishes, Cond.code yX2_doneWishes cX2_doneWishes 3 (some .int), Cond.methodLink RX2 187 yX0_isWishDone, Cond.instanceMethod yX0_isWishDone, Cond.selects RX0 yX0_isWishDone yX0_isWishDone, Cond.code yX0_isWishDone cX0_isWishDone 1 (some .boolean), Cond.methodLink RX2 214 yX2_countStarting]
def wsX2_passOneTick_r4 : List Cond := [Cond.instanceMethod yX2_countStarting, Cond.selects RX2 yX2_countStarting yX2_countStarting, Cond.code yX2_countStarting cX2_countStarting 3 (some .int), Cond.methodLink RX2 128 yX2_raiseBar, Cond.instanceMethod yX2_raiseBar, Cond.selects RX2 yX2_raiseBar yX2_raiseBar, Cond.code yX2_raiseBar cX2_raiseBar 2 none, Cond.fieldLink RX2 33 "BootStage" "total" "I", Cond.fieldLink RX2 36 "BootStage" "reachedBar" "I", Cond.methodLink RX2 220 Lib.Math.max.name, Cond.methodLink RX2 217 yX2_timeDone, Cond.instanceMethod yX2_timeDone, Cond.selects RX2 yX2_timeDone yX2_timeDone, Cond.code yX2_timeDone cX2_timeDone 3 (some .int), Cond.methodLink RX2 226 yX0_timeDone, Cond.instanceMethod yX0_timeDone, Cond.selects RX0 yX0_timeDone yX0_timeDone, Cond.code yX0_timeDone cX0_timeDone 1 (some .int), Cond.fieldLink RX0 47 "BootStage$Unit" "learnedAtBegin" "I", Cond.fieldLink RX0 41 "BootStage$Unit" "ticksStarting" "I", Cond.methodLink RX0 63 Lib.Math.min.name, Cond.static Lib.Math.min.name, Cond.code Lib.Math.min.name Lib.Math.min.code 2 (some .int)]
def wsX2_passOneTick : List Cond := .code yX2_passOneTick cX2_passOneTick 1 none :: ((wsX2_passOneTick_r1 ++ (wsX2_passOneTick_r2 ++ (wsX2_passOneTick_r3 ++ wsX2_passOneTick_r4))) ++ wsX20 ++ wsX00)
def wsX2_tick_r1 : List Cond := [Cond.classLink RX2 46 "java/lang/IllegalStateException", Cond.initialized "java/lang/IllegalStateException", Cond.fieldLink RX2 26 "BootStage" "isGoingOn" "Z", Cond.methodLink RX2 42 yX2_checkRange, Cond.instanceMethod yX2_checkRange, Cond.selects RX2 yX2_checkRange yX2_checkRange, Cond.initialized RX2, Cond.code yX2_checkRange cX2_checkRange 4 none, Cond.classLink RX2 155 "java/lang/IllegalArgumentException", Cond.initialized "java/lang/IllegalArgumentException", Cond.methodLink RX2 133 yX2_passOneTick, Cond.instanceMethod yX2_passOneTick, Cond.selects RX2 yX2_passOneTick yX2_passOneTick, Cond.code yX2_passOneTick cX2_passOneTick 1 none, Cond.methodLink RX2 190 yX2_endStarts, Cond.instanceMethod yX2_endStarts, Cond.selects RX2 yX2_endStarts yX2_endStarts, Cond.code yX2_endStarts cX2_endStarts 3 none, Cond.fieldLink RX2 15 "BootStage" "count" "I", Cond.fieldLink RX2 11 "BootStage" "rows" "[LBootStage$Unit;", Cond.fieldLink RX2 136 "BootStage$Unit" "state" "I", Cond.fieldLink RX2 199 "BootStage$Unit" "ticksStarting" "I", Cond.fieldLink RX2 56 "BootStage$Unit" "time" "I", Cond.methodLink RX2 202 yX0_comeToEnd]
def wsX2_tick_r2 : List Cond := [Cond.instanceMethod yX0_comeToEnd, Cond.selects RX0 yX0_comeToEnd yX0_comeToEnd, Cond.initialized RX0, Cond.code yX0_comeToEnd cX0_comeToEnd 1 none, Cond.fieldLink RX0 21 "BootStage$Unit" "faults" "I", Cond.fieldLink RX0 38 "BootStage$Unit" "state" "I", Cond.fieldLink RX0 18 "BootStage$Unit" "learned" "I", Cond.fieldLink RX0 9 "BootStage$Unit" "time" "I", Cond.methodLink RX0 57 Lib.Math.max.name, Cond.static Lib.Math.max.name, Cond.initialized "java/lang/Math", Cond.code Lib.Math.max.name Lib.Math.max.code 2 (some .int), Cond.fieldLink RX0 44 "BootStage$Unit" "retriesUsed" "I", Cond.fieldLink RX0 15 "BootStage$Unit" "retries" "I", Cond.methodLink RX2 193 yX2_failWithoutNeeds, Cond.instanceMethod yX2_failWithoutNeeds, Cond.selects RX2 yX2_failWithoutNeeds yX2_failWithoutNeeds, Cond.code yX2_failWithoutNeeds cX2_failWithoutNeeds 4 none, Cond.fieldLink RX2 75 "BootStage$Unit" "needs" "I", Cond.methodLink RX2 205 yX2_lostNeeds, Cond.instanceMethod yX2_lostNeeds, Cond.selects RX2 yX2_lostNeeds yX2_lostNeeds, Cond.code yX2_lostNeeds cX2_lostNeeds 3 (some .int), Cond.methodLink RX2 184 yX0_isNeedLost]
def wsX2_tick_r3 : List Cond := [Cond.instanceMethod yX0_isNeedLost, Cond.selects RX0 yX0_isNeedLost yX0_isNeedLost, Cond.code yX0_isNeedLost cX0_isNeedLost 1 (some .boolean), Cond.fieldLink RX0 28 "BootStage$Unit" "substitute" "LBootStage$Unit;", Cond.methodLink RX0 53 yX0_isGone, Cond.instanceMethod yX0_isGone, Cond.selects RX0 yX0_isGone yX0_isGone, Cond.code yX0_isGone cX0_isGone 1 (some .boolean), Cond.methodLink RX2 82 yX0_bit, Cond.instanceMethod yX0_bit, Cond.selects RX0 yX0_bit yX0_bit, Cond.code yX0_bit cX0_bit 1 (some .int), Cond.fieldLink RX0 50 "BootStage$Unit" "number" "I", Cond.methodLink RX2 196 yX2_startWaiting, Cond.instanceMethod yX2_startWaiting, Cond.selects RX2 yX2_startWaiting yX2_startWaiting, Cond.code yX2_startWaiting cX2_startWaiting 6 (some .int), Cond.fieldLink RX2 30 "BootStage" "bound" "I", Cond.fieldLink RX2 103 "BootStage$Unit" "keptWishes" "I", Cond.methodLink RX2 208 yX2_metNeeds, Cond.instanceMethod yX2_metNeeds, Cond.selects RX2 yX2_metNeeds yX2_metNeeds, Cond.code yX2_metNeeds cX2_metNeeds 3 (some .int), Cond.methodLink RX2 180 yX0_isNeedMet]
def wsX2_tick_r4 : List Cond := [Cond.instanceMethod yX0_isNeedMet, Cond.selects RX0 yX0_isNeedMet yX0_isNeedMet, Cond.code yX0_isNeedMet cX0_isNeedMet 1 (some .boolean), Cond.methodLink RX2 211 yX2_doneWishes, Cond.instanceMethod yX2_doneWishes, Cond.selects RX2 yX2_doneWishes yX2_doneWishes, Cond.code yX2_doneWishes cX2_doneWishes 3 (some .int), Cond.methodLink RX2 187 yX0_isWishDone, Cond.instanceMethod yX0_isWishDone, Cond.selects RX0 yX0_isWishDone yX0_isWishDone, Cond.code yX0_isWishDone cX0_isWishDone 1 (some .boolean), Cond.methodLink RX2 214 yX2_countStarting, Cond.instanceMethod yX2_countStarting, Cond.selects RX2 yX2_countStarting yX2_countStarting, Cond.code yX2_countStarting cX2_countStarting 3 (some .int), Cond.methodLink RX2 128 yX2_raiseBar, Cond.instanceMethod yX2_raiseBar, Cond.selects RX2 yX2_raiseBar yX2_raiseBar, Cond.code yX2_raiseBar cX2_raiseBar 2 none, Cond.fieldLink RX2 33 "BootStage" "total" "I", Cond.fieldLink RX2 36 "BootStage" "reachedBar" "I", Cond.methodLink RX2 220 Lib.Math.max.name, Cond.methodLink RX2 217 yX2_timeDone, Cond.instanceMethod yX2_timeDone]
def wsX2_tick_r5 : List Cond := [Cond.selects RX2 yX2_timeDone yX2_timeDone, Cond.code yX2_timeDone cX2_timeDone 3 (some .int), Cond.methodLink RX2 226 yX0_timeDone, Cond.instanceMethod yX0_timeDone, Cond.selects RX0 yX0_timeDone yX0_timeDone, Cond.code yX0_timeDone cX0_timeDone 1 (some .int), Cond.fieldLink RX0 47 "BootStage$Unit" "learnedAtBegin" "I", Cond.fieldLink RX0 41 "BootStage$Unit" "ticksStarting" "I", Cond.methodLink RX0 63 Lib.Math.min.name, Cond.static Lib.Math.min.name, Cond.code Lib.Math.min.name Lib.Math.min.code 2 (some .int)]
def wsX2_tick : List Cond := .code yX2_tick cX2_tick 3 (some .int) :: ((wsX2_tick_r1 ++ (wsX2_tick_r2 ++ (wsX2_tick_r3 ++ (wsX2_tick_r4 ++ wsX2_tick_r5)))) ++ wsX20 ++ wsX00 ++ (vx_atS RX2 50 "java/lang/IllegalStateException" ["java/lang/RuntimeException", "java/lang/Exception"]).filter goodWord ++ (vx_atS RX2 159 "java/lang/IllegalArgumentException" ["java/lang/RuntimeException", "java/lang/Exception"]).filter goodWord)
def wsX2_goesOn : List Cond := .code yX2_goesOn cX2_goesOn 1 (some .boolean) :: ([.fieldLink RX2 26 "BootStage" "isGoingOn" "Z"] ++ wsX20)
def wsX2_state : List Cond := .code yX2_state cX2_state 2 (some .int) :: ([.fieldLink RX2 136 "BootStage$Unit" "state" "I", .methodLink RX2 65 yX2_unitAt, .instanceMethod yX2_unitAt, .selects RX2 yX2_unitAt yX2_unitAt, .initialized RX2, .code yX2_unitAt cX2_unitAt 2 (some (.object "BootStage$Unit")), .classLink RX2 150 "java/lang/IndexOutOfBoundsException", .initialized "java/lang/IndexOutOfBoundsException", .fieldLink RX2 15 "BootStage" "count" "I", .fieldLink RX2 11 "BootStage" "rows" "[LBootStage$Unit;"] ++ wsX00 ++ wsX20 ++ (vx_atS RX2 154 "java/lang/IndexOutOfBoundsException" ["java/lang/RuntimeException", "java/lang/Exception"]).filter goodWord)
def wsX2_isAwaited_r1 : List Cond := [Cond.fieldLink RX2 75 "BootStage$Unit" "needs" "I", Cond.fieldLink RX2 103 "BootStage$Unit" "keptWishes" "I", Cond.methodLink RX2 78 yX2_contains, Cond.instanceMethod yX2_contains, Cond.selects RX2 yX2_contains yX2_contains, Cond.initialized RX2, Cond.code yX2_contains cX2_contains 3 (some .boolean), Cond.methodLink RX2 82 yX0_bit, Cond.instanceMethod yX0_bit, Cond.selects RX0 yX0_bit yX0_bit, Cond.initialized RX0, Cond.code yX0_bit cX0_bit 1 (some .int), Cond.fieldLink RX0 50 "BootStage$Unit" "number" "I", Cond.methodLink RX2 180 yX0_isNeedMet, Cond.instanceMethod yX0_isNeedMet, Cond.selects RX0 yX0_isNeedMet yX0_isNeedMet, Cond.code yX0_isNeedMet cX0_isNeedMet 1 (some .boolean), Cond.fieldLink RX0 38 "BootStage$Unit" "state" "I", Cond.fieldLink RX0 28 "BootStage$Unit" "substitute" "LBootStage$Unit;", Cond.methodLink RX0 53 yX0_isGone, Cond.instanceMethod yX0_isGone, Cond.selects RX0 yX0_isGone yX0_isGone, Cond.code yX0_isGone cX0_isGone 1 (some .boolean), Cond.methodLink RX2 184 yX0_isNeedLost]
def wsX2_isAwaited_r2 : List Cond := [Cond.instanceMethod yX0_isNeedLost, Cond.selects RX0 yX0_isNeedLost yX0_isNeedLost, Cond.code yX0_isNeedLost cX0_isNeedLost 1 (some .boolean), Cond.methodLink RX2 187 yX0_isWishDone, Cond.instanceMethod yX0_isWishDone, Cond.selects RX0 yX0_isWishDone yX0_isWishDone, Cond.code yX0_isWishDone cX0_isWishDone 1 (some .boolean)]
def wsX2_isAwaited : List Cond := .code yX2_isAwaited cX2_isAwaited 5 (some .boolean) :: ((wsX2_isAwaited_r1 ++ wsX2_isAwaited_r2) ++ wsX00)
def wsX2_waitsFor_r1 : List Cond := [Cond.fieldLink RX2 136 "BootStage$Unit" "state" "I", Cond.fieldLink RX2 15 "BootStage" "count" "I", Cond.fieldLink RX2 11 "BootStage" "rows" "[LBootStage$Unit;", Cond.methodLink RX2 65 yX2_unitAt, Cond.instanceMethod yX2_unitAt, Cond.selects RX2 yX2_unitAt yX2_unitAt, Cond.initialized RX2, Cond.code yX2_unitAt cX2_unitAt 2 (some (.object "BootStage$Unit")), Cond.classLink RX2 150 "java/lang/IndexOutOfBoundsException", Cond.initialized "java/lang/IndexOutOfBoundsException", Cond.methodLink RX2 139 yX2_isAwaited, Cond.instanceMethod yX2_isAwaited, Cond.selects RX2 yX2_isAwaited yX2_isAwaited, Cond.code yX2_isAwaited cX2_isAwaited 5 (some .boolean), Cond.fieldLink RX2 75 "BootStage$Unit" "needs" "I", Cond.fieldLink RX2 103 "BootStage$Unit" "keptWishes" "I", Cond.methodLink RX2 78 yX2_contains, Cond.instanceMethod yX2_contains, Cond.selects RX2 yX2_contains yX2_contains, Cond.code yX2_contains cX2_contains 3 (some .boolean), Cond.methodLink RX2 82 yX0_bit, Cond.instanceMethod yX0_bit, Cond.selects RX0 yX0_bit yX0_bit, Cond.initialized RX0]
def wsX2_waitsFor_r2 : List Cond := [Cond.code yX0_bit cX0_bit 1 (some .int), Cond.fieldLink RX0 50 "BootStage$Unit" "number" "I", Cond.methodLink RX2 180 yX0_isNeedMet, Cond.instanceMethod yX0_isNeedMet, Cond.selects RX0 yX0_isNeedMet yX0_isNeedMet, Cond.code yX0_isNeedMet cX0_isNeedMet 1 (some .boolean), Cond.fieldLink RX0 38 "BootStage$Unit" "state" "I", Cond.fieldLink RX0 28 "BootStage$Unit" "substitute" "LBootStage$Unit;", Cond.methodLink RX0 53 yX0_isGone, Cond.instanceMethod yX0_isGone, Cond.selects RX0 yX0_isGone yX0_isGone, Cond.code yX0_isGone cX0_isGone 1 (some .boolean), Cond.methodLink RX2 184 yX0_isNeedLost, Cond.instanceMethod yX0_isNeedLost, Cond.selects RX0 yX0_isNeedLost yX0_isNeedLost, Cond.code yX0_isNeedLost cX0_isNeedLost 1 (some .boolean), Cond.methodLink RX2 187 yX0_isWishDone, Cond.instanceMethod yX0_isWishDone, Cond.selects RX0 yX0_isWishDone yX0_isWishDone, Cond.code yX0_isWishDone cX0_isWishDone 1 (some .boolean)]
def wsX2_waitsFor : List Cond := .code yX2_waitsFor cX2_waitsFor 4 (some .int) :: ((wsX2_waitsFor_r1 ++ wsX2_waitsFor_r2) ++ wsX00 ++ wsX20 ++ (vx_atS RX2 154 "java/lang/IndexOutOfBoundsException" ["java/lang/RuntimeException", "java/lang/Exception"]).filter goodWord)
def wsX2_bar : List Cond := .code yX2_bar cX2_bar 1 (some .int) :: ([.fieldLink RX2 36 "BootStage" "reachedBar" "I"] ++ wsX20)
def wsX2_ready : List Cond := .code yX2_ready cX2_ready 3 (some .int) :: ([.fieldLink RX2 15 "BootStage" "count" "I", .fieldLink RX2 11 "BootStage" "rows" "[LBootStage$Unit;", .fieldLink RX2 136 "BootStage$Unit" "state" "I", .methodLink RX2 82 yX0_bit, .instanceMethod yX0_bit, .selects RX0 yX0_bit yX0_bit, .initialized RX0, .code yX0_bit cX0_bit 1 (some .int), .fieldLink RX0 50 "BootStage$Unit" "number" "I"] ++ wsX20 ++ wsX00)
def wsX2_ableAlone : List Cond := .code yX2_ableAlone cX2_ableAlone 4 (some .int) :: ([.fieldLink RX2 15 "BootStage" "count" "I", .fieldLink RX2 11 "BootStage" "rows" "[LBootStage$Unit;", .fieldLink RX2 113 "BootStage$Unit" "isHeld" "Z", .fieldLink RX2 116 "BootStage$Unit" "faults" "I", .fieldLink RX2 59 "BootStage$Unit" "retries" "I", .methodLink RX2 82 yX0_bit, .instanceMethod yX0_bit, .selects RX0 yX0_bit yX0_bit, .initialized RX0, .code yX0_bit cX0_bit 1 (some .int), .fieldLink RX0 50 "BootStage$Unit" "number" "I"] ++ wsX20 ++ wsX00)
def wsX2_keepSupplied : List Cond := .code yX2_keepSupplied cX2_keepSupplied 6 (some .int) :: ([.fieldLink RX2 15 "BootStage" "count" "I", .fieldLink RX2 11 "BootStage" "rows" "[LBootStage$Unit;", .fieldLink RX2 109 "BootStage$Unit" "substitute" "LBootStage$Unit;", .fieldLink RX2 75 "BootStage$Unit" "needs" "I", .methodLink RX2 78 yX2_contains, .instanceMethod yX2_contains, .selects RX2 yX2_contains yX2_contains, .initialized RX2, .code yX2_contains cX2_contains 3 (some .boolean), .methodLink RX2 82 yX0_bit, .instanceMethod yX0_bit, .selects RX0 yX0_bit yX0_bit, .initialized RX0, .code yX0_bit cX0_bit 1 (some .int), .fieldLink RX0 50 "BootStage$Unit" "number" "I"] ++ wsX20 ++ wsX00)
def wsX2_canRun_r1 : List Cond := [Cond.fieldLink RX2 15 "BootStage" "count" "I", Cond.methodLink RX2 143 yX2_ableAlone, Cond.instanceMethod yX2_ableAlone, Cond.selects RX2 yX2_ableAlone yX2_ableAlone, Cond.initialized RX2, Cond.code yX2_ableAlone cX2_ableAlone 4 (some .int), Cond.fieldLink RX2 11 "BootStage" "rows" "[LBootStage$Unit;", Cond.fieldLink RX2 113 "BootStage$Unit" "isHeld" "Z", Cond.fieldLink RX2 116 "BootStage$Unit" "faults" "I", Cond.fieldLink RX2 59 "BootStage$Unit" "retries" "I", Cond.methodLink RX2 82 yX0_bit, Cond.instanceMethod yX0_bit, Cond.selects RX0 yX0_bit yX0_bit, Cond.initialized RX0, Cond.code yX0_bit cX0_bit 1 (some .int), Cond.fieldLink RX0 50 "BootStage$Unit" "number" "I", Cond.methodLink RX2 146 yX2_keepSupplied, Cond.instanceMethod yX2_keepSupplied, Cond.selects RX2 yX2_keepSupplied yX2_keepSupplied, Cond.code yX2_keepSupplied cX2_keepSupplied 6 (some .int), Cond.fieldLink RX2 109 "BootStage$Unit" "substitute" "LBootStage$Unit;", Cond.fieldLink RX2 75 "BootStage$Unit" "needs" "I", Cond.methodLink RX2 78 yX2_contains, Cond.instanceMethod yX2_contains]
def wsX2_canRun_r2 : List Cond := [Cond.selects RX2 yX2_contains yX2_contains, Cond.code yX2_contains cX2_contains 3 (some .boolean)]
def wsX2_canRun : List Cond := .code yX2_canRun cX2_canRun 4 (some .int) :: ((wsX2_canRun_r1 ++ wsX2_canRun_r2) ++ wsX20 ++ wsX00)
def wsX3_init : List Cond := .code yX3_init cX3_init 1 none :: ([.methodLink RX3 1 objectInit, .instanceMethod objectInit, .code objectInit ⟨#[0xb1]⟩ 1 none, .arrayClass .int, .fieldLink RX3 7 "BootStageModel" "times" "[I", .fieldLink RX3 13 "BootStageModel" "learned" "[I", .fieldLink RX3 16 "BootStageModel" "retries" "[I", .fieldLink RX3 19 "BootStageModel" "faults" "[I", .fieldLink RX3 22 "BootStageModel" "standIns" "[I", .arrayClass .boolean, .fieldLink RX3 25 "BootStageModel" "isHeld" "[Z", .fieldLink RX3 29 "BootStageModel" "needs" "[Z", .fieldLink RX3 32 "BootStageModel" "weights" "[I", .fieldLink RX3 35 "BootStageModel" "toldAt" "[I", .fieldLink RX3 38 "BootStageModel" "isCut" "[Z", .fieldLink RX3 41 "BootStageModel" "states" "[I", .fieldLink RX3 44 "BootStageModel" "ticks" "[I", .fieldLink RX3 47 "BootStageModel" "used" "[I", .fieldLink RX3 50 "BootStageModel" "counted" "[I", .fieldLink RX3 53 "BootStageModel" "isReached" "[Z"] ++ wsX30)
def wsX3_thrown : List Cond := .code yX3_thrown cX3_thrown 1 (some .int) :: ([.fieldLink RX3 56 "BootStageModel" "thrown" "I"] ++ wsX30)
def wsX3_goes : List Cond := .code yX3_goes cX3_goes 2 (some .boolean) :: ([.fieldLink RX3 56 "BootStageModel" "thrown" "I"] ++ wsX30)
def wsX3_isIn : List Cond := .code yX3_isIn cX3_isIn 3 (some .boolean) :: ([])
def wsX3_isUnit : List Cond := .code yX3_isUnit cX3_isUnit 2 (some .boolean) :: ([.fieldLink RX3 60 "BootStageModel" "units" "I", .methodLink RX3 63 yX3_isIn, .static yX3_isIn, .initialized RX3, .code yX3_isIn cX3_isIn 3 (some .boolean)] ++ wsX30)
def wsX3_edge : List Cond := .code yX3_edge cX3_edge 2 (some .int) :: ([])
def wsX3_add : List Cond := .code yX3_add cX3_add 3 (some .int) :: ([.fieldLink RX3 60 "BootStageModel" "units" "I", .fieldLink RX3 67 "BootStageModel" "goesOn" "Z", .fieldLink RX3 7 "BootStageModel" "times" "[I", .fieldLink RX3 16 "BootStageModel" "retries" "[I", .fieldLink RX3 13 "BootStageModel" "learned" "[I", .fieldLink RX3 22 "BootStageModel" "standIns" "[I", .fieldLink RX3 41 "BootStageModel" "states" "[I", .methodLink RX3 63 yX3_isIn, .static yX3_isIn, .initialized RX3, .code yX3_isIn cX3_isIn 3 (some .boolean), .methodLink RX3 71 yX3_goes, .instanceMethod yX3_goes, .selects RX3 yX3_goes yX3_goes, .code yX3_goes cX3_goes 2 (some .boolean), .fieldLink RX3 56 "BootStageModel" "thrown" "I"] ++ wsX30)
def wsX3_reaches : List Cond := .code yX3_reaches cX3_reaches 8 (some .boolean) :: ([.fieldLink RX3 60 "BootStageModel" "units" "I", .fieldLink RX3 53 "BootStageModel" "isReached" "[Z", .fieldLink RX3 29 "BootStageModel" "needs" "[Z", .fieldLink RX3 32 "BootStageModel" "weights" "[I", .fieldLink RX3 38 "BootStageModel" "isCut" "[Z", .methodLink RX3 75 yX3_edge, .static yX3_edge, .initialized RX3, .code yX3_edge cX3_edge 2 (some .int)] ++ wsX30)
def wsX3_need_r1 : List Cond := [Cond.fieldLink RX3 67 "BootStageModel" "goesOn" "Z", Cond.fieldLink RX3 29 "BootStageModel" "needs" "[Z", Cond.methodLink RX3 79 yX3_isUnit, Cond.instanceMethod yX3_isUnit, Cond.selects RX3 yX3_isUnit yX3_isUnit, Cond.initialized RX3, Cond.code yX3_isUnit cX3_isUnit 2 (some .boolean), Cond.fieldLink RX3 60 "BootStageModel" "units" "I", Cond.methodLink RX3 63 yX3_isIn, Cond.static yX3_isIn, Cond.code yX3_isIn cX3_isIn 3 (some .boolean), Cond.methodLink RX3 71 yX3_goes, Cond.instanceMethod yX3_goes, Cond.selects RX3 yX3_goes yX3_goes, Cond.code yX3_goes cX3_goes 2 (some .boolean), Cond.fieldLink RX3 56 "BootStageModel" "thrown" "I", Cond.methodLink RX3 82 yX3_reaches, Cond.instanceMethod yX3_reaches, Cond.selects RX3 yX3_reaches yX3_reaches, Cond.code yX3_reaches cX3_reaches 8 (some .boolean), Cond.fieldLink RX3 53 "BootStageModel" "isReached" "[Z", Cond.fieldLink RX3 32 "BootStageModel" "weights" "[I", Cond.fieldLink RX3 38 "BootStageModel" "isCut" "[Z", Cond.methodLink RX3 75 yX3_edge]
def wsX3_need_r2 : List Cond := [Cond.static yX3_edge, Cond.code yX3_edge cX3_edge 2 (some .int)]
def wsX3_need : List Cond := .code yX3_need cX3_need 4 (some .boolean) :: ((wsX3_need_r1 ++ wsX3_need_r2) ++ wsX30)
def wsX3_wish : List Cond := .code yX3_wish cX3_wish 6 (some .int) :: ([.fieldLink RX3 67 "BootStageModel" "goesOn" "Z", .fieldLink RX3 32 "BootStageModel" "weights" "[I", .fieldLink RX3 35 "BootStageModel" "toldAt" "[I", .fieldLink RX3 86 "BootStageModel" "told" "I", .methodLink RX3 79 yX3_isUnit, .instanceMethod yX3_isUnit, .selects RX3 yX3_isUnit yX3_isUnit, .initialized RX3, .code yX3_isUnit cX3_isUnit 2 (some .boolean), .fieldLink RX3 60 "BootStageModel" "units" "I", .methodLink RX3 63 yX3_isIn, .static yX3_isIn, .code yX3_isIn cX3_isIn 3 (some .boolean), .methodLink RX3 71 yX3_goes, .instanceMethod yX3_goes, .selects RX3 yX3_goes yX3_goes, .code yX3_goes cX3_goes 2 (some .boolean), .fieldLink RX3 56 "BootStageModel" "thrown" "I", .methodLink RX3 75 yX3_edge, .static yX3_edge, .code yX3_edge cX3_edge 2 (some .int)] ++ wsX30)
def wsX3_standIn : List Cond := .code yX3_standIn cX3_standIn 5 (some .int) :: ([.fieldLink RX3 67 "BootStageModel" "goesOn" "Z", .fieldLink RX3 22 "BootStageModel" "standIns" "[I", .methodLink RX3 79 yX3_isUnit, .instanceMethod yX3_isUnit, .selects RX3 yX3_isUnit yX3_isUnit, .initialized RX3, .code yX3_isUnit cX3_isUnit 2 (some .boolean), .fieldLink RX3 60 "BootStageModel" "units" "I", .methodLink RX3 63 yX3_isIn, .static yX3_isIn, .code yX3_isIn cX3_isIn 3 (some .boolean), .methodLink RX3 71 yX3_goes, .instanceMethod yX3_goes, .selects RX3 yX3_goes yX3_goes, .code yX3_goes cX3_goes 2 (some .boolean), .fieldLink RX3 56 "BootStageModel" "thrown" "I"] ++ wsX30)
def wsX3_hold : List Cond := .code yX3_hold cX3_hold 4 (some .boolean) :: ([.fieldLink RX3 67 "BootStageModel" "goesOn" "Z", .fieldLink RX3 25 "BootStageModel" "isHeld" "[Z", .methodLink RX3 79 yX3_isUnit, .instanceMethod yX3_isUnit, .selects RX3 yX3_isUnit yX3_isUnit, .initialized RX3, .code yX3_isUnit cX3_isUnit 2 (some .boolean), .fieldLink RX3 60 "BootStageModel" "units" "I", .methodLink RX3 63 yX3_isIn, .static yX3_isIn, .code yX3_isIn cX3_isIn 3 (some .boolean), .methodLink RX3 71 yX3_goes, .instanceMethod yX3_goes, .selects RX3 yX3_goes yX3_goes, .code yX3_goes cX3_goes 2 (some .boolean), .fieldLink RX3 56 "BootStageModel" "thrown" "I"] ++ wsX30)
def wsX3_setFaults : List Cond := .code yX3_setFaults cX3_setFaults 4 (some .int) :: ([.fieldLink RX3 19 "BootStageModel" "faults" "[I", .methodLink RX3 79 yX3_isUnit, .instanceMethod yX3_isUnit, .selects RX3 yX3_isUnit yX3_isUnit, .initialized RX3, .code yX3_isUnit cX3_isUnit 2 (some .boolean), .fieldLink RX3 60 "BootStageModel" "units" "I", .methodLink RX3 63 yX3_isIn, .static yX3_isIn, .code yX3_isIn cX3_isIn 3 (some .boolean), .methodLink RX3 71 yX3_goes, .instanceMethod yX3_goes, .selects RX3 yX3_goes yX3_goes, .code yX3_goes cX3_goes 2 (some .boolean), .fieldLink RX3 56 "BootStageModel" "thrown" "I"] ++ wsX30)
def wsX3_setTime : List Cond := .code yX3_setTime cX3_setTime 4 (some .int) :: ([.fieldLink RX3 7 "BootStageModel" "times" "[I", .methodLink RX3 79 yX3_isUnit, .instanceMethod yX3_isUnit, .selects RX3 yX3_isUnit yX3_isUnit, .initialized RX3, .code yX3_isUnit cX3_isUnit 2 (some .boolean), .fieldLink RX3 60 "BootStageModel" "units" "I", .methodLink RX3 63 yX3_isIn, .static yX3_isIn, .code yX3_isIn cX3_isIn 3 (some .boolean), .methodLink RX3 71 yX3_goes, .instanceMethod yX3_goes, .selects RX3 yX3_goes yX3_goes, .code yX3_goes cX3_goes 2 (some .boolean), .fieldLink RX3 56 "BootStageModel" "thrown" "I"] ++ wsX30)
def wsX3_units : List Cond := .code yX3_units cX3_units 1 (some .int) :: ([.fieldLink RX3 56 "BootStageModel" "thrown" "I", .fieldLink RX3 60 "BootStageModel" "units" "I"] ++ wsX30)
def wsX3_asks : List Cond := .code yX3_asks cX3_asks 2 (some .boolean) :: ([.methodLink RX3 79 yX3_isUnit, .instanceMethod yX3_isUnit, .selects RX3 yX3_isUnit yX3_isUnit, .initialized RX3, .code yX3_isUnit cX3_isUnit 2 (some .boolean), .fieldLink RX3 60 "BootStageModel" "units" "I", .methodLink RX3 63 yX3_isIn, .static yX3_isIn, .code yX3_isIn cX3_isIn 3 (some .boolean), .methodLink RX3 71 yX3_goes, .instanceMethod yX3_goes, .selects RX3 yX3_goes yX3_goes, .code yX3_goes cX3_goes 2 (some .boolean), .fieldLink RX3 56 "BootStageModel" "thrown" "I"] ++ wsX30)
def wsX3_learned : List Cond := .code yX3_learned cX3_learned 2 (some .int) :: ([.fieldLink RX3 13 "BootStageModel" "learned" "[I", .methodLink RX3 89 yX3_asks, .instanceMethod yX3_asks, .selects RX3 yX3_asks yX3_asks, .initialized RX3, .code yX3_asks cX3_asks 2 (some .boolean), .methodLink RX3 79 yX3_isUnit, .instanceMethod yX3_isUnit, .selects RX3 yX3_isUnit yX3_isUnit, .code yX3_isUnit cX3_isUnit 2 (some .boolean), .fieldLink RX3 60 "BootStageModel" "units" "I", .methodLink RX3 63 yX3_isIn, .static yX3_isIn, .code yX3_isIn cX3_isIn 3 (some .boolean), .methodLink RX3 71 yX3_goes, .instanceMethod yX3_goes, .selects RX3 yX3_goes yX3_goes, .code yX3_goes cX3_goes 2 (some .boolean), .fieldLink RX3 56 "BootStageModel" "thrown" "I"] ++ wsX30)
def wsX3_faults : List Cond := .code yX3_faults cX3_faults 2 (some .int) :: ([.fieldLink RX3 19 "BootStageModel" "faults" "[I", .methodLink RX3 89 yX3_asks, .instanceMethod yX3_asks, .selects RX3 yX3_asks yX3_asks, .initialized RX3, .code yX3_asks cX3_asks 2 (some .boolean), .methodLink RX3 79 yX3_isUnit, .instanceMethod yX3_isUnit, .selects RX3 yX3_isUnit yX3_isUnit, .code yX3_isUnit cX3_isUnit 2 (some .boolean), .fieldLink RX3 60 "BootStageModel" "units" "I", .methodLink RX3 63 yX3_isIn, .static yX3_isIn, .code yX3_isIn cX3_isIn 3 (some .boolean), .methodLink RX3 71 yX3_goes, .instanceMethod yX3_goes, .selects RX3 yX3_goes yX3_goes, .code yX3_goes cX3_goes 2 (some .boolean), .fieldLink RX3 56 "BootStageModel" "thrown" "I"] ++ wsX30)
def wsX3_weakest : List Cond := .code yX3_weakest cX3_weakest 5 (some .int) :: ([.fieldLink RX3 60 "BootStageModel" "units" "I", .fieldLink RX3 32 "BootStageModel" "weights" "[I", .fieldLink RX3 38 "BootStageModel" "isCut" "[Z", .fieldLink RX3 35 "BootStageModel" "toldAt" "[I", .methodLink RX3 75 yX3_edge, .static yX3_edge, .initialized RX3, .code yX3_edge cX3_edge 2 (some .int), .methodLink RX3 82 yX3_reaches, .instanceMethod yX3_reaches, .selects RX3 yX3_reaches yX3_reaches, .code yX3_reaches cX3_reaches 8 (some .boolean), .fieldLink RX3 53 "BootStageModel" "isReached" "[Z", .fieldLink RX3 29 "BootStageModel" "needs" "[Z"] ++ wsX30)
def wsX3_raised : List Cond := .code yX3_raised cX3_raised 4 (some .int) :: ([.fieldLink RX3 60 "BootStageModel" "units" "I", .fieldLink RX3 44 "BootStageModel" "ticks" "[I", .fieldLink RX3 50 "BootStageModel" "counted" "[I", .fieldLink RX3 41 "BootStageModel" "states" "[I", .fieldLink RX3 102 "BootStageModel" "total" "I", .fieldLink RX3 105 "BootStageModel" "bar" "I"] ++ wsX30)
def wsX3_begin_r1 : List Cond := [Cond.fieldLink RX3 67 "BootStageModel" "goesOn" "Z", Cond.fieldLink RX3 38 "BootStageModel" "isCut" "[Z", Cond.fieldLink RX3 96 "BootStageModel" "wasBegun" "Z", Cond.fieldLink RX3 99 "BootStageModel" "bound" "I", Cond.fieldLink RX3 102 "BootStageModel" "total" "I", Cond.fieldLink RX3 60 "BootStageModel" "units" "I", Cond.fieldLink RX3 41 "BootStageModel" "states" "[I", Cond.fieldLink RX3 25 "BootStageModel" "isHeld" "[Z", Cond.fieldLink RX3 44 "BootStageModel" "ticks" "[I", Cond.fieldLink RX3 47 "BootStageModel" "used" "[I", Cond.fieldLink RX3 50 "BootStageModel" "counted" "[I", Cond.fieldLink RX3 13 "BootStageModel" "learned" "[I", Cond.fieldLink RX3 105 "BootStageModel" "bar" "I", Cond.methodLink RX3 63 yX3_isIn, Cond.static yX3_isIn, Cond.initialized RX3, Cond.code yX3_isIn cX3_isIn 3 (some .boolean), Cond.methodLink RX3 71 yX3_goes, Cond.instanceMethod yX3_goes, Cond.selects RX3 yX3_goes yX3_goes, Cond.code yX3_goes cX3_goes 2 (some .boolean), Cond.fieldLink RX3 56 "BootStageModel" "thrown" "I", Cond.methodLink RX3 92 yX3_weakest, Cond.instanceMethod yX3_weakest]
def wsX3_begin_r2 : List Cond := [Cond.selects RX3 yX3_weakest yX3_weakest, Cond.code yX3_weakest cX3_weakest 5 (some .int), Cond.fieldLink RX3 32 "BootStageModel" "weights" "[I", Cond.fieldLink RX3 35 "BootStageModel" "toldAt" "[I", Cond.methodLink RX3 75 yX3_edge, Cond.static yX3_edge, Cond.code yX3_edge cX3_edge 2 (some .int), Cond.methodLink RX3 82 yX3_reaches, Cond.instanceMethod yX3_reaches, Cond.selects RX3 yX3_reaches yX3_reaches, Cond.code yX3_reaches cX3_reaches 8 (some .boolean), Cond.fieldLink RX3 53 "BootStageModel" "isReached" "[Z", Cond.fieldLink RX3 29 "BootStageModel" "needs" "[Z", Cond.methodLink RX3 108 yX3_raised, Cond.instanceMethod yX3_raised, Cond.selects RX3 yX3_raised yX3_raised, Cond.code yX3_raised cX3_raised 4 (some .int)]
def wsX3_begin : List Cond := .code yX3_begin cX3_begin 4 (some .int) :: ((wsX3_begin_r1 ++ wsX3_begin_r2) ++ wsX30)
def wsX3_isOff : List Cond := .code yX3_isOff cX3_isOff 2 (some .boolean) :: ([.fieldLink RX3 41 "BootStageModel" "states" "[I"] ++ wsX30)
def wsX3_isMet : List Cond := .code yX3_isMet cX3_isMet 3 (some .boolean) :: ([.fieldLink RX3 22 "BootStageModel" "standIns" "[I", .fieldLink RX3 41 "BootStageModel" "states" "[I", .methodLink RX3 111 yX3_isOff, .instanceMethod yX3_isOff, .selects RX3 yX3_isOff yX3_isOff, .initialized RX3, .code yX3_isOff cX3_isOff 2 (some .boolean)] ++ wsX30)
def wsX3_isLost : List Cond := .code yX3_isLost cX3_isLost 3 (some .boolean) :: ([.fieldLink RX3 22 "BootStageModel" "standIns" "[I", .methodLink RX3 111 yX3_isOff, .instanceMethod yX3_isOff, .selects RX3 yX3_isOff yX3_isOff, .initialized RX3, .code yX3_isOff cX3_isOff 2 (some .boolean), .fieldLink RX3 41 "BootStageModel" "states" "[I"] ++ wsX30)
def wsX3_waits : List Cond := .code yX3_waits cX3_waits 5 (some .boolean) :: ([.fieldLink RX3 32 "BootStageModel" "weights" "[I", .fieldLink RX3 38 "BootStageModel" "isCut" "[Z", .fieldLink RX3 41 "BootStageModel" "states" "[I", .fieldLink RX3 29 "BootStageModel" "needs" "[Z", .methodLink RX3 75 yX3_edge, .static yX3_edge, .initialized RX3, .code yX3_edge cX3_edge 2 (some .int), .methodLink RX3 111 yX3_isOff, .instanceMethod yX3_isOff, .selects RX3 yX3_isOff yX3_isOff, .code yX3_isOff cX3_isOff 2 (some .boolean), .methodLink RX3 114 yX3_isMet, .instanceMethod yX3_isMet, .selects RX3 yX3_isMet yX3_isMet, .code yX3_isMet cX3_isMet 3 (some .boolean), .fieldLink RX3 22 "BootStageModel" "standIns" "[I", .methodLink RX3 117 yX3_isLost, .instanceMethod yX3_isLost, .selects RX3 yX3_isLost yX3_isLost, .code yX3_isLost cX3_isLost 3 (some .boolean)] ++ wsX30)
def wsX3_starting : List Cond := .code yX3_starting cX3_starting 3 (some .int) :: ([.fieldLink RX3 60 "BootStageModel" "units" "I", .fieldLink RX3 41 "BootStageModel" "states" "[I"] ++ wsX30)
def wsX3_ends : List Cond := .code yX3_ends cX3_ends 3 none :: ([.fieldLink RX3 19 "BootStageModel" "faults" "[I", .fieldLink RX3 41 "BootStageModel" "states" "[I", .fieldLink RX3 13 "BootStageModel" "learned" "[I", .fieldLink RX3 7 "BootStageModel" "times" "[I", .fieldLink RX3 47 "BootStageModel" "used" "[I", .fieldLink RX3 16 "BootStageModel" "retries" "[I"] ++ wsX30)
def wsX3_isSo_r1 : List Cond := [Cond.fieldLink RX3 60 "BootStageModel" "units" "I", Cond.fieldLink RX3 29 "BootStageModel" "needs" "[Z", Cond.methodLink RX3 75 yX3_edge, Cond.static yX3_edge, Cond.initialized RX3, Cond.code yX3_edge cX3_edge 2 (some .int), Cond.methodLink RX3 117 yX3_isLost, Cond.instanceMethod yX3_isLost, Cond.selects RX3 yX3_isLost yX3_isLost, Cond.code yX3_isLost cX3_isLost 3 (some .boolean), Cond.fieldLink RX3 22 "BootStageModel" "standIns" "[I", Cond.methodLink RX3 111 yX3_isOff, Cond.instanceMethod yX3_isOff, Cond.selects RX3 yX3_isOff yX3_isOff, Cond.code yX3_isOff cX3_isOff 2 (some .boolean), Cond.fieldLink RX3 41 "BootStageModel" "states" "[I", Cond.methodLink RX3 120 yX3_waits, Cond.instanceMethod yX3_waits, Cond.selects RX3 yX3_waits yX3_waits, Cond.code yX3_waits cX3_waits 5 (some .boolean), Cond.fieldLink RX3 32 "BootStageModel" "weights" "[I", Cond.fieldLink RX3 38 "BootStageModel" "isCut" "[Z", Cond.methodLink RX3 114 yX3_isMet, Cond.instanceMethod yX3_isMet]
def wsX3_isSo_r2 : List Cond := [Cond.selects RX3 yX3_isMet yX3_isMet, Cond.code yX3_isMet cX3_isMet 3 (some .boolean)]
def wsX3_isSo : List Cond := .code yX3_isSo cX3_isSo 6 (some .boolean) :: ((wsX3_isSo_r1 ++ wsX3_isSo_r2) ++ wsX30)
def wsX3_passes_r1 : List Cond := [Cond.fieldLink RX3 60 "BootStageModel" "units" "I", Cond.fieldLink RX3 44 "BootStageModel" "ticks" "[I", Cond.fieldLink RX3 41 "BootStageModel" "states" "[I", Cond.fieldLink RX3 7 "BootStageModel" "times" "[I", Cond.fieldLink RX3 99 "BootStageModel" "bound" "I", Cond.fieldLink RX3 67 "BootStageModel" "goesOn" "Z", Cond.fieldLink RX3 105 "BootStageModel" "bar" "I", Cond.methodLink RX3 124 yX3_ends, Cond.instanceMethod yX3_ends, Cond.selects RX3 yX3_ends yX3_ends, Cond.initialized RX3, Cond.code yX3_ends cX3_ends 3 none, Cond.fieldLink RX3 19 "BootStageModel" "faults" "[I", Cond.fieldLink RX3 13 "BootStageModel" "learned" "[I", Cond.fieldLink RX3 47 "BootStageModel" "used" "[I", Cond.fieldLink RX3 16 "BootStageModel" "retries" "[I", Cond.methodLink RX3 128 yX3_isSo, Cond.instanceMethod yX3_isSo, Cond.selects RX3 yX3_isSo yX3_isSo, Cond.code yX3_isSo cX3_isSo 6 (some .boolean), Cond.fieldLink RX3 29 "BootStageModel" "needs" "[Z", Cond.methodLink RX3 75 yX3_edge, Cond.static yX3_edge, Cond.code yX3_edge cX3_edge 2 (some .int)]
def wsX3_passes_r2 : List Cond := [Cond.methodLink RX3 117 yX3_isLost, Cond.instanceMethod yX3_isLost, Cond.selects RX3 yX3_isLost yX3_isLost, Cond.code yX3_isLost cX3_isLost 3 (some .boolean), Cond.fieldLink RX3 22 "BootStageModel" "standIns" "[I", Cond.methodLink RX3 111 yX3_isOff, Cond.instanceMethod yX3_isOff, Cond.selects RX3 yX3_isOff yX3_isOff, Cond.code yX3_isOff cX3_isOff 2 (some .boolean), Cond.methodLink RX3 120 yX3_waits, Cond.instanceMethod yX3_waits, Cond.selects RX3 yX3_waits yX3_waits, Cond.code yX3_waits cX3_waits 5 (some .boolean), Cond.fieldLink RX3 32 "BootStageModel" "weights" "[I", Cond.fieldLink RX3 38 "BootStageModel" "isCut" "[Z", Cond.methodLink RX3 114 yX3_isMet, Cond.instanceMethod yX3_isMet, Cond.selects RX3 yX3_isMet yX3_isMet, Cond.code yX3_isMet cX3_isMet 3 (some .boolean), Cond.methodLink RX3 131 yX3_starting, Cond.instanceMethod yX3_starting, Cond.selects RX3 yX3_starting yX3_starting, Cond.code yX3_starting cX3_starting 3 (some .int), Cond.methodLink RX3 108 yX3_raised]
def wsX3_passes_r3 : List Cond := [Cond.instanceMethod yX3_raised, Cond.selects RX3 yX3_raised yX3_raised, Cond.code yX3_raised cX3_raised 4 (some .int), Cond.fieldLink RX3 50 "BootStageModel" "counted" "[I", Cond.fieldLink RX3 102 "BootStageModel" "total" "I"]
def wsX3_passes : List Cond := .code yX3_passes cX3_passes 2 none :: ((wsX3_passes_r1 ++ (wsX3_passes_r2 ++ wsX3_passes_r3)) ++ wsX30)
def wsX3_tick_r1 : List Cond := [Cond.fieldLink RX3 67 "BootStageModel" "goesOn" "Z", Cond.methodLink RX3 63 yX3_isIn, Cond.static yX3_isIn, Cond.initialized RX3, Cond.code yX3_isIn cX3_isIn 3 (some .boolean), Cond.methodLink RX3 71 yX3_goes, Cond.instanceMethod yX3_goes, Cond.selects RX3 yX3_goes yX3_goes, Cond.code yX3_goes cX3_goes 2 (some .boolean), Cond.fieldLink RX3 56 "BootStageModel" "thrown" "I", Cond.methodLink RX3 134 yX3_passes, Cond.instanceMethod yX3_passes, Cond.selects RX3 yX3_passes yX3_passes, Cond.code yX3_passes cX3_passes 2 none, Cond.fieldLink RX3 60 "BootStageModel" "units" "I", Cond.fieldLink RX3 44 "BootStageModel" "ticks" "[I", Cond.fieldLink RX3 41 "BootStageModel" "states" "[I", Cond.fieldLink RX3 7 "BootStageModel" "times" "[I", Cond.fieldLink RX3 99 "BootStageModel" "bound" "I", Cond.fieldLink RX3 105 "BootStageModel" "bar" "I", Cond.methodLink RX3 124 yX3_ends, Cond.instanceMethod yX3_ends, Cond.selects RX3 yX3_ends yX3_ends, Cond.code yX3_ends cX3_ends 3 none]
def wsX3_tick_r2 : List Cond := [Cond.fieldLink RX3 19 "BootStageModel" "faults" "[I", Cond.fieldLink RX3 13 "BootStageModel" "learned" "[I", Cond.fieldLink RX3 47 "BootStageModel" "used" "[I", Cond.fieldLink RX3 16 "BootStageModel" "retries" "[I", Cond.methodLink RX3 128 yX3_isSo, Cond.instanceMethod yX3_isSo, Cond.selects RX3 yX3_isSo yX3_isSo, Cond.code yX3_isSo cX3_isSo 6 (some .boolean), Cond.fieldLink RX3 29 "BootStageModel" "needs" "[Z", Cond.methodLink RX3 75 yX3_edge, Cond.static yX3_edge, Cond.code yX3_edge cX3_edge 2 (some .int), Cond.methodLink RX3 117 yX3_isLost, Cond.instanceMethod yX3_isLost, Cond.selects RX3 yX3_isLost yX3_isLost, Cond.code yX3_isLost cX3_isLost 3 (some .boolean), Cond.fieldLink RX3 22 "BootStageModel" "standIns" "[I", Cond.methodLink RX3 111 yX3_isOff, Cond.instanceMethod yX3_isOff, Cond.selects RX3 yX3_isOff yX3_isOff, Cond.code yX3_isOff cX3_isOff 2 (some .boolean), Cond.methodLink RX3 120 yX3_waits, Cond.instanceMethod yX3_waits, Cond.selects RX3 yX3_waits yX3_waits]
def wsX3_tick_r3 : List Cond := [Cond.code yX3_waits cX3_waits 5 (some .boolean), Cond.fieldLink RX3 32 "BootStageModel" "weights" "[I", Cond.fieldLink RX3 38 "BootStageModel" "isCut" "[Z", Cond.methodLink RX3 114 yX3_isMet, Cond.instanceMethod yX3_isMet, Cond.selects RX3 yX3_isMet yX3_isMet, Cond.code yX3_isMet cX3_isMet 3 (some .boolean), Cond.methodLink RX3 131 yX3_starting, Cond.instanceMethod yX3_starting, Cond.selects RX3 yX3_starting yX3_starting, Cond.code yX3_starting cX3_starting 3 (some .int), Cond.methodLink RX3 108 yX3_raised, Cond.instanceMethod yX3_raised, Cond.selects RX3 yX3_raised yX3_raised, Cond.code yX3_raised cX3_raised 4 (some .int), Cond.fieldLink RX3 50 "BootStageModel" "counted" "[I", Cond.fieldLink RX3 102 "BootStageModel" "total" "I"]
def wsX3_tick : List Cond := .code yX3_tick cX3_tick 3 (some .int) :: ((wsX3_tick_r1 ++ (wsX3_tick_r2 ++ wsX3_tick_r3)) ++ wsX30)
def wsX3_goesOn : List Cond := .code yX3_goesOn cX3_goesOn 1 (some .boolean) :: ([.fieldLink RX3 56 "BootStageModel" "thrown" "I", .fieldLink RX3 67 "BootStageModel" "goesOn" "Z"] ++ wsX30)
def wsX3_state : List Cond := .code yX3_state cX3_state 2 (some .int) :: ([.fieldLink RX3 41 "BootStageModel" "states" "[I", .methodLink RX3 89 yX3_asks, .instanceMethod yX3_asks, .selects RX3 yX3_asks yX3_asks, .initialized RX3, .code yX3_asks cX3_asks 2 (some .boolean), .methodLink RX3 79 yX3_isUnit, .instanceMethod yX3_isUnit, .selects RX3 yX3_isUnit yX3_isUnit, .code yX3_isUnit cX3_isUnit 2 (some .boolean), .fieldLink RX3 60 "BootStageModel" "units" "I", .methodLink RX3 63 yX3_isIn, .static yX3_isIn, .code yX3_isIn cX3_isIn 3 (some .boolean), .methodLink RX3 71 yX3_goes, .instanceMethod yX3_goes, .selects RX3 yX3_goes yX3_goes, .code yX3_goes cX3_goes 2 (some .boolean), .fieldLink RX3 56 "BootStageModel" "thrown" "I"] ++ wsX30)
def wsX3_waitsFor_r1 : List Cond := [Cond.fieldLink RX3 60 "BootStageModel" "units" "I", Cond.fieldLink RX3 41 "BootStageModel" "states" "[I", Cond.methodLink RX3 89 yX3_asks, Cond.instanceMethod yX3_asks, Cond.selects RX3 yX3_asks yX3_asks, Cond.initialized RX3, Cond.code yX3_asks cX3_asks 2 (some .boolean), Cond.methodLink RX3 79 yX3_isUnit, Cond.instanceMethod yX3_isUnit, Cond.selects RX3 yX3_isUnit yX3_isUnit, Cond.code yX3_isUnit cX3_isUnit 2 (some .boolean), Cond.methodLink RX3 63 yX3_isIn, Cond.static yX3_isIn, Cond.code yX3_isIn cX3_isIn 3 (some .boolean), Cond.methodLink RX3 71 yX3_goes, Cond.instanceMethod yX3_goes, Cond.selects RX3 yX3_goes yX3_goes, Cond.code yX3_goes cX3_goes 2 (some .boolean), Cond.fieldLink RX3 56 "BootStageModel" "thrown" "I", Cond.methodLink RX3 120 yX3_waits, Cond.instanceMethod yX3_waits, Cond.selects RX3 yX3_waits yX3_waits, Cond.code yX3_waits cX3_waits 5 (some .boolean), Cond.fieldLink RX3 32 "BootStageModel" "weights" "[I"]
def wsX3_waitsFor_r2 : List Cond := [Cond.fieldLink RX3 38 "BootStageModel" "isCut" "[Z", Cond.fieldLink RX3 29 "BootStageModel" "needs" "[Z", Cond.methodLink RX3 75 yX3_edge, Cond.static yX3_edge, Cond.code yX3_edge cX3_edge 2 (some .int), Cond.methodLink RX3 111 yX3_isOff, Cond.instanceMethod yX3_isOff, Cond.selects RX3 yX3_isOff yX3_isOff, Cond.code yX3_isOff cX3_isOff 2 (some .boolean), Cond.methodLink RX3 114 yX3_isMet, Cond.instanceMethod yX3_isMet, Cond.selects RX3 yX3_isMet yX3_isMet, Cond.code yX3_isMet cX3_isMet 3 (some .boolean), Cond.fieldLink RX3 22 "BootStageModel" "standIns" "[I", Cond.methodLink RX3 117 yX3_isLost, Cond.instanceMethod yX3_isLost, Cond.selects RX3 yX3_isLost yX3_isLost, Cond.code yX3_isLost cX3_isLost 3 (some .boolean)]
def wsX3_waitsFor : List Cond := .code yX3_waitsFor cX3_waitsFor 4 (some .int) :: ((wsX3_waitsFor_r1 ++ wsX3_waitsFor_r2) ++ wsX30)
def wsX3_bar : List Cond := .code yX3_bar cX3_bar 1 (some .int) :: ([.fieldLink RX3 56 "BootStageModel" "thrown" "I", .fieldLink RX3 96 "BootStageModel" "wasBegun" "Z", .fieldLink RX3 105 "BootStageModel" "bar" "I"] ++ wsX30)
def wsX3_ready : List Cond := .code yX3_ready cX3_ready 3 (some .int) :: ([.fieldLink RX3 56 "BootStageModel" "thrown" "I", .fieldLink RX3 60 "BootStageModel" "units" "I", .fieldLink RX3 41 "BootStageModel" "states" "[I"] ++ wsX30)
def wsX3_canRunIn : List Cond := .code yX3_canRunIn cX3_canRunIn 6 (some .boolean) :: ([.fieldLink RX3 25 "BootStageModel" "isHeld" "[Z", .fieldLink RX3 19 "BootStageModel" "faults" "[I", .fieldLink RX3 16 "BootStageModel" "retries" "[I", .fieldLink RX3 60 "BootStageModel" "units" "I", .fieldLink RX3 22 "BootStageModel" "standIns" "[I", .fieldLink RX3 29 "BootStageModel" "needs" "[Z", .methodLink RX3 75 yX3_edge, .static yX3_edge, .initialized RX3, .code yX3_edge cX3_edge 2 (some .int)] ++ wsX30)
def wsX3_canRun : List Cond := .code yX3_canRun cX3_canRun 4 (some .int) :: ([.fieldLink RX3 56 "BootStageModel" "thrown" "I", .fieldLink RX3 60 "BootStageModel" "units" "I", .methodLink RX3 137 yX3_canRunIn, .instanceMethod yX3_canRunIn, .selects RX3 yX3_canRunIn yX3_canRunIn, .initialized RX3, .code yX3_canRunIn cX3_canRunIn 6 (some .boolean), .fieldLink RX3 25 "BootStageModel" "isHeld" "[Z", .fieldLink RX3 19 "BootStageModel" "faults" "[I", .fieldLink RX3 16 "BootStageModel" "retries" "[I", .fieldLink RX3 22 "BootStageModel" "standIns" "[I", .fieldLink RX3 29 "BootStageModel" "needs" "[Z", .methodLink RX3 75 yX3_edge, .static yX3_edge, .code yX3_edge cX3_edge 2 (some .int)] ++ wsX30)
def wsJ9_max_7cf53 : List Cond := .code yJ9_max_7cf53 cJ9_max_7cf53 2 (some .int) :: ([])
def wsJ9_min_7cf53 : List Cond := .code yJ9_min_7cf53 cJ9_min_7cf53 2 (some .int) :: ([])
def wsL_add_r1 : List Cond := [Cond.classLink RL 13 "java/lang/IllegalArgumentException", Cond.classLink RL 15 "java/lang/IllegalStateException", Cond.methodLink RL 7 yX2_add, Cond.instanceMethod yX2_add, Cond.selects RX2 yX2_add yX2_add, Cond.initialized RX2, Cond.code yX2_add cX2_add 4 (some .int), Cond.classLink RX2 46 "java/lang/IllegalStateException", Cond.initialized "java/lang/IllegalStateException", Cond.fieldLink RX2 15 "BootStage" "count" "I", Cond.fieldLink RX2 11 "BootStage" "rows" "[LBootStage$Unit;", Cond.fieldLink RX2 56 "BootStage$Unit" "time" "I", Cond.fieldLink RX2 59 "BootStage$Unit" "retries" "I", Cond.fieldLink RX2 62 "BootStage$Unit" "number" "I", Cond.methodLink RX2 42 yX2_checkRange, Cond.instanceMethod yX2_checkRange, Cond.selects RX2 yX2_checkRange yX2_checkRange, Cond.code yX2_checkRange cX2_checkRange 4 none, Cond.classLink RX2 155 "java/lang/IllegalArgumentException", Cond.initialized "java/lang/IllegalArgumentException", Cond.methodLink RX2 53 yX2_checkNoStart, Cond.instanceMethod yX2_checkNoStart, Cond.selects RX2 yX2_checkNoStart yX2_checkNoStart, Cond.code yX2_checkNoStart cX2_checkNoStart 1 none]
def wsL_add_r2 : List Cond := [Cond.fieldLink RX2 26 "BootStage" "isGoingOn" "Z"]
def wsL_add : List Cond := .codeWith yL_add cL_add 5 (some .int) [(0, 10, 13, 13), (0, 10, 17, 15)] :: ((wsL_add_r1 ++ wsL_add_r2) ++ wsX20 ++ wsX00 ++ (vx_atS RX2 50 "java/lang/IllegalStateException" ["java/lang/RuntimeException", "java/lang/Exception"]).filter goodWord ++ (vx_atS RX2 159 "java/lang/IllegalArgumentException" ["java/lang/RuntimeException", "java/lang/Exception"]).filter goodWord)
def wsL_need_r1 : List Cond := [Cond.classLink RL 21 "java/lang/IndexOutOfBoundsException", Cond.classLink RL 15 "java/lang/IllegalStateException", Cond.methodLink RL 17 yX2_need, Cond.instanceMethod yX2_need, Cond.selects RX2 yX2_need yX2_need, Cond.initialized RX2, Cond.code yX2_need cX2_need 6 (some .boolean), Cond.classLink RX2 46 "java/lang/IllegalStateException", Cond.initialized "java/lang/IllegalStateException", Cond.fieldLink RX2 75 "BootStage$Unit" "needs" "I", Cond.methodLink RX2 65 yX2_unitAt, Cond.instanceMethod yX2_unitAt, Cond.selects RX2 yX2_unitAt yX2_unitAt, Cond.code yX2_unitAt cX2_unitAt 2 (some (.object "BootStage$Unit")), Cond.classLink RX2 150 "java/lang/IndexOutOfBoundsException", Cond.initialized "java/lang/IndexOutOfBoundsException", Cond.fieldLink RX2 15 "BootStage" "count" "I", Cond.fieldLink RX2 11 "BootStage" "rows" "[LBootStage$Unit;", Cond.methodLink RX2 69 yX2_reaches, Cond.instanceMethod yX2_reaches, Cond.selects RX2 yX2_reaches yX2_reaches, Cond.code yX2_reaches cX2_reaches 8 (some .boolean), Cond.fieldLink RX2 103 "BootStage$Unit" "keptWishes" "I", Cond.methodLink RX2 82 yX0_bit]
def wsL_need_r2 : List Cond := [Cond.instanceMethod yX0_bit, Cond.selects RX0 yX0_bit yX0_bit, Cond.initialized RX0, Cond.code yX0_bit cX0_bit 1 (some .int), Cond.fieldLink RX0 50 "BootStage$Unit" "number" "I", Cond.methodLink RX2 78 yX2_contains, Cond.instanceMethod yX2_contains, Cond.selects RX2 yX2_contains yX2_contains, Cond.code yX2_contains cX2_contains 3 (some .boolean), Cond.methodLink RX2 53 yX2_checkNoStart, Cond.instanceMethod yX2_checkNoStart, Cond.selects RX2 yX2_checkNoStart yX2_checkNoStart, Cond.code yX2_checkNoStart cX2_checkNoStart 1 none, Cond.fieldLink RX2 26 "BootStage" "isGoingOn" "Z"]
def wsL_need : List Cond := .codeWith yL_need cL_need 5 (some .int) [(0, 17, 20, 21), (0, 17, 24, 15)] :: ((wsL_need_r1 ++ wsL_need_r2) ++ wsX00 ++ wsX20 ++ (vx_atS RX2 50 "java/lang/IllegalStateException" ["java/lang/RuntimeException", "java/lang/Exception"]).filter goodWord ++ (vx_atS RX2 154 "java/lang/IndexOutOfBoundsException" ["java/lang/RuntimeException", "java/lang/Exception"]).filter goodWord)
def wsL_wish_r1 : List Cond := [Cond.classLink RL 21 "java/lang/IndexOutOfBoundsException", Cond.classLink RL 13 "java/lang/IllegalArgumentException", Cond.classLink RL 15 "java/lang/IllegalStateException", Cond.methodLink RL 23 yX2_wish, Cond.instanceMethod yX2_wish, Cond.selects RX2 yX2_wish yX2_wish, Cond.initialized RX2, Cond.code yX2_wish cX2_wish 8 (some .int), Cond.fieldLink RX2 22 "BootStage" "wishes" "Ljava/util/ArrayList;", Cond.classLink RX2 94 RX1, Cond.instantiable RX1 3, Cond.initialized RX1, Cond.fieldLink RX2 103 "BootStage$Unit" "keptWishes" "I", Cond.fieldLink RX2 106 "BootStage$Wish" "weight" "I", Cond.methodLink RX2 65 yX2_unitAt, Cond.instanceMethod yX2_unitAt, Cond.selects RX2 yX2_unitAt yX2_unitAt, Cond.code yX2_unitAt cX2_unitAt 2 (some (.object "BootStage$Unit")), Cond.classLink RX2 150 "java/lang/IndexOutOfBoundsException", Cond.initialized "java/lang/IndexOutOfBoundsException", Cond.fieldLink RX2 15 "BootStage" "count" "I", Cond.fieldLink RX2 11 "BootStage" "rows" "[LBootStage$Unit;", Cond.methodLink RX2 42 yX2_checkRange, Cond.instanceMethod yX2_checkRange]
def wsL_wish_r2 : List Cond := [Cond.selects RX2 yX2_checkRange yX2_checkRange, Cond.code yX2_checkRange cX2_checkRange 4 none, Cond.classLink RX2 155 "java/lang/IllegalArgumentException", Cond.initialized "java/lang/IllegalArgumentException", Cond.methodLink RX2 86 yX2_checkDifferent, Cond.instanceMethod yX2_checkDifferent, Cond.selects RX2 yX2_checkDifferent yX2_checkDifferent, Cond.code yX2_checkDifferent cX2_checkDifferent 3 none, Cond.methodLink RX2 53 yX2_checkNoStart, Cond.instanceMethod yX2_checkNoStart, Cond.selects RX2 yX2_checkNoStart yX2_checkNoStart, Cond.code yX2_checkNoStart cX2_checkNoStart 1 none, Cond.classLink RX2 46 "java/lang/IllegalStateException", Cond.initialized "java/lang/IllegalStateException", Cond.fieldLink RX2 26 "BootStage" "isGoingOn" "Z", Cond.methodLink RX2 90 yX2_findWish, Cond.instanceMethod yX2_findWish, Cond.selects RX2 yX2_findWish yX2_findWish, Cond.code yX2_findWish cX2_findWish 5 (some (.object "BootStage$Wish")), Cond.classLink RX2 94 "BootStage$Wish", Cond.fieldLink RX2 171 "BootStage$Wish" "wishing" "LBootStage$Unit;", Cond.fieldLink RX2 174 "BootStage$Wish" "wished" "LBootStage$Unit;", Cond.methodLink RX2 164 yJx4a65c_size_8abf5, Cond.instanceMethod yJx4a65c_size_8abf5]
def wsL_wish_r3 : List Cond := [Cond.selects RJx4a65c yJx4a65c_size_8abf5 yJx4a65c_size_8abf5, Cond.initialized RJx4a65c, Cond.code yJx4a65c_size_8abf5 cJx4a65c_size_8abf5 1 (some .int), Cond.fieldLink RJx4a65c 48 "java/util/ArrayList" "size" "I", Cond.methodLink RX2 167 yJx4a65c_get_915e3, Cond.instanceMethod yJx4a65c_get_915e3, Cond.selects RJx4a65c yJx4a65c_get_915e3 yJx4a65c_get_915e3, Cond.code yJx4a65c_get_915e3 cJx4a65c_get_915e3 2 (some (.object "java/lang/Object")), Cond.methodLink RJx4a65c 118 yJ15_checkIndex_7cf53, Cond.static yJ15_checkIndex_7cf53, Cond.initialized RJ15, Cond.code yJ15_checkIndex_7cf53 cJ15_checkIndex_7cf53 2 (some .int), Cond.methodLink RJ15 105 yJ3_checkIndex_8e157, Cond.static yJ3_checkIndex_8e157, Cond.initialized RJ3, Cond.code yJ3_checkIndex_8e157 cJ3_checkIndex_8e157 3 (some .int), Cond.methodLink RJx4a65c 123 yJx4a65c_elementData_915e3, Cond.instanceMethod yJx4a65c_elementData_915e3, Cond.selects RJx4a65c yJx4a65c_elementData_915e3 yJx4a65c_elementData_915e3, Cond.code yJx4a65c_elementData_915e3 cJx4a65c_elementData_915e3 2 (some (.object "java/lang/Object")), Cond.fieldLink RJx4a65c 9 "java/util/ArrayList" "elementData" "[Ljava/lang/Object;", Cond.methodLink RX2 96 yX1_init, Cond.instanceMethod yX1_init, Cond.code yX1_init cX1_init 4 none]
def wsL_wish_r4 : List Cond := [Cond.methodLink RX1 1 objectInit, Cond.instanceMethod objectInit, Cond.code objectInit ⟨#[0xb1]⟩ 1 none, Cond.fieldLink RX1 7 "BootStage$Wish" "wishing" "LBootStage$Unit;", Cond.fieldLink RX1 13 "BootStage$Wish" "wished" "LBootStage$Unit;", Cond.fieldLink RX1 16 "BootStage$Wish" "weight" "I", Cond.methodLink RX2 99 yJx4a65c_add_9ea2d, Cond.instanceMethod yJx4a65c_add_9ea2d, Cond.selects RJx4a65c yJx4a65c_add_9ea2d yJx4a65c_add_9ea2d, Cond.code yJx4a65c_add_9ea2d cJx4a65c_add_9ea2d 2 (some .boolean), Cond.fieldLink RJx4a65c 63 "java/util/ArrayList" "modCount" "I", Cond.sameField "java/util/ArrayList" "java/util/AbstractList" "modCount" "I", Cond.methodLink RJx4a65c 131 yJx4a65c_add_72be8, Cond.instanceMethod yJx4a65c_add_72be8, Cond.selects RJx4a65c yJx4a65c_add_72be8 yJx4a65c_add_72be8, Cond.code yJx4a65c_add_72be8 cJx4a65c_add_72be8 4 none, Cond.methodLink RJx4a65c 129 yJx4a65c_grow_d5877, Cond.instanceMethod yJx4a65c_grow_d5877, Cond.selects RJx4a65c yJx4a65c_grow_d5877 yJx4a65c_grow_d5877, Cond.code yJx4a65c_grow_d5877 cJx4a65c_grow_d5877 1 (some (.array (.object "java/lang/Object"))), Cond.methodLink RJx4a65c 69 yJx4a65c_grow_92f84, Cond.instanceMethod yJx4a65c_grow_92f84, Cond.selects RJx4a65c yJx4a65c_grow_92f84 yJx4a65c_grow_92f84, Cond.code yJx4a65c_grow_92f84 cJx4a65c_grow_92f84 4 (some (.array (.object "java/lang/Object")))]
def wsL_wish_r5 : List Cond := [Cond.fieldLink RJx4a65c 39 "java/util/ArrayList" "DEFAULTCAPACITY_EMPTY_ELEMENTDATA" "[Ljava/lang/Object;", Cond.methodLink RJx4a65c 79 Lib.Math.max.name, Cond.static Lib.Math.max.name, Cond.initialized "java/lang/Math", Cond.code Lib.Math.max.name Lib.Math.max.code 2 (some .int), Cond.classLink RJx4a65c 7 "java/lang/Object", Cond.methodLink RJx4a65c 73 yJ8_newLength_cabcc, Cond.static yJ8_newLength_cabcc, Cond.initialized RJ8, Cond.code yJ8_newLength_cabcc cJ8_newLength_cabcc 4 (some .int), Cond.methodLink RJ8 194 Lib.Math.max.name, Cond.constant RJ8 200 (2147483639), Cond.methodLink RJ8 201 yJ8_hugeLength_7cf53, Cond.static yJ8_hugeLength_7cf53, Cond.code yJ8_hugeLength_7cf53 cJ8_hugeLength_7cf53 3 (some .int), Cond.methodLink RJx4a65c 66 yJ7_copyOf_1904c, Cond.static yJ7_copyOf_1904c, Cond.initialized RJ7, Cond.code yJ7_copyOf_1904c cJ7_copyOf_1904c 2 (some (.array (.object "java/lang/Object"))), Cond.methodLink RJ7 86 ⟨"java/lang/Object", "getClass", "()Ljava/lang/Class;"⟩, Cond.selects "[Ljava/lang/Object;" ⟨"java/lang/Object", "getClass", "()Ljava/lang/Class;"⟩ ⟨"java/lang/Object", "getClass", "()Ljava/lang/Class;"⟩, Cond.instanceMethod ⟨"java/lang/Object", "getClass", "()Ljava/lang/Class;"⟩, Cond.native ⟨"java/lang/Object", "getClass", "()Ljava/lang/Class;"⟩, Cond.methodLink RJ7 300 yJ7_copyOf_6403c]
def wsL_wish_r6 : List Cond := [Cond.static yJ7_copyOf_6403c, Cond.code yJ7_copyOf_6403c cJ7_copyOf_6403c 4 (some (.array (.object "java/lang/Object"))), Cond.classLink RJ7 110 "[Ljava/lang/Object;", Cond.classLink RJ7 2 "java/lang/Object", Cond.methodLink RJ7 304 Lib.Math.min.name, Cond.static Lib.Math.min.name, Cond.code Lib.Math.min.name Lib.Math.min.code 2 (some .int), Cond.methodLink RJ7 150 arraycopyName, Cond.native arraycopyName, Cond.static arraycopyName, Cond.initialized "java/lang/System", Cond.methodLink RX2 82 yX0_bit, Cond.instanceMethod yX0_bit, Cond.selects RX0 yX0_bit yX0_bit, Cond.initialized RX0, Cond.code yX0_bit cX0_bit 1 (some .int), Cond.fieldLink RX0 50 "BootStage$Unit" "number" "I"]
def wsL_wish : List Cond := .codeWith yL_wish cL_wish 6 (some .int) [(0, 12, 15, 21), (0, 12, 19, 13), (0, 12, 23, 15)] :: ((wsL_wish_r1 ++ (wsL_wish_r2 ++ (wsL_wish_r3 ++ (wsL_wish_r4 ++ (wsL_wish_r5 ++ wsL_wish_r6))))) ++ wsX20 ++ wsX10 ++ wsX00 ++ wsJx4a65c0 ++ (vx_atS RX2 154 "java/lang/IndexOutOfBoundsException" ["java/lang/RuntimeException", "java/lang/Exception"]).filter goodWord ++ (vx_atS RX2 159 "java/lang/IllegalArgumentException" ["java/lang/RuntimeException", "java/lang/Exception"]).filter goodWord ++ (vx_atS RX2 50 "java/lang/IllegalStateException" ["java/lang/RuntimeException", "java/lang/Exception"]).filter goodWord)
def wsL_standIn_r1 : List Cond := [Cond.classLink RL 21 "java/lang/IndexOutOfBoundsException", Cond.classLink RL 13 "java/lang/IllegalArgumentException", Cond.classLink RL 15 "java/lang/IllegalStateException", Cond.methodLink RL 27 yX2_standIn, Cond.instanceMethod yX2_standIn, Cond.selects RX2 yX2_standIn yX2_standIn, Cond.initialized RX2, Cond.code yX2_standIn cX2_standIn 6 (some .int), Cond.fieldLink RX2 109 "BootStage$Unit" "substitute" "LBootStage$Unit;", Cond.fieldLink RX2 62 "BootStage$Unit" "number" "I", Cond.methodLink RX2 65 yX2_unitAt, Cond.instanceMethod yX2_unitAt, Cond.selects RX2 yX2_unitAt yX2_unitAt, Cond.code yX2_unitAt cX2_unitAt 2 (some (.object "BootStage$Unit")), Cond.classLink RX2 150 "java/lang/IndexOutOfBoundsException", Cond.initialized "java/lang/IndexOutOfBoundsException", Cond.fieldLink RX2 15 "BootStage" "count" "I", Cond.fieldLink RX2 11 "BootStage" "rows" "[LBootStage$Unit;", Cond.methodLink RX2 86 yX2_checkDifferent, Cond.instanceMethod yX2_checkDifferent, Cond.selects RX2 yX2_checkDifferent yX2_checkDifferent, Cond.code yX2_checkDifferent cX2_checkDifferent 3 none, Cond.classLink RX2 155 "java/lang/IllegalArgumentException", Cond.initialized "java/lang/IllegalArgumentException"]
def wsL_standIn_r2 : List Cond := [Cond.methodLink RX2 53 yX2_checkNoStart, Cond.instanceMethod yX2_checkNoStart, Cond.selects RX2 yX2_checkNoStart yX2_checkNoStart, Cond.code yX2_checkNoStart cX2_checkNoStart 1 none, Cond.classLink RX2 46 "java/lang/IllegalStateException", Cond.initialized "java/lang/IllegalStateException", Cond.fieldLink RX2 26 "BootStage" "isGoingOn" "Z"]
def wsL_standIn : List Cond := .codeWith yL_standIn cL_standIn 5 (some .int) [(0, 10, 13, 21), (0, 10, 17, 13), (0, 10, 21, 15)] :: ((wsL_standIn_r1 ++ wsL_standIn_r2) ++ wsX00 ++ wsX20 ++ (vx_atS RX2 154 "java/lang/IndexOutOfBoundsException" ["java/lang/RuntimeException", "java/lang/Exception"]).filter goodWord ++ (vx_atS RX2 159 "java/lang/IllegalArgumentException" ["java/lang/RuntimeException", "java/lang/Exception"]).filter goodWord ++ (vx_atS RX2 50 "java/lang/IllegalStateException" ["java/lang/RuntimeException", "java/lang/Exception"]).filter goodWord)
def wsL_hold : List Cond := .codeWith yL_hold cL_hold 5 (some .int) [(0, 17, 20, 21), (0, 17, 24, 15)] :: ([.classLink RL 21 "java/lang/IndexOutOfBoundsException", .classLink RL 15 "java/lang/IllegalStateException", .methodLink RL 30 yX2_hold, .instanceMethod yX2_hold, .selects RX2 yX2_hold yX2_hold, .initialized RX2, .code yX2_hold cX2_hold 5 (some .boolean), .fieldLink RX2 113 "BootStage$Unit" "isHeld" "Z", .methodLink RX2 65 yX2_unitAt, .instanceMethod yX2_unitAt, .selects RX2 yX2_unitAt yX2_unitAt, .code yX2_unitAt cX2_unitAt 2 (some (.object "BootStage$Unit")), .classLink RX2 150 "java/lang/IndexOutOfBoundsException", .initialized "java/lang/IndexOutOfBoundsException", .fieldLink RX2 15 "BootStage" "count" "I", .fieldLink RX2 11 "BootStage" "rows" "[LBootStage$Unit;", .methodLink RX2 53 yX2_checkNoStart, .instanceMethod yX2_checkNoStart, .selects RX2 yX2_checkNoStart yX2_checkNoStart, .code yX2_checkNoStart cX2_checkNoStart 1 none, .classLink RX2 46 "java/lang/IllegalStateException", .initialized "java/lang/IllegalStateException", .fieldLink RX2 26 "BootStage" "isGoingOn" "Z"] ++ wsX00 ++ wsX20 ++ (vx_atS RX2 154 "java/lang/IndexOutOfBoundsException" ["java/lang/RuntimeException", "java/lang/Exception"]).filter goodWord ++ (vx_atS RX2 50 "java/lang/IllegalStateException" ["java/lang/RuntimeException", "java/lang/Exception"]).filter goodWord)
def wsL_setFaults : List Cond := .codeWith yL_setFaults cL_setFaults 5 (some .int) [(0, 10, 13, 21), (0, 10, 17, 13)] :: ([.classLink RL 21 "java/lang/IndexOutOfBoundsException", .classLink RL 13 "java/lang/IllegalArgumentException", .methodLink RL 34 yX2_setFaults, .instanceMethod yX2_setFaults, .selects RX2 yX2_setFaults yX2_setFaults, .initialized RX2, .code yX2_setFaults cX2_setFaults 5 (some .int), .fieldLink RX2 116 "BootStage$Unit" "faults" "I", .methodLink RX2 65 yX2_unitAt, .instanceMethod yX2_unitAt, .selects RX2 yX2_unitAt yX2_unitAt, .code yX2_unitAt cX2_unitAt 2 (some (.object "BootStage$Unit")), .classLink RX2 150 "java/lang/IndexOutOfBoundsException", .initialized "java/lang/IndexOutOfBoundsException", .fieldLink RX2 15 "BootStage" "count" "I", .fieldLink RX2 11 "BootStage" "rows" "[LBootStage$Unit;", .methodLink RX2 42 yX2_checkRange, .instanceMethod yX2_checkRange, .selects RX2 yX2_checkRange yX2_checkRange, .code yX2_checkRange cX2_checkRange 4 none, .classLink RX2 155 "java/lang/IllegalArgumentException", .initialized "java/lang/IllegalArgumentException"] ++ wsX00 ++ wsX20 ++ (vx_atS RX2 154 "java/lang/IndexOutOfBoundsException" ["java/lang/RuntimeException", "java/lang/Exception"]).filter goodWord ++ (vx_atS RX2 159 "java/lang/IllegalArgumentException" ["java/lang/RuntimeException", "java/lang/Exception"]).filter goodWord)
def wsL_setTime : List Cond := .codeWith yL_setTime cL_setTime 5 (some .int) [(0, 10, 13, 21), (0, 10, 17, 13)] :: ([.classLink RL 21 "java/lang/IndexOutOfBoundsException", .classLink RL 13 "java/lang/IllegalArgumentException", .methodLink RL 37 yX2_setTime, .instanceMethod yX2_setTime, .selects RX2 yX2_setTime yX2_setTime, .initialized RX2, .code yX2_setTime cX2_setTime 5 (some .int), .fieldLink RX2 56 "BootStage$Unit" "time" "I", .methodLink RX2 65 yX2_unitAt, .instanceMethod yX2_unitAt, .selects RX2 yX2_unitAt yX2_unitAt, .code yX2_unitAt cX2_unitAt 2 (some (.object "BootStage$Unit")), .classLink RX2 150 "java/lang/IndexOutOfBoundsException", .initialized "java/lang/IndexOutOfBoundsException", .fieldLink RX2 15 "BootStage" "count" "I", .fieldLink RX2 11 "BootStage" "rows" "[LBootStage$Unit;", .methodLink RX2 42 yX2_checkRange, .instanceMethod yX2_checkRange, .selects RX2 yX2_checkRange yX2_checkRange, .code yX2_checkRange cX2_checkRange 4 none, .classLink RX2 155 "java/lang/IllegalArgumentException", .initialized "java/lang/IllegalArgumentException"] ++ wsX00 ++ wsX20 ++ (vx_atS RX2 154 "java/lang/IndexOutOfBoundsException" ["java/lang/RuntimeException", "java/lang/Exception"]).filter goodWord ++ (vx_atS RX2 159 "java/lang/IllegalArgumentException" ["java/lang/RuntimeException", "java/lang/Exception"]).filter goodWord)
def wsL_learned : List Cond := .codeWith yL_learned cL_learned 4 (some .int) [(0, 9, 12, 21)] :: ([.classLink RL 21 "java/lang/IndexOutOfBoundsException", .methodLink RL 40 yX2_learned, .instanceMethod yX2_learned, .selects RX2 yX2_learned yX2_learned, .initialized RX2, .code yX2_learned cX2_learned 2 (some .int), .fieldLink RX2 119 "BootStage$Unit" "learned" "I", .methodLink RX2 65 yX2_unitAt, .instanceMethod yX2_unitAt, .selects RX2 yX2_unitAt yX2_unitAt, .code yX2_unitAt cX2_unitAt 2 (some (.object "BootStage$Unit")), .classLink RX2 150 "java/lang/IndexOutOfBoundsException", .initialized "java/lang/IndexOutOfBoundsException", .fieldLink RX2 15 "BootStage" "count" "I", .fieldLink RX2 11 "BootStage" "rows" "[LBootStage$Unit;"] ++ wsX00 ++ wsX20 ++ (vx_atS RX2 154 "java/lang/IndexOutOfBoundsException" ["java/lang/RuntimeException", "java/lang/Exception"]).filter goodWord)
def wsL_faults : List Cond := .codeWith yL_faults cL_faults 4 (some .int) [(0, 9, 12, 21)] :: ([.classLink RL 21 "java/lang/IndexOutOfBoundsException", .methodLink RL 44 yX2_faults, .instanceMethod yX2_faults, .selects RX2 yX2_faults yX2_faults, .initialized RX2, .code yX2_faults cX2_faults 2 (some .int), .fieldLink RX2 116 "BootStage$Unit" "faults" "I", .methodLink RX2 65 yX2_unitAt, .instanceMethod yX2_unitAt, .selects RX2 yX2_unitAt yX2_unitAt, .code yX2_unitAt cX2_unitAt 2 (some (.object "BootStage$Unit")), .classLink RX2 150 "java/lang/IndexOutOfBoundsException", .initialized "java/lang/IndexOutOfBoundsException", .fieldLink RX2 15 "BootStage" "count" "I", .fieldLink RX2 11 "BootStage" "rows" "[LBootStage$Unit;"] ++ wsX00 ++ wsX20 ++ (vx_atS RX2 154 "java/lang/IndexOutOfBoundsException" ["java/lang/RuntimeException", "java/lang/Exception"]).filter goodWord)
def wsL_begin_r1 : List Cond := [Cond.classLink RL 13 "java/lang/IllegalArgumentException", Cond.classLink RL 15 "java/lang/IllegalStateException", Cond.methodLink RL 47 yX2_begin, Cond.instanceMethod yX2_begin, Cond.selects RX2 yX2_begin yX2_begin, Cond.initialized RX2, Cond.code yX2_begin cX2_begin 4 (some .int), Cond.fieldLink RX2 30 "BootStage" "bound" "I", Cond.fieldLink RX2 33 "BootStage" "total" "I", Cond.fieldLink RX2 15 "BootStage" "count" "I", Cond.fieldLink RX2 11 "BootStage" "rows" "[LBootStage$Unit;", Cond.fieldLink RX2 26 "BootStage" "isGoingOn" "Z", Cond.fieldLink RX2 36 "BootStage" "reachedBar" "I", Cond.methodLink RX2 42 yX2_checkRange, Cond.instanceMethod yX2_checkRange, Cond.selects RX2 yX2_checkRange yX2_checkRange, Cond.code yX2_checkRange cX2_checkRange 4 none, Cond.classLink RX2 155 "java/lang/IllegalArgumentException", Cond.initialized "java/lang/IllegalArgumentException", Cond.methodLink RX2 53 yX2_checkNoStart, Cond.instanceMethod yX2_checkNoStart, Cond.selects RX2 yX2_checkNoStart yX2_checkNoStart, Cond.code yX2_checkNoStart cX2_checkNoStart 1 none, Cond.classLink RX2 46 "java/lang/IllegalStateException"]
def wsL_begin_r2 : List Cond := [Cond.initialized "java/lang/IllegalStateException", Cond.methodLink RX2 122 yX2_cutLoops, Cond.instanceMethod yX2_cutLoops, Cond.selects RX2 yX2_cutLoops yX2_cutLoops, Cond.code yX2_cutLoops cX2_cutLoops 5 (some .int), Cond.fieldLink RX2 22 "BootStage" "wishes" "Ljava/util/ArrayList;", Cond.classLink RX2 94 "BootStage$Wish", Cond.fieldLink RX2 106 "BootStage$Wish" "weight" "I", Cond.fieldLink RX2 174 "BootStage$Wish" "wished" "LBootStage$Unit;", Cond.fieldLink RX2 171 "BootStage$Wish" "wishing" "LBootStage$Unit;", Cond.fieldLink RX2 103 "BootStage$Unit" "keptWishes" "I", Cond.methodLink RX2 177 yX2_keepAllWishes, Cond.instanceMethod yX2_keepAllWishes, Cond.selects RX2 yX2_keepAllWishes yX2_keepAllWishes, Cond.code yX2_keepAllWishes cX2_keepAllWishes 3 none, Cond.methodLink RX2 164 yJx4a65c_size_8abf5, Cond.instanceMethod yJx4a65c_size_8abf5, Cond.selects RJx4a65c yJx4a65c_size_8abf5 yJx4a65c_size_8abf5, Cond.initialized RJx4a65c, Cond.code yJx4a65c_size_8abf5 cJx4a65c_size_8abf5 1 (some .int), Cond.fieldLink RJx4a65c 48 "java/util/ArrayList" "size" "I", Cond.methodLink RX2 167 yJx4a65c_get_915e3, Cond.instanceMethod yJx4a65c_get_915e3, Cond.selects RJx4a65c yJx4a65c_get_915e3 yJx4a65c_get_915e3]
def wsL_begin_r3 : List Cond := [Cond.code yJx4a65c_get_915e3 cJx4a65c_get_915e3 2 (some (.object "java/lang/Object")), Cond.methodLink RJx4a65c 118 yJ15_checkIndex_7cf53, Cond.static yJ15_checkIndex_7cf53, Cond.initialized RJ15, Cond.code yJ15_checkIndex_7cf53 cJ15_checkIndex_7cf53 2 (some .int), Cond.methodLink RJ15 105 yJ3_checkIndex_8e157, Cond.static yJ3_checkIndex_8e157, Cond.initialized RJ3, Cond.code yJ3_checkIndex_8e157 cJ3_checkIndex_8e157 3 (some .int), Cond.methodLink RJx4a65c 123 yJx4a65c_elementData_915e3, Cond.instanceMethod yJx4a65c_elementData_915e3, Cond.selects RJx4a65c yJx4a65c_elementData_915e3 yJx4a65c_elementData_915e3, Cond.code yJx4a65c_elementData_915e3 cJx4a65c_elementData_915e3 2 (some (.object "java/lang/Object")), Cond.fieldLink RJx4a65c 9 "java/util/ArrayList" "elementData" "[Ljava/lang/Object;", Cond.methodLink RX2 82 yX0_bit, Cond.instanceMethod yX0_bit, Cond.selects RX0 yX0_bit yX0_bit, Cond.initialized RX0, Cond.code yX0_bit cX0_bit 1 (some .int), Cond.fieldLink RX0 50 "BootStage$Unit" "number" "I", Cond.methodLink RX2 69 yX2_reaches, Cond.instanceMethod yX2_reaches, Cond.selects RX2 yX2_reaches yX2_reaches, Cond.code yX2_reaches cX2_reaches 8 (some .boolean)]
def wsL_begin_r4 : List Cond := [Cond.fieldLink RX2 75 "BootStage$Unit" "needs" "I", Cond.methodLink RX2 78 yX2_contains, Cond.instanceMethod yX2_contains, Cond.selects RX2 yX2_contains yX2_contains, Cond.code yX2_contains cX2_contains 3 (some .boolean), Cond.methodLink RX2 125 yX0_resetForStart, Cond.instanceMethod yX0_resetForStart, Cond.selects RX0 yX0_resetForStart yX0_resetForStart, Cond.code yX0_resetForStart cX0_resetForStart 1 (some .int), Cond.fieldLink RX0 24 "BootStage$Unit" "isHeld" "Z", Cond.fieldLink RX0 38 "BootStage$Unit" "state" "I", Cond.fieldLink RX0 44 "BootStage$Unit" "retriesUsed" "I", Cond.fieldLink RX0 18 "BootStage$Unit" "learned" "I", Cond.fieldLink RX0 47 "BootStage$Unit" "learnedAtBegin" "I", Cond.methodLink RX2 128 yX2_raiseBar, Cond.instanceMethod yX2_raiseBar, Cond.selects RX2 yX2_raiseBar yX2_raiseBar, Cond.code yX2_raiseBar cX2_raiseBar 2 none, Cond.methodLink RX2 220 Lib.Math.max.name, Cond.static Lib.Math.max.name, Cond.initialized "java/lang/Math", Cond.code Lib.Math.max.name Lib.Math.max.code 2 (some .int), Cond.methodLink RX2 217 yX2_timeDone, Cond.instanceMethod yX2_timeDone]
def wsL_begin_r5 : List Cond := [Cond.selects RX2 yX2_timeDone yX2_timeDone, Cond.code yX2_timeDone cX2_timeDone 3 (some .int), Cond.methodLink RX2 226 yX0_timeDone, Cond.instanceMethod yX0_timeDone, Cond.selects RX0 yX0_timeDone yX0_timeDone, Cond.code yX0_timeDone cX0_timeDone 1 (some .int), Cond.fieldLink RX0 41 "BootStage$Unit" "ticksStarting" "I", Cond.methodLink RX0 63 Lib.Math.min.name, Cond.static Lib.Math.min.name, Cond.code Lib.Math.min.name Lib.Math.min.code 2 (some .int)]
def wsL_begin : List Cond := .codeWith yL_begin cL_begin 4 (some .int) [(0, 9, 12, 13), (0, 9, 15, 15)] :: ((wsL_begin_r1 ++ (wsL_begin_r2 ++ (wsL_begin_r3 ++ (wsL_begin_r4 ++ wsL_begin_r5)))) ++ wsX20 ++ wsX10 ++ wsX00 ++ wsJx4a65c0 ++ (vx_atS RX2 159 "java/lang/IllegalArgumentException" ["java/lang/RuntimeException", "java/lang/Exception"]).filter goodWord ++ (vx_atS RX2 50 "java/lang/IllegalStateException" ["java/lang/RuntimeException", "java/lang/Exception"]).filter goodWord)
def wsL_tick_r1 : List Cond := [Cond.classLink RL 13 "java/lang/IllegalArgumentException", Cond.classLink RL 15 "java/lang/IllegalStateException", Cond.methodLink RL 50 yX2_tick, Cond.instanceMethod yX2_tick, Cond.selects RX2 yX2_tick yX2_tick, Cond.initialized RX2, Cond.code yX2_tick cX2_tick 3 (some .int), Cond.classLink RX2 46 "java/lang/IllegalStateException", Cond.initialized "java/lang/IllegalStateException", Cond.fieldLink RX2 26 "BootStage" "isGoingOn" "Z", Cond.methodLink RX2 42 yX2_checkRange, Cond.instanceMethod yX2_checkRange, Cond.selects RX2 yX2_checkRange yX2_checkRange, Cond.code yX2_checkRange cX2_checkRange 4 none, Cond.classLink RX2 155 "java/lang/IllegalArgumentException", Cond.initialized "java/lang/IllegalArgumentException", Cond.methodLink RX2 133 yX2_passOneTick, Cond.instanceMethod yX2_passOneTick, Cond.selects RX2 yX2_passOneTick yX2_passOneTick, Cond.code yX2_passOneTick cX2_passOneTick 1 none, Cond.methodLink RX2 190 yX2_endStarts, Cond.instanceMethod yX2_endStarts, Cond.selects RX2 yX2_endStarts yX2_endStarts, Cond.code yX2_endStarts cX2_endStarts 3 none]
def wsL_tick_r2 : List Cond := [Cond.fieldLink RX2 15 "BootStage" "count" "I", Cond.fieldLink RX2 11 "BootStage" "rows" "[LBootStage$Unit;", Cond.fieldLink RX2 136 "BootStage$Unit" "state" "I", Cond.fieldLink RX2 199 "BootStage$Unit" "ticksStarting" "I", Cond.fieldLink RX2 56 "BootStage$Unit" "time" "I", Cond.methodLink RX2 202 yX0_comeToEnd, Cond.instanceMethod yX0_comeToEnd, Cond.selects RX0 yX0_comeToEnd yX0_comeToEnd, Cond.initialized RX0, Cond.code yX0_comeToEnd cX0_comeToEnd 1 none, Cond.fieldLink RX0 21 "BootStage$Unit" "faults" "I", Cond.fieldLink RX0 38 "BootStage$Unit" "state" "I", Cond.fieldLink RX0 18 "BootStage$Unit" "learned" "I", Cond.fieldLink RX0 9 "BootStage$Unit" "time" "I", Cond.methodLink RX0 57 Lib.Math.max.name, Cond.static Lib.Math.max.name, Cond.initialized "java/lang/Math", Cond.code Lib.Math.max.name Lib.Math.max.code 2 (some .int), Cond.fieldLink RX0 44 "BootStage$Unit" "retriesUsed" "I", Cond.fieldLink RX0 15 "BootStage$Unit" "retries" "I", Cond.methodLink RX2 193 yX2_failWithoutNeeds, Cond.instanceMethod yX2_failWithoutNeeds, Cond.selects RX2 yX2_failWithoutNeeds yX2_failWithoutNeeds, Cond.code yX2_failWithoutNeeds cX2_failWithoutNeeds 4 none]
def wsL_tick_r3 : List Cond := [Cond.fieldLink RX2 75 "BootStage$Unit" "needs" "I", Cond.methodLink RX2 205 yX2_lostNeeds, Cond.instanceMethod yX2_lostNeeds, Cond.selects RX2 yX2_lostNeeds yX2_lostNeeds, Cond.code yX2_lostNeeds cX2_lostNeeds 3 (some .int), Cond.methodLink RX2 184 yX0_isNeedLost, Cond.instanceMethod yX0_isNeedLost, Cond.selects RX0 yX0_isNeedLost yX0_isNeedLost, Cond.code yX0_isNeedLost cX0_isNeedLost 1 (some .boolean), Cond.fieldLink RX0 28 "BootStage$Unit" "substitute" "LBootStage$Unit;", Cond.methodLink RX0 53 yX0_isGone, Cond.instanceMethod yX0_isGone, Cond.selects RX0 yX0_isGone yX0_isGone, Cond.code yX0_isGone cX0_isGone 1 (some .boolean), Cond.methodLink RX2 82 yX0_bit, Cond.instanceMethod yX0_bit, Cond.selects RX0 yX0_bit yX0_bit, Cond.code yX0_bit cX0_bit 1 (some .int), Cond.fieldLink RX0 50 "BootStage$Unit" "number" "I", Cond.methodLink RX2 196 yX2_startWaiting, Cond.instanceMethod yX2_startWaiting, Cond.selects RX2 yX2_startWaiting yX2_startWaiting, Cond.code yX2_startWaiting cX2_startWaiting 6 (some .int), Cond.fieldLink RX2 30 "BootStage" "bound" "I"]
def wsL_tick_r4 : List Cond := [Cond.fieldLink RX2 103 "BootStage$Unit" "keptWishes" "I", Cond.methodLink RX2 208 yX2_metNeeds, Cond.instanceMethod yX2_metNeeds, Cond.selects RX2 yX2_metNeeds yX2_metNeeds, Cond.code yX2_metNeeds cX2_metNeeds 3 (some .int), Cond.methodLink RX2 180 yX0_isNeedMet, Cond.instanceMethod yX0_isNeedMet, Cond.selects RX0 yX0_isNeedMet yX0_isNeedMet, Cond.code yX0_isNeedMet cX0_isNeedMet 1 (some .boolean), Cond.methodLink RX2 211 yX2_doneWishes, Cond.instanceMethod yX2_doneWishes, Cond.selects RX2 yX2_doneWishes yX2_doneWishes, Cond.code yX2_doneWishes cX2_doneWishes 3 (some .int), Cond.methodLink RX2 187 yX0_isWishDone, Cond.instanceMethod yX0_isWishDone, Cond.selects RX0 yX0_isWishDone yX0_isWishDone, Cond.code yX0_isWishDone cX0_isWishDone 1 (some .boolean), Cond.methodLink RX2 214 yX2_countStarting, Cond.instanceMethod yX2_countStarting, Cond.selects RX2 yX2_countStarting yX2_countStarting, Cond.code yX2_countStarting cX2_countStarting 3 (some .int), Cond.methodLink RX2 128 yX2_raiseBar, Cond.instanceMethod yX2_raiseBar, Cond.selects RX2 yX2_raiseBar yX2_raiseBar]
def wsL_tick_r5 : List Cond := [Cond.code yX2_raiseBar cX2_raiseBar 2 none, Cond.fieldLink RX2 33 "BootStage" "total" "I", Cond.fieldLink RX2 36 "BootStage" "reachedBar" "I", Cond.methodLink RX2 220 Lib.Math.max.name, Cond.methodLink RX2 217 yX2_timeDone, Cond.instanceMethod yX2_timeDone, Cond.selects RX2 yX2_timeDone yX2_timeDone, Cond.code yX2_timeDone cX2_timeDone 3 (some .int), Cond.methodLink RX2 226 yX0_timeDone, Cond.instanceMethod yX0_timeDone, Cond.selects RX0 yX0_timeDone yX0_timeDone, Cond.code yX0_timeDone cX0_timeDone 1 (some .int), Cond.fieldLink RX0 47 "BootStage$Unit" "learnedAtBegin" "I", Cond.fieldLink RX0 41 "BootStage$Unit" "ticksStarting" "I", Cond.methodLink RX0 63 Lib.Math.min.name, Cond.static Lib.Math.min.name, Cond.code Lib.Math.min.name Lib.Math.min.code 2 (some .int)]
def wsL_tick : List Cond := .codeWith yL_tick cL_tick 4 (some .int) [(0, 9, 12, 13), (0, 9, 15, 15)] :: ((wsL_tick_r1 ++ (wsL_tick_r2 ++ (wsL_tick_r3 ++ (wsL_tick_r4 ++ wsL_tick_r5)))) ++ wsX20 ++ wsX00 ++ (vx_atS RX2 50 "java/lang/IllegalStateException" ["java/lang/RuntimeException", "java/lang/Exception"]).filter goodWord ++ (vx_atS RX2 159 "java/lang/IllegalArgumentException" ["java/lang/RuntimeException", "java/lang/Exception"]).filter goodWord)
def wsL_state : List Cond := .codeWith yL_state cL_state 4 (some .int) [(0, 9, 12, 21)] :: ([.classLink RL 21 "java/lang/IndexOutOfBoundsException", .methodLink RL 53 yX2_state, .instanceMethod yX2_state, .selects RX2 yX2_state yX2_state, .initialized RX2, .code yX2_state cX2_state 2 (some .int), .fieldLink RX2 136 "BootStage$Unit" "state" "I", .methodLink RX2 65 yX2_unitAt, .instanceMethod yX2_unitAt, .selects RX2 yX2_unitAt yX2_unitAt, .code yX2_unitAt cX2_unitAt 2 (some (.object "BootStage$Unit")), .classLink RX2 150 "java/lang/IndexOutOfBoundsException", .initialized "java/lang/IndexOutOfBoundsException", .fieldLink RX2 15 "BootStage" "count" "I", .fieldLink RX2 11 "BootStage" "rows" "[LBootStage$Unit;"] ++ wsX00 ++ wsX20 ++ (vx_atS RX2 154 "java/lang/IndexOutOfBoundsException" ["java/lang/RuntimeException", "java/lang/Exception"]).filter goodWord)
def wsL_waitsFor_r1 : List Cond := [Cond.classLink RL 21 "java/lang/IndexOutOfBoundsException", Cond.methodLink RL 56 yX2_waitsFor, Cond.instanceMethod yX2_waitsFor, Cond.selects RX2 yX2_waitsFor yX2_waitsFor, Cond.initialized RX2, Cond.code yX2_waitsFor cX2_waitsFor 4 (some .int), Cond.fieldLink RX2 136 "BootStage$Unit" "state" "I", Cond.fieldLink RX2 15 "BootStage" "count" "I", Cond.fieldLink RX2 11 "BootStage" "rows" "[LBootStage$Unit;", Cond.methodLink RX2 65 yX2_unitAt, Cond.instanceMethod yX2_unitAt, Cond.selects RX2 yX2_unitAt yX2_unitAt, Cond.code yX2_unitAt cX2_unitAt 2 (some (.object "BootStage$Unit")), Cond.classLink RX2 150 "java/lang/IndexOutOfBoundsException", Cond.initialized "java/lang/IndexOutOfBoundsException", Cond.methodLink RX2 139 yX2_isAwaited, Cond.instanceMethod yX2_isAwaited, Cond.selects RX2 yX2_isAwaited yX2_isAwaited, Cond.code yX2_isAwaited cX2_isAwaited 5 (some .boolean), Cond.fieldLink RX2 75 "BootStage$Unit" "needs" "I", Cond.fieldLink RX2 103 "BootStage$Unit" "keptWishes" "I", Cond.methodLink RX2 78 yX2_contains, Cond.instanceMethod yX2_contains, Cond.selects RX2 yX2_contains yX2_contains]
def wsL_waitsFor_r2 : List Cond := [Cond.code yX2_contains cX2_contains 3 (some .boolean), Cond.methodLink RX2 82 yX0_bit, Cond.instanceMethod yX0_bit, Cond.selects RX0 yX0_bit yX0_bit, Cond.initialized RX0, Cond.code yX0_bit cX0_bit 1 (some .int), Cond.fieldLink RX0 50 "BootStage$Unit" "number" "I", Cond.methodLink RX2 180 yX0_isNeedMet, Cond.instanceMethod yX0_isNeedMet, Cond.selects RX0 yX0_isNeedMet yX0_isNeedMet, Cond.code yX0_isNeedMet cX0_isNeedMet 1 (some .boolean), Cond.fieldLink RX0 38 "BootStage$Unit" "state" "I", Cond.fieldLink RX0 28 "BootStage$Unit" "substitute" "LBootStage$Unit;", Cond.methodLink RX0 53 yX0_isGone, Cond.instanceMethod yX0_isGone, Cond.selects RX0 yX0_isGone yX0_isGone, Cond.code yX0_isGone cX0_isGone 1 (some .boolean), Cond.methodLink RX2 184 yX0_isNeedLost, Cond.instanceMethod yX0_isNeedLost, Cond.selects RX0 yX0_isNeedLost yX0_isNeedLost, Cond.code yX0_isNeedLost cX0_isNeedLost 1 (some .boolean), Cond.methodLink RX2 187 yX0_isWishDone, Cond.instanceMethod yX0_isWishDone, Cond.selects RX0 yX0_isWishDone yX0_isWishDone]
def wsL_waitsFor_r3 : List Cond := [Cond.code yX0_isWishDone cX0_isWishDone 1 (some .boolean)]
def wsL_waitsFor : List Cond := .codeWith yL_waitsFor cL_waitsFor 4 (some .int) [(0, 9, 12, 21)] :: ((wsL_waitsFor_r1 ++ (wsL_waitsFor_r2 ++ wsL_waitsFor_r3)) ++ wsX00 ++ wsX20 ++ (vx_atS RX2 154 "java/lang/IndexOutOfBoundsException" ["java/lang/RuntimeException", "java/lang/Exception"]).filter goodWord)
def wsL_law0_r1 : List Cond := [Cond.classLink RL 8 RX2, Cond.instantiable RX2 7, Cond.initialized RX2, Cond.classLink RL 60 RX3, Cond.instantiable RX3 23, Cond.initialized RX3, Cond.arrayClass .long, Cond.methodLink RL 59 yX2_init, Cond.instanceMethod yX2_init, Cond.code yX2_init cX2_init 2 none, Cond.methodLink RX2 1 objectInit, Cond.instanceMethod objectInit, Cond.code objectInit ⟨#[0xb1]⟩ 1 none, Cond.classLink RX2 9 RX0, Cond.fieldLink RX2 11 "BootStage" "rows" "[LBootStage$Unit;", Cond.fieldLink RX2 15 "BootStage" "count" "I", Cond.classLink RX2 19 RJx4a65c, Cond.instantiable RJx4a65c 3, Cond.initialized RJx4a65c, Cond.fieldLink RX2 22 "BootStage" "wishes" "Ljava/util/ArrayList;", Cond.fieldLink RX2 26 "BootStage" "isGoingOn" "Z", Cond.fieldLink RX2 30 "BootStage" "bound" "I", Cond.fieldLink RX2 33 "BootStage" "total" "I", Cond.fieldLink RX2 36 "BootStage" "reachedBar" "I"]
def wsL_law0_r2 : List Cond := [Cond.instantiable RX0 13, Cond.initialized RX0, Cond.methodLink RX2 21 yJx4a65c_init_da8c8, Cond.instanceMethod yJx4a65c_init_da8c8, Cond.code yJx4a65c_init_da8c8 cJx4a65c_init_da8c8 1 none, Cond.fieldLink RJx4a65c 39 "java/util/ArrayList" "DEFAULTCAPACITY_EMPTY_ELEMENTDATA" "[Ljava/lang/Object;", Cond.fieldLink RJx4a65c 9 "java/util/ArrayList" "elementData" "[Ljava/lang/Object;", Cond.methodLink RJx4a65c 1 yJxc12de_init_da8c8, Cond.instanceMethod yJxc12de_init_da8c8, Cond.initialized RJxc12de, Cond.code yJxc12de_init_da8c8 cJxc12de_init_da8c8 1 none, Cond.fieldLink RJxc12de 7 "java/util/AbstractList" "modCount" "I", Cond.methodLink RJxc12de 1 yJxa1e45_init_da8c8, Cond.instanceMethod yJxa1e45_init_da8c8, Cond.initialized RJxa1e45, Cond.code yJxa1e45_init_da8c8 cJxa1e45_init_da8c8 1 none, Cond.methodLink RJxa1e45 1 objectInit, Cond.methodLink RX2 39 yX0_init, Cond.instanceMethod yX0_init, Cond.code yX0_init cX0_init 2 none, Cond.methodLink RX0 3 objectInit, Cond.fieldLink RX0 9 "BootStage$Unit" "time" "I", Cond.fieldLink RX0 15 "BootStage$Unit" "retries" "I", Cond.fieldLink RX0 18 "BootStage$Unit" "learned" "I"]
def wsL_law0_r3 : List Cond := [Cond.fieldLink RX0 21 "BootStage$Unit" "faults" "I", Cond.fieldLink RX0 24 "BootStage$Unit" "isHeld" "Z", Cond.fieldLink RX0 28 "BootStage$Unit" "substitute" "LBootStage$Unit;", Cond.fieldLink RX0 32 "BootStage$Unit" "needs" "I", Cond.fieldLink RX0 35 "BootStage$Unit" "keptWishes" "I", Cond.fieldLink RX0 38 "BootStage$Unit" "state" "I", Cond.fieldLink RX0 41 "BootStage$Unit" "ticksStarting" "I", Cond.fieldLink RX0 44 "BootStage$Unit" "retriesUsed" "I", Cond.fieldLink RX0 47 "BootStage$Unit" "learnedAtBegin" "I", Cond.fieldLink RX0 50 "BootStage$Unit" "number" "I", Cond.methodLink RL 62 yX3_init, Cond.instanceMethod yX3_init, Cond.code yX3_init cX3_init 1 none, Cond.methodLink RX3 1 objectInit, Cond.arrayClass .int, Cond.fieldLink RX3 7 "BootStageModel" "times" "[I", Cond.fieldLink RX3 13 "BootStageModel" "learned" "[I", Cond.fieldLink RX3 16 "BootStageModel" "retries" "[I", Cond.fieldLink RX3 19 "BootStageModel" "faults" "[I", Cond.fieldLink RX3 22 "BootStageModel" "standIns" "[I", Cond.arrayClass .boolean, Cond.fieldLink RX3 25 "BootStageModel" "isHeld" "[Z", Cond.fieldLink RX3 29 "BootStageModel" "needs" "[Z", Cond.fieldLink RX3 32 "BootStageModel" "weights" "[I"]
def wsL_law0_r4 : List Cond := [Cond.fieldLink RX3 35 "BootStageModel" "toldAt" "[I", Cond.fieldLink RX3 38 "BootStageModel" "isCut" "[Z", Cond.fieldLink RX3 41 "BootStageModel" "states" "[I", Cond.fieldLink RX3 44 "BootStageModel" "ticks" "[I", Cond.fieldLink RX3 47 "BootStageModel" "used" "[I", Cond.fieldLink RX3 50 "BootStageModel" "counted" "[I", Cond.fieldLink RX3 53 "BootStageModel" "isReached" "[Z", Cond.methodLink RL 63 yL_add, Cond.static yL_add, Cond.initialized RL, Cond.codeWith yL_add cL_add 5 (some .int) [(0, 10, 13, 13), (0, 10, 17, 15)], Cond.classLink RL 13 "java/lang/IllegalArgumentException", Cond.classLink RL 15 "java/lang/IllegalStateException", Cond.methodLink RL 7 yX2_add, Cond.instanceMethod yX2_add, Cond.selects RX2 yX2_add yX2_add, Cond.code yX2_add cX2_add 4 (some .int), Cond.classLink RX2 46 "java/lang/IllegalStateException", Cond.initialized "java/lang/IllegalStateException", Cond.fieldLink RX2 56 "BootStage$Unit" "time" "I", Cond.fieldLink RX2 59 "BootStage$Unit" "retries" "I", Cond.fieldLink RX2 62 "BootStage$Unit" "number" "I", Cond.methodLink RX2 42 yX2_checkRange, Cond.instanceMethod yX2_checkRange]
def wsL_law0_r5 : List Cond := [Cond.selects RX2 yX2_checkRange yX2_checkRange, Cond.code yX2_checkRange cX2_checkRange 4 none, Cond.classLink RX2 155 "java/lang/IllegalArgumentException", Cond.initialized "java/lang/IllegalArgumentException", Cond.methodLink RX2 53 yX2_checkNoStart, Cond.instanceMethod yX2_checkNoStart, Cond.selects RX2 yX2_checkNoStart yX2_checkNoStart, Cond.code yX2_checkNoStart cX2_checkNoStart 1 none, Cond.methodLink RL 68 yX3_add, Cond.instanceMethod yX3_add, Cond.selects RX3 yX3_add yX3_add, Cond.code yX3_add cX3_add 3 (some .int), Cond.fieldLink RX3 60 "BootStageModel" "units" "I", Cond.fieldLink RX3 67 "BootStageModel" "goesOn" "Z", Cond.methodLink RX3 63 yX3_isIn, Cond.static yX3_isIn, Cond.code yX3_isIn cX3_isIn 3 (some .boolean), Cond.methodLink RX3 71 yX3_goes, Cond.instanceMethod yX3_goes, Cond.selects RX3 yX3_goes yX3_goes, Cond.code yX3_goes cX3_goes 2 (some .boolean), Cond.fieldLink RX3 56 "BootStageModel" "thrown" "I", Cond.methodLink RL 69 yX3_thrown, Cond.instanceMethod yX3_thrown]
def wsL_law0_r6 : List Cond := [Cond.selects RX3 yX3_thrown yX3_thrown, Cond.code yX3_thrown cX3_thrown 1 (some .int), Cond.methodLink RL 73 yL_need, Cond.static yL_need, Cond.codeWith yL_need cL_need 5 (some .int) [(0, 17, 20, 21), (0, 17, 24, 15)], Cond.classLink RL 21 "java/lang/IndexOutOfBoundsException", Cond.methodLink RL 17 yX2_need, Cond.instanceMethod yX2_need, Cond.selects RX2 yX2_need yX2_need, Cond.code yX2_need cX2_need 6 (some .boolean), Cond.fieldLink RX2 75 "BootStage$Unit" "needs" "I", Cond.methodLink RX2 65 yX2_unitAt, Cond.instanceMethod yX2_unitAt, Cond.selects RX2 yX2_unitAt yX2_unitAt, Cond.code yX2_unitAt cX2_unitAt 2 (some (.object "BootStage$Unit")), Cond.classLink RX2 150 "java/lang/IndexOutOfBoundsException", Cond.initialized "java/lang/IndexOutOfBoundsException", Cond.methodLink RX2 69 yX2_reaches, Cond.instanceMethod yX2_reaches, Cond.selects RX2 yX2_reaches yX2_reaches, Cond.code yX2_reaches cX2_reaches 8 (some .boolean), Cond.fieldLink RX2 103 "BootStage$Unit" "keptWishes" "I", Cond.methodLink RX2 82 yX0_bit, Cond.instanceMethod yX0_bit]
def wsL_law0_r7 : List Cond := [Cond.selects RX0 yX0_bit yX0_bit, Cond.code yX0_bit cX0_bit 1 (some .int), Cond.methodLink RX2 78 yX2_contains, Cond.instanceMethod yX2_contains, Cond.selects RX2 yX2_contains yX2_contains, Cond.code yX2_contains cX2_contains 3 (some .boolean), Cond.methodLink RL 75 yX3_need, Cond.instanceMethod yX3_need, Cond.selects RX3 yX3_need yX3_need, Cond.code yX3_need cX3_need 4 (some .boolean), Cond.methodLink RX3 79 yX3_isUnit, Cond.instanceMethod yX3_isUnit, Cond.selects RX3 yX3_isUnit yX3_isUnit, Cond.code yX3_isUnit cX3_isUnit 2 (some .boolean), Cond.methodLink RX3 82 yX3_reaches, Cond.instanceMethod yX3_reaches, Cond.selects RX3 yX3_reaches yX3_reaches, Cond.code yX3_reaches cX3_reaches 8 (some .boolean), Cond.methodLink RX3 75 yX3_edge, Cond.static yX3_edge, Cond.code yX3_edge cX3_edge 2 (some .int), Cond.methodLink RL 76 yL_wish, Cond.static yL_wish, Cond.codeWith yL_wish cL_wish 6 (some .int) [(0, 12, 15, 21), (0, 12, 19, 13), (0, 12, 23, 15)]]
def wsL_law0_r8 : List Cond := [Cond.methodLink RL 23 yX2_wish, Cond.instanceMethod yX2_wish, Cond.selects RX2 yX2_wish yX2_wish, Cond.code yX2_wish cX2_wish 8 (some .int), Cond.classLink RX2 94 RX1, Cond.instantiable RX1 3, Cond.initialized RX1, Cond.fieldLink RX2 106 "BootStage$Wish" "weight" "I", Cond.methodLink RX2 86 yX2_checkDifferent, Cond.instanceMethod yX2_checkDifferent, Cond.selects RX2 yX2_checkDifferent yX2_checkDifferent, Cond.code yX2_checkDifferent cX2_checkDifferent 3 none, Cond.methodLink RX2 90 yX2_findWish, Cond.instanceMethod yX2_findWish, Cond.selects RX2 yX2_findWish yX2_findWish, Cond.code yX2_findWish cX2_findWish 5 (some (.object "BootStage$Wish")), Cond.classLink RX2 94 "BootStage$Wish", Cond.fieldLink RX2 171 "BootStage$Wish" "wishing" "LBootStage$Unit;", Cond.fieldLink RX2 174 "BootStage$Wish" "wished" "LBootStage$Unit;", Cond.methodLink RX2 164 yJx4a65c_size_8abf5, Cond.instanceMethod yJx4a65c_size_8abf5, Cond.selects RJx4a65c yJx4a65c_size_8abf5 yJx4a65c_size_8abf5, Cond.code yJx4a65c_size_8abf5 cJx4a65c_size_8abf5 1 (some .int), Cond.fieldLink RJx4a65c 48 "java/util/ArrayList" "size" "I"]
def wsL_law0_r9 : List Cond := [Cond.methodLink RX2 167 yJx4a65c_get_915e3, Cond.instanceMethod yJx4a65c_get_915e3, Cond.selects RJx4a65c yJx4a65c_get_915e3 yJx4a65c_get_915e3, Cond.code yJx4a65c_get_915e3 cJx4a65c_get_915e3 2 (some (.object "java/lang/Object")), Cond.methodLink RJx4a65c 118 yJ15_checkIndex_7cf53, Cond.static yJ15_checkIndex_7cf53, Cond.initialized RJ15, Cond.code yJ15_checkIndex_7cf53 cJ15_checkIndex_7cf53 2 (some .int), Cond.methodLink RJ15 105 yJ3_checkIndex_8e157, Cond.static yJ3_checkIndex_8e157, Cond.initialized RJ3, Cond.code yJ3_checkIndex_8e157 cJ3_checkIndex_8e157 3 (some .int), Cond.methodLink RJx4a65c 123 yJx4a65c_elementData_915e3, Cond.instanceMethod yJx4a65c_elementData_915e3, Cond.selects RJx4a65c yJx4a65c_elementData_915e3 yJx4a65c_elementData_915e3, Cond.code yJx4a65c_elementData_915e3 cJx4a65c_elementData_915e3 2 (some (.object "java/lang/Object")), Cond.methodLink RX2 96 yX1_init, Cond.instanceMethod yX1_init, Cond.code yX1_init cX1_init 4 none, Cond.methodLink RX1 1 objectInit, Cond.fieldLink RX1 7 "BootStage$Wish" "wishing" "LBootStage$Unit;", Cond.fieldLink RX1 13 "BootStage$Wish" "wished" "LBootStage$Unit;", Cond.fieldLink RX1 16 "BootStage$Wish" "weight" "I", Cond.methodLink RX2 99 yJx4a65c_add_9ea2d]
def wsL_law0_r10 : List Cond := [Cond.instanceMethod yJx4a65c_add_9ea2d, Cond.selects RJx4a65c yJx4a65c_add_9ea2d yJx4a65c_add_9ea2d, Cond.code yJx4a65c_add_9ea2d cJx4a65c_add_9ea2d 2 (some .boolean), Cond.fieldLink RJx4a65c 63 "java/util/ArrayList" "modCount" "I", Cond.sameField "java/util/ArrayList" "java/util/AbstractList" "modCount" "I", Cond.methodLink RJx4a65c 131 yJx4a65c_add_72be8, Cond.instanceMethod yJx4a65c_add_72be8, Cond.selects RJx4a65c yJx4a65c_add_72be8 yJx4a65c_add_72be8, Cond.code yJx4a65c_add_72be8 cJx4a65c_add_72be8 4 none, Cond.methodLink RJx4a65c 129 yJx4a65c_grow_d5877, Cond.instanceMethod yJx4a65c_grow_d5877, Cond.selects RJx4a65c yJx4a65c_grow_d5877 yJx4a65c_grow_d5877, Cond.code yJx4a65c_grow_d5877 cJx4a65c_grow_d5877 1 (some (.array (.object "java/lang/Object"))), Cond.methodLink RJx4a65c 69 yJx4a65c_grow_92f84, Cond.instanceMethod yJx4a65c_grow_92f84, Cond.selects RJx4a65c yJx4a65c_grow_92f84 yJx4a65c_grow_92f84, Cond.code yJx4a65c_grow_92f84 cJx4a65c_grow_92f84 4 (some (.array (.object "java/lang/Object"))), Cond.methodLink RJx4a65c 79 Lib.Math.max.name, Cond.static Lib.Math.max.name, Cond.initialized "java/lang/Math", Cond.code Lib.Math.max.name Lib.Math.max.code 2 (some .int), Cond.classLink RJx4a65c 7 "java/lang/Object", Cond.methodLink RJx4a65c 73 yJ8_newLength_cabcc, Cond.static yJ8_newLength_cabcc]
def wsL_law0_r11 : List Cond := [Cond.initialized RJ8, Cond.code yJ8_newLength_cabcc cJ8_newLength_cabcc 4 (some .int), Cond.methodLink RJ8 194 Lib.Math.max.name, Cond.constant RJ8 200 (2147483639), Cond.methodLink RJ8 201 yJ8_hugeLength_7cf53, Cond.static yJ8_hugeLength_7cf53, Cond.code yJ8_hugeLength_7cf53 cJ8_hugeLength_7cf53 3 (some .int), Cond.methodLink RJx4a65c 66 yJ7_copyOf_1904c, Cond.static yJ7_copyOf_1904c, Cond.initialized RJ7, Cond.code yJ7_copyOf_1904c cJ7_copyOf_1904c 2 (some (.array (.object "java/lang/Object"))), Cond.methodLink RJ7 86 ⟨"java/lang/Object", "getClass", "()Ljava/lang/Class;"⟩, Cond.selects "[Ljava/lang/Object;" ⟨"java/lang/Object", "getClass", "()Ljava/lang/Class;"⟩ ⟨"java/lang/Object", "getClass", "()Ljava/lang/Class;"⟩, Cond.instanceMethod ⟨"java/lang/Object", "getClass", "()Ljava/lang/Class;"⟩, Cond.native ⟨"java/lang/Object", "getClass", "()Ljava/lang/Class;"⟩, Cond.methodLink RJ7 300 yJ7_copyOf_6403c, Cond.static yJ7_copyOf_6403c, Cond.code yJ7_copyOf_6403c cJ7_copyOf_6403c 4 (some (.array (.object "java/lang/Object"))), Cond.classLink RJ7 110 "[Ljava/lang/Object;", Cond.classLink RJ7 2 "java/lang/Object", Cond.methodLink RJ7 304 Lib.Math.min.name, Cond.static Lib.Math.min.name, Cond.code Lib.Math.min.name Lib.Math.min.code 2 (some .int), Cond.methodLink RJ7 150 arraycopyName]
def wsL_law0_r12 : List Cond := [Cond.native arraycopyName, Cond.static arraycopyName, Cond.initialized "java/lang/System", Cond.methodLink RL 79 yX3_wish, Cond.instanceMethod yX3_wish, Cond.selects RX3 yX3_wish yX3_wish, Cond.code yX3_wish cX3_wish 6 (some .int), Cond.fieldLink RX3 86 "BootStageModel" "told" "I", Cond.methodLink RL 80 yL_standIn, Cond.static yL_standIn, Cond.codeWith yL_standIn cL_standIn 5 (some .int) [(0, 10, 13, 21), (0, 10, 17, 13), (0, 10, 21, 15)], Cond.methodLink RL 27 yX2_standIn, Cond.instanceMethod yX2_standIn, Cond.selects RX2 yX2_standIn yX2_standIn, Cond.code yX2_standIn cX2_standIn 6 (some .int), Cond.fieldLink RX2 109 "BootStage$Unit" "substitute" "LBootStage$Unit;", Cond.methodLink RL 82 yX3_standIn, Cond.instanceMethod yX3_standIn, Cond.selects RX3 yX3_standIn yX3_standIn, Cond.code yX3_standIn cX3_standIn 5 (some .int), Cond.methodLink RL 83 yL_hold, Cond.static yL_hold, Cond.codeWith yL_hold cL_hold 5 (some .int) [(0, 17, 20, 21), (0, 17, 24, 15)], Cond.methodLink RL 30 yX2_hold]
def wsL_law0_r13 : List Cond := [Cond.instanceMethod yX2_hold, Cond.selects RX2 yX2_hold yX2_hold, Cond.code yX2_hold cX2_hold 5 (some .boolean), Cond.fieldLink RX2 113 "BootStage$Unit" "isHeld" "Z", Cond.methodLink RL 86 yX3_hold, Cond.instanceMethod yX3_hold, Cond.selects RX3 yX3_hold yX3_hold, Cond.code yX3_hold cX3_hold 4 (some .boolean), Cond.methodLink RL 87 yL_setFaults, Cond.static yL_setFaults, Cond.codeWith yL_setFaults cL_setFaults 5 (some .int) [(0, 10, 13, 21), (0, 10, 17, 13)], Cond.methodLink RL 34 yX2_setFaults, Cond.instanceMethod yX2_setFaults, Cond.selects RX2 yX2_setFaults yX2_setFaults, Cond.code yX2_setFaults cX2_setFaults 5 (some .int), Cond.fieldLink RX2 116 "BootStage$Unit" "faults" "I", Cond.methodLink RL 89 yX3_setFaults, Cond.instanceMethod yX3_setFaults, Cond.selects RX3 yX3_setFaults yX3_setFaults, Cond.code yX3_setFaults cX3_setFaults 4 (some .int), Cond.methodLink RL 90 yL_setTime, Cond.static yL_setTime, Cond.codeWith yL_setTime cL_setTime 5 (some .int) [(0, 10, 13, 21), (0, 10, 17, 13)], Cond.methodLink RL 37 yX2_setTime]
def wsL_law0_r14 : List Cond := [Cond.instanceMethod yX2_setTime, Cond.selects RX2 yX2_setTime yX2_setTime, Cond.code yX2_setTime cX2_setTime 5 (some .int), Cond.methodLink RL 92 yX3_setTime, Cond.instanceMethod yX3_setTime, Cond.selects RX3 yX3_setTime yX3_setTime, Cond.code yX3_setTime cX3_setTime 4 (some .int), Cond.methodLink RL 93 yX2_units, Cond.instanceMethod yX2_units, Cond.selects RX2 yX2_units yX2_units, Cond.code yX2_units cX2_units 1 (some .int), Cond.methodLink RL 96 yX3_units, Cond.instanceMethod yX3_units, Cond.selects RX3 yX3_units yX3_units, Cond.code yX3_units cX3_units 1 (some .int), Cond.methodLink RL 97 yL_learned, Cond.static yL_learned, Cond.codeWith yL_learned cL_learned 4 (some .int) [(0, 9, 12, 21)], Cond.methodLink RL 40 yX2_learned, Cond.instanceMethod yX2_learned, Cond.selects RX2 yX2_learned yX2_learned, Cond.code yX2_learned cX2_learned 2 (some .int), Cond.fieldLink RX2 119 "BootStage$Unit" "learned" "I", Cond.methodLink RL 100 yX3_learned]
def wsL_law0_r15 : List Cond := [Cond.instanceMethod yX3_learned, Cond.selects RX3 yX3_learned yX3_learned, Cond.code yX3_learned cX3_learned 2 (some .int), Cond.methodLink RX3 89 yX3_asks, Cond.instanceMethod yX3_asks, Cond.selects RX3 yX3_asks yX3_asks, Cond.code yX3_asks cX3_asks 2 (some .boolean), Cond.methodLink RL 101 yL_faults, Cond.static yL_faults, Cond.codeWith yL_faults cL_faults 4 (some .int) [(0, 9, 12, 21)], Cond.methodLink RL 44 yX2_faults, Cond.instanceMethod yX2_faults, Cond.selects RX2 yX2_faults yX2_faults, Cond.code yX2_faults cX2_faults 2 (some .int), Cond.methodLink RL 103 yX3_faults, Cond.instanceMethod yX3_faults, Cond.selects RX3 yX3_faults yX3_faults, Cond.code yX3_faults cX3_faults 2 (some .int), Cond.methodLink RL 104 yL_begin, Cond.static yL_begin, Cond.codeWith yL_begin cL_begin 4 (some .int) [(0, 9, 12, 13), (0, 9, 15, 15)], Cond.methodLink RL 47 yX2_begin, Cond.instanceMethod yX2_begin, Cond.selects RX2 yX2_begin yX2_begin]
def wsL_law0_r16 : List Cond := [Cond.code yX2_begin cX2_begin 4 (some .int), Cond.methodLink RX2 122 yX2_cutLoops, Cond.instanceMethod yX2_cutLoops, Cond.selects RX2 yX2_cutLoops yX2_cutLoops, Cond.code yX2_cutLoops cX2_cutLoops 5 (some .int), Cond.methodLink RX2 177 yX2_keepAllWishes, Cond.instanceMethod yX2_keepAllWishes, Cond.selects RX2 yX2_keepAllWishes yX2_keepAllWishes, Cond.code yX2_keepAllWishes cX2_keepAllWishes 3 none, Cond.methodLink RX2 125 yX0_resetForStart, Cond.instanceMethod yX0_resetForStart, Cond.selects RX0 yX0_resetForStart yX0_resetForStart, Cond.code yX0_resetForStart cX0_resetForStart 1 (some .int), Cond.methodLink RX2 128 yX2_raiseBar, Cond.instanceMethod yX2_raiseBar, Cond.selects RX2 yX2_raiseBar yX2_raiseBar, Cond.code yX2_raiseBar cX2_raiseBar 2 none, Cond.methodLink RX2 220 Lib.Math.max.name, Cond.methodLink RX2 217 yX2_timeDone, Cond.instanceMethod yX2_timeDone, Cond.selects RX2 yX2_timeDone yX2_timeDone, Cond.code yX2_timeDone cX2_timeDone 3 (some .int), Cond.methodLink RX2 226 yX0_timeDone, Cond.instanceMethod yX0_timeDone]
def wsL_law0_r17 : List Cond := [Cond.selects RX0 yX0_timeDone yX0_timeDone, Cond.code yX0_timeDone cX0_timeDone 1 (some .int), Cond.methodLink RX0 63 Lib.Math.min.name, Cond.methodLink RL 106 yX3_begin, Cond.instanceMethod yX3_begin, Cond.selects RX3 yX3_begin yX3_begin, Cond.code yX3_begin cX3_begin 4 (some .int), Cond.fieldLink RX3 96 "BootStageModel" "wasBegun" "Z", Cond.fieldLink RX3 99 "BootStageModel" "bound" "I", Cond.fieldLink RX3 102 "BootStageModel" "total" "I", Cond.fieldLink RX3 105 "BootStageModel" "bar" "I", Cond.methodLink RX3 92 yX3_weakest, Cond.instanceMethod yX3_weakest, Cond.selects RX3 yX3_weakest yX3_weakest, Cond.code yX3_weakest cX3_weakest 5 (some .int), Cond.methodLink RX3 108 yX3_raised, Cond.instanceMethod yX3_raised, Cond.selects RX3 yX3_raised yX3_raised, Cond.code yX3_raised cX3_raised 4 (some .int), Cond.methodLink RL 107 yL_tick, Cond.static yL_tick, Cond.codeWith yL_tick cL_tick 4 (some .int) [(0, 9, 12, 13), (0, 9, 15, 15)], Cond.methodLink RL 50 yX2_tick, Cond.instanceMethod yX2_tick]
def wsL_law0_r18 : List Cond := [Cond.selects RX2 yX2_tick yX2_tick, Cond.code yX2_tick cX2_tick 3 (some .int), Cond.methodLink RX2 133 yX2_passOneTick, Cond.instanceMethod yX2_passOneTick, Cond.selects RX2 yX2_passOneTick yX2_passOneTick, Cond.code yX2_passOneTick cX2_passOneTick 1 none, Cond.methodLink RX2 190 yX2_endStarts, Cond.instanceMethod yX2_endStarts, Cond.selects RX2 yX2_endStarts yX2_endStarts, Cond.code yX2_endStarts cX2_endStarts 3 none, Cond.fieldLink RX2 136 "BootStage$Unit" "state" "I", Cond.fieldLink RX2 199 "BootStage$Unit" "ticksStarting" "I", Cond.methodLink RX2 202 yX0_comeToEnd, Cond.instanceMethod yX0_comeToEnd, Cond.selects RX0 yX0_comeToEnd yX0_comeToEnd, Cond.code yX0_comeToEnd cX0_comeToEnd 1 none, Cond.methodLink RX0 57 Lib.Math.max.name, Cond.methodLink RX2 193 yX2_failWithoutNeeds, Cond.instanceMethod yX2_failWithoutNeeds, Cond.selects RX2 yX2_failWithoutNeeds yX2_failWithoutNeeds, Cond.code yX2_failWithoutNeeds cX2_failWithoutNeeds 4 none, Cond.methodLink RX2 205 yX2_lostNeeds, Cond.instanceMethod yX2_lostNeeds, Cond.selects RX2 yX2_lostNeeds yX2_lostNeeds]
def wsL_law0_r19 : List Cond := [Cond.code yX2_lostNeeds cX2_lostNeeds 3 (some .int), Cond.methodLink RX2 184 yX0_isNeedLost, Cond.instanceMethod yX0_isNeedLost, Cond.selects RX0 yX0_isNeedLost yX0_isNeedLost, Cond.code yX0_isNeedLost cX0_isNeedLost 1 (some .boolean), Cond.methodLink RX0 53 yX0_isGone, Cond.instanceMethod yX0_isGone, Cond.selects RX0 yX0_isGone yX0_isGone, Cond.code yX0_isGone cX0_isGone 1 (some .boolean), Cond.methodLink RX2 196 yX2_startWaiting, Cond.instanceMethod yX2_startWaiting, Cond.selects RX2 yX2_startWaiting yX2_startWaiting, Cond.code yX2_startWaiting cX2_startWaiting 6 (some .int), Cond.methodLink RX2 208 yX2_metNeeds, Cond.instanceMethod yX2_metNeeds, Cond.selects RX2 yX2_metNeeds yX2_metNeeds, Cond.code yX2_metNeeds cX2_metNeeds 3 (some .int), Cond.methodLink RX2 180 yX0_isNeedMet, Cond.instanceMethod yX0_isNeedMet, Cond.selects RX0 yX0_isNeedMet yX0_isNeedMet, Cond.code yX0_isNeedMet cX0_isNeedMet 1 (some .boolean), Cond.methodLink RX2 211 yX2_doneWishes, Cond.instanceMethod yX2_doneWishes, Cond.selects RX2 yX2_doneWishes yX2_doneWishes]
def wsL_law0_r20 : List Cond := [Cond.code yX2_doneWishes cX2_doneWishes 3 (some .int), Cond.methodLink RX2 187 yX0_isWishDone, Cond.instanceMethod yX0_isWishDone, Cond.selects RX0 yX0_isWishDone yX0_isWishDone, Cond.code yX0_isWishDone cX0_isWishDone 1 (some .boolean), Cond.methodLink RX2 214 yX2_countStarting, Cond.instanceMethod yX2_countStarting, Cond.selects RX2 yX2_countStarting yX2_countStarting, Cond.code yX2_countStarting cX2_countStarting 3 (some .int), Cond.methodLink RL 109 yX3_tick, Cond.instanceMethod yX3_tick, Cond.selects RX3 yX3_tick yX3_tick, Cond.code yX3_tick cX3_tick 3 (some .int), Cond.methodLink RX3 134 yX3_passes, Cond.instanceMethod yX3_passes, Cond.selects RX3 yX3_passes yX3_passes, Cond.code yX3_passes cX3_passes 2 none, Cond.methodLink RX3 124 yX3_ends, Cond.instanceMethod yX3_ends, Cond.selects RX3 yX3_ends yX3_ends, Cond.code yX3_ends cX3_ends 3 none, Cond.methodLink RX3 128 yX3_isSo, Cond.instanceMethod yX3_isSo, Cond.selects RX3 yX3_isSo yX3_isSo]
def wsL_law0_r21 : List Cond := [Cond.code yX3_isSo cX3_isSo 6 (some .boolean), Cond.methodLink RX3 117 yX3_isLost, Cond.instanceMethod yX3_isLost, Cond.selects RX3 yX3_isLost yX3_isLost, Cond.code yX3_isLost cX3_isLost 3 (some .boolean), Cond.methodLink RX3 111 yX3_isOff, Cond.instanceMethod yX3_isOff, Cond.selects RX3 yX3_isOff yX3_isOff, Cond.code yX3_isOff cX3_isOff 2 (some .boolean), Cond.methodLink RX3 120 yX3_waits, Cond.instanceMethod yX3_waits, Cond.selects RX3 yX3_waits yX3_waits, Cond.code yX3_waits cX3_waits 5 (some .boolean), Cond.methodLink RX3 114 yX3_isMet, Cond.instanceMethod yX3_isMet, Cond.selects RX3 yX3_isMet yX3_isMet, Cond.code yX3_isMet cX3_isMet 3 (some .boolean), Cond.methodLink RX3 131 yX3_starting, Cond.instanceMethod yX3_starting, Cond.selects RX3 yX3_starting yX3_starting, Cond.code yX3_starting cX3_starting 3 (some .int), Cond.methodLink RL 110 yX2_goesOn, Cond.instanceMethod yX2_goesOn, Cond.selects RX2 yX2_goesOn yX2_goesOn]
def wsL_law0_r22 : List Cond := [Cond.code yX2_goesOn cX2_goesOn 1 (some .boolean), Cond.methodLink RL 114 yX3_goesOn, Cond.instanceMethod yX3_goesOn, Cond.selects RX3 yX3_goesOn yX3_goesOn, Cond.code yX3_goesOn cX3_goesOn 1 (some .boolean), Cond.methodLink RL 115 yL_state, Cond.static yL_state, Cond.codeWith yL_state cL_state 4 (some .int) [(0, 9, 12, 21)], Cond.methodLink RL 53 yX2_state, Cond.instanceMethod yX2_state, Cond.selects RX2 yX2_state yX2_state, Cond.code yX2_state cX2_state 2 (some .int), Cond.methodLink RL 117 yX3_state, Cond.instanceMethod yX3_state, Cond.selects RX3 yX3_state yX3_state, Cond.code yX3_state cX3_state 2 (some .int), Cond.methodLink RL 118 yL_waitsFor, Cond.static yL_waitsFor, Cond.codeWith yL_waitsFor cL_waitsFor 4 (some .int) [(0, 9, 12, 21)], Cond.methodLink RL 56 yX2_waitsFor, Cond.instanceMethod yX2_waitsFor, Cond.selects RX2 yX2_waitsFor yX2_waitsFor, Cond.code yX2_waitsFor cX2_waitsFor 4 (some .int), Cond.methodLink RX2 139 yX2_isAwaited]
def wsL_law0_r23 : List Cond := [Cond.instanceMethod yX2_isAwaited, Cond.selects RX2 yX2_isAwaited yX2_isAwaited, Cond.code yX2_isAwaited cX2_isAwaited 5 (some .boolean), Cond.methodLink RL 120 yX3_waitsFor, Cond.instanceMethod yX3_waitsFor, Cond.selects RX3 yX3_waitsFor yX3_waitsFor, Cond.code yX3_waitsFor cX3_waitsFor 4 (some .int), Cond.methodLink RL 121 yX2_bar, Cond.instanceMethod yX2_bar, Cond.selects RX2 yX2_bar yX2_bar, Cond.code yX2_bar cX2_bar 1 (some .int), Cond.methodLink RL 124 yX3_bar, Cond.instanceMethod yX3_bar, Cond.selects RX3 yX3_bar yX3_bar, Cond.code yX3_bar cX3_bar 1 (some .int), Cond.methodLink RL 125 yX2_ready, Cond.instanceMethod yX2_ready, Cond.selects RX2 yX2_ready yX2_ready, Cond.code yX2_ready cX2_ready 3 (some .int), Cond.methodLink RL 128 yX3_ready, Cond.instanceMethod yX3_ready, Cond.selects RX3 yX3_ready yX3_ready, Cond.code yX3_ready cX3_ready 3 (some .int), Cond.methodLink RL 129 yX2_canRun]
def wsL_law0_r24 : List Cond := [Cond.instanceMethod yX2_canRun, Cond.selects RX2 yX2_canRun yX2_canRun, Cond.code yX2_canRun cX2_canRun 4 (some .int), Cond.methodLink RX2 143 yX2_ableAlone, Cond.instanceMethod yX2_ableAlone, Cond.selects RX2 yX2_ableAlone yX2_ableAlone, Cond.code yX2_ableAlone cX2_ableAlone 4 (some .int), Cond.methodLink RX2 146 yX2_keepSupplied, Cond.instanceMethod yX2_keepSupplied, Cond.selects RX2 yX2_keepSupplied yX2_keepSupplied, Cond.code yX2_keepSupplied cX2_keepSupplied 6 (some .int), Cond.methodLink RL 132 yX3_canRun, Cond.instanceMethod yX3_canRun, Cond.selects RX3 yX3_canRun yX3_canRun, Cond.code yX3_canRun cX3_canRun 4 (some .int), Cond.methodLink RX3 137 yX3_canRunIn, Cond.instanceMethod yX3_canRunIn, Cond.selects RX3 yX3_canRunIn yX3_canRunIn, Cond.code yX3_canRunIn cX3_canRunIn 6 (some .boolean)]
def wsL_law0 : List Cond := (wsL_law0_r1 ++ (wsL_law0_r2 ++ (wsL_law0_r3 ++ (wsL_law0_r4 ++ (wsL_law0_r5 ++ (wsL_law0_r6 ++ (wsL_law0_r7 ++ (wsL_law0_r8 ++ (wsL_law0_r9 ++ (wsL_law0_r10 ++ (wsL_law0_r11 ++ (wsL_law0_r12 ++ (wsL_law0_r13 ++ (wsL_law0_r14 ++ (wsL_law0_r15 ++ (wsL_law0_r16 ++ (wsL_law0_r17 ++ (wsL_law0_r18 ++ (wsL_law0_r19 ++ (wsL_law0_r20 ++ (wsL_law0_r21 ++ (wsL_law0_r22 ++ (wsL_law0_r23 ++ wsL_law0_r24))))))))))))))))))))))) ++ wsX20 ++ wsX30 ++ wsJx4a65c0 ++ wsX00 ++ wsX10 ++ ([] : List Cond)
def wsL_law : List Cond := wsL_law0 ++ (vx_atS RX2 50 "java/lang/IllegalStateException" ["java/lang/RuntimeException", "java/lang/Exception"]).filter goodWord ++ (vx_atS RX2 159 "java/lang/IllegalArgumentException" ["java/lang/RuntimeException", "java/lang/Exception"]).filter goodWord ++ (vx_atS RX2 154 "java/lang/IndexOutOfBoundsException" ["java/lang/RuntimeException", "java/lang/Exception"]).filter goodWord
end
section
theorem dX0_init_0 : decode cX0_init 0 = .ok (.aload_n 0, 1) := by decide +kernel
theorem dX0_init_1 : decode cX0_init 1 = .ok (.invokespecial 3, 3) := by decide +kernel
theorem dX0_init_4 : decode cX0_init 4 = .ok (.aload_n 0, 1) := by decide +kernel
theorem dX0_init_5 : decode cX0_init 5 = .ok (.iconst 1, 1) := by decide +kernel
theorem dX0_init_6 : decode cX0_init 6 = .ok (.putfield 9, 3) := by decide +kernel
theorem dX0_init_9 : decode cX0_init 9 = .ok (.aload_n 0, 1) := by decide +kernel
theorem dX0_init_10 : decode cX0_init 10 = .ok (.iconst 0, 1) := by decide +kernel
theorem dX0_init_11 : decode cX0_init 11 = .ok (.putfield 15, 3) := by decide +kernel
theorem dX0_init_14 : decode cX0_init 14 = .ok (.aload_n 0, 1) := by decide +kernel
theorem dX0_init_15 : decode cX0_init 15 = .ok (.bipush 10, 2) := by decide +kernel
theorem dX0_init_17 : decode cX0_init 17 = .ok (.putfield 18, 3) := by decide +kernel
theorem dX0_init_20 : decode cX0_init 20 = .ok (.aload_n 0, 1) := by decide +kernel
theorem dX0_init_21 : decode cX0_init 21 = .ok (.iconst 0, 1) := by decide +kernel
theorem dX0_init_22 : decode cX0_init 22 = .ok (.putfield 21, 3) := by decide +kernel
theorem dX0_init_25 : decode cX0_init 25 = .ok (.aload_n 0, 1) := by decide +kernel
theorem dX0_init_26 : decode cX0_init 26 = .ok (.iconst 0, 1) := by decide +kernel
theorem dX0_init_27 : decode cX0_init 27 = .ok (.putfield 24, 3) := by decide +kernel
theorem dX0_init_30 : decode cX0_init 30 = .ok (.aload_n 0, 1) := by decide +kernel
theorem dX0_init_31 : decode cX0_init 31 = .ok (.aconst_null, 1) := by decide +kernel
theorem dX0_init_32 : decode cX0_init 32 = .ok (.putfield 28, 3) := by decide +kernel
theorem dX0_init_35 : decode cX0_init 35 = .ok (.aload_n 0, 1) := by decide +kernel
theorem dX0_init_36 : decode cX0_init 36 = .ok (.iconst 0, 1) := by decide +kernel
theorem dX0_init_37 : decode cX0_init 37 = .ok (.putfield 32, 3) := by decide +kernel
theorem dX0_init_40 : decode cX0_init 40 = .ok (.aload_n 0, 1) := by decide +kernel
theorem dX0_init_41 : decode cX0_init 41 = .ok (.iconst 0, 1) := by decide +kernel
theorem dX0_init_42 : decode cX0_init 42 = .ok (.putfield 35, 3) := by decide +kernel
theorem dX0_init_45 : decode cX0_init 45 = .ok (.aload_n 0, 1) := by decide +kernel
theorem dX0_init_46 : decode cX0_init 46 = .ok (.iconst 0, 1) := by decide +kernel
theorem dX0_init_47 : decode cX0_init 47 = .ok (.putfield 38, 3) := by decide +kernel
theorem dX0_init_50 : decode cX0_init 50 = .ok (.aload_n 0, 1) := by decide +kernel
theorem dX0_init_51 : decode cX0_init 51 = .ok (.iconst 0, 1) := by decide +kernel
theorem dX0_init_52 : decode cX0_init 52 = .ok (.putfield 41, 3) := by decide +kernel
theorem dX0_init_55 : decode cX0_init 55 = .ok (.aload_n 0, 1) := by decide +kernel
theorem dX0_init_56 : decode cX0_init 56 = .ok (.iconst 0, 1) := by decide +kernel
theorem dX0_init_57 : decode cX0_init 57 = .ok (.putfield 44, 3) := by decide +kernel
theorem dX0_init_60 : decode cX0_init 60 = .ok (.aload_n 0, 1) := by decide +kernel
theorem dX0_init_61 : decode cX0_init 61 = .ok (.iconst 0, 1) := by decide +kernel
theorem dX0_init_62 : decode cX0_init 62 = .ok (.putfield 47, 3) := by decide +kernel
theorem dX0_init_65 : decode cX0_init 65 = .ok (.aload_n 0, 1) := by decide +kernel
theorem dX0_init_66 : decode cX0_init 66 = .ok (.iload_n 1, 1) := by decide +kernel
theorem dX0_init_67 : decode cX0_init 67 = .ok (.putfield 50, 3) := by decide +kernel
theorem dX0_init_70 : decode cX0_init 70 = .ok (.return_, 1) := by decide +kernel
theorem dX0_bit_0 : decode cX0_bit 0 = .ok (.iconst 1, 1) := by decide +kernel
theorem dX0_bit_1 : decode cX0_bit 1 = .ok (.aload_n 0, 1) := by decide +kernel
theorem dX0_bit_2 : decode cX0_bit 2 = .ok (.getfield 50, 3) := by decide +kernel
theorem dX0_bit_5 : decode cX0_bit 5 = .ok (.ishl, 1) := by decide +kernel
theorem dX0_bit_6 : decode cX0_bit 6 = .ok (.ireturn, 1) := by decide +kernel
theorem dX0_resetForStart_0 : decode cX0_resetForStart 0 = .ok (.aload_n 0, 1) := by decide +kernel
theorem dX0_resetForStart_1 : decode cX0_resetForStart 1 = .ok (.aload_n 0, 1) := by decide +kernel
theorem dX0_resetForStart_2 : decode cX0_resetForStart 2 = .ok (.getfield 24, 3) := by decide +kernel
theorem dX0_resetForStart_5 : decode cX0_resetForStart 5 = .ok (.ifCond .eq 7, 3) := by decide +kernel
theorem dX0_resetForStart_8 : decode cX0_resetForStart 8 = .ok (.iconst 4, 1) := by decide +kernel
theorem dX0_resetForStart_9 : decode cX0_resetForStart 9 = .ok (.goto 4, 3) := by decide +kernel
theorem dX0_resetForStart_12 : decode cX0_resetForStart 12 = .ok (.iconst 0, 1) := by decide +kernel
theorem dX0_resetForStart_13 : decode cX0_resetForStart 13 = .ok (.putfield 38, 3) := by decide +kernel
theorem dX0_resetForStart_16 : decode cX0_resetForStart 16 = .ok (.aload_n 0, 1) := by decide +kernel
theorem dX0_resetForStart_17 : decode cX0_resetForStart 17 = .ok (.iconst 0, 1) := by decide +kernel
theorem dX0_resetForStart_18 : decode cX0_resetForStart 18 = .ok (.putfield 44, 3) := by decide +kernel
theorem dX0_resetForStart_21 : decode cX0_resetForStart 21 = .ok (.aload_n 0, 1) := by decide +kernel
theorem dX0_resetForStart_22 : decode cX0_resetForStart 22 = .ok (.aload_n 0, 1) := by decide +kernel
theorem dX0_resetForStart_23 : decode cX0_resetForStart 23 = .ok (.getfield 18, 3) := by decide +kernel
theorem dX0_resetForStart_26 : decode cX0_resetForStart 26 = .ok (.putfield 47, 3) := by decide +kernel
theorem dX0_resetForStart_29 : decode cX0_resetForStart 29 = .ok (.aload_n 0, 1) := by decide +kernel
theorem dX0_resetForStart_30 : decode cX0_resetForStart 30 = .ok (.getfield 24, 3) := by decide +kernel
theorem dX0_resetForStart_33 : decode cX0_resetForStart 33 = .ok (.ifCond .eq 7, 3) := by decide +kernel
theorem dX0_resetForStart_36 : decode cX0_resetForStart 36 = .ok (.iconst 0, 1) := by decide +kernel
theorem dX0_resetForStart_37 : decode cX0_resetForStart 37 = .ok (.goto 7, 3) := by decide +kernel
theorem dX0_resetForStart_40 : decode cX0_resetForStart 40 = .ok (.aload_n 0, 1) := by decide +kernel
theorem dX0_resetForStart_41 : decode cX0_resetForStart 41 = .ok (.getfield 18, 3) := by decide +kernel
theorem dX0_resetForStart_44 : decode cX0_resetForStart 44 = .ok (.ireturn, 1) := by decide +kernel
theorem dX0_isGone_0 : decode cX0_isGone 0 = .ok (.aload_n 0, 1) := by decide +kernel
theorem dX0_isGone_1 : decode cX0_isGone 1 = .ok (.getfield 38, 3) := by decide +kernel
theorem dX0_isGone_4 : decode cX0_isGone 4 = .ok (.iconst 3, 1) := by decide +kernel
theorem dX0_isGone_5 : decode cX0_isGone 5 = .ok (.if_icmp .eq 11, 3) := by decide +kernel
theorem dX0_isGone_8 : decode cX0_isGone 8 = .ok (.aload_n 0, 1) := by decide +kernel
theorem dX0_isGone_9 : decode cX0_isGone 9 = .ok (.getfield 38, 3) := by decide +kernel
theorem dX0_isGone_12 : decode cX0_isGone 12 = .ok (.iconst 4, 1) := by decide +kernel
theorem dX0_isGone_13 : decode cX0_isGone 13 = .ok (.if_icmp .ne 7, 3) := by decide +kernel
theorem dX0_isGone_16 : decode cX0_isGone 16 = .ok (.iconst 1, 1) := by decide +kernel
theorem dX0_isGone_17 : decode cX0_isGone 17 = .ok (.goto 4, 3) := by decide +kernel
theorem dX0_isGone_20 : decode cX0_isGone 20 = .ok (.iconst 0, 1) := by decide +kernel
theorem dX0_isGone_21 : decode cX0_isGone 21 = .ok (.ireturn, 1) := by decide +kernel
set_option maxRecDepth 20000 in
theorem ggX0_isNeedMet_X0_isGone : GoodIn wsX0_isNeedMet wsX0_isGone := goodIn_r _ [7, 1, 8, 9, 10, 11, 12, 13, 14, 15, 16, 17, 18, 19, 20] (by decide +kernel) (by decide +kernel)
set_option maxRecDepth 20000 in
theorem gX0_isNeedMet_X0_isGone : GoodIn wsX0_isNeedMet (wsV RX0 53 RX0 yX0_isGone wsX0_isGone) := goodIn_app (goodIn_of _ (by decide +kernel)) ggX0_isNeedMet_X0_isGone
theorem dX0_isNeedMet_0 : decode cX0_isNeedMet 0 = .ok (.aload_n 0, 1) := by decide +kernel
theorem dX0_isNeedMet_1 : decode cX0_isNeedMet 1 = .ok (.getfield 38, 3) := by decide +kernel
theorem dX0_isNeedMet_4 : decode cX0_isNeedMet 4 = .ok (.iconst 2, 1) := by decide +kernel
theorem dX0_isNeedMet_5 : decode cX0_isNeedMet 5 = .ok (.if_icmp .eq 28, 3) := by decide +kernel
theorem dX0_isNeedMet_8 : decode cX0_isNeedMet 8 = .ok (.aload_n 0, 1) := by decide +kernel
theorem dX0_isNeedMet_9 : decode cX0_isNeedMet 9 = .ok (.invokevirtual 53, 3) := by decide +kernel
theorem dX0_isNeedMet_12 : decode cX0_isNeedMet 12 = .ok (.ifCond .eq 25, 3) := by decide +kernel
theorem dX0_isNeedMet_15 : decode cX0_isNeedMet 15 = .ok (.aload_n 0, 1) := by decide +kernel
theorem dX0_isNeedMet_16 : decode cX0_isNeedMet 16 = .ok (.getfield 28, 3) := by decide +kernel
theorem dX0_isNeedMet_19 : decode cX0_isNeedMet 19 = .ok (.ifnull 18, 3) := by decide +kernel
theorem dX0_isNeedMet_22 : decode cX0_isNeedMet 22 = .ok (.aload_n 0, 1) := by decide +kernel
theorem dX0_isNeedMet_23 : decode cX0_isNeedMet 23 = .ok (.getfield 28, 3) := by decide +kernel
theorem dX0_isNeedMet_26 : decode cX0_isNeedMet 26 = .ok (.getfield 38, 3) := by decide +kernel
theorem dX0_isNeedMet_29 : decode cX0_isNeedMet 29 = .ok (.iconst 2, 1) := by decide +kernel
theorem dX0_isNeedMet_30 : decode cX0_isNeedMet 30 = .ok (.if_icmp .ne 7, 3) := by decide +kernel
theorem dX0_isNeedMet_33 : decode cX0_isNeedMet 33 = .ok (.iconst 1, 1) := by decide +kernel
theorem dX0_isNeedMet_34 : decode cX0_isNeedMet 34 = .ok (.goto 4, 3) := by decide +kernel
theorem dX0_isNeedMet_37 : decode cX0_isNeedMet 37 = .ok (.iconst 0, 1) := by decide +kernel
theorem dX0_isNeedMet_38 : decode cX0_isNeedMet 38 = .ok (.ireturn, 1) := by decide +kernel
set_option maxRecDepth 20000 in
theorem ggX0_isNeedLost_X0_isGone : GoodIn wsX0_isNeedLost wsX0_isGone := goodIn_r _ [6, 7, 8, 9, 10, 11, 12, 13, 14, 15, 16, 17, 18, 19, 20] (by decide +kernel) (by decide +kernel)
set_option maxRecDepth 20000 in
theorem gX0_isNeedLost_X0_isGone : GoodIn wsX0_isNeedLost (wsV RX0 53 RX0 yX0_isGone wsX0_isGone) := goodIn_app (goodIn_of _ (by decide +kernel)) ggX0_isNeedLost_X0_isGone
theorem dX0_isNeedLost_0 : decode cX0_isNeedLost 0 = .ok (.aload_n 0, 1) := by decide +kernel
theorem dX0_isNeedLost_1 : decode cX0_isNeedLost 1 = .ok (.invokevirtual 53, 3) := by decide +kernel
theorem dX0_isNeedLost_4 : decode cX0_isNeedLost 4 = .ok (.ifCond .eq 24, 3) := by decide +kernel
theorem dX0_isNeedLost_7 : decode cX0_isNeedLost 7 = .ok (.aload_n 0, 1) := by decide +kernel
theorem dX0_isNeedLost_8 : decode cX0_isNeedLost 8 = .ok (.getfield 28, 3) := by decide +kernel
theorem dX0_isNeedLost_11 : decode cX0_isNeedLost 11 = .ok (.ifnull 13, 3) := by decide +kernel
theorem dX0_isNeedLost_14 : decode cX0_isNeedLost 14 = .ok (.aload_n 0, 1) := by decide +kernel
theorem dX0_isNeedLost_15 : decode cX0_isNeedLost 15 = .ok (.getfield 28, 3) := by decide +kernel
theorem dX0_isNeedLost_18 : decode cX0_isNeedLost 18 = .ok (.invokevirtual 53, 3) := by decide +kernel
theorem dX0_isNeedLost_21 : decode cX0_isNeedLost 21 = .ok (.ifCond .eq 7, 3) := by decide +kernel
theorem dX0_isNeedLost_24 : decode cX0_isNeedLost 24 = .ok (.iconst 1, 1) := by decide +kernel
theorem dX0_isNeedLost_25 : decode cX0_isNeedLost 25 = .ok (.goto 4, 3) := by decide +kernel
theorem dX0_isNeedLost_28 : decode cX0_isNeedLost 28 = .ok (.iconst 0, 1) := by decide +kernel
theorem dX0_isNeedLost_29 : decode cX0_isNeedLost 29 = .ok (.ireturn, 1) := by decide +kernel
set_option maxRecDepth 20000 in
theorem ggX0_isWishDone_X0_isGone : GoodIn wsX0_isWishDone wsX0_isGone := goodIn_r _ [6, 1, 7, 8, 9, 10, 11, 12, 13, 14, 15, 16, 17, 18, 19] (by decide +kernel) (by decide +kernel)
set_option maxRecDepth 20000 in
theorem gX0_isWishDone_X0_isGone : GoodIn wsX0_isWishDone (wsV RX0 53 RX0 yX0_isGone wsX0_isGone) := goodIn_app (goodIn_of _ (by decide +kernel)) ggX0_isWishDone_X0_isGone
theorem dX0_isWishDone_0 : decode cX0_isWishDone 0 = .ok (.aload_n 0, 1) := by decide +kernel
theorem dX0_isWishDone_1 : decode cX0_isWishDone 1 = .ok (.getfield 38, 3) := by decide +kernel
theorem dX0_isWishDone_4 : decode cX0_isWishDone 4 = .ok (.iconst 2, 1) := by decide +kernel
theorem dX0_isWishDone_5 : decode cX0_isWishDone 5 = .ok (.if_icmp .eq 10, 3) := by decide +kernel
theorem dX0_isWishDone_8 : decode cX0_isWishDone 8 = .ok (.aload_n 0, 1) := by decide +kernel
theorem dX0_isWishDone_9 : decode cX0_isWishDone 9 = .ok (.invokevirtual 53, 3) := by decide +kernel
theorem dX0_isWishDone_12 : decode cX0_isWishDone 12 = .ok (.ifCond .eq 7, 3) := by decide +kernel
theorem dX0_isWishDone_15 : decode cX0_isWishDone 15 = .ok (.iconst 1, 1) := by decide +kernel
theorem dX0_isWishDone_16 : decode cX0_isWishDone 16 = .ok (.goto 4, 3) := by decide +kernel
theorem dX0_isWishDone_19 : decode cX0_isWishDone 19 = .ok (.iconst 0, 1) := by decide +kernel
theorem dX0_isWishDone_20 : decode cX0_isWishDone 20 = .ok (.ireturn, 1) := by decide +kernel
theorem dX0_comeToEnd_0 : decode cX0_comeToEnd 0 = .ok (.aload_n 0, 1) := by decide +kernel
theorem dX0_comeToEnd_1 : decode cX0_comeToEnd 1 = .ok (.getfield 21, 3) := by decide +kernel
theorem dX0_comeToEnd_4 : decode cX0_comeToEnd 4 = .ok (.ifCond .ne 28, 3) := by decide +kernel
theorem dX0_comeToEnd_7 : decode cX0_comeToEnd 7 = .ok (.aload_n 0, 1) := by decide +kernel
theorem dX0_comeToEnd_8 : decode cX0_comeToEnd 8 = .ok (.iconst 2, 1) := by decide +kernel
theorem dX0_comeToEnd_9 : decode cX0_comeToEnd 9 = .ok (.putfield 38, 3) := by decide +kernel
theorem dX0_comeToEnd_12 : decode cX0_comeToEnd 12 = .ok (.aload_n 0, 1) := by decide +kernel
theorem dX0_comeToEnd_13 : decode cX0_comeToEnd 13 = .ok (.iconst 1, 1) := by decide +kernel
theorem dX0_comeToEnd_14 : decode cX0_comeToEnd 14 = .ok (.aload_n 0, 1) := by decide +kernel
theorem dX0_comeToEnd_15 : decode cX0_comeToEnd 15 = .ok (.getfield 18, 3) := by decide +kernel
theorem dX0_comeToEnd_18 : decode cX0_comeToEnd 18 = .ok (.aload_n 0, 1) := by decide +kernel
theorem dX0_comeToEnd_19 : decode cX0_comeToEnd 19 = .ok (.getfield 9, 3) := by decide +kernel
theorem dX0_comeToEnd_22 : decode cX0_comeToEnd 22 = .ok (.iadd, 1) := by decide +kernel
theorem dX0_comeToEnd_23 : decode cX0_comeToEnd 23 = .ok (.iconst 2, 1) := by decide +kernel
theorem dX0_comeToEnd_24 : decode cX0_comeToEnd 24 = .ok (.idiv, 1) := by decide +kernel
theorem dX0_comeToEnd_25 : decode cX0_comeToEnd 25 = .ok (.invokestatic 57, 3) := by decide +kernel
theorem dX0_comeToEnd_28 : decode cX0_comeToEnd 28 = .ok (.putfield 18, 3) := by decide +kernel
theorem dX0_comeToEnd_31 : decode cX0_comeToEnd 31 = .ok (.return_, 1) := by decide +kernel
theorem dX0_comeToEnd_32 : decode cX0_comeToEnd 32 = .ok (.aload_n 0, 1) := by decide +kernel
theorem dX0_comeToEnd_33 : decode cX0_comeToEnd 33 = .ok (.dup, 1) := by decide +kernel
theorem dX0_comeToEnd_34 : decode cX0_comeToEnd 34 = .ok (.getfield 21, 3) := by decide +kernel
theorem dX0_comeToEnd_37 : decode cX0_comeToEnd 37 = .ok (.iconst 1, 1) := by decide +kernel
theorem dX0_comeToEnd_38 : decode cX0_comeToEnd 38 = .ok (.isub, 1) := by decide +kernel
theorem dX0_comeToEnd_39 : decode cX0_comeToEnd 39 = .ok (.putfield 21, 3) := by decide +kernel
theorem dX0_comeToEnd_42 : decode cX0_comeToEnd 42 = .ok (.aload_n 0, 1) := by decide +kernel
theorem dX0_comeToEnd_43 : decode cX0_comeToEnd 43 = .ok (.getfield 44, 3) := by decide +kernel
theorem dX0_comeToEnd_46 : decode cX0_comeToEnd 46 = .ok (.aload_n 0, 1) := by decide +kernel
theorem dX0_comeToEnd_47 : decode cX0_comeToEnd 47 = .ok (.getfield 15, 3) := by decide +kernel
theorem dX0_comeToEnd_50 : decode cX0_comeToEnd 50 = .ok (.if_icmp .ge 21, 3) := by decide +kernel
theorem dX0_comeToEnd_53 : decode cX0_comeToEnd 53 = .ok (.aload_n 0, 1) := by decide +kernel
theorem dX0_comeToEnd_54 : decode cX0_comeToEnd 54 = .ok (.dup, 1) := by decide +kernel
theorem dX0_comeToEnd_55 : decode cX0_comeToEnd 55 = .ok (.getfield 44, 3) := by decide +kernel
theorem dX0_comeToEnd_58 : decode cX0_comeToEnd 58 = .ok (.iconst 1, 1) := by decide +kernel
theorem dX0_comeToEnd_59 : decode cX0_comeToEnd 59 = .ok (.iadd, 1) := by decide +kernel
theorem dX0_comeToEnd_60 : decode cX0_comeToEnd 60 = .ok (.putfield 44, 3) := by decide +kernel
theorem dX0_comeToEnd_63 : decode cX0_comeToEnd 63 = .ok (.aload_n 0, 1) := by decide +kernel
theorem dX0_comeToEnd_64 : decode cX0_comeToEnd 64 = .ok (.iconst 0, 1) := by decide +kernel
theorem dX0_comeToEnd_65 : decode cX0_comeToEnd 65 = .ok (.putfield 38, 3) := by decide +kernel
theorem dX0_comeToEnd_68 : decode cX0_comeToEnd 68 = .ok (.goto 8, 3) := by decide +kernel
theorem dX0_comeToEnd_71 : decode cX0_comeToEnd 71 = .ok (.aload_n 0, 1) := by decide +kernel
theorem dX0_comeToEnd_72 : decode cX0_comeToEnd 72 = .ok (.iconst 3, 1) := by decide +kernel
theorem dX0_comeToEnd_73 : decode cX0_comeToEnd 73 = .ok (.putfield 38, 3) := by decide +kernel
theorem dX0_comeToEnd_76 : decode cX0_comeToEnd 76 = .ok (.return_, 1) := by decide +kernel
theorem dX0_timeDone_0 : decode cX0_timeDone 0 = .ok (.aload_n 0, 1) := by decide +kernel
theorem dX0_timeDone_1 : decode cX0_timeDone 1 = .ok (.getfield 38, 3) := by decide +kernel
theorem dX0_timeDone_4 : decode cX0_timeDone 4 = .ok (.iconst 2, 1) := by decide +kernel
theorem dX0_timeDone_5 : decode cX0_timeDone 5 = .ok (.if_icmp .eq 11, 3) := by decide +kernel
theorem dX0_timeDone_8 : decode cX0_timeDone 8 = .ok (.aload_n 0, 1) := by decide +kernel
theorem dX0_timeDone_9 : decode cX0_timeDone 9 = .ok (.getfield 38, 3) := by decide +kernel
theorem dX0_timeDone_12 : decode cX0_timeDone 12 = .ok (.iconst 3, 1) := by decide +kernel
theorem dX0_timeDone_13 : decode cX0_timeDone 13 = .ok (.if_icmp .ne 8, 3) := by decide +kernel
theorem dX0_timeDone_16 : decode cX0_timeDone 16 = .ok (.aload_n 0, 1) := by decide +kernel
theorem dX0_timeDone_17 : decode cX0_timeDone 17 = .ok (.getfield 47, 3) := by decide +kernel
theorem dX0_timeDone_20 : decode cX0_timeDone 20 = .ok (.ireturn, 1) := by decide +kernel
theorem dX0_timeDone_21 : decode cX0_timeDone 21 = .ok (.aload_n 0, 1) := by decide +kernel
theorem dX0_timeDone_22 : decode cX0_timeDone 22 = .ok (.getfield 38, 3) := by decide +kernel
theorem dX0_timeDone_25 : decode cX0_timeDone 25 = .ok (.iconst 1, 1) := by decide +kernel
theorem dX0_timeDone_26 : decode cX0_timeDone 26 = .ok (.if_icmp .ne 17, 3) := by decide +kernel
theorem dX0_timeDone_29 : decode cX0_timeDone 29 = .ok (.aload_n 0, 1) := by decide +kernel
theorem dX0_timeDone_30 : decode cX0_timeDone 30 = .ok (.getfield 41, 3) := by decide +kernel
theorem dX0_timeDone_33 : decode cX0_timeDone 33 = .ok (.aload_n 0, 1) := by decide +kernel
theorem dX0_timeDone_34 : decode cX0_timeDone 34 = .ok (.getfield 47, 3) := by decide +kernel
theorem dX0_timeDone_37 : decode cX0_timeDone 37 = .ok (.invokestatic 63, 3) := by decide +kernel
theorem dX0_timeDone_40 : decode cX0_timeDone 40 = .ok (.goto 4, 3) := by decide +kernel
theorem dX0_timeDone_43 : decode cX0_timeDone 43 = .ok (.iconst 0, 1) := by decide +kernel
theorem dX0_timeDone_44 : decode cX0_timeDone 44 = .ok (.ireturn, 1) := by decide +kernel
theorem dX1_init_0 : decode cX1_init 0 = .ok (.aload_n 0, 1) := by decide +kernel
theorem dX1_init_1 : decode cX1_init 1 = .ok (.invokespecial 1, 3) := by decide +kernel
theorem dX1_init_4 : decode cX1_init 4 = .ok (.aload_n 0, 1) := by decide +kernel
theorem dX1_init_5 : decode cX1_init 5 = .ok (.aload_n 1, 1) := by decide +kernel
theorem dX1_init_6 : decode cX1_init 6 = .ok (.putfield 7, 3) := by decide +kernel
theorem dX1_init_9 : decode cX1_init 9 = .ok (.aload_n 0, 1) := by decide +kernel
theorem dX1_init_10 : decode cX1_init 10 = .ok (.aload_n 2, 1) := by decide +kernel
theorem dX1_init_11 : decode cX1_init 11 = .ok (.putfield 13, 3) := by decide +kernel
theorem dX1_init_14 : decode cX1_init 14 = .ok (.aload_n 0, 1) := by decide +kernel
theorem dX1_init_15 : decode cX1_init 15 = .ok (.iload_n 3, 1) := by decide +kernel
theorem dX1_init_16 : decode cX1_init 16 = .ok (.putfield 16, 3) := by decide +kernel
theorem dX1_init_19 : decode cX1_init 19 = .ok (.return_, 1) := by decide +kernel
set_option maxRecDepth 20000 in
theorem ggX2_init_Jx4a65c_init_da8c8 : GoodIn wsX2_init wsJx4a65c_init_da8c8 := goodIn_r _ [19, 20, 21, 22, 23, 24, 25, 26, 27, 28, 29, 30, 31, 2, 3, 56, 57, 58] (by decide +kernel) (by decide +kernel)
set_option maxRecDepth 20000 in
theorem gX2_init_Jx4a65c_init_da8c8 : GoodIn wsX2_init (wsJx4a65c_init_da8c8) := ggX2_init_Jx4a65c_init_da8c8
set_option maxRecDepth 20000 in
theorem ggX2_init_X0_init : GoodIn wsX2_init wsX0_init := goodIn_r _ [34, 35, 2, 3, 36, 37, 38, 39, 40, 41, 42, 43, 44, 45, 46, 47, 48, 59, 60, 61, 62, 63, 64, 65, 66, 67, 68, 69, 70, 71] (by decide +kernel) (by decide +kernel)
set_option maxRecDepth 20000 in
theorem gX2_init_X0_init : GoodIn wsX2_init (wsX0_init) := ggX2_init_X0_init
end
section
theorem dX2_init_0 : decode cX2_init 0 = .ok (.aload_n 0, 1) := by decide +kernel
theorem dX2_init_1 : decode cX2_init 1 = .ok (.invokespecial 1, 3) := by decide +kernel
theorem dX2_init_4 : decode cX2_init 4 = .ok (.aload_n 0, 1) := by decide +kernel
theorem dX2_init_5 : decode cX2_init 5 = .ok (.bipush 20, 2) := by decide +kernel
theorem dX2_init_7 : decode cX2_init 7 = .ok (.anewarray 9, 3) := by decide +kernel
theorem dX2_init_10 : decode cX2_init 10 = .ok (.putfield 11, 3) := by decide +kernel
theorem dX2_init_13 : decode cX2_init 13 = .ok (.aload_n 0, 1) := by decide +kernel
theorem dX2_init_14 : decode cX2_init 14 = .ok (.iconst 0, 1) := by decide +kernel
theorem dX2_init_15 : decode cX2_init 15 = .ok (.putfield 15, 3) := by decide +kernel
theorem dX2_init_18 : decode cX2_init 18 = .ok (.aload_n 0, 1) := by decide +kernel
theorem dX2_init_19 : decode cX2_init 19 = .ok (.new 19, 3) := by decide +kernel
theorem dX2_init_22 : decode cX2_init 22 = .ok (.dup, 1) := by decide +kernel
theorem dX2_init_23 : decode cX2_init 23 = .ok (.invokespecial 21, 3) := by decide +kernel
theorem dX2_init_26 : decode cX2_init 26 = .ok (.putfield 22, 3) := by decide +kernel
theorem dX2_init_29 : decode cX2_init 29 = .ok (.aload_n 0, 1) := by decide +kernel
theorem dX2_init_30 : decode cX2_init 30 = .ok (.iconst 0, 1) := by decide +kernel
theorem dX2_init_31 : decode cX2_init 31 = .ok (.putfield 26, 3) := by decide +kernel
theorem dX2_init_34 : decode cX2_init 34 = .ok (.aload_n 0, 1) := by decide +kernel
theorem dX2_init_35 : decode cX2_init 35 = .ok (.iconst 0, 1) := by decide +kernel
theorem dX2_init_36 : decode cX2_init 36 = .ok (.putfield 30, 3) := by decide +kernel
theorem dX2_init_39 : decode cX2_init 39 = .ok (.aload_n 0, 1) := by decide +kernel
theorem dX2_init_40 : decode cX2_init 40 = .ok (.iconst 0, 1) := by decide +kernel
theorem dX2_init_41 : decode cX2_init 41 = .ok (.putfield 33, 3) := by decide +kernel
theorem dX2_init_44 : decode cX2_init 44 = .ok (.aload_n 0, 1) := by decide +kernel
theorem dX2_init_45 : decode cX2_init 45 = .ok (.iconst 0, 1) := by decide +kernel
theorem dX2_init_46 : decode cX2_init 46 = .ok (.putfield 36, 3) := by decide +kernel
theorem dX2_init_49 : decode cX2_init 49 = .ok (.iconst 0, 1) := by decide +kernel
theorem dX2_init_50 : decode cX2_init 50 = .ok (.istore_n 1, 1) := by decide +kernel
theorem dX2_init_51 : decode cX2_init 51 = .ok (.iload_n 1, 1) := by decide +kernel
theorem dX2_init_52 : decode cX2_init 52 = .ok (.bipush 20, 2) := by decide +kernel
theorem dX2_init_54 : decode cX2_init 54 = .ok (.if_icmp .ge 23, 3) := by decide +kernel
theorem dX2_init_57 : decode cX2_init 57 = .ok (.aload_n 0, 1) := by decide +kernel
theorem dX2_init_58 : decode cX2_init 58 = .ok (.getfield 11, 3) := by decide +kernel
theorem dX2_init_61 : decode cX2_init 61 = .ok (.iload_n 1, 1) := by decide +kernel
theorem dX2_init_62 : decode cX2_init 62 = .ok (.new 9, 3) := by decide +kernel
theorem dX2_init_65 : decode cX2_init 65 = .ok (.dup, 1) := by decide +kernel
theorem dX2_init_66 : decode cX2_init 66 = .ok (.iload_n 1, 1) := by decide +kernel
theorem dX2_init_67 : decode cX2_init 67 = .ok (.invokespecial 39, 3) := by decide +kernel
theorem dX2_init_70 : decode cX2_init 70 = .ok (.aastore, 1) := by decide +kernel
theorem dX2_init_71 : decode cX2_init 71 = .ok (.iinc 1 1, 3) := by decide +kernel
theorem dX2_init_74 : decode cX2_init 74 = .ok (.goto (-23), 3) := by decide +kernel
theorem dX2_init_77 : decode cX2_init 77 = .ok (.return_, 1) := by decide +kernel
set_option maxRecDepth 20000 in
theorem ggX2_add_X2_checkRange : GoodIn wsX2_add wsX2_checkRange := goodIn_ca (goodIn_r _ [12, 13, 14] (by decide +kernel) (by decide +kernel)) (goodIn_sub (fun _ h => List.mem_cons_of_mem _ (List.mem_append_right _ h)) (by decide +kernel))
set_option maxRecDepth 20000 in
theorem gX2_add_X2_checkRange : GoodIn wsX2_add (wsV RX2 42 RX2 yX2_checkRange wsX2_checkRange) := goodIn_app (goodIn_of _ (by decide +kernel)) ggX2_add_X2_checkRange
set_option maxRecDepth 20000 in
theorem ggX2_add_X2_checkNoStart : GoodIn wsX2_add wsX2_checkNoStart := goodIn_ca (goodIn_r _ [18, 1, 2, 19, 20, 21, 22, 23, 24, 25, 26] (by decide +kernel) (by decide +kernel)) (goodIn_sub (fun _ h => List.mem_cons_of_mem _ (List.mem_append_left _ (List.mem_append_right _ h))) (by decide +kernel))
set_option maxRecDepth 20000 in
theorem gX2_add_X2_checkNoStart : GoodIn wsX2_add (wsV RX2 53 RX2 yX2_checkNoStart wsX2_checkNoStart) := goodIn_app (goodIn_of _ (by decide +kernel)) ggX2_add_X2_checkNoStart
theorem dX2_add_0 : decode cX2_add 0 = .ok (.aload_n 0, 1) := by decide +kernel
theorem dX2_add_1 : decode cX2_add 1 = .ok (.iload_n 1, 1) := by decide +kernel
theorem dX2_add_2 : decode cX2_add 2 = .ok (.iconst 1, 1) := by decide +kernel
theorem dX2_add_3 : decode cX2_add 3 = .ok (.bipush 100, 2) := by decide +kernel
theorem dX2_add_5 : decode cX2_add 5 = .ok (.invokevirtual 42, 3) := by decide +kernel
theorem dX2_add_8 : decode cX2_add 8 = .ok (.aload_n 0, 1) := by decide +kernel
theorem dX2_add_9 : decode cX2_add 9 = .ok (.iload_n 2, 1) := by decide +kernel
theorem dX2_add_10 : decode cX2_add 10 = .ok (.iconst 0, 1) := by decide +kernel
theorem dX2_add_11 : decode cX2_add 11 = .ok (.iconst 3, 1) := by decide +kernel
theorem dX2_add_12 : decode cX2_add 12 = .ok (.invokevirtual 42, 3) := by decide +kernel
theorem dX2_add_15 : decode cX2_add 15 = .ok (.aload_n 0, 1) := by decide +kernel
theorem dX2_add_16 : decode cX2_add 16 = .ok (.getfield 15, 3) := by decide +kernel
theorem dX2_add_19 : decode cX2_add 19 = .ok (.bipush 20, 2) := by decide +kernel
theorem dX2_add_21 : decode cX2_add 21 = .ok (.if_icmp .lt 13, 3) := by decide +kernel
theorem dX2_add_24 : decode cX2_add 24 = .ok (.new 46, 3) := by decide +kernel
theorem dX2_add_27 : decode cX2_add 27 = .ok (.dup, 1) := by decide +kernel
theorem dX2_add_28 : decode cX2_add 28 = .ok (.ldc 48, 2) := by decide +kernel
theorem dX2_add_30 : decode cX2_add 30 = .ok (.invokespecial 50, 3) := by decide +kernel
theorem dX2_add_33 : decode cX2_add 33 = .ok (.athrow, 1) := by decide +kernel
theorem dX2_add_34 : decode cX2_add 34 = .ok (.aload_n 0, 1) := by decide +kernel
theorem dX2_add_35 : decode cX2_add 35 = .ok (.invokevirtual 53, 3) := by decide +kernel
theorem dX2_add_38 : decode cX2_add 38 = .ok (.aload_n 0, 1) := by decide +kernel
theorem dX2_add_39 : decode cX2_add 39 = .ok (.getfield 11, 3) := by decide +kernel
theorem dX2_add_42 : decode cX2_add 42 = .ok (.aload_n 0, 1) := by decide +kernel
theorem dX2_add_43 : decode cX2_add 43 = .ok (.getfield 15, 3) := by decide +kernel
theorem dX2_add_46 : decode cX2_add 46 = .ok (.aaload, 1) := by decide +kernel
theorem dX2_add_47 : decode cX2_add 47 = .ok (.astore_n 3, 1) := by decide +kernel
theorem dX2_add_48 : decode cX2_add 48 = .ok (.aload_n 3, 1) := by decide +kernel
theorem dX2_add_49 : decode cX2_add 49 = .ok (.iload_n 1, 1) := by decide +kernel
theorem dX2_add_50 : decode cX2_add 50 = .ok (.putfield 56, 3) := by decide +kernel
theorem dX2_add_53 : decode cX2_add 53 = .ok (.aload_n 3, 1) := by decide +kernel
theorem dX2_add_54 : decode cX2_add 54 = .ok (.iload_n 2, 1) := by decide +kernel
theorem dX2_add_55 : decode cX2_add 55 = .ok (.putfield 59, 3) := by decide +kernel
theorem dX2_add_58 : decode cX2_add 58 = .ok (.aload_n 0, 1) := by decide +kernel
theorem dX2_add_59 : decode cX2_add 59 = .ok (.dup, 1) := by decide +kernel
theorem dX2_add_60 : decode cX2_add 60 = .ok (.getfield 15, 3) := by decide +kernel
theorem dX2_add_63 : decode cX2_add 63 = .ok (.iconst 1, 1) := by decide +kernel
theorem dX2_add_64 : decode cX2_add 64 = .ok (.iadd, 1) := by decide +kernel
theorem dX2_add_65 : decode cX2_add 65 = .ok (.putfield 15, 3) := by decide +kernel
theorem dX2_add_68 : decode cX2_add 68 = .ok (.aload_n 3, 1) := by decide +kernel
theorem dX2_add_69 : decode cX2_add 69 = .ok (.getfield 62, 3) := by decide +kernel
theorem dX2_add_72 : decode cX2_add 72 = .ok (.ireturn, 1) := by decide +kernel
set_option maxRecDepth 20000 in
theorem ggX2_need_X2_unitAt : GoodIn wsX2_need wsX2_unitAt := goodIn_ca (goodIn_r _ [8, 9, 10, 11, 12, 46, 47, 48, 49, 50, 51, 52] (by decide +kernel) (by decide +kernel)) (goodIn_sub (fun _ h => List.mem_cons_of_mem _ (List.mem_append_right _ h)) (by decide +kernel))
set_option maxRecDepth 20000 in
theorem gX2_need_X2_unitAt : GoodIn wsX2_need (wsV RX2 65 RX2 yX2_unitAt wsX2_unitAt) := goodIn_app (goodIn_of _ (by decide +kernel)) ggX2_need_X2_unitAt
set_option maxRecDepth 20000 in
theorem ggX2_need_X2_reaches : GoodIn wsX2_need wsX2_reaches := goodIn_r _ [16, 11, 12, 3, 17, 18, 19, 20, 21, 22, 23, 24, 25, 26, 7, 27, 46, 47, 48, 49, 50, 51, 52, 33, 34, 35, 36, 37, 38, 39, 40, 41, 42, 43, 44, 45] (by decide +kernel) (by decide +kernel)
set_option maxRecDepth 20000 in
theorem gX2_need_X2_reaches : GoodIn wsX2_need (wsV RX2 69 RX2 yX2_reaches wsX2_reaches) := goodIn_app (goodIn_of _ (by decide +kernel)) ggX2_need_X2_reaches
set_option maxRecDepth 20000 in
theorem ggX2_need_X2_checkNoStart : GoodIn wsX2_need wsX2_checkNoStart := goodIn_ca (goodIn_r _ [31, 1, 2, 32, 46, 47, 48, 49, 50, 51, 52] (by decide +kernel) (by decide +kernel)) (goodIn_sub (fun _ h => List.mem_cons_of_mem _ (List.mem_append_left _ (List.mem_append_right _ h))) (by decide +kernel))
set_option maxRecDepth 20000 in
theorem gX2_need_X2_checkNoStart : GoodIn wsX2_need (wsV RX2 53 RX2 yX2_checkNoStart wsX2_checkNoStart) := goodIn_app (goodIn_of _ (by decide +kernel)) ggX2_need_X2_checkNoStart
set_option maxRecDepth 20000 in
theorem ggX2_need_X2_contains : GoodIn wsX2_need wsX2_contains := goodIn_r _ [27, 18, 19, 20, 21, 22, 23, 33, 34, 35, 36, 37, 38, 39, 40, 41, 42, 43, 44, 45] (by decide +kernel) (by decide +kernel)
set_option maxRecDepth 20000 in
theorem gX2_need_X2_contains : GoodIn wsX2_need (wsV RX2 78 RX2 yX2_contains wsX2_contains) := goodIn_app (goodIn_of _ (by decide +kernel)) ggX2_need_X2_contains
set_option maxRecDepth 20000 in
theorem ggX2_need_X0_bit : GoodIn wsX2_need wsX0_bit := goodIn_r _ [22, 23, 33, 34, 35, 36, 37, 38, 39, 40, 41, 42, 43, 44, 45] (by decide +kernel) (by decide +kernel)
set_option maxRecDepth 20000 in
theorem gX2_need_X0_bit : GoodIn wsX2_need (wsV RX2 82 RX0 yX0_bit wsX0_bit) := goodIn_app (goodIn_of _ (by decide +kernel)) ggX2_need_X0_bit
theorem dX2_need_0 : decode cX2_need 0 = .ok (.aload_n 0, 1) := by decide +kernel
theorem dX2_need_1 : decode cX2_need 1 = .ok (.iload_n 1, 1) := by decide +kernel
theorem dX2_need_2 : decode cX2_need 2 = .ok (.invokevirtual 65, 3) := by decide +kernel
theorem dX2_need_5 : decode cX2_need 5 = .ok (.astore_n 3, 1) := by decide +kernel
theorem dX2_need_6 : decode cX2_need 6 = .ok (.aload_n 0, 1) := by decide +kernel
theorem dX2_need_7 : decode cX2_need 7 = .ok (.iload_n 2, 1) := by decide +kernel
theorem dX2_need_8 : decode cX2_need 8 = .ok (.invokevirtual 65, 3) := by decide +kernel
theorem dX2_need_11 : decode cX2_need 11 = .ok (.astore 4, 2) := by decide +kernel
theorem dX2_need_13 : decode cX2_need 13 = .ok (.aload_n 0, 1) := by decide +kernel
theorem dX2_need_14 : decode cX2_need 14 = .ok (.aload 4, 2) := by decide +kernel
theorem dX2_need_16 : decode cX2_need 16 = .ok (.aload_n 3, 1) := by decide +kernel
theorem dX2_need_17 : decode cX2_need 17 = .ok (.iconst 0, 1) := by decide +kernel
theorem dX2_need_18 : decode cX2_need 18 = .ok (.invokevirtual 69, 3) := by decide +kernel
theorem dX2_need_21 : decode cX2_need 21 = .ok (.ifCond .eq 13, 3) := by decide +kernel
theorem dX2_need_24 : decode cX2_need 24 = .ok (.new 46, 3) := by decide +kernel
theorem dX2_need_27 : decode cX2_need 27 = .ok (.dup, 1) := by decide +kernel
theorem dX2_need_28 : decode cX2_need 28 = .ok (.ldc 73, 2) := by decide +kernel
theorem dX2_need_30 : decode cX2_need 30 = .ok (.invokespecial 50, 3) := by decide +kernel
theorem dX2_need_33 : decode cX2_need 33 = .ok (.athrow, 1) := by decide +kernel
theorem dX2_need_34 : decode cX2_need 34 = .ok (.aload_n 0, 1) := by decide +kernel
theorem dX2_need_35 : decode cX2_need 35 = .ok (.invokevirtual 53, 3) := by decide +kernel
theorem dX2_need_38 : decode cX2_need 38 = .ok (.aload_n 0, 1) := by decide +kernel
theorem dX2_need_39 : decode cX2_need 39 = .ok (.aload_n 3, 1) := by decide +kernel
theorem dX2_need_40 : decode cX2_need 40 = .ok (.getfield 75, 3) := by decide +kernel
theorem dX2_need_43 : decode cX2_need 43 = .ok (.aload 4, 2) := by decide +kernel
theorem dX2_need_45 : decode cX2_need 45 = .ok (.invokevirtual 78, 3) := by decide +kernel
theorem dX2_need_48 : decode cX2_need 48 = .ok (.istore 5, 2) := by decide +kernel
theorem dX2_need_50 : decode cX2_need 50 = .ok (.aload_n 3, 1) := by decide +kernel
theorem dX2_need_51 : decode cX2_need 51 = .ok (.dup, 1) := by decide +kernel
theorem dX2_need_52 : decode cX2_need 52 = .ok (.getfield 75, 3) := by decide +kernel
theorem dX2_need_55 : decode cX2_need 55 = .ok (.aload 4, 2) := by decide +kernel
theorem dX2_need_57 : decode cX2_need 57 = .ok (.invokevirtual 82, 3) := by decide +kernel
theorem dX2_need_60 : decode cX2_need 60 = .ok (.ior, 1) := by decide +kernel
theorem dX2_need_61 : decode cX2_need 61 = .ok (.putfield 75, 3) := by decide +kernel
theorem dX2_need_64 : decode cX2_need 64 = .ok (.iload 5, 2) := by decide +kernel
theorem dX2_need_66 : decode cX2_need 66 = .ok (.ireturn, 1) := by decide +kernel
set_option maxRecDepth 20000 in
theorem ggX2_wish_X2_unitAt : GoodIn wsX2_wish wsX2_unitAt := goodIn_ca (goodIn_r _ [11, 12, 13, 14, 15, 131, 132, 133, 134, 135, 136, 137] (by decide +kernel) (by decide +kernel)) (goodIn_sub (fun _ h => List.mem_cons_of_mem _ (List.mem_append_left _ (List.mem_append_left _ (List.mem_append_right _ h)))) (by decide +kernel))
set_option maxRecDepth 20000 in
theorem gX2_wish_X2_unitAt : GoodIn wsX2_wish (wsV RX2 65 RX2 yX2_unitAt wsX2_unitAt) := goodIn_app (goodIn_of _ (by decide +kernel)) ggX2_wish_X2_unitAt
set_option maxRecDepth 20000 in
theorem ggX2_wish_X2_checkRange : GoodIn wsX2_wish wsX2_checkRange := goodIn_ca (goodIn_r _ [19, 20, 21] (by decide +kernel) (by decide +kernel)) (goodIn_sub (fun _ h => List.mem_cons_of_mem _ (List.mem_append_left _ (List.mem_append_right _ h))) (by decide +kernel))
set_option maxRecDepth 20000 in
theorem gX2_wish_X2_checkRange : GoodIn wsX2_wish (wsV RX2 42 RX2 yX2_checkRange wsX2_checkRange) := goodIn_app (goodIn_of _ (by decide +kernel)) ggX2_wish_X2_checkRange
set_option maxRecDepth 20000 in
theorem ggX2_wish_X2_checkDifferent : GoodIn wsX2_wish wsX2_checkDifferent := goodIn_ca (goodIn_r _ [25, 20, 21] (by decide +kernel) (by decide +kernel)) (goodIn_sub (fun _ h => List.mem_cons_of_mem _ (List.mem_append_left _ (List.mem_append_right _ h))) (by decide +kernel))
set_option maxRecDepth 20000 in
theorem gX2_wish_X2_checkDifferent : GoodIn wsX2_wish (wsV RX2 86 RX2 yX2_checkDifferent wsX2_checkDifferent) := goodIn_app (goodIn_of _ (by decide +kernel)) ggX2_wish_X2_checkDifferent
set_option maxRecDepth 20000 in
theorem ggX2_wish_X2_checkNoStart : GoodIn wsX2_wish wsX2_checkNoStart := goodIn_ca (goodIn_r _ [29, 30, 31, 32, 131, 132, 133, 134, 135, 136, 137] (by decide +kernel) (by decide +kernel)) (goodIn_sub (fun _ h => List.mem_cons_of_mem _ (List.mem_append_right _ h)) (by decide +kernel))
set_option maxRecDepth 20000 in
theorem gX2_wish_X2_checkNoStart : GoodIn wsX2_wish (wsV RX2 53 RX2 yX2_checkNoStart wsX2_checkNoStart) := goodIn_app (goodIn_of _ (by decide +kernel)) ggX2_wish_X2_checkNoStart
set_option maxRecDepth 20000 in
theorem ggX2_wish_X2_findWish : GoodIn wsX2_wish wsX2_findWish := goodIn_r _ [36, 1, 37, 38, 39, 40, 41, 42, 43, 44, 45, 46, 47, 48, 49, 50, 51, 52, 53, 54, 55, 56, 57, 58, 59, 60, 61, 62, 131, 132, 133, 134, 135, 136, 137, 138, 139, 140, 154, 155, 156] (by decide +kernel) (by decide +kernel)
set_option maxRecDepth 20000 in
theorem gX2_wish_X2_findWish : GoodIn wsX2_wish (wsV RX2 90 RX2 yX2_findWish wsX2_findWish) := goodIn_app (goodIn_of _ (by decide +kernel)) ggX2_wish_X2_findWish
set_option maxRecDepth 20000 in
theorem ggX2_wish_X1_init : GoodIn wsX2_wish wsX1_init := goodIn_r _ [65, 66, 67, 68, 69, 70, 71, 138, 139, 140] (by decide +kernel) (by decide +kernel)
set_option maxRecDepth 20000 in
theorem gX2_wish_X1_init : GoodIn wsX2_wish (wsX1_init) := ggX2_wish_X1_init
set_option maxRecDepth 20000 in
theorem ggX2_wish_Jx4a65c_add_9ea2d : GoodIn wsX2_wish wsJx4a65c_add_9ea2d := goodIn_r _ [75, 76, 77, 62, 45, 78, 79, 80, 43, 81, 82, 83, 84, 85, 86, 87, 88, 89, 90, 91, 92, 93, 94, 95, 96, 97, 98, 99, 100, 101, 102, 103, 104, 105, 106, 107, 108, 109, 110, 111, 112, 113, 114, 115, 116, 117, 118, 119, 120, 121, 122, 123, 124, 154, 155, 156] (by decide +kernel) (by decide +kernel)
set_option maxRecDepth 20000 in
theorem gX2_wish_Jx4a65c_add_9ea2d : GoodIn wsX2_wish (wsV RX2 99 RJx4a65c yJx4a65c_add_9ea2d wsJx4a65c_add_9ea2d) := goodIn_app (goodIn_of _ (by decide +kernel)) ggX2_wish_Jx4a65c_add_9ea2d
set_option maxRecDepth 20000 in
theorem ggX2_wish_X0_bit : GoodIn wsX2_wish wsX0_bit := goodIn_r _ [129, 130, 141, 142, 143, 144, 145, 146, 147, 148, 149, 150, 151, 152, 153] (by decide +kernel) (by decide +kernel)
set_option maxRecDepth 20000 in
theorem gX2_wish_X0_bit : GoodIn wsX2_wish (wsV RX2 82 RX0 yX0_bit wsX0_bit) := goodIn_app (goodIn_of _ (by decide +kernel)) ggX2_wish_X0_bit
theorem dX2_wish_0 : decode cX2_wish 0 = .ok (.aload_n 0, 1) := by decide +kernel
theorem dX2_wish_1 : decode cX2_wish 1 = .ok (.iload_n 1, 1) := by decide +kernel
theorem dX2_wish_2 : decode cX2_wish 2 = .ok (.invokevirtual 65, 3) := by decide +kernel
theorem dX2_wish_5 : decode cX2_wish 5 = .ok (.astore 4, 2) := by decide +kernel
theorem dX2_wish_7 : decode cX2_wish 7 = .ok (.aload_n 0, 1) := by decide +kernel
theorem dX2_wish_8 : decode cX2_wish 8 = .ok (.iload_n 2, 1) := by decide +kernel
theorem dX2_wish_9 : decode cX2_wish 9 = .ok (.invokevirtual 65, 3) := by decide +kernel
theorem dX2_wish_12 : decode cX2_wish 12 = .ok (.astore 5, 2) := by decide +kernel
theorem dX2_wish_14 : decode cX2_wish 14 = .ok (.aload_n 0, 1) := by decide +kernel
theorem dX2_wish_15 : decode cX2_wish 15 = .ok (.iload_n 3, 1) := by decide +kernel
theorem dX2_wish_16 : decode cX2_wish 16 = .ok (.iconst 1, 1) := by decide +kernel
theorem dX2_wish_17 : decode cX2_wish 17 = .ok (.bipush 100, 2) := by decide +kernel
theorem dX2_wish_19 : decode cX2_wish 19 = .ok (.invokevirtual 42, 3) := by decide +kernel
theorem dX2_wish_22 : decode cX2_wish 22 = .ok (.aload_n 0, 1) := by decide +kernel
theorem dX2_wish_23 : decode cX2_wish 23 = .ok (.aload 4, 2) := by decide +kernel
theorem dX2_wish_25 : decode cX2_wish 25 = .ok (.aload 5, 2) := by decide +kernel
theorem dX2_wish_27 : decode cX2_wish 27 = .ok (.invokevirtual 86, 3) := by decide +kernel
theorem dX2_wish_30 : decode cX2_wish 30 = .ok (.aload_n 0, 1) := by decide +kernel
theorem dX2_wish_31 : decode cX2_wish 31 = .ok (.invokevirtual 53, 3) := by decide +kernel
theorem dX2_wish_34 : decode cX2_wish 34 = .ok (.aload_n 0, 1) := by decide +kernel
theorem dX2_wish_35 : decode cX2_wish 35 = .ok (.aload 4, 2) := by decide +kernel
theorem dX2_wish_37 : decode cX2_wish 37 = .ok (.aload 5, 2) := by decide +kernel
theorem dX2_wish_39 : decode cX2_wish 39 = .ok (.invokevirtual 90, 3) := by decide +kernel
theorem dX2_wish_42 : decode cX2_wish 42 = .ok (.astore 6, 2) := by decide +kernel
theorem dX2_wish_44 : decode cX2_wish 44 = .ok (.aload 6, 2) := by decide +kernel
theorem dX2_wish_46 : decode cX2_wish 46 = .ok (.ifnonnull 40, 3) := by decide +kernel
theorem dX2_wish_49 : decode cX2_wish 49 = .ok (.aload_n 0, 1) := by decide +kernel
theorem dX2_wish_50 : decode cX2_wish 50 = .ok (.getfield 22, 3) := by decide +kernel
theorem dX2_wish_53 : decode cX2_wish 53 = .ok (.new 94, 3) := by decide +kernel
theorem dX2_wish_56 : decode cX2_wish 56 = .ok (.dup, 1) := by decide +kernel
theorem dX2_wish_57 : decode cX2_wish 57 = .ok (.aload 4, 2) := by decide +kernel
theorem dX2_wish_59 : decode cX2_wish 59 = .ok (.aload 5, 2) := by decide +kernel
theorem dX2_wish_61 : decode cX2_wish 61 = .ok (.iload_n 3, 1) := by decide +kernel
theorem dX2_wish_62 : decode cX2_wish 62 = .ok (.invokespecial 96, 3) := by decide +kernel
theorem dX2_wish_65 : decode cX2_wish 65 = .ok (.invokevirtual 99, 3) := by decide +kernel
theorem dX2_wish_68 : decode cX2_wish 68 = .ok (.pop, 1) := by decide +kernel
theorem dX2_wish_69 : decode cX2_wish 69 = .ok (.aload 4, 2) := by decide +kernel
theorem dX2_wish_71 : decode cX2_wish 71 = .ok (.dup, 1) := by decide +kernel
theorem dX2_wish_72 : decode cX2_wish 72 = .ok (.getfield 103, 3) := by decide +kernel
theorem dX2_wish_75 : decode cX2_wish 75 = .ok (.aload 5, 2) := by decide +kernel
theorem dX2_wish_77 : decode cX2_wish 77 = .ok (.invokevirtual 82, 3) := by decide +kernel
theorem dX2_wish_80 : decode cX2_wish 80 = .ok (.ior, 1) := by decide +kernel
theorem dX2_wish_81 : decode cX2_wish 81 = .ok (.putfield 103, 3) := by decide +kernel
theorem dX2_wish_84 : decode cX2_wish 84 = .ok (.iconst 0, 1) := by decide +kernel
theorem dX2_wish_85 : decode cX2_wish 85 = .ok (.ireturn, 1) := by decide +kernel
theorem dX2_wish_86 : decode cX2_wish 86 = .ok (.aload 6, 2) := by decide +kernel
theorem dX2_wish_88 : decode cX2_wish 88 = .ok (.getfield 106, 3) := by decide +kernel
theorem dX2_wish_91 : decode cX2_wish 91 = .ok (.istore 7, 2) := by decide +kernel
theorem dX2_wish_93 : decode cX2_wish 93 = .ok (.aload 6, 2) := by decide +kernel
theorem dX2_wish_95 : decode cX2_wish 95 = .ok (.iload_n 3, 1) := by decide +kernel
theorem dX2_wish_96 : decode cX2_wish 96 = .ok (.putfield 106, 3) := by decide +kernel
theorem dX2_wish_99 : decode cX2_wish 99 = .ok (.iload 7, 2) := by decide +kernel
theorem dX2_wish_101 : decode cX2_wish 101 = .ok (.ireturn, 1) := by decide +kernel
set_option maxRecDepth 20000 in
theorem ggX2_standIn_X2_unitAt : GoodIn wsX2_standIn wsX2_unitAt := goodIn_ca (goodIn_r _ [7, 8, 9, 10, 11, 38, 39, 40, 41, 42, 43, 44] (by decide +kernel) (by decide +kernel)) (goodIn_sub (fun _ h => List.mem_cons_of_mem _ (List.mem_append_left _ (List.mem_append_left _ (List.mem_append_right _ h)))) (by decide +kernel))
set_option maxRecDepth 20000 in
theorem gX2_standIn_X2_unitAt : GoodIn wsX2_standIn (wsV RX2 65 RX2 yX2_unitAt wsX2_unitAt) := goodIn_app (goodIn_of _ (by decide +kernel)) ggX2_standIn_X2_unitAt
set_option maxRecDepth 20000 in
theorem ggX2_standIn_X2_checkDifferent : GoodIn wsX2_standIn wsX2_checkDifferent := goodIn_ca (goodIn_r _ [15, 16, 17] (by decide +kernel) (by decide +kernel)) (goodIn_sub (fun _ h => List.mem_cons_of_mem _ (List.mem_append_left _ (List.mem_append_right _ h))) (by decide +kernel))
set_option maxRecDepth 20000 in
theorem gX2_standIn_X2_checkDifferent : GoodIn wsX2_standIn (wsV RX2 86 RX2 yX2_checkDifferent wsX2_checkDifferent) := goodIn_app (goodIn_of _ (by decide +kernel)) ggX2_standIn_X2_checkDifferent
set_option maxRecDepth 20000 in
theorem ggX2_standIn_X2_checkNoStart : GoodIn wsX2_standIn wsX2_checkNoStart := goodIn_ca (goodIn_r _ [21, 22, 23, 24, 38, 39, 40, 41, 42, 43, 44] (by decide +kernel) (by decide +kernel)) (goodIn_sub (fun _ h => List.mem_cons_of_mem _ (List.mem_append_right _ h)) (by decide +kernel))
set_option maxRecDepth 20000 in
theorem gX2_standIn_X2_checkNoStart : GoodIn wsX2_standIn (wsV RX2 53 RX2 yX2_checkNoStart wsX2_checkNoStart) := goodIn_app (goodIn_of _ (by decide +kernel)) ggX2_standIn_X2_checkNoStart
theorem dX2_standIn_0 : decode cX2_standIn 0 = .ok (.aload_n 0, 1) := by decide +kernel
theorem dX2_standIn_1 : decode cX2_standIn 1 = .ok (.iload_n 1, 1) := by decide +kernel
theorem dX2_standIn_2 : decode cX2_standIn 2 = .ok (.invokevirtual 65, 3) := by decide +kernel
theorem dX2_standIn_5 : decode cX2_standIn 5 = .ok (.astore_n 3, 1) := by decide +kernel
theorem dX2_standIn_6 : decode cX2_standIn 6 = .ok (.iload_n 2, 1) := by decide +kernel
theorem dX2_standIn_7 : decode cX2_standIn 7 = .ok (.iconst (-1), 1) := by decide +kernel
theorem dX2_standIn_8 : decode cX2_standIn 8 = .ok (.if_icmp .ne 7, 3) := by decide +kernel
theorem dX2_standIn_11 : decode cX2_standIn 11 = .ok (.aconst_null, 1) := by decide +kernel
theorem dX2_standIn_12 : decode cX2_standIn 12 = .ok (.goto 8, 3) := by decide +kernel
theorem dX2_standIn_15 : decode cX2_standIn 15 = .ok (.aload_n 0, 1) := by decide +kernel
theorem dX2_standIn_16 : decode cX2_standIn 16 = .ok (.iload_n 2, 1) := by decide +kernel
theorem dX2_standIn_17 : decode cX2_standIn 17 = .ok (.invokevirtual 65, 3) := by decide +kernel
theorem dX2_standIn_20 : decode cX2_standIn 20 = .ok (.astore 4, 2) := by decide +kernel
theorem dX2_standIn_22 : decode cX2_standIn 22 = .ok (.aload_n 0, 1) := by decide +kernel
theorem dX2_standIn_23 : decode cX2_standIn 23 = .ok (.aload_n 3, 1) := by decide +kernel
theorem dX2_standIn_24 : decode cX2_standIn 24 = .ok (.aload 4, 2) := by decide +kernel
theorem dX2_standIn_26 : decode cX2_standIn 26 = .ok (.invokevirtual 86, 3) := by decide +kernel
theorem dX2_standIn_29 : decode cX2_standIn 29 = .ok (.aload_n 0, 1) := by decide +kernel
theorem dX2_standIn_30 : decode cX2_standIn 30 = .ok (.invokevirtual 53, 3) := by decide +kernel
theorem dX2_standIn_33 : decode cX2_standIn 33 = .ok (.aload_n 3, 1) := by decide +kernel
theorem dX2_standIn_34 : decode cX2_standIn 34 = .ok (.getfield 109, 3) := by decide +kernel
theorem dX2_standIn_37 : decode cX2_standIn 37 = .ok (.ifnonnull 7, 3) := by decide +kernel
theorem dX2_standIn_40 : decode cX2_standIn 40 = .ok (.iconst (-1), 1) := by decide +kernel
theorem dX2_standIn_41 : decode cX2_standIn 41 = .ok (.goto 10, 3) := by decide +kernel
theorem dX2_standIn_44 : decode cX2_standIn 44 = .ok (.aload_n 3, 1) := by decide +kernel
theorem dX2_standIn_45 : decode cX2_standIn 45 = .ok (.getfield 109, 3) := by decide +kernel
theorem dX2_standIn_48 : decode cX2_standIn 48 = .ok (.getfield 62, 3) := by decide +kernel
theorem dX2_standIn_51 : decode cX2_standIn 51 = .ok (.istore 5, 2) := by decide +kernel
theorem dX2_standIn_53 : decode cX2_standIn 53 = .ok (.aload_n 3, 1) := by decide +kernel
theorem dX2_standIn_54 : decode cX2_standIn 54 = .ok (.aload 4, 2) := by decide +kernel
theorem dX2_standIn_56 : decode cX2_standIn 56 = .ok (.putfield 109, 3) := by decide +kernel
theorem dX2_standIn_59 : decode cX2_standIn 59 = .ok (.iload 5, 2) := by decide +kernel
theorem dX2_standIn_61 : decode cX2_standIn 61 = .ok (.ireturn, 1) := by decide +kernel
set_option maxRecDepth 20000 in
theorem ggX2_hold_X2_unitAt : GoodIn wsX2_hold wsX2_unitAt := goodIn_ca (goodIn_r _ [6, 7, 8, 9, 10, 31, 32, 33, 34, 35, 36, 37] (by decide +kernel) (by decide +kernel)) (goodIn_sub (fun _ h => List.mem_cons_of_mem _ (List.mem_append_left _ (List.mem_append_right _ h))) (by decide +kernel))
set_option maxRecDepth 20000 in
theorem gX2_hold_X2_unitAt : GoodIn wsX2_hold (wsV RX2 65 RX2 yX2_unitAt wsX2_unitAt) := goodIn_app (goodIn_of _ (by decide +kernel)) ggX2_hold_X2_unitAt
set_option maxRecDepth 20000 in
theorem ggX2_hold_X2_checkNoStart : GoodIn wsX2_hold wsX2_checkNoStart := goodIn_ca (goodIn_r _ [14, 15, 16, 17, 31, 32, 33, 34, 35, 36, 37] (by decide +kernel) (by decide +kernel)) (goodIn_sub (fun _ h => List.mem_cons_of_mem _ (List.mem_append_right _ h)) (by decide +kernel))
set_option maxRecDepth 20000 in
theorem gX2_hold_X2_checkNoStart : GoodIn wsX2_hold (wsV RX2 53 RX2 yX2_checkNoStart wsX2_checkNoStart) := goodIn_app (goodIn_of _ (by decide +kernel)) ggX2_hold_X2_checkNoStart
theorem dX2_hold_0 : decode cX2_hold 0 = .ok (.aload_n 0, 1) := by decide +kernel
theorem dX2_hold_1 : decode cX2_hold 1 = .ok (.iload_n 1, 1) := by decide +kernel
theorem dX2_hold_2 : decode cX2_hold 2 = .ok (.invokevirtual 65, 3) := by decide +kernel
theorem dX2_hold_5 : decode cX2_hold 5 = .ok (.astore_n 3, 1) := by decide +kernel
theorem dX2_hold_6 : decode cX2_hold 6 = .ok (.aload_n 0, 1) := by decide +kernel
theorem dX2_hold_7 : decode cX2_hold 7 = .ok (.invokevirtual 53, 3) := by decide +kernel
theorem dX2_hold_10 : decode cX2_hold 10 = .ok (.aload_n 3, 1) := by decide +kernel
theorem dX2_hold_11 : decode cX2_hold 11 = .ok (.getfield 113, 3) := by decide +kernel
theorem dX2_hold_14 : decode cX2_hold 14 = .ok (.istore 4, 2) := by decide +kernel
theorem dX2_hold_16 : decode cX2_hold 16 = .ok (.aload_n 3, 1) := by decide +kernel
theorem dX2_hold_17 : decode cX2_hold 17 = .ok (.iload_n 2, 1) := by decide +kernel
theorem dX2_hold_18 : decode cX2_hold 18 = .ok (.putfield 113, 3) := by decide +kernel
theorem dX2_hold_21 : decode cX2_hold 21 = .ok (.iload 4, 2) := by decide +kernel
theorem dX2_hold_23 : decode cX2_hold 23 = .ok (.ireturn, 1) := by decide +kernel
set_option maxRecDepth 20000 in
theorem ggX2_setFaults_X2_unitAt : GoodIn wsX2_setFaults wsX2_unitAt := goodIn_ca (goodIn_r _ [6, 7, 8, 9, 10, 30, 31, 32, 33, 34, 35, 36] (by decide +kernel) (by decide +kernel)) (goodIn_sub (fun _ h => List.mem_cons_of_mem _ (List.mem_append_left _ (List.mem_append_right _ h))) (by decide +kernel))
set_option maxRecDepth 20000 in
theorem gX2_setFaults_X2_unitAt : GoodIn wsX2_setFaults (wsV RX2 65 RX2 yX2_unitAt wsX2_unitAt) := goodIn_app (goodIn_of _ (by decide +kernel)) ggX2_setFaults_X2_unitAt
set_option maxRecDepth 20000 in
theorem ggX2_setFaults_X2_checkRange : GoodIn wsX2_setFaults wsX2_checkRange := goodIn_ca (goodIn_r _ [14, 15, 16] (by decide +kernel) (by decide +kernel)) (goodIn_sub (fun _ h => List.mem_cons_of_mem _ (List.mem_append_right _ h)) (by decide +kernel))
set_option maxRecDepth 20000 in
theorem gX2_setFaults_X2_checkRange : GoodIn wsX2_setFaults (wsV RX2 42 RX2 yX2_checkRange wsX2_checkRange) := goodIn_app (goodIn_of _ (by decide +kernel)) ggX2_setFaults_X2_checkRange
theorem dX2_setFaults_0 : decode cX2_setFaults 0 = .ok (.aload_n 0, 1) := by decide +kernel
theorem dX2_setFaults_1 : decode cX2_setFaults 1 = .ok (.iload_n 1, 1) := by decide +kernel
theorem dX2_setFaults_2 : decode cX2_setFaults 2 = .ok (.invokevirtual 65, 3) := by decide +kernel
theorem dX2_setFaults_5 : decode cX2_setFaults 5 = .ok (.astore_n 3, 1) := by decide +kernel
theorem dX2_setFaults_6 : decode cX2_setFaults 6 = .ok (.aload_n 0, 1) := by decide +kernel
theorem dX2_setFaults_7 : decode cX2_setFaults 7 = .ok (.iload_n 2, 1) := by decide +kernel
theorem dX2_setFaults_8 : decode cX2_setFaults 8 = .ok (.iconst 0, 1) := by decide +kernel
theorem dX2_setFaults_9 : decode cX2_setFaults 9 = .ok (.bipush 10, 2) := by decide +kernel
theorem dX2_setFaults_11 : decode cX2_setFaults 11 = .ok (.invokevirtual 42, 3) := by decide +kernel
theorem dX2_setFaults_14 : decode cX2_setFaults 14 = .ok (.aload_n 3, 1) := by decide +kernel
theorem dX2_setFaults_15 : decode cX2_setFaults 15 = .ok (.getfield 116, 3) := by decide +kernel
theorem dX2_setFaults_18 : decode cX2_setFaults 18 = .ok (.istore 4, 2) := by decide +kernel
theorem dX2_setFaults_20 : decode cX2_setFaults 20 = .ok (.aload_n 3, 1) := by decide +kernel
theorem dX2_setFaults_21 : decode cX2_setFaults 21 = .ok (.iload_n 2, 1) := by decide +kernel
theorem dX2_setFaults_22 : decode cX2_setFaults 22 = .ok (.putfield 116, 3) := by decide +kernel
theorem dX2_setFaults_25 : decode cX2_setFaults 25 = .ok (.iload 4, 2) := by decide +kernel
theorem dX2_setFaults_27 : decode cX2_setFaults 27 = .ok (.ireturn, 1) := by decide +kernel
set_option maxRecDepth 20000 in
theorem ggX2_setTime_X2_unitAt : GoodIn wsX2_setTime wsX2_unitAt := goodIn_ca (goodIn_r _ [6, 7, 8, 9, 10, 30, 31, 32, 33, 34, 35, 36] (by decide +kernel) (by decide +kernel)) (goodIn_sub (fun _ h => List.mem_cons_of_mem _ (List.mem_append_left _ (List.mem_append_right _ h))) (by decide +kernel))
set_option maxRecDepth 20000 in
theorem gX2_setTime_X2_unitAt : GoodIn wsX2_setTime (wsV RX2 65 RX2 yX2_unitAt wsX2_unitAt) := goodIn_app (goodIn_of _ (by decide +kernel)) ggX2_setTime_X2_unitAt
set_option maxRecDepth 20000 in
theorem ggX2_setTime_X2_checkRange : GoodIn wsX2_setTime wsX2_checkRange := goodIn_ca (goodIn_r _ [14, 15, 16] (by decide +kernel) (by decide +kernel)) (goodIn_sub (fun _ h => List.mem_cons_of_mem _ (List.mem_append_right _ h)) (by decide +kernel))
set_option maxRecDepth 20000 in
theorem gX2_setTime_X2_checkRange : GoodIn wsX2_setTime (wsV RX2 42 RX2 yX2_checkRange wsX2_checkRange) := goodIn_app (goodIn_of _ (by decide +kernel)) ggX2_setTime_X2_checkRange
theorem dX2_setTime_0 : decode cX2_setTime 0 = .ok (.aload_n 0, 1) := by decide +kernel
theorem dX2_setTime_1 : decode cX2_setTime 1 = .ok (.iload_n 1, 1) := by decide +kernel
theorem dX2_setTime_2 : decode cX2_setTime 2 = .ok (.invokevirtual 65, 3) := by decide +kernel
theorem dX2_setTime_5 : decode cX2_setTime 5 = .ok (.astore_n 3, 1) := by decide +kernel
theorem dX2_setTime_6 : decode cX2_setTime 6 = .ok (.aload_n 0, 1) := by decide +kernel
theorem dX2_setTime_7 : decode cX2_setTime 7 = .ok (.iload_n 2, 1) := by decide +kernel
theorem dX2_setTime_8 : decode cX2_setTime 8 = .ok (.iconst 1, 1) := by decide +kernel
theorem dX2_setTime_9 : decode cX2_setTime 9 = .ok (.bipush 100, 2) := by decide +kernel
theorem dX2_setTime_11 : decode cX2_setTime 11 = .ok (.invokevirtual 42, 3) := by decide +kernel
theorem dX2_setTime_14 : decode cX2_setTime 14 = .ok (.aload_n 3, 1) := by decide +kernel
theorem dX2_setTime_15 : decode cX2_setTime 15 = .ok (.getfield 56, 3) := by decide +kernel
theorem dX2_setTime_18 : decode cX2_setTime 18 = .ok (.istore 4, 2) := by decide +kernel
theorem dX2_setTime_20 : decode cX2_setTime 20 = .ok (.aload_n 3, 1) := by decide +kernel
theorem dX2_setTime_21 : decode cX2_setTime 21 = .ok (.iload_n 2, 1) := by decide +kernel
theorem dX2_setTime_22 : decode cX2_setTime 22 = .ok (.putfield 56, 3) := by decide +kernel
theorem dX2_setTime_25 : decode cX2_setTime 25 = .ok (.iload 4, 2) := by decide +kernel
theorem dX2_setTime_27 : decode cX2_setTime 27 = .ok (.ireturn, 1) := by decide +kernel
theorem dX2_units_0 : decode cX2_units 0 = .ok (.aload_n 0, 1) := by decide +kernel
theorem dX2_units_1 : decode cX2_units 1 = .ok (.getfield 15, 3) := by decide +kernel
theorem dX2_units_4 : decode cX2_units 4 = .ok (.ireturn, 1) := by decide +kernel
set_option maxRecDepth 20000 in
theorem ggX2_learned_X2_unitAt : GoodIn wsX2_learned wsX2_unitAt := goodIn_ca (goodIn_r _ [6, 7, 8, 9, 10, 24, 25, 26, 27, 28, 29, 30] (by decide +kernel) (by decide +kernel)) (goodIn_sub (fun _ h => List.mem_cons_of_mem _ (List.mem_append_right _ h)) (by decide +kernel))
set_option maxRecDepth 20000 in
theorem gX2_learned_X2_unitAt : GoodIn wsX2_learned (wsV RX2 65 RX2 yX2_unitAt wsX2_unitAt) := goodIn_app (goodIn_of _ (by decide +kernel)) ggX2_learned_X2_unitAt
theorem dX2_learned_0 : decode cX2_learned 0 = .ok (.aload_n 0, 1) := by decide +kernel
theorem dX2_learned_1 : decode cX2_learned 1 = .ok (.iload_n 1, 1) := by decide +kernel
theorem dX2_learned_2 : decode cX2_learned 2 = .ok (.invokevirtual 65, 3) := by decide +kernel
theorem dX2_learned_5 : decode cX2_learned 5 = .ok (.getfield 119, 3) := by decide +kernel
theorem dX2_learned_8 : decode cX2_learned 8 = .ok (.ireturn, 1) := by decide +kernel
set_option maxRecDepth 20000 in
theorem ggX2_faults_X2_unitAt : GoodIn wsX2_faults wsX2_unitAt := goodIn_ca (goodIn_r _ [6, 7, 8, 9, 10, 24, 25, 26, 27, 28, 29, 30] (by decide +kernel) (by decide +kernel)) (goodIn_sub (fun _ h => List.mem_cons_of_mem _ (List.mem_append_right _ h)) (by decide +kernel))
set_option maxRecDepth 20000 in
theorem gX2_faults_X2_unitAt : GoodIn wsX2_faults (wsV RX2 65 RX2 yX2_unitAt wsX2_unitAt) := goodIn_app (goodIn_of _ (by decide +kernel)) ggX2_faults_X2_unitAt
theorem dX2_faults_0 : decode cX2_faults 0 = .ok (.aload_n 0, 1) := by decide +kernel
theorem dX2_faults_1 : decode cX2_faults 1 = .ok (.iload_n 1, 1) := by decide +kernel
theorem dX2_faults_2 : decode cX2_faults 2 = .ok (.invokevirtual 65, 3) := by decide +kernel
theorem dX2_faults_5 : decode cX2_faults 5 = .ok (.getfield 116, 3) := by decide +kernel
theorem dX2_faults_8 : decode cX2_faults 8 = .ok (.ireturn, 1) := by decide +kernel
set_option maxRecDepth 20000 in
theorem ggX2_begin_X2_checkRange : GoodIn wsX2_begin wsX2_checkRange := goodIn_ca (goodIn_r _ [11, 12, 13] (by decide +kernel) (by decide +kernel)) (goodIn_sub (fun _ h => List.mem_cons_of_mem _ (List.mem_append_left _ (List.mem_append_right _ h))) (by decide +kernel))
set_option maxRecDepth 20000 in
theorem gX2_begin_X2_checkRange : GoodIn wsX2_begin (wsV RX2 42 RX2 yX2_checkRange wsX2_checkRange) := goodIn_app (goodIn_of _ (by decide +kernel)) ggX2_begin_X2_checkRange
set_option maxRecDepth 20000 in
theorem ggX2_begin_X2_checkNoStart : GoodIn wsX2_begin wsX2_checkNoStart := goodIn_ca (goodIn_r _ [17, 18, 19, 5, 101, 102, 103, 104, 105, 106, 107] (by decide +kernel) (by decide +kernel)) (goodIn_sub (fun _ h => List.mem_cons_of_mem _ (List.mem_append_right _ h)) (by decide +kernel))
set_option maxRecDepth 20000 in
theorem gX2_begin_X2_checkNoStart : GoodIn wsX2_begin (wsV RX2 53 RX2 yX2_checkNoStart wsX2_checkNoStart) := goodIn_app (goodIn_of _ (by decide +kernel)) ggX2_begin_X2_checkNoStart
set_option maxRecDepth 20000 in
theorem ggX2_begin_X2_cutLoops : GoodIn wsX2_begin wsX2_cutLoops := goodIn_r _ [23, 24, 25, 26, 27, 28, 29, 30, 31, 32, 10, 33, 34, 35, 36, 37, 38, 39, 40, 41, 42, 43, 44, 45, 46, 47, 48, 49, 50, 51, 52, 53, 54, 55, 56, 57, 58, 59, 60, 61, 62, 63, 64, 65, 66, 3, 4, 67, 68, 69, 70, 71, 101, 102, 103, 104, 105, 106, 107, 108, 109, 110, 111, 112, 113, 114, 115, 116, 117, 118, 119, 120, 121, 122, 123, 124, 125, 126] (by decide +kernel) (by decide +kernel)
set_option maxRecDepth 20000 in
theorem gX2_begin_X2_cutLoops : GoodIn wsX2_begin (wsV RX2 122 RX2 yX2_cutLoops wsX2_cutLoops) := goodIn_app (goodIn_of _ (by decide +kernel)) ggX2_begin_X2_cutLoops
set_option maxRecDepth 20000 in
theorem ggX2_begin_X0_resetForStart : GoodIn wsX2_begin wsX0_resetForStart := goodIn_r _ [75, 76, 77, 78, 79, 80, 111, 112, 113, 114, 115, 116, 117, 118, 119, 120, 121, 122, 123] (by decide +kernel) (by decide +kernel)
set_option maxRecDepth 20000 in
theorem gX2_begin_X0_resetForStart : GoodIn wsX2_begin (wsV RX2 125 RX0 yX0_resetForStart wsX0_resetForStart) := goodIn_app (goodIn_of _ (by decide +kernel)) ggX2_begin_X0_resetForStart
set_option maxRecDepth 20000 in
theorem ggX2_begin_X2_raiseBar : GoodIn wsX2_begin wsX2_raiseBar := goodIn_r _ [84, 5, 2, 6, 85, 86, 87, 88, 89, 90, 91, 10, 92, 3, 4, 93, 94, 95, 60, 96, 77, 80, 97, 98, 99, 100, 101, 102, 103, 104, 105, 106, 107, 111, 112, 113, 114, 115, 116, 117, 118, 119, 120, 121, 122, 123] (by decide +kernel) (by decide +kernel)
set_option maxRecDepth 20000 in
theorem gX2_begin_X2_raiseBar : GoodIn wsX2_begin (wsV RX2 128 RX2 yX2_raiseBar wsX2_raiseBar) := goodIn_app (goodIn_of _ (by decide +kernel)) ggX2_begin_X2_raiseBar
theorem dX2_begin_0 : decode cX2_begin 0 = .ok (.aload_n 0, 1) := by decide +kernel
theorem dX2_begin_1 : decode cX2_begin 1 = .ok (.iload_n 1, 1) := by decide +kernel
theorem dX2_begin_2 : decode cX2_begin 2 = .ok (.iconst 1, 1) := by decide +kernel
theorem dX2_begin_3 : decode cX2_begin 3 = .ok (.bipush 20, 2) := by decide +kernel
theorem dX2_begin_5 : decode cX2_begin 5 = .ok (.invokevirtual 42, 3) := by decide +kernel
theorem dX2_begin_8 : decode cX2_begin 8 = .ok (.aload_n 0, 1) := by decide +kernel
theorem dX2_begin_9 : decode cX2_begin 9 = .ok (.invokevirtual 53, 3) := by decide +kernel
theorem dX2_begin_12 : decode cX2_begin 12 = .ok (.aload_n 0, 1) := by decide +kernel
theorem dX2_begin_13 : decode cX2_begin 13 = .ok (.iload_n 1, 1) := by decide +kernel
theorem dX2_begin_14 : decode cX2_begin 14 = .ok (.putfield 30, 3) := by decide +kernel
theorem dX2_begin_17 : decode cX2_begin 17 = .ok (.aload_n 0, 1) := by decide +kernel
theorem dX2_begin_18 : decode cX2_begin 18 = .ok (.invokevirtual 122, 3) := by decide +kernel
theorem dX2_begin_21 : decode cX2_begin 21 = .ok (.istore_n 2, 1) := by decide +kernel
theorem dX2_begin_22 : decode cX2_begin 22 = .ok (.aload_n 0, 1) := by decide +kernel
theorem dX2_begin_23 : decode cX2_begin 23 = .ok (.iconst 0, 1) := by decide +kernel
theorem dX2_begin_24 : decode cX2_begin 24 = .ok (.putfield 33, 3) := by decide +kernel
theorem dX2_begin_27 : decode cX2_begin 27 = .ok (.iconst 0, 1) := by decide +kernel
theorem dX2_begin_28 : decode cX2_begin 28 = .ok (.istore_n 3, 1) := by decide +kernel
theorem dX2_begin_29 : decode cX2_begin 29 = .ok (.iload_n 3, 1) := by decide +kernel
theorem dX2_begin_30 : decode cX2_begin 30 = .ok (.aload_n 0, 1) := by decide +kernel
theorem dX2_begin_31 : decode cX2_begin 31 = .ok (.getfield 15, 3) := by decide +kernel
theorem dX2_begin_34 : decode cX2_begin 34 = .ok (.if_icmp .ge 27, 3) := by decide +kernel
theorem dX2_begin_37 : decode cX2_begin 37 = .ok (.aload_n 0, 1) := by decide +kernel
theorem dX2_begin_38 : decode cX2_begin 38 = .ok (.dup, 1) := by decide +kernel
theorem dX2_begin_39 : decode cX2_begin 39 = .ok (.getfield 33, 3) := by decide +kernel
theorem dX2_begin_42 : decode cX2_begin 42 = .ok (.aload_n 0, 1) := by decide +kernel
theorem dX2_begin_43 : decode cX2_begin 43 = .ok (.getfield 11, 3) := by decide +kernel
theorem dX2_begin_46 : decode cX2_begin 46 = .ok (.iload_n 3, 1) := by decide +kernel
theorem dX2_begin_47 : decode cX2_begin 47 = .ok (.aaload, 1) := by decide +kernel
theorem dX2_begin_48 : decode cX2_begin 48 = .ok (.invokevirtual 125, 3) := by decide +kernel
theorem dX2_begin_51 : decode cX2_begin 51 = .ok (.iadd, 1) := by decide +kernel
theorem dX2_begin_52 : decode cX2_begin 52 = .ok (.putfield 33, 3) := by decide +kernel
theorem dX2_begin_55 : decode cX2_begin 55 = .ok (.iinc 3 1, 3) := by decide +kernel
theorem dX2_begin_58 : decode cX2_begin 58 = .ok (.goto (-29), 3) := by decide +kernel
theorem dX2_begin_61 : decode cX2_begin 61 = .ok (.aload_n 0, 1) := by decide +kernel
theorem dX2_begin_62 : decode cX2_begin 62 = .ok (.iconst 1, 1) := by decide +kernel
theorem dX2_begin_63 : decode cX2_begin 63 = .ok (.putfield 26, 3) := by decide +kernel
theorem dX2_begin_66 : decode cX2_begin 66 = .ok (.aload_n 0, 1) := by decide +kernel
theorem dX2_begin_67 : decode cX2_begin 67 = .ok (.iconst 0, 1) := by decide +kernel
theorem dX2_begin_68 : decode cX2_begin 68 = .ok (.putfield 36, 3) := by decide +kernel
theorem dX2_begin_71 : decode cX2_begin 71 = .ok (.aload_n 0, 1) := by decide +kernel
theorem dX2_begin_72 : decode cX2_begin 72 = .ok (.invokevirtual 128, 3) := by decide +kernel
theorem dX2_begin_75 : decode cX2_begin 75 = .ok (.iload_n 2, 1) := by decide +kernel
theorem dX2_begin_76 : decode cX2_begin 76 = .ok (.ireturn, 1) := by decide +kernel
set_option maxRecDepth 20000 in
theorem ggX2_tick_X2_checkRange : GoodIn wsX2_tick wsX2_checkRange := goodIn_ca (goodIn_r _ [8, 9, 10] (by decide +kernel) (by decide +kernel)) (goodIn_sub (fun _ h => List.mem_cons_of_mem _ (List.mem_append_right _ h)) (by decide +kernel))
set_option maxRecDepth 20000 in
theorem gX2_tick_X2_checkRange : GoodIn wsX2_tick (wsV RX2 42 RX2 yX2_checkRange wsX2_checkRange) := goodIn_app (goodIn_of _ (by decide +kernel)) ggX2_tick_X2_checkRange
set_option maxRecDepth 20000 in
theorem ggX2_tick_X2_passOneTick : GoodIn wsX2_tick wsX2_passOneTick := goodIn_r _ [14, 3, 15, 16, 17, 7, 18, 19, 20, 21, 22, 23, 24, 25, 26, 27, 28, 29, 30, 31, 32, 33, 34, 35, 36, 37, 38, 39, 40, 41, 42, 43, 44, 45, 46, 47, 48, 49, 50, 51, 52, 53, 54, 55, 56, 57, 58, 59, 60, 61, 62, 63, 64, 65, 66, 67, 68, 69, 70, 71, 72, 73, 74, 75, 76, 77, 78, 79, 80, 81, 82, 83, 84, 85, 86, 87, 88, 89, 90, 91, 92, 93, 94, 95, 96, 97, 98, 99, 100, 101, 102, 103, 104, 105, 106, 107, 108, 109, 110, 111, 112, 113, 114, 115, 116, 117, 118, 119, 120, 121, 122, 123, 124, 125, 126, 127] (by decide +kernel) (by decide +kernel)
set_option maxRecDepth 20000 in
theorem gX2_tick_X2_passOneTick : GoodIn wsX2_tick (wsV RX2 133 RX2 yX2_passOneTick wsX2_passOneTick) := goodIn_app (goodIn_of _ (by decide +kernel)) ggX2_tick_X2_passOneTick
theorem dX2_tick_0 : decode cX2_tick 0 = .ok (.aload_n 0, 1) := by decide +kernel
theorem dX2_tick_1 : decode cX2_tick 1 = .ok (.iload_n 1, 1) := by decide +kernel
theorem dX2_tick_2 : decode cX2_tick 2 = .ok (.iconst 1, 1) := by decide +kernel
theorem dX2_tick_3 : decode cX2_tick 3 = .ok (.sipush 200, 3) := by decide +kernel
theorem dX2_tick_6 : decode cX2_tick 6 = .ok (.invokevirtual 42, 3) := by decide +kernel
theorem dX2_tick_9 : decode cX2_tick 9 = .ok (.aload_n 0, 1) := by decide +kernel
theorem dX2_tick_10 : decode cX2_tick 10 = .ok (.getfield 26, 3) := by decide +kernel
theorem dX2_tick_13 : decode cX2_tick 13 = .ok (.ifCond .ne 13, 3) := by decide +kernel
theorem dX2_tick_16 : decode cX2_tick 16 = .ok (.new 46, 3) := by decide +kernel
theorem dX2_tick_19 : decode cX2_tick 19 = .ok (.dup, 1) := by decide +kernel
theorem dX2_tick_20 : decode cX2_tick 20 = .ok (.ldc 131, 2) := by decide +kernel
theorem dX2_tick_22 : decode cX2_tick 22 = .ok (.invokespecial 50, 3) := by decide +kernel
theorem dX2_tick_25 : decode cX2_tick 25 = .ok (.athrow, 1) := by decide +kernel
theorem dX2_tick_26 : decode cX2_tick 26 = .ok (.iconst 0, 1) := by decide +kernel
theorem dX2_tick_27 : decode cX2_tick 27 = .ok (.istore_n 2, 1) := by decide +kernel
theorem dX2_tick_28 : decode cX2_tick 28 = .ok (.iload_n 2, 1) := by decide +kernel
theorem dX2_tick_29 : decode cX2_tick 29 = .ok (.iload_n 1, 1) := by decide +kernel
theorem dX2_tick_30 : decode cX2_tick 30 = .ok (.if_icmp .ge 20, 3) := by decide +kernel
theorem dX2_tick_33 : decode cX2_tick 33 = .ok (.aload_n 0, 1) := by decide +kernel
theorem dX2_tick_34 : decode cX2_tick 34 = .ok (.getfield 26, 3) := by decide +kernel
theorem dX2_tick_37 : decode cX2_tick 37 = .ok (.ifCond .eq 13, 3) := by decide +kernel
theorem dX2_tick_40 : decode cX2_tick 40 = .ok (.aload_n 0, 1) := by decide +kernel
theorem dX2_tick_41 : decode cX2_tick 41 = .ok (.invokevirtual 133, 3) := by decide +kernel
theorem dX2_tick_44 : decode cX2_tick 44 = .ok (.iinc 2 1, 3) := by decide +kernel
theorem dX2_tick_47 : decode cX2_tick 47 = .ok (.goto (-19), 3) := by decide +kernel
theorem dX2_tick_50 : decode cX2_tick 50 = .ok (.iload_n 2, 1) := by decide +kernel
theorem dX2_tick_51 : decode cX2_tick 51 = .ok (.ireturn, 1) := by decide +kernel
theorem dX2_goesOn_0 : decode cX2_goesOn 0 = .ok (.aload_n 0, 1) := by decide +kernel
theorem dX2_goesOn_1 : decode cX2_goesOn 1 = .ok (.getfield 26, 3) := by decide +kernel
theorem dX2_goesOn_4 : decode cX2_goesOn 4 = .ok (.ireturn, 1) := by decide +kernel
set_option maxRecDepth 20000 in
theorem ggX2_state_X2_unitAt : GoodIn wsX2_state wsX2_unitAt := goodIn_ca (goodIn_r _ [6, 7, 8, 9, 10, 24, 25, 26, 27, 28, 29, 30] (by decide +kernel) (by decide +kernel)) (goodIn_sub (fun _ h => List.mem_cons_of_mem _ (List.mem_append_right _ h)) (by decide +kernel))
set_option maxRecDepth 20000 in
theorem gX2_state_X2_unitAt : GoodIn wsX2_state (wsV RX2 65 RX2 yX2_unitAt wsX2_unitAt) := goodIn_app (goodIn_of _ (by decide +kernel)) ggX2_state_X2_unitAt
theorem dX2_state_0 : decode cX2_state 0 = .ok (.aload_n 0, 1) := by decide +kernel
theorem dX2_state_1 : decode cX2_state 1 = .ok (.iload_n 1, 1) := by decide +kernel
theorem dX2_state_2 : decode cX2_state 2 = .ok (.invokevirtual 65, 3) := by decide +kernel
theorem dX2_state_5 : decode cX2_state 5 = .ok (.getfield 136, 3) := by decide +kernel
theorem dX2_state_8 : decode cX2_state 8 = .ok (.ireturn, 1) := by decide +kernel
set_option maxRecDepth 20000 in
theorem ggX2_waitsFor_X2_unitAt : GoodIn wsX2_waitsFor wsX2_unitAt := goodIn_ca (goodIn_r _ [8, 9, 10, 2, 3, 58, 59, 60, 61, 62, 63, 64] (by decide +kernel) (by decide +kernel)) (goodIn_sub (fun _ h => List.mem_cons_of_mem _ (List.mem_append_right _ h)) (by decide +kernel))
set_option maxRecDepth 20000 in
theorem gX2_waitsFor_X2_unitAt : GoodIn wsX2_waitsFor (wsV RX2 65 RX2 yX2_unitAt wsX2_unitAt) := goodIn_app (goodIn_of _ (by decide +kernel)) ggX2_waitsFor_X2_unitAt
set_option maxRecDepth 20000 in
theorem ggX2_waitsFor_X2_isAwaited : GoodIn wsX2_waitsFor wsX2_isAwaited := goodIn_r _ [14, 15, 16, 17, 18, 19, 7, 20, 21, 22, 23, 24, 25, 26, 27, 28, 29, 30, 31, 32, 33, 34, 35, 36, 37, 38, 39, 40, 41, 42, 43, 44, 45, 46, 47, 48, 49, 50, 51, 52, 53, 54, 55, 56, 57] (by decide +kernel) (by decide +kernel)
set_option maxRecDepth 20000 in
theorem gX2_waitsFor_X2_isAwaited : GoodIn wsX2_waitsFor (wsV RX2 139 RX2 yX2_isAwaited wsX2_isAwaited) := goodIn_app (goodIn_of _ (by decide +kernel)) ggX2_waitsFor_X2_isAwaited
theorem dX2_waitsFor_0 : decode cX2_waitsFor 0 = .ok (.aload_n 0, 1) := by decide +kernel
theorem dX2_waitsFor_1 : decode cX2_waitsFor 1 = .ok (.iload_n 1, 1) := by decide +kernel
theorem dX2_waitsFor_2 : decode cX2_waitsFor 2 = .ok (.invokevirtual 65, 3) := by decide +kernel
theorem dX2_waitsFor_5 : decode cX2_waitsFor 5 = .ok (.astore_n 2, 1) := by decide +kernel
theorem dX2_waitsFor_6 : decode cX2_waitsFor 6 = .ok (.aload_n 2, 1) := by decide +kernel
theorem dX2_waitsFor_7 : decode cX2_waitsFor 7 = .ok (.getfield 136, 3) := by decide +kernel
theorem dX2_waitsFor_10 : decode cX2_waitsFor 10 = .ok (.ifCond .eq 5, 3) := by decide +kernel
theorem dX2_waitsFor_13 : decode cX2_waitsFor 13 = .ok (.iconst (-1), 1) := by decide +kernel
theorem dX2_waitsFor_14 : decode cX2_waitsFor 14 = .ok (.ireturn, 1) := by decide +kernel
theorem dX2_waitsFor_15 : decode cX2_waitsFor 15 = .ok (.iconst 0, 1) := by decide +kernel
theorem dX2_waitsFor_16 : decode cX2_waitsFor 16 = .ok (.istore_n 3, 1) := by decide +kernel
theorem dX2_waitsFor_17 : decode cX2_waitsFor 17 = .ok (.iload_n 3, 1) := by decide +kernel
theorem dX2_waitsFor_18 : decode cX2_waitsFor 18 = .ok (.aload_n 0, 1) := by decide +kernel
theorem dX2_waitsFor_19 : decode cX2_waitsFor 19 = .ok (.getfield 15, 3) := by decide +kernel
theorem dX2_waitsFor_22 : decode cX2_waitsFor 22 = .ok (.if_icmp .ge 25, 3) := by decide +kernel
theorem dX2_waitsFor_25 : decode cX2_waitsFor 25 = .ok (.aload_n 0, 1) := by decide +kernel
theorem dX2_waitsFor_26 : decode cX2_waitsFor 26 = .ok (.aload_n 0, 1) := by decide +kernel
theorem dX2_waitsFor_27 : decode cX2_waitsFor 27 = .ok (.getfield 11, 3) := by decide +kernel
theorem dX2_waitsFor_30 : decode cX2_waitsFor 30 = .ok (.iload_n 3, 1) := by decide +kernel
theorem dX2_waitsFor_31 : decode cX2_waitsFor 31 = .ok (.aaload, 1) := by decide +kernel
theorem dX2_waitsFor_32 : decode cX2_waitsFor 32 = .ok (.aload_n 2, 1) := by decide +kernel
theorem dX2_waitsFor_33 : decode cX2_waitsFor 33 = .ok (.invokevirtual 139, 3) := by decide +kernel
theorem dX2_waitsFor_36 : decode cX2_waitsFor 36 = .ok (.ifCond .eq 5, 3) := by decide +kernel
theorem dX2_waitsFor_39 : decode cX2_waitsFor 39 = .ok (.iload_n 3, 1) := by decide +kernel
theorem dX2_waitsFor_40 : decode cX2_waitsFor 40 = .ok (.ireturn, 1) := by decide +kernel
theorem dX2_waitsFor_41 : decode cX2_waitsFor 41 = .ok (.iinc 3 1, 3) := by decide +kernel
theorem dX2_waitsFor_44 : decode cX2_waitsFor 44 = .ok (.goto (-27), 3) := by decide +kernel
theorem dX2_waitsFor_47 : decode cX2_waitsFor 47 = .ok (.iconst (-1), 1) := by decide +kernel
theorem dX2_waitsFor_48 : decode cX2_waitsFor 48 = .ok (.ireturn, 1) := by decide +kernel
theorem dX2_bar_0 : decode cX2_bar 0 = .ok (.aload_n 0, 1) := by decide +kernel
theorem dX2_bar_1 : decode cX2_bar 1 = .ok (.getfield 36, 3) := by decide +kernel
theorem dX2_bar_4 : decode cX2_bar 4 = .ok (.ireturn, 1) := by decide +kernel
set_option maxRecDepth 20000 in
theorem ggX2_ready_X0_bit : GoodIn wsX2_ready wsX0_bit := goodIn_r _ [8, 9, 17, 18, 19, 20, 21, 22, 23, 24, 25, 26, 27, 28, 29] (by decide +kernel) (by decide +kernel)
set_option maxRecDepth 20000 in
theorem gX2_ready_X0_bit : GoodIn wsX2_ready (wsV RX2 82 RX0 yX0_bit wsX0_bit) := goodIn_app (goodIn_of _ (by decide +kernel)) ggX2_ready_X0_bit
theorem dX2_ready_0 : decode cX2_ready 0 = .ok (.iconst 0, 1) := by decide +kernel
theorem dX2_ready_1 : decode cX2_ready 1 = .ok (.istore_n 1, 1) := by decide +kernel
theorem dX2_ready_2 : decode cX2_ready 2 = .ok (.iconst 0, 1) := by decide +kernel
theorem dX2_ready_3 : decode cX2_ready 3 = .ok (.istore_n 2, 1) := by decide +kernel
theorem dX2_ready_4 : decode cX2_ready 4 = .ok (.iload_n 2, 1) := by decide +kernel
theorem dX2_ready_5 : decode cX2_ready 5 = .ok (.aload_n 0, 1) := by decide +kernel
theorem dX2_ready_6 : decode cX2_ready 6 = .ok (.getfield 15, 3) := by decide +kernel
theorem dX2_ready_9 : decode cX2_ready 9 = .ok (.if_icmp .ge 38, 3) := by decide +kernel
theorem dX2_ready_12 : decode cX2_ready 12 = .ok (.iload_n 1, 1) := by decide +kernel
theorem dX2_ready_13 : decode cX2_ready 13 = .ok (.aload_n 0, 1) := by decide +kernel
theorem dX2_ready_14 : decode cX2_ready 14 = .ok (.getfield 11, 3) := by decide +kernel
theorem dX2_ready_17 : decode cX2_ready 17 = .ok (.iload_n 2, 1) := by decide +kernel
theorem dX2_ready_18 : decode cX2_ready 18 = .ok (.aaload, 1) := by decide +kernel
theorem dX2_ready_19 : decode cX2_ready 19 = .ok (.getfield 136, 3) := by decide +kernel
theorem dX2_ready_22 : decode cX2_ready 22 = .ok (.iconst 2, 1) := by decide +kernel
theorem dX2_ready_23 : decode cX2_ready 23 = .ok (.if_icmp .ne 15, 3) := by decide +kernel
theorem dX2_ready_26 : decode cX2_ready 26 = .ok (.aload_n 0, 1) := by decide +kernel
theorem dX2_ready_27 : decode cX2_ready 27 = .ok (.getfield 11, 3) := by decide +kernel
theorem dX2_ready_30 : decode cX2_ready 30 = .ok (.iload_n 2, 1) := by decide +kernel
theorem dX2_ready_31 : decode cX2_ready 31 = .ok (.aaload, 1) := by decide +kernel
theorem dX2_ready_32 : decode cX2_ready 32 = .ok (.invokevirtual 82, 3) := by decide +kernel
theorem dX2_ready_35 : decode cX2_ready 35 = .ok (.goto 4, 3) := by decide +kernel
theorem dX2_ready_38 : decode cX2_ready 38 = .ok (.iconst 0, 1) := by decide +kernel
theorem dX2_ready_39 : decode cX2_ready 39 = .ok (.ior, 1) := by decide +kernel
theorem dX2_ready_40 : decode cX2_ready 40 = .ok (.istore_n 1, 1) := by decide +kernel
theorem dX2_ready_41 : decode cX2_ready 41 = .ok (.iinc 2 1, 3) := by decide +kernel
theorem dX2_ready_44 : decode cX2_ready 44 = .ok (.goto (-40), 3) := by decide +kernel
theorem dX2_ready_47 : decode cX2_ready 47 = .ok (.iload_n 1, 1) := by decide +kernel
theorem dX2_ready_48 : decode cX2_ready 48 = .ok (.ireturn, 1) := by decide +kernel
set_option maxRecDepth 20000 in
theorem ggX2_canRun_X2_ableAlone : GoodIn wsX2_canRun wsX2_ableAlone := goodIn_r _ [6, 1, 7, 8, 9, 10, 11, 12, 13, 14, 15, 16, 27, 28, 29, 30, 31, 32, 33, 34, 35, 36, 37, 38, 39, 40, 41, 42, 43, 44, 45, 46] (by decide +kernel) (by decide +kernel)
set_option maxRecDepth 20000 in
theorem gX2_canRun_X2_ableAlone : GoodIn wsX2_canRun (wsV RX2 143 RX2 yX2_ableAlone wsX2_ableAlone) := goodIn_app (goodIn_of _ (by decide +kernel)) ggX2_canRun_X2_ableAlone
set_option maxRecDepth 20000 in
theorem ggX2_canRun_X2_keepSupplied : GoodIn wsX2_canRun wsX2_keepSupplied := goodIn_r _ [20, 1, 7, 21, 22, 23, 24, 25, 5, 26, 11, 12, 13, 14, 15, 16, 27, 28, 29, 30, 31, 32, 33, 34, 35, 36, 37, 38, 39, 40, 41, 42, 43, 44, 45, 46] (by decide +kernel) (by decide +kernel)
set_option maxRecDepth 20000 in
theorem gX2_canRun_X2_keepSupplied : GoodIn wsX2_canRun (wsV RX2 146 RX2 yX2_keepSupplied wsX2_keepSupplied) := goodIn_app (goodIn_of _ (by decide +kernel)) ggX2_canRun_X2_keepSupplied
theorem dX2_canRun_0 : decode cX2_canRun 0 = .ok (.aload_n 0, 1) := by decide +kernel
theorem dX2_canRun_1 : decode cX2_canRun 1 = .ok (.invokevirtual 143, 3) := by decide +kernel
theorem dX2_canRun_4 : decode cX2_canRun 4 = .ok (.istore_n 1, 1) := by decide +kernel
theorem dX2_canRun_5 : decode cX2_canRun 5 = .ok (.iconst 0, 1) := by decide +kernel
theorem dX2_canRun_6 : decode cX2_canRun 6 = .ok (.istore_n 2, 1) := by decide +kernel
theorem dX2_canRun_7 : decode cX2_canRun 7 = .ok (.iconst 0, 1) := by decide +kernel
theorem dX2_canRun_8 : decode cX2_canRun 8 = .ok (.istore_n 3, 1) := by decide +kernel
theorem dX2_canRun_9 : decode cX2_canRun 9 = .ok (.iload_n 3, 1) := by decide +kernel
theorem dX2_canRun_10 : decode cX2_canRun 10 = .ok (.aload_n 0, 1) := by decide +kernel
theorem dX2_canRun_11 : decode cX2_canRun 11 = .ok (.getfield 15, 3) := by decide +kernel
theorem dX2_canRun_14 : decode cX2_canRun 14 = .ok (.if_icmp .gt 22, 3) := by decide +kernel
theorem dX2_canRun_17 : decode cX2_canRun 17 = .ok (.iload_n 1, 1) := by decide +kernel
theorem dX2_canRun_18 : decode cX2_canRun 18 = .ok (.iload_n 2, 1) := by decide +kernel
theorem dX2_canRun_19 : decode cX2_canRun 19 = .ok (.if_icmp .eq 17, 3) := by decide +kernel
theorem dX2_canRun_22 : decode cX2_canRun 22 = .ok (.iload_n 1, 1) := by decide +kernel
theorem dX2_canRun_23 : decode cX2_canRun 23 = .ok (.istore_n 2, 1) := by decide +kernel
theorem dX2_canRun_24 : decode cX2_canRun 24 = .ok (.aload_n 0, 1) := by decide +kernel
theorem dX2_canRun_25 : decode cX2_canRun 25 = .ok (.iload_n 1, 1) := by decide +kernel
theorem dX2_canRun_26 : decode cX2_canRun 26 = .ok (.invokevirtual 146, 3) := by decide +kernel
theorem dX2_canRun_29 : decode cX2_canRun 29 = .ok (.istore_n 1, 1) := by decide +kernel
theorem dX2_canRun_30 : decode cX2_canRun 30 = .ok (.iinc 3 1, 3) := by decide +kernel
theorem dX2_canRun_33 : decode cX2_canRun 33 = .ok (.goto (-24), 3) := by decide +kernel
theorem dX2_canRun_36 : decode cX2_canRun 36 = .ok (.iload_n 1, 1) := by decide +kernel
theorem dX2_canRun_37 : decode cX2_canRun 37 = .ok (.ireturn, 1) := by decide +kernel
theorem dX2_unitAt_0 : decode cX2_unitAt 0 = .ok (.iload_n 1, 1) := by decide +kernel
theorem dX2_unitAt_1 : decode cX2_unitAt 1 = .ok (.ifCond .lt 11, 3) := by decide +kernel
theorem dX2_unitAt_4 : decode cX2_unitAt 4 = .ok (.iload_n 1, 1) := by decide +kernel
theorem dX2_unitAt_5 : decode cX2_unitAt 5 = .ok (.aload_n 0, 1) := by decide +kernel
theorem dX2_unitAt_6 : decode cX2_unitAt 6 = .ok (.getfield 15, 3) := by decide +kernel
theorem dX2_unitAt_9 : decode cX2_unitAt 9 = .ok (.if_icmp .lt 13, 3) := by decide +kernel
theorem dX2_unitAt_12 : decode cX2_unitAt 12 = .ok (.new 150, 3) := by decide +kernel
theorem dX2_unitAt_15 : decode cX2_unitAt 15 = .ok (.dup, 1) := by decide +kernel
theorem dX2_unitAt_16 : decode cX2_unitAt 16 = .ok (.ldc 152, 2) := by decide +kernel
theorem dX2_unitAt_18 : decode cX2_unitAt 18 = .ok (.invokespecial 154, 3) := by decide +kernel
theorem dX2_unitAt_21 : decode cX2_unitAt 21 = .ok (.athrow, 1) := by decide +kernel
theorem dX2_unitAt_22 : decode cX2_unitAt 22 = .ok (.aload_n 0, 1) := by decide +kernel
theorem dX2_unitAt_23 : decode cX2_unitAt 23 = .ok (.getfield 11, 3) := by decide +kernel
theorem dX2_unitAt_26 : decode cX2_unitAt 26 = .ok (.iload_n 1, 1) := by decide +kernel
theorem dX2_unitAt_27 : decode cX2_unitAt 27 = .ok (.aaload, 1) := by decide +kernel
theorem dX2_unitAt_28 : decode cX2_unitAt 28 = .ok (.areturn, 1) := by decide +kernel
theorem dX2_checkRange_0 : decode cX2_checkRange 0 = .ok (.iload_n 1, 1) := by decide +kernel
theorem dX2_checkRange_1 : decode cX2_checkRange 1 = .ok (.iload_n 2, 1) := by decide +kernel
theorem dX2_checkRange_2 : decode cX2_checkRange 2 = .ok (.if_icmp .lt 8, 3) := by decide +kernel
theorem dX2_checkRange_5 : decode cX2_checkRange 5 = .ok (.iload_n 1, 1) := by decide +kernel
theorem dX2_checkRange_6 : decode cX2_checkRange 6 = .ok (.iload_n 3, 1) := by decide +kernel
theorem dX2_checkRange_7 : decode cX2_checkRange 7 = .ok (.if_icmp .le 13, 3) := by decide +kernel
theorem dX2_checkRange_10 : decode cX2_checkRange 10 = .ok (.new 155, 3) := by decide +kernel
theorem dX2_checkRange_13 : decode cX2_checkRange 13 = .ok (.dup, 1) := by decide +kernel
theorem dX2_checkRange_14 : decode cX2_checkRange 14 = .ok (.ldc 157, 2) := by decide +kernel
theorem dX2_checkRange_16 : decode cX2_checkRange 16 = .ok (.invokespecial 159, 3) := by decide +kernel
theorem dX2_checkRange_19 : decode cX2_checkRange 19 = .ok (.athrow, 1) := by decide +kernel
theorem dX2_checkRange_20 : decode cX2_checkRange 20 = .ok (.return_, 1) := by decide +kernel
theorem dX2_checkDifferent_0 : decode cX2_checkDifferent 0 = .ok (.aload_n 1, 1) := by decide +kernel
theorem dX2_checkDifferent_1 : decode cX2_checkDifferent 1 = .ok (.aload_n 2, 1) := by decide +kernel
theorem dX2_checkDifferent_2 : decode cX2_checkDifferent 2 = .ok (.if_acmp .ne 13, 3) := by decide +kernel
theorem dX2_checkDifferent_5 : decode cX2_checkDifferent 5 = .ok (.new 155, 3) := by decide +kernel
theorem dX2_checkDifferent_8 : decode cX2_checkDifferent 8 = .ok (.dup, 1) := by decide +kernel
theorem dX2_checkDifferent_9 : decode cX2_checkDifferent 9 = .ok (.ldc 160, 2) := by decide +kernel
theorem dX2_checkDifferent_11 : decode cX2_checkDifferent 11 = .ok (.invokespecial 159, 3) := by decide +kernel
theorem dX2_checkDifferent_14 : decode cX2_checkDifferent 14 = .ok (.athrow, 1) := by decide +kernel
theorem dX2_checkDifferent_15 : decode cX2_checkDifferent 15 = .ok (.return_, 1) := by decide +kernel
theorem dX2_checkNoStart_0 : decode cX2_checkNoStart 0 = .ok (.aload_n 0, 1) := by decide +kernel
theorem dX2_checkNoStart_1 : decode cX2_checkNoStart 1 = .ok (.getfield 26, 3) := by decide +kernel
theorem dX2_checkNoStart_4 : decode cX2_checkNoStart 4 = .ok (.ifCond .eq 13, 3) := by decide +kernel
theorem dX2_checkNoStart_7 : decode cX2_checkNoStart 7 = .ok (.new 46, 3) := by decide +kernel
theorem dX2_checkNoStart_10 : decode cX2_checkNoStart 10 = .ok (.dup, 1) := by decide +kernel
theorem dX2_checkNoStart_11 : decode cX2_checkNoStart 11 = .ok (.ldc 162, 2) := by decide +kernel
theorem dX2_checkNoStart_13 : decode cX2_checkNoStart 13 = .ok (.invokespecial 50, 3) := by decide +kernel
theorem dX2_checkNoStart_16 : decode cX2_checkNoStart 16 = .ok (.athrow, 1) := by decide +kernel
theorem dX2_checkNoStart_17 : decode cX2_checkNoStart 17 = .ok (.return_, 1) := by decide +kernel
set_option maxRecDepth 20000 in
theorem ggX2_contains_X0_bit : GoodIn wsX2_contains wsX0_bit := goodIn_r _ [5, 6, 7, 8, 9, 10, 11, 12, 13, 14, 15, 16, 17, 18, 19] (by decide +kernel) (by decide +kernel)
set_option maxRecDepth 20000 in
theorem gX2_contains_X0_bit : GoodIn wsX2_contains (wsV RX2 82 RX0 yX0_bit wsX0_bit) := goodIn_app (goodIn_of _ (by decide +kernel)) ggX2_contains_X0_bit
theorem dX2_contains_0 : decode cX2_contains 0 = .ok (.iload_n 1, 1) := by decide +kernel
theorem dX2_contains_1 : decode cX2_contains 1 = .ok (.aload_n 2, 1) := by decide +kernel
theorem dX2_contains_2 : decode cX2_contains 2 = .ok (.invokevirtual 82, 3) := by decide +kernel
theorem dX2_contains_5 : decode cX2_contains 5 = .ok (.iand, 1) := by decide +kernel
theorem dX2_contains_6 : decode cX2_contains 6 = .ok (.ifCond .eq 7, 3) := by decide +kernel
theorem dX2_contains_9 : decode cX2_contains 9 = .ok (.iconst 1, 1) := by decide +kernel
theorem dX2_contains_10 : decode cX2_contains 10 = .ok (.goto 4, 3) := by decide +kernel
theorem dX2_contains_13 : decode cX2_contains 13 = .ok (.iconst 0, 1) := by decide +kernel
theorem dX2_contains_14 : decode cX2_contains 14 = .ok (.ireturn, 1) := by decide +kernel
set_option maxRecDepth 20000 in
theorem ggX2_findWish_Jx4a65c_size_8abf5 : GoodIn wsX2_findWish wsJx4a65c_size_8abf5 := goodIn_r _ [9, 10, 38, 39, 40] (by decide +kernel) (by decide +kernel)
set_option maxRecDepth 20000 in
theorem gX2_findWish_Jx4a65c_size_8abf5 : GoodIn wsX2_findWish (wsV RX2 164 RJx4a65c yJx4a65c_size_8abf5 wsJx4a65c_size_8abf5) := goodIn_app (goodIn_of _ (by decide +kernel)) ggX2_findWish_Jx4a65c_size_8abf5
set_option maxRecDepth 20000 in
theorem ggX2_findWish_Jx4a65c_get_915e3 : GoodIn wsX2_findWish wsJx4a65c_get_915e3 := goodIn_r _ [14, 10, 15, 16, 17, 18, 19, 20, 21, 22, 23, 24, 25, 8, 26, 27, 38, 39, 40] (by decide +kernel) (by decide +kernel)
set_option maxRecDepth 20000 in
theorem gX2_findWish_Jx4a65c_get_915e3 : GoodIn wsX2_findWish (wsV RX2 167 RJx4a65c yJx4a65c_get_915e3 wsJx4a65c_get_915e3) := goodIn_app (goodIn_of _ (by decide +kernel)) ggX2_findWish_Jx4a65c_get_915e3
theorem dX2_findWish_0 : decode cX2_findWish 0 = .ok (.iconst 0, 1) := by decide +kernel
theorem dX2_findWish_1 : decode cX2_findWish 1 = .ok (.istore_n 3, 1) := by decide +kernel
theorem dX2_findWish_2 : decode cX2_findWish 2 = .ok (.iload_n 3, 1) := by decide +kernel
theorem dX2_findWish_3 : decode cX2_findWish 3 = .ok (.aload_n 0, 1) := by decide +kernel
theorem dX2_findWish_4 : decode cX2_findWish 4 = .ok (.getfield 22, 3) := by decide +kernel
theorem dX2_findWish_7 : decode cX2_findWish 7 = .ok (.invokevirtual 164, 3) := by decide +kernel
theorem dX2_findWish_10 : decode cX2_findWish 10 = .ok (.if_icmp .ge 43, 3) := by decide +kernel
theorem dX2_findWish_13 : decode cX2_findWish 13 = .ok (.aload_n 0, 1) := by decide +kernel
theorem dX2_findWish_14 : decode cX2_findWish 14 = .ok (.getfield 22, 3) := by decide +kernel
theorem dX2_findWish_17 : decode cX2_findWish 17 = .ok (.iload_n 3, 1) := by decide +kernel
theorem dX2_findWish_18 : decode cX2_findWish 18 = .ok (.invokevirtual 167, 3) := by decide +kernel
theorem dX2_findWish_21 : decode cX2_findWish 21 = .ok (.checkcast 94, 3) := by decide +kernel
theorem dX2_findWish_24 : decode cX2_findWish 24 = .ok (.astore 4, 2) := by decide +kernel
theorem dX2_findWish_26 : decode cX2_findWish 26 = .ok (.aload 4, 2) := by decide +kernel
theorem dX2_findWish_28 : decode cX2_findWish 28 = .ok (.getfield 171, 3) := by decide +kernel
theorem dX2_findWish_31 : decode cX2_findWish 31 = .ok (.aload_n 1, 1) := by decide +kernel
theorem dX2_findWish_32 : decode cX2_findWish 32 = .ok (.if_acmp .ne 15, 3) := by decide +kernel
theorem dX2_findWish_35 : decode cX2_findWish 35 = .ok (.aload 4, 2) := by decide +kernel
theorem dX2_findWish_37 : decode cX2_findWish 37 = .ok (.getfield 174, 3) := by decide +kernel
theorem dX2_findWish_40 : decode cX2_findWish 40 = .ok (.aload_n 2, 1) := by decide +kernel
theorem dX2_findWish_41 : decode cX2_findWish 41 = .ok (.if_acmp .ne 6, 3) := by decide +kernel
theorem dX2_findWish_44 : decode cX2_findWish 44 = .ok (.aload 4, 2) := by decide +kernel
theorem dX2_findWish_46 : decode cX2_findWish 46 = .ok (.areturn, 1) := by decide +kernel
theorem dX2_findWish_47 : decode cX2_findWish 47 = .ok (.iinc 3 1, 3) := by decide +kernel
theorem dX2_findWish_50 : decode cX2_findWish 50 = .ok (.goto (-48), 3) := by decide +kernel
theorem dX2_findWish_53 : decode cX2_findWish 53 = .ok (.aconst_null, 1) := by decide +kernel
theorem dX2_findWish_54 : decode cX2_findWish 54 = .ok (.areturn, 1) := by decide +kernel
set_option maxRecDepth 20000 in
theorem ggX2_reaches_X0_bit : GoodIn wsX2_reaches wsX0_bit := goodIn_r _ [9, 10, 23, 24, 25, 26, 27, 28, 29, 30, 31, 32, 33, 34, 35] (by decide +kernel) (by decide +kernel)
set_option maxRecDepth 20000 in
theorem gX2_reaches_X0_bit : GoodIn wsX2_reaches (wsV RX2 82 RX0 yX0_bit wsX0_bit) := goodIn_app (goodIn_of _ (by decide +kernel)) ggX2_reaches_X0_bit
set_option maxRecDepth 20000 in
theorem ggX2_reaches_X2_contains : GoodIn wsX2_reaches wsX2_contains := goodIn_r _ [15, 5, 6, 7, 8, 9, 10, 23, 24, 25, 26, 27, 28, 29, 30, 31, 32, 33, 34, 35] (by decide +kernel) (by decide +kernel)
set_option maxRecDepth 20000 in
theorem gX2_reaches_X2_contains : GoodIn wsX2_reaches (wsV RX2 78 RX2 yX2_contains wsX2_contains) := goodIn_app (goodIn_of _ (by decide +kernel)) ggX2_reaches_X2_contains
theorem dX2_reaches_0 : decode cX2_reaches 0 = .ok (.aload_n 1, 1) := by decide +kernel
theorem dX2_reaches_1 : decode cX2_reaches 1 = .ok (.invokevirtual 82, 3) := by decide +kernel
theorem dX2_reaches_4 : decode cX2_reaches 4 = .ok (.istore 4, 2) := by decide +kernel
theorem dX2_reaches_6 : decode cX2_reaches 6 = .ok (.iconst 0, 1) := by decide +kernel
theorem dX2_reaches_7 : decode cX2_reaches 7 = .ok (.istore 5, 2) := by decide +kernel
theorem dX2_reaches_9 : decode cX2_reaches 9 = .ok (.iconst 0, 1) := by decide +kernel
theorem dX2_reaches_10 : decode cX2_reaches 10 = .ok (.istore 6, 2) := by decide +kernel
theorem dX2_reaches_12 : decode cX2_reaches 12 = .ok (.iload 6, 2) := by decide +kernel
theorem dX2_reaches_14 : decode cX2_reaches 14 = .ok (.aload_n 0, 1) := by decide +kernel
theorem dX2_reaches_15 : decode cX2_reaches 15 = .ok (.getfield 15, 3) := by decide +kernel
theorem dX2_reaches_18 : decode cX2_reaches 18 = .ok (.if_icmp .gt 88, 3) := by decide +kernel
theorem dX2_reaches_21 : decode cX2_reaches 21 = .ok (.iload 4, 2) := by decide +kernel
theorem dX2_reaches_23 : decode cX2_reaches 23 = .ok (.iload 5, 2) := by decide +kernel
theorem dX2_reaches_25 : decode cX2_reaches 25 = .ok (.if_icmp .eq 81, 3) := by decide +kernel
theorem dX2_reaches_28 : decode cX2_reaches 28 = .ok (.iload 4, 2) := by decide +kernel
theorem dX2_reaches_30 : decode cX2_reaches 30 = .ok (.istore 5, 2) := by decide +kernel
theorem dX2_reaches_32 : decode cX2_reaches 32 = .ok (.iconst 0, 1) := by decide +kernel
theorem dX2_reaches_33 : decode cX2_reaches 33 = .ok (.istore 7, 2) := by decide +kernel
theorem dX2_reaches_35 : decode cX2_reaches 35 = .ok (.iload 7, 2) := by decide +kernel
theorem dX2_reaches_37 : decode cX2_reaches 37 = .ok (.aload_n 0, 1) := by decide +kernel
theorem dX2_reaches_38 : decode cX2_reaches 38 = .ok (.getfield 15, 3) := by decide +kernel
theorem dX2_reaches_41 : decode cX2_reaches 41 = .ok (.if_icmp .ge 59, 3) := by decide +kernel
theorem dX2_reaches_44 : decode cX2_reaches 44 = .ok (.aload_n 0, 1) := by decide +kernel
theorem dX2_reaches_45 : decode cX2_reaches 45 = .ok (.iload 4, 2) := by decide +kernel
theorem dX2_reaches_47 : decode cX2_reaches 47 = .ok (.aload_n 0, 1) := by decide +kernel
theorem dX2_reaches_48 : decode cX2_reaches 48 = .ok (.getfield 11, 3) := by decide +kernel
theorem dX2_reaches_51 : decode cX2_reaches 51 = .ok (.iload 7, 2) := by decide +kernel
theorem dX2_reaches_53 : decode cX2_reaches 53 = .ok (.aaload, 1) := by decide +kernel
theorem dX2_reaches_54 : decode cX2_reaches 54 = .ok (.invokevirtual 78, 3) := by decide +kernel
theorem dX2_reaches_57 : decode cX2_reaches 57 = .ok (.ifCond .eq 37, 3) := by decide +kernel
theorem dX2_reaches_60 : decode cX2_reaches 60 = .ok (.iload 4, 2) := by decide +kernel
theorem dX2_reaches_62 : decode cX2_reaches 62 = .ok (.aload_n 0, 1) := by decide +kernel
theorem dX2_reaches_63 : decode cX2_reaches 63 = .ok (.getfield 11, 3) := by decide +kernel
theorem dX2_reaches_66 : decode cX2_reaches 66 = .ok (.iload 7, 2) := by decide +kernel
theorem dX2_reaches_68 : decode cX2_reaches 68 = .ok (.aaload, 1) := by decide +kernel
theorem dX2_reaches_69 : decode cX2_reaches 69 = .ok (.getfield 75, 3) := by decide +kernel
theorem dX2_reaches_72 : decode cX2_reaches 72 = .ok (.iload_n 3, 1) := by decide +kernel
theorem dX2_reaches_73 : decode cX2_reaches 73 = .ok (.ifCond .eq 16, 3) := by decide +kernel
theorem dX2_reaches_76 : decode cX2_reaches 76 = .ok (.aload_n 0, 1) := by decide +kernel
theorem dX2_reaches_77 : decode cX2_reaches 77 = .ok (.getfield 11, 3) := by decide +kernel
theorem dX2_reaches_80 : decode cX2_reaches 80 = .ok (.iload 7, 2) := by decide +kernel
theorem dX2_reaches_82 : decode cX2_reaches 82 = .ok (.aaload, 1) := by decide +kernel
theorem dX2_reaches_83 : decode cX2_reaches 83 = .ok (.getfield 103, 3) := by decide +kernel
theorem dX2_reaches_86 : decode cX2_reaches 86 = .ok (.goto 4, 3) := by decide +kernel
theorem dX2_reaches_89 : decode cX2_reaches 89 = .ok (.iconst 0, 1) := by decide +kernel
theorem dX2_reaches_90 : decode cX2_reaches 90 = .ok (.ior, 1) := by decide +kernel
theorem dX2_reaches_91 : decode cX2_reaches 91 = .ok (.ior, 1) := by decide +kernel
theorem dX2_reaches_92 : decode cX2_reaches 92 = .ok (.istore 4, 2) := by decide +kernel
theorem dX2_reaches_94 : decode cX2_reaches 94 = .ok (.iinc 7 1, 3) := by decide +kernel
theorem dX2_reaches_97 : decode cX2_reaches 97 = .ok (.goto (-62), 3) := by decide +kernel
theorem dX2_reaches_100 : decode cX2_reaches 100 = .ok (.iinc 6 1, 3) := by decide +kernel
theorem dX2_reaches_103 : decode cX2_reaches 103 = .ok (.goto (-91), 3) := by decide +kernel
theorem dX2_reaches_106 : decode cX2_reaches 106 = .ok (.aload_n 0, 1) := by decide +kernel
theorem dX2_reaches_107 : decode cX2_reaches 107 = .ok (.iload 4, 2) := by decide +kernel
theorem dX2_reaches_109 : decode cX2_reaches 109 = .ok (.aload_n 2, 1) := by decide +kernel
theorem dX2_reaches_110 : decode cX2_reaches 110 = .ok (.invokevirtual 78, 3) := by decide +kernel
theorem dX2_reaches_113 : decode cX2_reaches 113 = .ok (.ireturn, 1) := by decide +kernel
set_option maxRecDepth 20000 in
theorem ggX2_cutLoops_X2_keepAllWishes : GoodIn wsX2_cutLoops wsX2_keepAllWishes := goodIn_r _ [11, 1, 2, 5, 6, 4, 12, 13, 14, 15, 16, 17, 18, 19, 20, 21, 22, 23, 24, 25, 26, 27, 28, 29, 30, 31, 32, 33, 34, 35, 36, 37, 38, 39, 40, 52, 53, 54, 55, 56, 57, 58, 59, 60, 61, 62, 63, 64, 65, 66, 67, 68, 69, 70, 71, 72, 73, 74, 75, 76, 77] (by decide +kernel) (by decide +kernel)
set_option maxRecDepth 20000 in
theorem gX2_cutLoops_X2_keepAllWishes : GoodIn wsX2_cutLoops (wsV RX2 177 RX2 yX2_keepAllWishes wsX2_keepAllWishes) := goodIn_app (goodIn_of _ (by decide +kernel)) ggX2_cutLoops_X2_keepAllWishes
set_option maxRecDepth 20000 in
theorem ggX2_cutLoops_Jx4a65c_size_8abf5 : GoodIn wsX2_cutLoops wsJx4a65c_size_8abf5 := goodIn_r _ [16, 17, 75, 76, 77] (by decide +kernel) (by decide +kernel)
set_option maxRecDepth 20000 in
theorem gX2_cutLoops_Jx4a65c_size_8abf5 : GoodIn wsX2_cutLoops (wsV RX2 164 RJx4a65c yJx4a65c_size_8abf5 wsJx4a65c_size_8abf5) := goodIn_app (goodIn_of _ (by decide +kernel)) ggX2_cutLoops_Jx4a65c_size_8abf5
set_option maxRecDepth 20000 in
theorem ggX2_cutLoops_Jx4a65c_get_915e3 : GoodIn wsX2_cutLoops wsJx4a65c_get_915e3 := goodIn_r _ [21, 17, 22, 23, 24, 25, 26, 27, 28, 29, 30, 31, 32, 15, 33, 34, 75, 76, 77] (by decide +kernel) (by decide +kernel)
set_option maxRecDepth 20000 in
theorem gX2_cutLoops_Jx4a65c_get_915e3 : GoodIn wsX2_cutLoops (wsV RX2 167 RJx4a65c yJx4a65c_get_915e3 wsJx4a65c_get_915e3) := goodIn_app (goodIn_of _ (by decide +kernel)) ggX2_cutLoops_Jx4a65c_get_915e3
set_option maxRecDepth 20000 in
theorem ggX2_cutLoops_X2_reaches : GoodIn wsX2_cutLoops wsX2_reaches := goodIn_r _ [44, 45, 46, 47, 6, 35, 36, 37, 38, 39, 40, 48, 49, 50, 10, 51, 52, 53, 54, 55, 56, 57, 58, 62, 63, 64, 65, 66, 67, 68, 69, 70, 71, 72, 73, 74] (by decide +kernel) (by decide +kernel)
set_option maxRecDepth 20000 in
theorem gX2_cutLoops_X2_reaches : GoodIn wsX2_cutLoops (wsV RX2 69 RX2 yX2_reaches wsX2_reaches) := goodIn_app (goodIn_of _ (by decide +kernel)) ggX2_cutLoops_X2_reaches
set_option maxRecDepth 20000 in
theorem ggX2_cutLoops_X0_bit : GoodIn wsX2_cutLoops wsX0_bit := goodIn_r _ [39, 40, 62, 63, 64, 65, 66, 67, 68, 69, 70, 71, 72, 73, 74] (by decide +kernel) (by decide +kernel)
set_option maxRecDepth 20000 in
theorem gX2_cutLoops_X0_bit : GoodIn wsX2_cutLoops (wsV RX2 82 RX0 yX0_bit wsX0_bit) := goodIn_app (goodIn_of _ (by decide +kernel)) ggX2_cutLoops_X0_bit
theorem dX2_cutLoops_0 : decode cX2_cutLoops 0 = .ok (.aload_n 0, 1) := by decide +kernel
theorem dX2_cutLoops_1 : decode cX2_cutLoops 1 = .ok (.invokevirtual 177, 3) := by decide +kernel
theorem dX2_cutLoops_4 : decode cX2_cutLoops 4 = .ok (.iconst 0, 1) := by decide +kernel
theorem dX2_cutLoops_5 : decode cX2_cutLoops 5 = .ok (.istore_n 1, 1) := by decide +kernel
theorem dX2_cutLoops_6 : decode cX2_cutLoops 6 = .ok (.iconst 1, 1) := by decide +kernel
theorem dX2_cutLoops_7 : decode cX2_cutLoops 7 = .ok (.istore_n 2, 1) := by decide +kernel
theorem dX2_cutLoops_8 : decode cX2_cutLoops 8 = .ok (.iload_n 2, 1) := by decide +kernel
theorem dX2_cutLoops_9 : decode cX2_cutLoops 9 = .ok (.bipush 100, 2) := by decide +kernel
theorem dX2_cutLoops_11 : decode cX2_cutLoops 11 = .ok (.if_icmp .gt 94, 3) := by decide +kernel
theorem dX2_cutLoops_14 : decode cX2_cutLoops 14 = .ok (.iconst 0, 1) := by decide +kernel
theorem dX2_cutLoops_15 : decode cX2_cutLoops 15 = .ok (.istore_n 3, 1) := by decide +kernel
theorem dX2_cutLoops_16 : decode cX2_cutLoops 16 = .ok (.iload_n 3, 1) := by decide +kernel
theorem dX2_cutLoops_17 : decode cX2_cutLoops 17 = .ok (.aload_n 0, 1) := by decide +kernel
theorem dX2_cutLoops_18 : decode cX2_cutLoops 18 = .ok (.getfield 22, 3) := by decide +kernel
theorem dX2_cutLoops_21 : decode cX2_cutLoops 21 = .ok (.invokevirtual 164, 3) := by decide +kernel
theorem dX2_cutLoops_24 : decode cX2_cutLoops 24 = .ok (.if_icmp .ge 75, 3) := by decide +kernel
theorem dX2_cutLoops_27 : decode cX2_cutLoops 27 = .ok (.aload_n 0, 1) := by decide +kernel
theorem dX2_cutLoops_28 : decode cX2_cutLoops 28 = .ok (.getfield 22, 3) := by decide +kernel
theorem dX2_cutLoops_31 : decode cX2_cutLoops 31 = .ok (.iload_n 3, 1) := by decide +kernel
theorem dX2_cutLoops_32 : decode cX2_cutLoops 32 = .ok (.invokevirtual 167, 3) := by decide +kernel
theorem dX2_cutLoops_35 : decode cX2_cutLoops 35 = .ok (.checkcast 94, 3) := by decide +kernel
theorem dX2_cutLoops_38 : decode cX2_cutLoops 38 = .ok (.astore 4, 2) := by decide +kernel
theorem dX2_cutLoops_40 : decode cX2_cutLoops 40 = .ok (.aload 4, 2) := by decide +kernel
theorem dX2_cutLoops_42 : decode cX2_cutLoops 42 = .ok (.getfield 106, 3) := by decide +kernel
theorem dX2_cutLoops_45 : decode cX2_cutLoops 45 = .ok (.iload_n 2, 1) := by decide +kernel
theorem dX2_cutLoops_46 : decode cX2_cutLoops 46 = .ok (.if_icmp .ne 47, 3) := by decide +kernel
theorem dX2_cutLoops_49 : decode cX2_cutLoops 49 = .ok (.aload_n 0, 1) := by decide +kernel
theorem dX2_cutLoops_50 : decode cX2_cutLoops 50 = .ok (.aload 4, 2) := by decide +kernel
theorem dX2_cutLoops_52 : decode cX2_cutLoops 52 = .ok (.getfield 174, 3) := by decide +kernel
theorem dX2_cutLoops_55 : decode cX2_cutLoops 55 = .ok (.aload 4, 2) := by decide +kernel
theorem dX2_cutLoops_57 : decode cX2_cutLoops 57 = .ok (.getfield 171, 3) := by decide +kernel
theorem dX2_cutLoops_60 : decode cX2_cutLoops 60 = .ok (.iconst 1, 1) := by decide +kernel
theorem dX2_cutLoops_61 : decode cX2_cutLoops 61 = .ok (.invokevirtual 69, 3) := by decide +kernel
theorem dX2_cutLoops_64 : decode cX2_cutLoops 64 = .ok (.ifCond .eq 29, 3) := by decide +kernel
theorem dX2_cutLoops_67 : decode cX2_cutLoops 67 = .ok (.aload 4, 2) := by decide +kernel
theorem dX2_cutLoops_69 : decode cX2_cutLoops 69 = .ok (.getfield 171, 3) := by decide +kernel
theorem dX2_cutLoops_72 : decode cX2_cutLoops 72 = .ok (.dup, 1) := by decide +kernel
theorem dX2_cutLoops_73 : decode cX2_cutLoops 73 = .ok (.getfield 103, 3) := by decide +kernel
theorem dX2_cutLoops_76 : decode cX2_cutLoops 76 = .ok (.aload 4, 2) := by decide +kernel
theorem dX2_cutLoops_78 : decode cX2_cutLoops 78 = .ok (.getfield 174, 3) := by decide +kernel
theorem dX2_cutLoops_81 : decode cX2_cutLoops 81 = .ok (.invokevirtual 82, 3) := by decide +kernel
theorem dX2_cutLoops_84 : decode cX2_cutLoops 84 = .ok (.iconst (-1), 1) := by decide +kernel
theorem dX2_cutLoops_85 : decode cX2_cutLoops 85 = .ok (.ixor, 1) := by decide +kernel
theorem dX2_cutLoops_86 : decode cX2_cutLoops 86 = .ok (.iand, 1) := by decide +kernel
theorem dX2_cutLoops_87 : decode cX2_cutLoops 87 = .ok (.putfield 103, 3) := by decide +kernel
theorem dX2_cutLoops_90 : decode cX2_cutLoops 90 = .ok (.iinc 1 1, 3) := by decide +kernel
theorem dX2_cutLoops_93 : decode cX2_cutLoops 93 = .ok (.iinc 3 1, 3) := by decide +kernel
theorem dX2_cutLoops_96 : decode cX2_cutLoops 96 = .ok (.goto (-80), 3) := by decide +kernel
theorem dX2_cutLoops_99 : decode cX2_cutLoops 99 = .ok (.iinc 2 1, 3) := by decide +kernel
theorem dX2_cutLoops_102 : decode cX2_cutLoops 102 = .ok (.goto (-94), 3) := by decide +kernel
theorem dX2_cutLoops_105 : decode cX2_cutLoops 105 = .ok (.iload_n 1, 1) := by decide +kernel
theorem dX2_cutLoops_106 : decode cX2_cutLoops 106 = .ok (.ireturn, 1) := by decide +kernel
set_option maxRecDepth 20000 in
theorem ggX2_keepAllWishes_Jx4a65c_size_8abf5 : GoodIn wsX2_keepAllWishes wsJx4a65c_size_8abf5 := goodIn_r _ [10, 11, 58, 59, 60] (by decide +kernel) (by decide +kernel)
set_option maxRecDepth 20000 in
theorem gX2_keepAllWishes_Jx4a65c_size_8abf5 : GoodIn wsX2_keepAllWishes (wsV RX2 164 RJx4a65c yJx4a65c_size_8abf5 wsJx4a65c_size_8abf5) := goodIn_app (goodIn_of _ (by decide +kernel)) ggX2_keepAllWishes_Jx4a65c_size_8abf5
set_option maxRecDepth 20000 in
theorem ggX2_keepAllWishes_Jx4a65c_get_915e3 : GoodIn wsX2_keepAllWishes wsJx4a65c_get_915e3 := goodIn_r _ [15, 11, 16, 17, 18, 19, 20, 21, 22, 23, 24, 25, 26, 9, 27, 28, 58, 59, 60] (by decide +kernel) (by decide +kernel)
set_option maxRecDepth 20000 in
theorem gX2_keepAllWishes_Jx4a65c_get_915e3 : GoodIn wsX2_keepAllWishes (wsV RX2 167 RJx4a65c yJx4a65c_get_915e3 wsJx4a65c_get_915e3) := goodIn_app (goodIn_of _ (by decide +kernel)) ggX2_keepAllWishes_Jx4a65c_get_915e3
set_option maxRecDepth 20000 in
theorem ggX2_keepAllWishes_X0_bit : GoodIn wsX2_keepAllWishes wsX0_bit := goodIn_r _ [33, 34, 45, 46, 47, 48, 49, 50, 51, 52, 53, 54, 55, 56, 57] (by decide +kernel) (by decide +kernel)
set_option maxRecDepth 20000 in
theorem gX2_keepAllWishes_X0_bit : GoodIn wsX2_keepAllWishes (wsV RX2 82 RX0 yX0_bit wsX0_bit) := goodIn_app (goodIn_of _ (by decide +kernel)) ggX2_keepAllWishes_X0_bit
theorem dX2_keepAllWishes_0 : decode cX2_keepAllWishes 0 = .ok (.iconst 0, 1) := by decide +kernel
theorem dX2_keepAllWishes_1 : decode cX2_keepAllWishes 1 = .ok (.istore_n 1, 1) := by decide +kernel
theorem dX2_keepAllWishes_2 : decode cX2_keepAllWishes 2 = .ok (.iload_n 1, 1) := by decide +kernel
theorem dX2_keepAllWishes_3 : decode cX2_keepAllWishes 3 = .ok (.aload_n 0, 1) := by decide +kernel
theorem dX2_keepAllWishes_4 : decode cX2_keepAllWishes 4 = .ok (.getfield 22, 3) := by decide +kernel
theorem dX2_keepAllWishes_7 : decode cX2_keepAllWishes 7 = .ok (.invokevirtual 164, 3) := by decide +kernel
theorem dX2_keepAllWishes_10 : decode cX2_keepAllWishes 10 = .ok (.if_icmp .ge 40, 3) := by decide +kernel
theorem dX2_keepAllWishes_13 : decode cX2_keepAllWishes 13 = .ok (.aload_n 0, 1) := by decide +kernel
theorem dX2_keepAllWishes_14 : decode cX2_keepAllWishes 14 = .ok (.getfield 22, 3) := by decide +kernel
theorem dX2_keepAllWishes_17 : decode cX2_keepAllWishes 17 = .ok (.iload_n 1, 1) := by decide +kernel
theorem dX2_keepAllWishes_18 : decode cX2_keepAllWishes 18 = .ok (.invokevirtual 167, 3) := by decide +kernel
theorem dX2_keepAllWishes_21 : decode cX2_keepAllWishes 21 = .ok (.checkcast 94, 3) := by decide +kernel
theorem dX2_keepAllWishes_24 : decode cX2_keepAllWishes 24 = .ok (.astore_n 2, 1) := by decide +kernel
theorem dX2_keepAllWishes_25 : decode cX2_keepAllWishes 25 = .ok (.aload_n 2, 1) := by decide +kernel
theorem dX2_keepAllWishes_26 : decode cX2_keepAllWishes 26 = .ok (.getfield 171, 3) := by decide +kernel
theorem dX2_keepAllWishes_29 : decode cX2_keepAllWishes 29 = .ok (.dup, 1) := by decide +kernel
theorem dX2_keepAllWishes_30 : decode cX2_keepAllWishes 30 = .ok (.getfield 103, 3) := by decide +kernel
theorem dX2_keepAllWishes_33 : decode cX2_keepAllWishes 33 = .ok (.aload_n 2, 1) := by decide +kernel
theorem dX2_keepAllWishes_34 : decode cX2_keepAllWishes 34 = .ok (.getfield 174, 3) := by decide +kernel
theorem dX2_keepAllWishes_37 : decode cX2_keepAllWishes 37 = .ok (.invokevirtual 82, 3) := by decide +kernel
theorem dX2_keepAllWishes_40 : decode cX2_keepAllWishes 40 = .ok (.ior, 1) := by decide +kernel
theorem dX2_keepAllWishes_41 : decode cX2_keepAllWishes 41 = .ok (.putfield 103, 3) := by decide +kernel
theorem dX2_keepAllWishes_44 : decode cX2_keepAllWishes 44 = .ok (.iinc 1 1, 3) := by decide +kernel
theorem dX2_keepAllWishes_47 : decode cX2_keepAllWishes 47 = .ok (.goto (-45), 3) := by decide +kernel
theorem dX2_keepAllWishes_50 : decode cX2_keepAllWishes 50 = .ok (.return_, 1) := by decide +kernel
set_option maxRecDepth 20000 in
theorem ggX2_isAwaited_X2_contains : GoodIn wsX2_isAwaited wsX2_contains := goodIn_r _ [7, 8, 9, 10, 11, 12, 13, 32, 33, 34, 35, 36, 37, 38, 39, 40, 41, 42, 43, 44] (by decide +kernel) (by decide +kernel)
set_option maxRecDepth 20000 in
theorem gX2_isAwaited_X2_contains : GoodIn wsX2_isAwaited (wsV RX2 78 RX2 yX2_contains wsX2_contains) := goodIn_app (goodIn_of _ (by decide +kernel)) ggX2_isAwaited_X2_contains
set_option maxRecDepth 20000 in
theorem ggX2_isAwaited_X0_isNeedMet : GoodIn wsX2_isAwaited wsX0_isNeedMet := goodIn_r _ [17, 18, 19, 20, 21, 22, 11, 23, 32, 33, 34, 35, 36, 37, 38, 39, 40, 41, 42, 43, 44] (by decide +kernel) (by decide +kernel)
set_option maxRecDepth 20000 in
theorem gX2_isAwaited_X0_isNeedMet : GoodIn wsX2_isAwaited (wsV RX2 180 RX0 yX0_isNeedMet wsX0_isNeedMet) := goodIn_app (goodIn_of _ (by decide +kernel)) ggX2_isAwaited_X0_isNeedMet
set_option maxRecDepth 20000 in
theorem ggX2_isAwaited_X0_isNeedLost : GoodIn wsX2_isAwaited wsX0_isNeedLost := goodIn_r _ [27, 19, 20, 21, 22, 11, 23, 18, 32, 33, 34, 35, 36, 37, 38, 39, 40, 41, 42, 43, 44] (by decide +kernel) (by decide +kernel)
set_option maxRecDepth 20000 in
theorem gX2_isAwaited_X0_isNeedLost : GoodIn wsX2_isAwaited (wsV RX2 184 RX0 yX0_isNeedLost wsX0_isNeedLost) := goodIn_app (goodIn_of _ (by decide +kernel)) ggX2_isAwaited_X0_isNeedLost
set_option maxRecDepth 20000 in
theorem ggX2_isAwaited_X0_isWishDone : GoodIn wsX2_isAwaited wsX0_isWishDone := goodIn_r _ [31, 18, 20, 21, 22, 11, 23, 32, 33, 34, 35, 36, 37, 38, 39, 40, 41, 42, 43, 44] (by decide +kernel) (by decide +kernel)
set_option maxRecDepth 20000 in
theorem gX2_isAwaited_X0_isWishDone : GoodIn wsX2_isAwaited (wsV RX2 187 RX0 yX0_isWishDone wsX0_isWishDone) := goodIn_app (goodIn_of _ (by decide +kernel)) ggX2_isAwaited_X0_isWishDone
theorem dX2_isAwaited_0 : decode cX2_isAwaited 0 = .ok (.aload_n 0, 1) := by decide +kernel
theorem dX2_isAwaited_1 : decode cX2_isAwaited 1 = .ok (.aload_n 2, 1) := by decide +kernel
theorem dX2_isAwaited_2 : decode cX2_isAwaited 2 = .ok (.getfield 75, 3) := by decide +kernel
theorem dX2_isAwaited_5 : decode cX2_isAwaited 5 = .ok (.aload_n 1, 1) := by decide +kernel
theorem dX2_isAwaited_6 : decode cX2_isAwaited 6 = .ok (.invokevirtual 78, 3) := by decide +kernel
theorem dX2_isAwaited_9 : decode cX2_isAwaited 9 = .ok (.ifCond .eq 21, 3) := by decide +kernel
theorem dX2_isAwaited_12 : decode cX2_isAwaited 12 = .ok (.aload_n 1, 1) := by decide +kernel
theorem dX2_isAwaited_13 : decode cX2_isAwaited 13 = .ok (.invokevirtual 180, 3) := by decide +kernel
theorem dX2_isAwaited_16 : decode cX2_isAwaited 16 = .ok (.ifCond .ne 14, 3) := by decide +kernel
theorem dX2_isAwaited_19 : decode cX2_isAwaited 19 = .ok (.aload_n 1, 1) := by decide +kernel
theorem dX2_isAwaited_20 : decode cX2_isAwaited 20 = .ok (.invokevirtual 184, 3) := by decide +kernel
theorem dX2_isAwaited_23 : decode cX2_isAwaited 23 = .ok (.ifCond .ne 7, 3) := by decide +kernel
theorem dX2_isAwaited_26 : decode cX2_isAwaited 26 = .ok (.iconst 1, 1) := by decide +kernel
theorem dX2_isAwaited_27 : decode cX2_isAwaited 27 = .ok (.goto 4, 3) := by decide +kernel
theorem dX2_isAwaited_30 : decode cX2_isAwaited 30 = .ok (.iconst 0, 1) := by decide +kernel
theorem dX2_isAwaited_31 : decode cX2_isAwaited 31 = .ok (.istore_n 3, 1) := by decide +kernel
theorem dX2_isAwaited_32 : decode cX2_isAwaited 32 = .ok (.aload_n 0, 1) := by decide +kernel
theorem dX2_isAwaited_33 : decode cX2_isAwaited 33 = .ok (.aload_n 2, 1) := by decide +kernel
theorem dX2_isAwaited_34 : decode cX2_isAwaited 34 = .ok (.getfield 103, 3) := by decide +kernel
theorem dX2_isAwaited_37 : decode cX2_isAwaited 37 = .ok (.aload_n 1, 1) := by decide +kernel
theorem dX2_isAwaited_38 : decode cX2_isAwaited 38 = .ok (.invokevirtual 78, 3) := by decide +kernel
theorem dX2_isAwaited_41 : decode cX2_isAwaited 41 = .ok (.ifCond .eq 14, 3) := by decide +kernel
theorem dX2_isAwaited_44 : decode cX2_isAwaited 44 = .ok (.aload_n 1, 1) := by decide +kernel
theorem dX2_isAwaited_45 : decode cX2_isAwaited 45 = .ok (.invokevirtual 187, 3) := by decide +kernel
theorem dX2_isAwaited_48 : decode cX2_isAwaited 48 = .ok (.ifCond .ne 7, 3) := by decide +kernel
theorem dX2_isAwaited_51 : decode cX2_isAwaited 51 = .ok (.iconst 1, 1) := by decide +kernel
theorem dX2_isAwaited_52 : decode cX2_isAwaited 52 = .ok (.goto 4, 3) := by decide +kernel
theorem dX2_isAwaited_55 : decode cX2_isAwaited 55 = .ok (.iconst 0, 1) := by decide +kernel
theorem dX2_isAwaited_56 : decode cX2_isAwaited 56 = .ok (.istore 4, 2) := by decide +kernel
theorem dX2_isAwaited_58 : decode cX2_isAwaited 58 = .ok (.iload_n 3, 1) := by decide +kernel
theorem dX2_isAwaited_59 : decode cX2_isAwaited 59 = .ok (.ifCond .ne 8, 3) := by decide +kernel
theorem dX2_isAwaited_62 : decode cX2_isAwaited 62 = .ok (.iload 4, 2) := by decide +kernel
theorem dX2_isAwaited_64 : decode cX2_isAwaited 64 = .ok (.ifCond .eq 7, 3) := by decide +kernel
theorem dX2_isAwaited_67 : decode cX2_isAwaited 67 = .ok (.iconst 1, 1) := by decide +kernel
theorem dX2_isAwaited_68 : decode cX2_isAwaited 68 = .ok (.goto 4, 3) := by decide +kernel
theorem dX2_isAwaited_71 : decode cX2_isAwaited 71 = .ok (.iconst 0, 1) := by decide +kernel
theorem dX2_isAwaited_72 : decode cX2_isAwaited 72 = .ok (.ireturn, 1) := by decide +kernel
set_option maxRecDepth 20000 in
theorem ggX2_passOneTick_X2_endStarts : GoodIn wsX2_passOneTick wsX2_endStarts := goodIn_r _ [6, 7, 8, 9, 10, 11, 12, 13, 14, 15, 16, 17, 18, 19, 20, 21, 22, 23, 24, 25, 26, 96, 97, 98, 99, 100, 101, 102, 103, 104, 105, 106, 107, 108, 109, 110, 111, 112, 113, 114, 115] (by decide +kernel) (by decide +kernel)
set_option maxRecDepth 20000 in
theorem gX2_passOneTick_X2_endStarts : GoodIn wsX2_passOneTick (wsV RX2 190 RX2 yX2_endStarts wsX2_endStarts) := goodIn_app (goodIn_of _ (by decide +kernel)) ggX2_passOneTick_X2_endStarts
set_option maxRecDepth 20000 in
theorem ggX2_passOneTick_X2_failWithoutNeeds : GoodIn wsX2_passOneTick wsX2_failWithoutNeeds := goodIn_r _ [30, 7, 8, 9, 31, 32, 33, 34, 5, 35, 36, 37, 38, 15, 39, 40, 41, 42, 43, 44, 18, 45, 46, 47, 48, 49, 96, 97, 98, 99, 100, 101, 102, 103, 104, 105, 106, 107, 108, 109, 110, 111, 112, 113, 114, 115] (by decide +kernel) (by decide +kernel)
set_option maxRecDepth 20000 in
theorem gX2_passOneTick_X2_failWithoutNeeds : GoodIn wsX2_passOneTick (wsV RX2 193 RX2 yX2_failWithoutNeeds wsX2_failWithoutNeeds) := goodIn_app (goodIn_of _ (by decide +kernel)) ggX2_passOneTick_X2_failWithoutNeeds
set_option maxRecDepth 20000 in
theorem ggX2_passOneTick_X2_startWaiting : GoodIn wsX2_passOneTick wsX2_startWaiting := goodIn_r _ [53, 7, 54, 8, 9, 31, 55, 10, 56, 57, 58, 5, 59, 60, 61, 62, 15, 63, 18, 40, 41, 42, 43, 44, 45, 46, 47, 48, 49, 64, 65, 66, 67, 68, 69, 70, 71, 72, 73, 74, 75, 96, 97, 98, 99, 100, 101, 102, 103, 104, 105, 106, 107, 108, 109, 110, 111, 112, 113, 114, 115] (by decide +kernel) (by decide +kernel)
set_option maxRecDepth 20000 in
theorem gX2_passOneTick_X2_startWaiting : GoodIn wsX2_passOneTick (wsV RX2 196 RX2 yX2_startWaiting wsX2_startWaiting) := goodIn_app (goodIn_of _ (by decide +kernel)) ggX2_passOneTick_X2_startWaiting
set_option maxRecDepth 20000 in
theorem ggX2_passOneTick_X2_raiseBar : GoodIn wsX2_passOneTick wsX2_raiseBar := goodIn_r _ [79, 1, 80, 81, 82, 22, 23, 24, 83, 84, 85, 5, 86, 7, 8, 87, 88, 89, 15, 90, 18, 91, 92, 93, 94, 95, 96, 97, 98, 99, 100, 101, 102, 103, 104, 105, 106, 107, 108, 109, 110, 111, 112, 113, 114, 115] (by decide +kernel) (by decide +kernel)
set_option maxRecDepth 20000 in
theorem gX2_passOneTick_X2_raiseBar : GoodIn wsX2_passOneTick (wsV RX2 128 RX2 yX2_raiseBar wsX2_raiseBar) := goodIn_app (goodIn_of _ (by decide +kernel)) ggX2_passOneTick_X2_raiseBar
theorem dX2_passOneTick_0 : decode cX2_passOneTick 0 = .ok (.aload_n 0, 1) := by decide +kernel
theorem dX2_passOneTick_1 : decode cX2_passOneTick 1 = .ok (.invokevirtual 190, 3) := by decide +kernel
theorem dX2_passOneTick_4 : decode cX2_passOneTick 4 = .ok (.aload_n 0, 1) := by decide +kernel
theorem dX2_passOneTick_5 : decode cX2_passOneTick 5 = .ok (.invokevirtual 193, 3) := by decide +kernel
theorem dX2_passOneTick_8 : decode cX2_passOneTick 8 = .ok (.aload_n 0, 1) := by decide +kernel
theorem dX2_passOneTick_9 : decode cX2_passOneTick 9 = .ok (.aload_n 0, 1) := by decide +kernel
theorem dX2_passOneTick_10 : decode cX2_passOneTick 10 = .ok (.invokevirtual 196, 3) := by decide +kernel
theorem dX2_passOneTick_13 : decode cX2_passOneTick 13 = .ok (.ifCond .le 7, 3) := by decide +kernel
theorem dX2_passOneTick_16 : decode cX2_passOneTick 16 = .ok (.iconst 1, 1) := by decide +kernel
theorem dX2_passOneTick_17 : decode cX2_passOneTick 17 = .ok (.goto 4, 3) := by decide +kernel
theorem dX2_passOneTick_20 : decode cX2_passOneTick 20 = .ok (.iconst 0, 1) := by decide +kernel
theorem dX2_passOneTick_21 : decode cX2_passOneTick 21 = .ok (.putfield 26, 3) := by decide +kernel
theorem dX2_passOneTick_24 : decode cX2_passOneTick 24 = .ok (.aload_n 0, 1) := by decide +kernel
theorem dX2_passOneTick_25 : decode cX2_passOneTick 25 = .ok (.invokevirtual 128, 3) := by decide +kernel
theorem dX2_passOneTick_28 : decode cX2_passOneTick 28 = .ok (.return_, 1) := by decide +kernel
set_option maxRecDepth 20000 in
theorem ggX2_endStarts_X0_comeToEnd : GoodIn wsX2_endStarts wsX0_comeToEnd := goodIn_r _ [10, 11, 12, 13, 14, 15, 16, 17, 18, 19, 20, 28, 29, 30, 31, 32, 33, 34, 35, 36, 37, 38, 39, 40] (by decide +kernel) (by decide +kernel)
set_option maxRecDepth 20000 in
theorem gX2_endStarts_X0_comeToEnd : GoodIn wsX2_endStarts (wsV RX2 202 RX0 yX0_comeToEnd wsX0_comeToEnd) := goodIn_app (goodIn_of _ (by decide +kernel)) ggX2_endStarts_X0_comeToEnd
theorem dX2_endStarts_0 : decode cX2_endStarts 0 = .ok (.iconst 0, 1) := by decide +kernel
theorem dX2_endStarts_1 : decode cX2_endStarts 1 = .ok (.istore_n 1, 1) := by decide +kernel
theorem dX2_endStarts_2 : decode cX2_endStarts 2 = .ok (.iload_n 1, 1) := by decide +kernel
theorem dX2_endStarts_3 : decode cX2_endStarts 3 = .ok (.aload_n 0, 1) := by decide +kernel
theorem dX2_endStarts_4 : decode cX2_endStarts 4 = .ok (.getfield 15, 3) := by decide +kernel
theorem dX2_endStarts_7 : decode cX2_endStarts 7 = .ok (.if_icmp .ge 49, 3) := by decide +kernel
theorem dX2_endStarts_10 : decode cX2_endStarts 10 = .ok (.aload_n 0, 1) := by decide +kernel
theorem dX2_endStarts_11 : decode cX2_endStarts 11 = .ok (.getfield 11, 3) := by decide +kernel
theorem dX2_endStarts_14 : decode cX2_endStarts 14 = .ok (.iload_n 1, 1) := by decide +kernel
theorem dX2_endStarts_15 : decode cX2_endStarts 15 = .ok (.aaload, 1) := by decide +kernel
theorem dX2_endStarts_16 : decode cX2_endStarts 16 = .ok (.astore_n 2, 1) := by decide +kernel
theorem dX2_endStarts_17 : decode cX2_endStarts 17 = .ok (.aload_n 2, 1) := by decide +kernel
theorem dX2_endStarts_18 : decode cX2_endStarts 18 = .ok (.getfield 136, 3) := by decide +kernel
theorem dX2_endStarts_21 : decode cX2_endStarts 21 = .ok (.iconst 1, 1) := by decide +kernel
theorem dX2_endStarts_22 : decode cX2_endStarts 22 = .ok (.if_icmp .ne 28, 3) := by decide +kernel
theorem dX2_endStarts_25 : decode cX2_endStarts 25 = .ok (.aload_n 2, 1) := by decide +kernel
theorem dX2_endStarts_26 : decode cX2_endStarts 26 = .ok (.dup, 1) := by decide +kernel
theorem dX2_endStarts_27 : decode cX2_endStarts 27 = .ok (.getfield 199, 3) := by decide +kernel
theorem dX2_endStarts_30 : decode cX2_endStarts 30 = .ok (.iconst 1, 1) := by decide +kernel
theorem dX2_endStarts_31 : decode cX2_endStarts 31 = .ok (.iadd, 1) := by decide +kernel
theorem dX2_endStarts_32 : decode cX2_endStarts 32 = .ok (.putfield 199, 3) := by decide +kernel
theorem dX2_endStarts_35 : decode cX2_endStarts 35 = .ok (.aload_n 2, 1) := by decide +kernel
theorem dX2_endStarts_36 : decode cX2_endStarts 36 = .ok (.getfield 199, 3) := by decide +kernel
theorem dX2_endStarts_39 : decode cX2_endStarts 39 = .ok (.aload_n 2, 1) := by decide +kernel
theorem dX2_endStarts_40 : decode cX2_endStarts 40 = .ok (.getfield 56, 3) := by decide +kernel
theorem dX2_endStarts_43 : decode cX2_endStarts 43 = .ok (.if_icmp .lt 7, 3) := by decide +kernel
theorem dX2_endStarts_46 : decode cX2_endStarts 46 = .ok (.aload_n 2, 1) := by decide +kernel
theorem dX2_endStarts_47 : decode cX2_endStarts 47 = .ok (.invokevirtual 202, 3) := by decide +kernel
theorem dX2_endStarts_50 : decode cX2_endStarts 50 = .ok (.iinc 1 1, 3) := by decide +kernel
theorem dX2_endStarts_53 : decode cX2_endStarts 53 = .ok (.goto (-51), 3) := by decide +kernel
theorem dX2_endStarts_56 : decode cX2_endStarts 56 = .ok (.return_, 1) := by decide +kernel
set_option maxRecDepth 20000 in
theorem ggX2_failWithoutNeeds_X2_lostNeeds : GoodIn wsX2_failWithoutNeeds wsX2_lostNeeds := goodIn_r _ [9, 1, 2, 10, 11, 12, 13, 14, 15, 16, 17, 18, 19, 20, 21, 22, 23, 24, 25, 26, 27, 28, 29, 30, 31, 32, 33, 34, 35, 36, 37, 38, 39, 40, 41, 42, 43, 44, 45] (by decide +kernel) (by decide +kernel)
set_option maxRecDepth 20000 in
theorem gX2_failWithoutNeeds_X2_lostNeeds : GoodIn wsX2_failWithoutNeeds (wsV RX2 205 RX2 yX2_lostNeeds wsX2_lostNeeds) := goodIn_app (goodIn_of _ (by decide +kernel)) ggX2_failWithoutNeeds_X2_lostNeeds
theorem dX2_failWithoutNeeds_0 : decode cX2_failWithoutNeeds 0 = .ok (.aload_n 0, 1) := by decide +kernel
theorem dX2_failWithoutNeeds_1 : decode cX2_failWithoutNeeds 1 = .ok (.invokevirtual 205, 3) := by decide +kernel
theorem dX2_failWithoutNeeds_4 : decode cX2_failWithoutNeeds 4 = .ok (.istore_n 1, 1) := by decide +kernel
theorem dX2_failWithoutNeeds_5 : decode cX2_failWithoutNeeds 5 = .ok (.iconst 0, 1) := by decide +kernel
theorem dX2_failWithoutNeeds_6 : decode cX2_failWithoutNeeds 6 = .ok (.istore_n 2, 1) := by decide +kernel
theorem dX2_failWithoutNeeds_7 : decode cX2_failWithoutNeeds 7 = .ok (.iload_n 2, 1) := by decide +kernel
theorem dX2_failWithoutNeeds_8 : decode cX2_failWithoutNeeds 8 = .ok (.aload_n 0, 1) := by decide +kernel
theorem dX2_failWithoutNeeds_9 : decode cX2_failWithoutNeeds 9 = .ok (.getfield 15, 3) := by decide +kernel
theorem dX2_failWithoutNeeds_12 : decode cX2_failWithoutNeeds 12 = .ok (.if_icmp .ge 42, 3) := by decide +kernel
theorem dX2_failWithoutNeeds_15 : decode cX2_failWithoutNeeds 15 = .ok (.aload_n 0, 1) := by decide +kernel
theorem dX2_failWithoutNeeds_16 : decode cX2_failWithoutNeeds 16 = .ok (.getfield 11, 3) := by decide +kernel
theorem dX2_failWithoutNeeds_19 : decode cX2_failWithoutNeeds 19 = .ok (.iload_n 2, 1) := by decide +kernel
theorem dX2_failWithoutNeeds_20 : decode cX2_failWithoutNeeds 20 = .ok (.aaload, 1) := by decide +kernel
theorem dX2_failWithoutNeeds_21 : decode cX2_failWithoutNeeds 21 = .ok (.astore_n 3, 1) := by decide +kernel
theorem dX2_failWithoutNeeds_22 : decode cX2_failWithoutNeeds 22 = .ok (.aload_n 3, 1) := by decide +kernel
theorem dX2_failWithoutNeeds_23 : decode cX2_failWithoutNeeds 23 = .ok (.getfield 136, 3) := by decide +kernel
theorem dX2_failWithoutNeeds_26 : decode cX2_failWithoutNeeds 26 = .ok (.ifCond .ne 22, 3) := by decide +kernel
theorem dX2_failWithoutNeeds_29 : decode cX2_failWithoutNeeds 29 = .ok (.aload_n 3, 1) := by decide +kernel
theorem dX2_failWithoutNeeds_30 : decode cX2_failWithoutNeeds 30 = .ok (.getfield 75, 3) := by decide +kernel
theorem dX2_failWithoutNeeds_33 : decode cX2_failWithoutNeeds 33 = .ok (.iload_n 1, 1) := by decide +kernel
theorem dX2_failWithoutNeeds_34 : decode cX2_failWithoutNeeds 34 = .ok (.iand, 1) := by decide +kernel
theorem dX2_failWithoutNeeds_35 : decode cX2_failWithoutNeeds 35 = .ok (.ifCond .eq 13, 3) := by decide +kernel
theorem dX2_failWithoutNeeds_38 : decode cX2_failWithoutNeeds 38 = .ok (.aload_n 3, 1) := by decide +kernel
theorem dX2_failWithoutNeeds_39 : decode cX2_failWithoutNeeds 39 = .ok (.iconst 3, 1) := by decide +kernel
theorem dX2_failWithoutNeeds_40 : decode cX2_failWithoutNeeds 40 = .ok (.putfield 136, 3) := by decide +kernel
theorem dX2_failWithoutNeeds_43 : decode cX2_failWithoutNeeds 43 = .ok (.aload_n 0, 1) := by decide +kernel
theorem dX2_failWithoutNeeds_44 : decode cX2_failWithoutNeeds 44 = .ok (.invokevirtual 205, 3) := by decide +kernel
theorem dX2_failWithoutNeeds_47 : decode cX2_failWithoutNeeds 47 = .ok (.istore_n 1, 1) := by decide +kernel
theorem dX2_failWithoutNeeds_48 : decode cX2_failWithoutNeeds 48 = .ok (.iinc 2 1, 3) := by decide +kernel
theorem dX2_failWithoutNeeds_51 : decode cX2_failWithoutNeeds 51 = .ok (.goto (-44), 3) := by decide +kernel
theorem dX2_failWithoutNeeds_54 : decode cX2_failWithoutNeeds 54 = .ok (.return_, 1) := by decide +kernel
set_option maxRecDepth 20000 in
theorem ggX2_startWaiting_X2_metNeeds : GoodIn wsX2_startWaiting wsX2_metNeeds := goodIn_r _ [12, 1, 3, 13, 14, 15, 16, 17, 18, 19, 20, 21, 22, 23, 24, 25, 26, 27, 28, 41, 42, 43, 44, 45, 46, 47, 48, 49, 50, 51, 52, 53, 54, 55, 56, 57, 58, 59, 60] (by decide +kernel) (by decide +kernel)
set_option maxRecDepth 20000 in
theorem gX2_startWaiting_X2_metNeeds : GoodIn wsX2_startWaiting (wsV RX2 208 RX2 yX2_metNeeds wsX2_metNeeds) := goodIn_app (goodIn_of _ (by decide +kernel)) ggX2_startWaiting_X2_metNeeds
set_option maxRecDepth 20000 in
theorem ggX2_startWaiting_X2_doneWishes : GoodIn wsX2_startWaiting wsX2_doneWishes := goodIn_r _ [32, 1, 3, 33, 34, 35, 16, 36, 18, 20, 21, 22, 23, 24, 25, 26, 27, 28, 41, 42, 43, 44, 45, 46, 47, 48, 49, 50, 51, 52, 53, 54, 55, 56, 57, 58, 59, 60] (by decide +kernel) (by decide +kernel)
set_option maxRecDepth 20000 in
theorem gX2_startWaiting_X2_doneWishes : GoodIn wsX2_startWaiting (wsV RX2 211 RX2 yX2_doneWishes wsX2_doneWishes) := goodIn_app (goodIn_of _ (by decide +kernel)) ggX2_startWaiting_X2_doneWishes
set_option maxRecDepth 20000 in
theorem ggX2_startWaiting_X2_countStarting : GoodIn wsX2_startWaiting wsX2_countStarting := goodIn_r _ [40, 1, 3, 4, 41, 42, 43, 44, 45, 46, 47, 48, 49, 50, 51, 52, 53, 54, 55, 56, 57, 58, 59, 60] (by decide +kernel) (by decide +kernel)
set_option maxRecDepth 20000 in
theorem gX2_startWaiting_X2_countStarting : GoodIn wsX2_startWaiting (wsV RX2 214 RX2 yX2_countStarting wsX2_countStarting) := goodIn_app (goodIn_of _ (by decide +kernel)) ggX2_startWaiting_X2_countStarting
theorem dX2_startWaiting_0 : decode cX2_startWaiting 0 = .ok (.aload_n 0, 1) := by decide +kernel
theorem dX2_startWaiting_1 : decode cX2_startWaiting 1 = .ok (.invokevirtual 208, 3) := by decide +kernel
theorem dX2_startWaiting_4 : decode cX2_startWaiting 4 = .ok (.istore_n 1, 1) := by decide +kernel
theorem dX2_startWaiting_5 : decode cX2_startWaiting 5 = .ok (.aload_n 0, 1) := by decide +kernel
theorem dX2_startWaiting_6 : decode cX2_startWaiting 6 = .ok (.invokevirtual 211, 3) := by decide +kernel
theorem dX2_startWaiting_9 : decode cX2_startWaiting 9 = .ok (.istore_n 2, 1) := by decide +kernel
theorem dX2_startWaiting_10 : decode cX2_startWaiting 10 = .ok (.aload_n 0, 1) := by decide +kernel
theorem dX2_startWaiting_11 : decode cX2_startWaiting 11 = .ok (.invokevirtual 214, 3) := by decide +kernel
theorem dX2_startWaiting_14 : decode cX2_startWaiting 14 = .ok (.istore_n 3, 1) := by decide +kernel
theorem dX2_startWaiting_15 : decode cX2_startWaiting 15 = .ok (.iconst 0, 1) := by decide +kernel
theorem dX2_startWaiting_16 : decode cX2_startWaiting 16 = .ok (.istore 4, 2) := by decide +kernel
theorem dX2_startWaiting_18 : decode cX2_startWaiting 18 = .ok (.iload 4, 2) := by decide +kernel
theorem dX2_startWaiting_20 : decode cX2_startWaiting 20 = .ok (.aload_n 0, 1) := by decide +kernel
theorem dX2_startWaiting_21 : decode cX2_startWaiting 21 = .ok (.getfield 15, 3) := by decide +kernel
theorem dX2_startWaiting_24 : decode cX2_startWaiting 24 = .ok (.if_icmp .ge 73, 3) := by decide +kernel
theorem dX2_startWaiting_27 : decode cX2_startWaiting 27 = .ok (.iload_n 3, 1) := by decide +kernel
theorem dX2_startWaiting_28 : decode cX2_startWaiting 28 = .ok (.aload_n 0, 1) := by decide +kernel
theorem dX2_startWaiting_29 : decode cX2_startWaiting 29 = .ok (.getfield 30, 3) := by decide +kernel
theorem dX2_startWaiting_32 : decode cX2_startWaiting 32 = .ok (.if_icmp .ge 65, 3) := by decide +kernel
theorem dX2_startWaiting_35 : decode cX2_startWaiting 35 = .ok (.aload_n 0, 1) := by decide +kernel
theorem dX2_startWaiting_36 : decode cX2_startWaiting 36 = .ok (.getfield 11, 3) := by decide +kernel
theorem dX2_startWaiting_39 : decode cX2_startWaiting 39 = .ok (.iload 4, 2) := by decide +kernel
theorem dX2_startWaiting_41 : decode cX2_startWaiting 41 = .ok (.aaload, 1) := by decide +kernel
theorem dX2_startWaiting_42 : decode cX2_startWaiting 42 = .ok (.astore 5, 2) := by decide +kernel
theorem dX2_startWaiting_44 : decode cX2_startWaiting 44 = .ok (.aload 5, 2) := by decide +kernel
theorem dX2_startWaiting_46 : decode cX2_startWaiting 46 = .ok (.getfield 136, 3) := by decide +kernel
theorem dX2_startWaiting_49 : decode cX2_startWaiting 49 = .ok (.ifCond .ne 42, 3) := by decide +kernel
theorem dX2_startWaiting_52 : decode cX2_startWaiting 52 = .ok (.aload 5, 2) := by decide +kernel
theorem dX2_startWaiting_54 : decode cX2_startWaiting 54 = .ok (.getfield 75, 3) := by decide +kernel
theorem dX2_startWaiting_57 : decode cX2_startWaiting 57 = .ok (.iload_n 1, 1) := by decide +kernel
theorem dX2_startWaiting_58 : decode cX2_startWaiting 58 = .ok (.iconst (-1), 1) := by decide +kernel
theorem dX2_startWaiting_59 : decode cX2_startWaiting 59 = .ok (.ixor, 1) := by decide +kernel
theorem dX2_startWaiting_60 : decode cX2_startWaiting 60 = .ok (.iand, 1) := by decide +kernel
theorem dX2_startWaiting_61 : decode cX2_startWaiting 61 = .ok (.ifCond .ne 30, 3) := by decide +kernel
theorem dX2_startWaiting_64 : decode cX2_startWaiting 64 = .ok (.aload 5, 2) := by decide +kernel
theorem dX2_startWaiting_66 : decode cX2_startWaiting 66 = .ok (.getfield 103, 3) := by decide +kernel
theorem dX2_startWaiting_69 : decode cX2_startWaiting 69 = .ok (.iload_n 2, 1) := by decide +kernel
theorem dX2_startWaiting_70 : decode cX2_startWaiting 70 = .ok (.iconst (-1), 1) := by decide +kernel
theorem dX2_startWaiting_71 : decode cX2_startWaiting 71 = .ok (.ixor, 1) := by decide +kernel
theorem dX2_startWaiting_72 : decode cX2_startWaiting 72 = .ok (.iand, 1) := by decide +kernel
theorem dX2_startWaiting_73 : decode cX2_startWaiting 73 = .ok (.ifCond .ne 18, 3) := by decide +kernel
theorem dX2_startWaiting_76 : decode cX2_startWaiting 76 = .ok (.aload 5, 2) := by decide +kernel
theorem dX2_startWaiting_78 : decode cX2_startWaiting 78 = .ok (.iconst 1, 1) := by decide +kernel
theorem dX2_startWaiting_79 : decode cX2_startWaiting 79 = .ok (.putfield 136, 3) := by decide +kernel
theorem dX2_startWaiting_82 : decode cX2_startWaiting 82 = .ok (.aload 5, 2) := by decide +kernel
theorem dX2_startWaiting_84 : decode cX2_startWaiting 84 = .ok (.iconst 0, 1) := by decide +kernel
theorem dX2_startWaiting_85 : decode cX2_startWaiting 85 = .ok (.putfield 199, 3) := by decide +kernel
theorem dX2_startWaiting_88 : decode cX2_startWaiting 88 = .ok (.iinc 3 1, 3) := by decide +kernel
theorem dX2_startWaiting_91 : decode cX2_startWaiting 91 = .ok (.iinc 4 1, 3) := by decide +kernel
theorem dX2_startWaiting_94 : decode cX2_startWaiting 94 = .ok (.goto (-76), 3) := by decide +kernel
theorem dX2_startWaiting_97 : decode cX2_startWaiting 97 = .ok (.iload_n 3, 1) := by decide +kernel
theorem dX2_startWaiting_98 : decode cX2_startWaiting 98 = .ok (.ireturn, 1) := by decide +kernel
theorem dX2_countStarting_0 : decode cX2_countStarting 0 = .ok (.iconst 0, 1) := by decide +kernel
theorem dX2_countStarting_1 : decode cX2_countStarting 1 = .ok (.istore_n 1, 1) := by decide +kernel
theorem dX2_countStarting_2 : decode cX2_countStarting 2 = .ok (.iconst 0, 1) := by decide +kernel
theorem dX2_countStarting_3 : decode cX2_countStarting 3 = .ok (.istore_n 2, 1) := by decide +kernel
theorem dX2_countStarting_4 : decode cX2_countStarting 4 = .ok (.iload_n 2, 1) := by decide +kernel
theorem dX2_countStarting_5 : decode cX2_countStarting 5 = .ok (.aload_n 0, 1) := by decide +kernel
theorem dX2_countStarting_6 : decode cX2_countStarting 6 = .ok (.getfield 15, 3) := by decide +kernel
theorem dX2_countStarting_9 : decode cX2_countStarting 9 = .ok (.if_icmp .ge 30, 3) := by decide +kernel
theorem dX2_countStarting_12 : decode cX2_countStarting 12 = .ok (.iload_n 1, 1) := by decide +kernel
theorem dX2_countStarting_13 : decode cX2_countStarting 13 = .ok (.aload_n 0, 1) := by decide +kernel
theorem dX2_countStarting_14 : decode cX2_countStarting 14 = .ok (.getfield 11, 3) := by decide +kernel
theorem dX2_countStarting_17 : decode cX2_countStarting 17 = .ok (.iload_n 2, 1) := by decide +kernel
theorem dX2_countStarting_18 : decode cX2_countStarting 18 = .ok (.aaload, 1) := by decide +kernel
theorem dX2_countStarting_19 : decode cX2_countStarting 19 = .ok (.getfield 136, 3) := by decide +kernel
theorem dX2_countStarting_22 : decode cX2_countStarting 22 = .ok (.iconst 1, 1) := by decide +kernel
theorem dX2_countStarting_23 : decode cX2_countStarting 23 = .ok (.if_icmp .ne 7, 3) := by decide +kernel
theorem dX2_countStarting_26 : decode cX2_countStarting 26 = .ok (.iconst 1, 1) := by decide +kernel
theorem dX2_countStarting_27 : decode cX2_countStarting 27 = .ok (.goto 4, 3) := by decide +kernel
theorem dX2_countStarting_30 : decode cX2_countStarting 30 = .ok (.iconst 0, 1) := by decide +kernel
theorem dX2_countStarting_31 : decode cX2_countStarting 31 = .ok (.iadd, 1) := by decide +kernel
theorem dX2_countStarting_32 : decode cX2_countStarting 32 = .ok (.istore_n 1, 1) := by decide +kernel
theorem dX2_countStarting_33 : decode cX2_countStarting 33 = .ok (.iinc 2 1, 3) := by decide +kernel
theorem dX2_countStarting_36 : decode cX2_countStarting 36 = .ok (.goto (-32), 3) := by decide +kernel
theorem dX2_countStarting_39 : decode cX2_countStarting 39 = .ok (.iload_n 1, 1) := by decide +kernel
theorem dX2_countStarting_40 : decode cX2_countStarting 40 = .ok (.ireturn, 1) := by decide +kernel
set_option maxRecDepth 20000 in
theorem ggX2_metNeeds_X0_isNeedMet : GoodIn wsX2_metNeeds wsX0_isNeedMet := goodIn_r _ [7, 8, 9, 10, 11, 12, 6, 13, 26, 27, 28, 29, 30, 31, 32, 33, 34, 35, 36, 37, 38] (by decide +kernel) (by decide +kernel)
set_option maxRecDepth 20000 in
theorem gX2_metNeeds_X0_isNeedMet : GoodIn wsX2_metNeeds (wsV RX2 180 RX0 yX0_isNeedMet wsX0_isNeedMet) := goodIn_app (goodIn_of _ (by decide +kernel)) ggX2_metNeeds_X0_isNeedMet
set_option maxRecDepth 20000 in
theorem ggX2_metNeeds_X0_bit : GoodIn wsX2_metNeeds wsX0_bit := goodIn_r _ [17, 18, 26, 27, 28, 29, 30, 31, 32, 33, 34, 35, 36, 37, 38] (by decide +kernel) (by decide +kernel)
set_option maxRecDepth 20000 in
theorem gX2_metNeeds_X0_bit : GoodIn wsX2_metNeeds (wsV RX2 82 RX0 yX0_bit wsX0_bit) := goodIn_app (goodIn_of _ (by decide +kernel)) ggX2_metNeeds_X0_bit
theorem dX2_metNeeds_0 : decode cX2_metNeeds 0 = .ok (.iconst 0, 1) := by decide +kernel
theorem dX2_metNeeds_1 : decode cX2_metNeeds 1 = .ok (.istore_n 1, 1) := by decide +kernel
theorem dX2_metNeeds_2 : decode cX2_metNeeds 2 = .ok (.iconst 0, 1) := by decide +kernel
theorem dX2_metNeeds_3 : decode cX2_metNeeds 3 = .ok (.istore_n 2, 1) := by decide +kernel
theorem dX2_metNeeds_4 : decode cX2_metNeeds 4 = .ok (.iload_n 2, 1) := by decide +kernel
theorem dX2_metNeeds_5 : decode cX2_metNeeds 5 = .ok (.aload_n 0, 1) := by decide +kernel
theorem dX2_metNeeds_6 : decode cX2_metNeeds 6 = .ok (.getfield 15, 3) := by decide +kernel
theorem dX2_metNeeds_9 : decode cX2_metNeeds 9 = .ok (.if_icmp .ge 37, 3) := by decide +kernel
theorem dX2_metNeeds_12 : decode cX2_metNeeds 12 = .ok (.iload_n 1, 1) := by decide +kernel
theorem dX2_metNeeds_13 : decode cX2_metNeeds 13 = .ok (.aload_n 0, 1) := by decide +kernel
theorem dX2_metNeeds_14 : decode cX2_metNeeds 14 = .ok (.getfield 11, 3) := by decide +kernel
theorem dX2_metNeeds_17 : decode cX2_metNeeds 17 = .ok (.iload_n 2, 1) := by decide +kernel
theorem dX2_metNeeds_18 : decode cX2_metNeeds 18 = .ok (.aaload, 1) := by decide +kernel
theorem dX2_metNeeds_19 : decode cX2_metNeeds 19 = .ok (.invokevirtual 180, 3) := by decide +kernel
theorem dX2_metNeeds_22 : decode cX2_metNeeds 22 = .ok (.ifCond .eq 15, 3) := by decide +kernel
theorem dX2_metNeeds_25 : decode cX2_metNeeds 25 = .ok (.aload_n 0, 1) := by decide +kernel
theorem dX2_metNeeds_26 : decode cX2_metNeeds 26 = .ok (.getfield 11, 3) := by decide +kernel
theorem dX2_metNeeds_29 : decode cX2_metNeeds 29 = .ok (.iload_n 2, 1) := by decide +kernel
theorem dX2_metNeeds_30 : decode cX2_metNeeds 30 = .ok (.aaload, 1) := by decide +kernel
theorem dX2_metNeeds_31 : decode cX2_metNeeds 31 = .ok (.invokevirtual 82, 3) := by decide +kernel
theorem dX2_metNeeds_34 : decode cX2_metNeeds 34 = .ok (.goto 4, 3) := by decide +kernel
theorem dX2_metNeeds_37 : decode cX2_metNeeds 37 = .ok (.iconst 0, 1) := by decide +kernel
theorem dX2_metNeeds_38 : decode cX2_metNeeds 38 = .ok (.ior, 1) := by decide +kernel
theorem dX2_metNeeds_39 : decode cX2_metNeeds 39 = .ok (.istore_n 1, 1) := by decide +kernel
theorem dX2_metNeeds_40 : decode cX2_metNeeds 40 = .ok (.iinc 2 1, 3) := by decide +kernel
theorem dX2_metNeeds_43 : decode cX2_metNeeds 43 = .ok (.goto (-39), 3) := by decide +kernel
theorem dX2_metNeeds_46 : decode cX2_metNeeds 46 = .ok (.iload_n 1, 1) := by decide +kernel
theorem dX2_metNeeds_47 : decode cX2_metNeeds 47 = .ok (.ireturn, 1) := by decide +kernel
set_option maxRecDepth 20000 in
theorem ggX2_lostNeeds_X0_isNeedLost : GoodIn wsX2_lostNeeds wsX0_isNeedLost := goodIn_r _ [7, 8, 9, 10, 11, 6, 12, 13, 26, 27, 28, 29, 30, 31, 32, 33, 34, 35, 36, 37, 38] (by decide +kernel) (by decide +kernel)
set_option maxRecDepth 20000 in
theorem gX2_lostNeeds_X0_isNeedLost : GoodIn wsX2_lostNeeds (wsV RX2 184 RX0 yX0_isNeedLost wsX0_isNeedLost) := goodIn_app (goodIn_of _ (by decide +kernel)) ggX2_lostNeeds_X0_isNeedLost
set_option maxRecDepth 20000 in
theorem ggX2_lostNeeds_X0_bit : GoodIn wsX2_lostNeeds wsX0_bit := goodIn_r _ [17, 18, 26, 27, 28, 29, 30, 31, 32, 33, 34, 35, 36, 37, 38] (by decide +kernel) (by decide +kernel)
set_option maxRecDepth 20000 in
theorem gX2_lostNeeds_X0_bit : GoodIn wsX2_lostNeeds (wsV RX2 82 RX0 yX0_bit wsX0_bit) := goodIn_app (goodIn_of _ (by decide +kernel)) ggX2_lostNeeds_X0_bit
theorem dX2_lostNeeds_0 : decode cX2_lostNeeds 0 = .ok (.iconst 0, 1) := by decide +kernel
theorem dX2_lostNeeds_1 : decode cX2_lostNeeds 1 = .ok (.istore_n 1, 1) := by decide +kernel
theorem dX2_lostNeeds_2 : decode cX2_lostNeeds 2 = .ok (.iconst 0, 1) := by decide +kernel
theorem dX2_lostNeeds_3 : decode cX2_lostNeeds 3 = .ok (.istore_n 2, 1) := by decide +kernel
theorem dX2_lostNeeds_4 : decode cX2_lostNeeds 4 = .ok (.iload_n 2, 1) := by decide +kernel
theorem dX2_lostNeeds_5 : decode cX2_lostNeeds 5 = .ok (.aload_n 0, 1) := by decide +kernel
theorem dX2_lostNeeds_6 : decode cX2_lostNeeds 6 = .ok (.getfield 15, 3) := by decide +kernel
theorem dX2_lostNeeds_9 : decode cX2_lostNeeds 9 = .ok (.if_icmp .ge 37, 3) := by decide +kernel
theorem dX2_lostNeeds_12 : decode cX2_lostNeeds 12 = .ok (.iload_n 1, 1) := by decide +kernel
theorem dX2_lostNeeds_13 : decode cX2_lostNeeds 13 = .ok (.aload_n 0, 1) := by decide +kernel
theorem dX2_lostNeeds_14 : decode cX2_lostNeeds 14 = .ok (.getfield 11, 3) := by decide +kernel
theorem dX2_lostNeeds_17 : decode cX2_lostNeeds 17 = .ok (.iload_n 2, 1) := by decide +kernel
theorem dX2_lostNeeds_18 : decode cX2_lostNeeds 18 = .ok (.aaload, 1) := by decide +kernel
theorem dX2_lostNeeds_19 : decode cX2_lostNeeds 19 = .ok (.invokevirtual 184, 3) := by decide +kernel
theorem dX2_lostNeeds_22 : decode cX2_lostNeeds 22 = .ok (.ifCond .eq 15, 3) := by decide +kernel
theorem dX2_lostNeeds_25 : decode cX2_lostNeeds 25 = .ok (.aload_n 0, 1) := by decide +kernel
theorem dX2_lostNeeds_26 : decode cX2_lostNeeds 26 = .ok (.getfield 11, 3) := by decide +kernel
theorem dX2_lostNeeds_29 : decode cX2_lostNeeds 29 = .ok (.iload_n 2, 1) := by decide +kernel
theorem dX2_lostNeeds_30 : decode cX2_lostNeeds 30 = .ok (.aaload, 1) := by decide +kernel
theorem dX2_lostNeeds_31 : decode cX2_lostNeeds 31 = .ok (.invokevirtual 82, 3) := by decide +kernel
theorem dX2_lostNeeds_34 : decode cX2_lostNeeds 34 = .ok (.goto 4, 3) := by decide +kernel
theorem dX2_lostNeeds_37 : decode cX2_lostNeeds 37 = .ok (.iconst 0, 1) := by decide +kernel
theorem dX2_lostNeeds_38 : decode cX2_lostNeeds 38 = .ok (.ior, 1) := by decide +kernel
theorem dX2_lostNeeds_39 : decode cX2_lostNeeds 39 = .ok (.istore_n 1, 1) := by decide +kernel
theorem dX2_lostNeeds_40 : decode cX2_lostNeeds 40 = .ok (.iinc 2 1, 3) := by decide +kernel
theorem dX2_lostNeeds_43 : decode cX2_lostNeeds 43 = .ok (.goto (-39), 3) := by decide +kernel
theorem dX2_lostNeeds_46 : decode cX2_lostNeeds 46 = .ok (.iload_n 1, 1) := by decide +kernel
theorem dX2_lostNeeds_47 : decode cX2_lostNeeds 47 = .ok (.ireturn, 1) := by decide +kernel
set_option maxRecDepth 20000 in
theorem ggX2_doneWishes_X0_isWishDone : GoodIn wsX2_doneWishes wsX0_isWishDone := goodIn_r _ [7, 8, 9, 10, 11, 6, 12, 25, 26, 27, 28, 29, 30, 31, 32, 33, 34, 35, 36, 37] (by decide +kernel) (by decide +kernel)
set_option maxRecDepth 20000 in
theorem gX2_doneWishes_X0_isWishDone : GoodIn wsX2_doneWishes (wsV RX2 187 RX0 yX0_isWishDone wsX0_isWishDone) := goodIn_app (goodIn_of _ (by decide +kernel)) ggX2_doneWishes_X0_isWishDone
set_option maxRecDepth 20000 in
theorem ggX2_doneWishes_X0_bit : GoodIn wsX2_doneWishes wsX0_bit := goodIn_r _ [16, 17, 25, 26, 27, 28, 29, 30, 31, 32, 33, 34, 35, 36, 37] (by decide +kernel) (by decide +kernel)
set_option maxRecDepth 20000 in
theorem gX2_doneWishes_X0_bit : GoodIn wsX2_doneWishes (wsV RX2 82 RX0 yX0_bit wsX0_bit) := goodIn_app (goodIn_of _ (by decide +kernel)) ggX2_doneWishes_X0_bit
theorem dX2_doneWishes_0 : decode cX2_doneWishes 0 = .ok (.iconst 0, 1) := by decide +kernel
theorem dX2_doneWishes_1 : decode cX2_doneWishes 1 = .ok (.istore_n 1, 1) := by decide +kernel
theorem dX2_doneWishes_2 : decode cX2_doneWishes 2 = .ok (.iconst 0, 1) := by decide +kernel
theorem dX2_doneWishes_3 : decode cX2_doneWishes 3 = .ok (.istore_n 2, 1) := by decide +kernel
theorem dX2_doneWishes_4 : decode cX2_doneWishes 4 = .ok (.iload_n 2, 1) := by decide +kernel
theorem dX2_doneWishes_5 : decode cX2_doneWishes 5 = .ok (.aload_n 0, 1) := by decide +kernel
theorem dX2_doneWishes_6 : decode cX2_doneWishes 6 = .ok (.getfield 15, 3) := by decide +kernel
theorem dX2_doneWishes_9 : decode cX2_doneWishes 9 = .ok (.if_icmp .ge 37, 3) := by decide +kernel
theorem dX2_doneWishes_12 : decode cX2_doneWishes 12 = .ok (.iload_n 1, 1) := by decide +kernel
theorem dX2_doneWishes_13 : decode cX2_doneWishes 13 = .ok (.aload_n 0, 1) := by decide +kernel
theorem dX2_doneWishes_14 : decode cX2_doneWishes 14 = .ok (.getfield 11, 3) := by decide +kernel
theorem dX2_doneWishes_17 : decode cX2_doneWishes 17 = .ok (.iload_n 2, 1) := by decide +kernel
theorem dX2_doneWishes_18 : decode cX2_doneWishes 18 = .ok (.aaload, 1) := by decide +kernel
theorem dX2_doneWishes_19 : decode cX2_doneWishes 19 = .ok (.invokevirtual 187, 3) := by decide +kernel
theorem dX2_doneWishes_22 : decode cX2_doneWishes 22 = .ok (.ifCond .eq 15, 3) := by decide +kernel
theorem dX2_doneWishes_25 : decode cX2_doneWishes 25 = .ok (.aload_n 0, 1) := by decide +kernel
theorem dX2_doneWishes_26 : decode cX2_doneWishes 26 = .ok (.getfield 11, 3) := by decide +kernel
theorem dX2_doneWishes_29 : decode cX2_doneWishes 29 = .ok (.iload_n 2, 1) := by decide +kernel
theorem dX2_doneWishes_30 : decode cX2_doneWishes 30 = .ok (.aaload, 1) := by decide +kernel
theorem dX2_doneWishes_31 : decode cX2_doneWishes 31 = .ok (.invokevirtual 82, 3) := by decide +kernel
theorem dX2_doneWishes_34 : decode cX2_doneWishes 34 = .ok (.goto 4, 3) := by decide +kernel
theorem dX2_doneWishes_37 : decode cX2_doneWishes 37 = .ok (.iconst 0, 1) := by decide +kernel
theorem dX2_doneWishes_38 : decode cX2_doneWishes 38 = .ok (.ior, 1) := by decide +kernel
theorem dX2_doneWishes_39 : decode cX2_doneWishes 39 = .ok (.istore_n 1, 1) := by decide +kernel
theorem dX2_doneWishes_40 : decode cX2_doneWishes 40 = .ok (.iinc 2 1, 3) := by decide +kernel
theorem dX2_doneWishes_43 : decode cX2_doneWishes 43 = .ok (.goto (-39), 3) := by decide +kernel
theorem dX2_doneWishes_46 : decode cX2_doneWishes 46 = .ok (.iload_n 1, 1) := by decide +kernel
theorem dX2_doneWishes_47 : decode cX2_doneWishes 47 = .ok (.ireturn, 1) := by decide +kernel
set_option maxRecDepth 20000 in
theorem ggX2_raiseBar_X2_timeDone : GoodIn wsX2_raiseBar wsX2_timeDone := goodIn_r _ [12, 13, 14, 15, 16, 17, 18, 19, 20, 21, 22, 23, 24, 6, 25, 26, 27, 28, 29, 30, 31, 32, 33, 34, 35, 36, 37, 38, 39, 40, 41, 42, 43, 44, 45] (by decide +kernel) (by decide +kernel)
set_option maxRecDepth 20000 in
theorem gX2_raiseBar_X2_timeDone : GoodIn wsX2_raiseBar (wsV RX2 217 RX2 yX2_timeDone wsX2_timeDone) := goodIn_app (goodIn_of _ (by decide +kernel)) ggX2_raiseBar_X2_timeDone
theorem dX2_raiseBar_0 : decode cX2_raiseBar 0 = .ok (.sipush 1000, 3) := by decide +kernel
theorem dX2_raiseBar_3 : decode cX2_raiseBar 3 = .ok (.istore_n 1, 1) := by decide +kernel
theorem dX2_raiseBar_4 : decode cX2_raiseBar 4 = .ok (.aload_n 0, 1) := by decide +kernel
theorem dX2_raiseBar_5 : decode cX2_raiseBar 5 = .ok (.getfield 26, 3) := by decide +kernel
theorem dX2_raiseBar_8 : decode cX2_raiseBar 8 = .ok (.ifCond .eq 24, 3) := by decide +kernel
theorem dX2_raiseBar_11 : decode cX2_raiseBar 11 = .ok (.aload_n 0, 1) := by decide +kernel
theorem dX2_raiseBar_12 : decode cX2_raiseBar 12 = .ok (.getfield 33, 3) := by decide +kernel
theorem dX2_raiseBar_15 : decode cX2_raiseBar 15 = .ok (.ifCond .le 17, 3) := by decide +kernel
theorem dX2_raiseBar_18 : decode cX2_raiseBar 18 = .ok (.sipush 1000, 3) := by decide +kernel
theorem dX2_raiseBar_21 : decode cX2_raiseBar 21 = .ok (.aload_n 0, 1) := by decide +kernel
theorem dX2_raiseBar_22 : decode cX2_raiseBar 22 = .ok (.invokevirtual 217, 3) := by decide +kernel
theorem dX2_raiseBar_25 : decode cX2_raiseBar 25 = .ok (.imul, 1) := by decide +kernel
theorem dX2_raiseBar_26 : decode cX2_raiseBar 26 = .ok (.aload_n 0, 1) := by decide +kernel
theorem dX2_raiseBar_27 : decode cX2_raiseBar 27 = .ok (.getfield 33, 3) := by decide +kernel
theorem dX2_raiseBar_30 : decode cX2_raiseBar 30 = .ok (.idiv, 1) := by decide +kernel
theorem dX2_raiseBar_31 : decode cX2_raiseBar 31 = .ok (.istore_n 1, 1) := by decide +kernel
theorem dX2_raiseBar_32 : decode cX2_raiseBar 32 = .ok (.aload_n 0, 1) := by decide +kernel
theorem dX2_raiseBar_33 : decode cX2_raiseBar 33 = .ok (.aload_n 0, 1) := by decide +kernel
theorem dX2_raiseBar_34 : decode cX2_raiseBar 34 = .ok (.getfield 36, 3) := by decide +kernel
theorem dX2_raiseBar_37 : decode cX2_raiseBar 37 = .ok (.iload_n 1, 1) := by decide +kernel
theorem dX2_raiseBar_38 : decode cX2_raiseBar 38 = .ok (.invokestatic 220, 3) := by decide +kernel
theorem dX2_raiseBar_41 : decode cX2_raiseBar 41 = .ok (.putfield 36, 3) := by decide +kernel
theorem dX2_raiseBar_44 : decode cX2_raiseBar 44 = .ok (.return_, 1) := by decide +kernel
set_option maxRecDepth 20000 in
theorem ggX2_timeDone_X0_timeDone : GoodIn wsX2_timeDone wsX0_timeDone := goodIn_r _ [7, 8, 9, 10, 11, 12, 13, 14, 22, 23, 24, 25, 26, 27, 28, 29, 30, 31, 32, 33, 34] (by decide +kernel) (by decide +kernel)
set_option maxRecDepth 20000 in
theorem gX2_timeDone_X0_timeDone : GoodIn wsX2_timeDone (wsV RX2 226 RX0 yX0_timeDone wsX0_timeDone) := goodIn_app (goodIn_of _ (by decide +kernel)) ggX2_timeDone_X0_timeDone
theorem dX2_timeDone_0 : decode cX2_timeDone 0 = .ok (.iconst 0, 1) := by decide +kernel
theorem dX2_timeDone_1 : decode cX2_timeDone 1 = .ok (.istore_n 1, 1) := by decide +kernel
theorem dX2_timeDone_2 : decode cX2_timeDone 2 = .ok (.iconst 0, 1) := by decide +kernel
theorem dX2_timeDone_3 : decode cX2_timeDone 3 = .ok (.istore_n 2, 1) := by decide +kernel
theorem dX2_timeDone_4 : decode cX2_timeDone 4 = .ok (.iload_n 2, 1) := by decide +kernel
theorem dX2_timeDone_5 : decode cX2_timeDone 5 = .ok (.aload_n 0, 1) := by decide +kernel
theorem dX2_timeDone_6 : decode cX2_timeDone 6 = .ok (.getfield 15, 3) := by decide +kernel
theorem dX2_timeDone_9 : decode cX2_timeDone 9 = .ok (.if_icmp .ge 21, 3) := by decide +kernel
theorem dX2_timeDone_12 : decode cX2_timeDone 12 = .ok (.iload_n 1, 1) := by decide +kernel
theorem dX2_timeDone_13 : decode cX2_timeDone 13 = .ok (.aload_n 0, 1) := by decide +kernel
theorem dX2_timeDone_14 : decode cX2_timeDone 14 = .ok (.getfield 11, 3) := by decide +kernel
theorem dX2_timeDone_17 : decode cX2_timeDone 17 = .ok (.iload_n 2, 1) := by decide +kernel
theorem dX2_timeDone_18 : decode cX2_timeDone 18 = .ok (.aaload, 1) := by decide +kernel
theorem dX2_timeDone_19 : decode cX2_timeDone 19 = .ok (.invokevirtual 226, 3) := by decide +kernel
theorem dX2_timeDone_22 : decode cX2_timeDone 22 = .ok (.iadd, 1) := by decide +kernel
theorem dX2_timeDone_23 : decode cX2_timeDone 23 = .ok (.istore_n 1, 1) := by decide +kernel
theorem dX2_timeDone_24 : decode cX2_timeDone 24 = .ok (.iinc 2 1, 3) := by decide +kernel
theorem dX2_timeDone_27 : decode cX2_timeDone 27 = .ok (.goto (-23), 3) := by decide +kernel
theorem dX2_timeDone_30 : decode cX2_timeDone 30 = .ok (.iload_n 1, 1) := by decide +kernel
theorem dX2_timeDone_31 : decode cX2_timeDone 31 = .ok (.ireturn, 1) := by decide +kernel
set_option maxRecDepth 20000 in
theorem ggX2_ableAlone_X0_bit : GoodIn wsX2_ableAlone wsX0_bit := goodIn_r _ [10, 11, 19, 20, 21, 22, 23, 24, 25, 26, 27, 28, 29, 30, 31] (by decide +kernel) (by decide +kernel)
set_option maxRecDepth 20000 in
theorem gX2_ableAlone_X0_bit : GoodIn wsX2_ableAlone (wsV RX2 82 RX0 yX0_bit wsX0_bit) := goodIn_app (goodIn_of _ (by decide +kernel)) ggX2_ableAlone_X0_bit
theorem dX2_ableAlone_0 : decode cX2_ableAlone 0 = .ok (.iconst 0, 1) := by decide +kernel
theorem dX2_ableAlone_1 : decode cX2_ableAlone 1 = .ok (.istore_n 1, 1) := by decide +kernel
theorem dX2_ableAlone_2 : decode cX2_ableAlone 2 = .ok (.iconst 0, 1) := by decide +kernel
theorem dX2_ableAlone_3 : decode cX2_ableAlone 3 = .ok (.istore_n 2, 1) := by decide +kernel
theorem dX2_ableAlone_4 : decode cX2_ableAlone 4 = .ok (.iload_n 2, 1) := by decide +kernel
theorem dX2_ableAlone_5 : decode cX2_ableAlone 5 = .ok (.aload_n 0, 1) := by decide +kernel
theorem dX2_ableAlone_6 : decode cX2_ableAlone 6 = .ok (.getfield 15, 3) := by decide +kernel
theorem dX2_ableAlone_9 : decode cX2_ableAlone 9 = .ok (.if_icmp .ge 45, 3) := by decide +kernel
theorem dX2_ableAlone_12 : decode cX2_ableAlone 12 = .ok (.aload_n 0, 1) := by decide +kernel
theorem dX2_ableAlone_13 : decode cX2_ableAlone 13 = .ok (.getfield 11, 3) := by decide +kernel
theorem dX2_ableAlone_16 : decode cX2_ableAlone 16 = .ok (.iload_n 2, 1) := by decide +kernel
theorem dX2_ableAlone_17 : decode cX2_ableAlone 17 = .ok (.aaload, 1) := by decide +kernel
theorem dX2_ableAlone_18 : decode cX2_ableAlone 18 = .ok (.astore_n 3, 1) := by decide +kernel
theorem dX2_ableAlone_19 : decode cX2_ableAlone 19 = .ok (.iload_n 1, 1) := by decide +kernel
theorem dX2_ableAlone_20 : decode cX2_ableAlone 20 = .ok (.aload_n 3, 1) := by decide +kernel
theorem dX2_ableAlone_21 : decode cX2_ableAlone 21 = .ok (.getfield 113, 3) := by decide +kernel
theorem dX2_ableAlone_24 : decode cX2_ableAlone 24 = .ok (.ifCond .ne 21, 3) := by decide +kernel
theorem dX2_ableAlone_27 : decode cX2_ableAlone 27 = .ok (.aload_n 3, 1) := by decide +kernel
theorem dX2_ableAlone_28 : decode cX2_ableAlone 28 = .ok (.getfield 116, 3) := by decide +kernel
theorem dX2_ableAlone_31 : decode cX2_ableAlone 31 = .ok (.aload_n 3, 1) := by decide +kernel
theorem dX2_ableAlone_32 : decode cX2_ableAlone 32 = .ok (.getfield 59, 3) := by decide +kernel
theorem dX2_ableAlone_35 : decode cX2_ableAlone 35 = .ok (.if_icmp .gt 10, 3) := by decide +kernel
theorem dX2_ableAlone_38 : decode cX2_ableAlone 38 = .ok (.aload_n 3, 1) := by decide +kernel
theorem dX2_ableAlone_39 : decode cX2_ableAlone 39 = .ok (.invokevirtual 82, 3) := by decide +kernel
theorem dX2_ableAlone_42 : decode cX2_ableAlone 42 = .ok (.goto 4, 3) := by decide +kernel
theorem dX2_ableAlone_45 : decode cX2_ableAlone 45 = .ok (.iconst 0, 1) := by decide +kernel
theorem dX2_ableAlone_46 : decode cX2_ableAlone 46 = .ok (.ior, 1) := by decide +kernel
theorem dX2_ableAlone_47 : decode cX2_ableAlone 47 = .ok (.istore_n 1, 1) := by decide +kernel
theorem dX2_ableAlone_48 : decode cX2_ableAlone 48 = .ok (.iinc 2 1, 3) := by decide +kernel
theorem dX2_ableAlone_51 : decode cX2_ableAlone 51 = .ok (.goto (-47), 3) := by decide +kernel
theorem dX2_ableAlone_54 : decode cX2_ableAlone 54 = .ok (.iload_n 1, 1) := by decide +kernel
theorem dX2_ableAlone_55 : decode cX2_ableAlone 55 = .ok (.ireturn, 1) := by decide +kernel
set_option maxRecDepth 20000 in
theorem ggX2_keepSupplied_X2_contains : GoodIn wsX2_keepSupplied wsX2_contains := goodIn_r _ [9, 10, 11, 12, 13, 14, 15, 23, 24, 25, 26, 27, 28, 29, 30, 31, 32, 33, 34, 35] (by decide +kernel) (by decide +kernel)
set_option maxRecDepth 20000 in
theorem gX2_keepSupplied_X2_contains : GoodIn wsX2_keepSupplied (wsV RX2 78 RX2 yX2_contains wsX2_contains) := goodIn_app (goodIn_of _ (by decide +kernel)) ggX2_keepSupplied_X2_contains
set_option maxRecDepth 20000 in
theorem ggX2_keepSupplied_X0_bit : GoodIn wsX2_keepSupplied wsX0_bit := goodIn_r _ [14, 15, 23, 24, 25, 26, 27, 28, 29, 30, 31, 32, 33, 34, 35] (by decide +kernel) (by decide +kernel)
set_option maxRecDepth 20000 in
theorem gX2_keepSupplied_X0_bit : GoodIn wsX2_keepSupplied (wsV RX2 82 RX0 yX0_bit wsX0_bit) := goodIn_app (goodIn_of _ (by decide +kernel)) ggX2_keepSupplied_X0_bit
theorem dX2_keepSupplied_0 : decode cX2_keepSupplied 0 = .ok (.iload_n 1, 1) := by decide +kernel
theorem dX2_keepSupplied_1 : decode cX2_keepSupplied 1 = .ok (.istore_n 2, 1) := by decide +kernel
theorem dX2_keepSupplied_2 : decode cX2_keepSupplied 2 = .ok (.iconst 0, 1) := by decide +kernel
theorem dX2_keepSupplied_3 : decode cX2_keepSupplied 3 = .ok (.istore_n 3, 1) := by decide +kernel
theorem dX2_keepSupplied_4 : decode cX2_keepSupplied 4 = .ok (.iload_n 3, 1) := by decide +kernel
theorem dX2_keepSupplied_5 : decode cX2_keepSupplied 5 = .ok (.aload_n 0, 1) := by decide +kernel
theorem dX2_keepSupplied_6 : decode cX2_keepSupplied 6 = .ok (.getfield 15, 3) := by decide +kernel
theorem dX2_keepSupplied_9 : decode cX2_keepSupplied 9 = .ok (.if_icmp .ge 51, 3) := by decide +kernel
theorem dX2_keepSupplied_12 : decode cX2_keepSupplied 12 = .ok (.aload_n 0, 1) := by decide +kernel
theorem dX2_keepSupplied_13 : decode cX2_keepSupplied 13 = .ok (.getfield 11, 3) := by decide +kernel
theorem dX2_keepSupplied_16 : decode cX2_keepSupplied 16 = .ok (.iload_n 3, 1) := by decide +kernel
theorem dX2_keepSupplied_17 : decode cX2_keepSupplied 17 = .ok (.aaload, 1) := by decide +kernel
theorem dX2_keepSupplied_18 : decode cX2_keepSupplied 18 = .ok (.getfield 109, 3) := by decide +kernel
theorem dX2_keepSupplied_21 : decode cX2_keepSupplied 21 = .ok (.astore 4, 2) := by decide +kernel
theorem dX2_keepSupplied_23 : decode cX2_keepSupplied 23 = .ok (.iload_n 2, 1) := by decide +kernel
theorem dX2_keepSupplied_24 : decode cX2_keepSupplied 24 = .ok (.aload 4, 2) := by decide +kernel
theorem dX2_keepSupplied_26 : decode cX2_keepSupplied 26 = .ok (.ifnull 25, 3) := by decide +kernel
theorem dX2_keepSupplied_29 : decode cX2_keepSupplied 29 = .ok (.aload_n 0, 1) := by decide +kernel
theorem dX2_keepSupplied_30 : decode cX2_keepSupplied 30 = .ok (.iload_n 1, 1) := by decide +kernel
theorem dX2_keepSupplied_31 : decode cX2_keepSupplied 31 = .ok (.aload 4, 2) := by decide +kernel
theorem dX2_keepSupplied_33 : decode cX2_keepSupplied 33 = .ok (.invokevirtual 78, 3) := by decide +kernel
theorem dX2_keepSupplied_36 : decode cX2_keepSupplied 36 = .ok (.ifCond .eq 15, 3) := by decide +kernel
theorem dX2_keepSupplied_39 : decode cX2_keepSupplied 39 = .ok (.aload_n 0, 1) := by decide +kernel
theorem dX2_keepSupplied_40 : decode cX2_keepSupplied 40 = .ok (.getfield 11, 3) := by decide +kernel
theorem dX2_keepSupplied_43 : decode cX2_keepSupplied 43 = .ok (.iload_n 3, 1) := by decide +kernel
theorem dX2_keepSupplied_44 : decode cX2_keepSupplied 44 = .ok (.aaload, 1) := by decide +kernel
theorem dX2_keepSupplied_45 : decode cX2_keepSupplied 45 = .ok (.invokevirtual 82, 3) := by decide +kernel
theorem dX2_keepSupplied_48 : decode cX2_keepSupplied 48 = .ok (.goto 4, 3) := by decide +kernel
theorem dX2_keepSupplied_51 : decode cX2_keepSupplied 51 = .ok (.iconst 0, 1) := by decide +kernel
theorem dX2_keepSupplied_52 : decode cX2_keepSupplied 52 = .ok (.ior, 1) := by decide +kernel
theorem dX2_keepSupplied_53 : decode cX2_keepSupplied 53 = .ok (.istore_n 2, 1) := by decide +kernel
theorem dX2_keepSupplied_54 : decode cX2_keepSupplied 54 = .ok (.iinc 3 1, 3) := by decide +kernel
theorem dX2_keepSupplied_57 : decode cX2_keepSupplied 57 = .ok (.goto (-53), 3) := by decide +kernel
theorem dX2_keepSupplied_60 : decode cX2_keepSupplied 60 = .ok (.iconst 0, 1) := by decide +kernel
theorem dX2_keepSupplied_61 : decode cX2_keepSupplied 61 = .ok (.istore_n 3, 1) := by decide +kernel
theorem dX2_keepSupplied_62 : decode cX2_keepSupplied 62 = .ok (.iconst 0, 1) := by decide +kernel
theorem dX2_keepSupplied_63 : decode cX2_keepSupplied 63 = .ok (.istore 4, 2) := by decide +kernel
theorem dX2_keepSupplied_65 : decode cX2_keepSupplied 65 = .ok (.iload 4, 2) := by decide +kernel
theorem dX2_keepSupplied_67 : decode cX2_keepSupplied 67 = .ok (.aload_n 0, 1) := by decide +kernel
theorem dX2_keepSupplied_68 : decode cX2_keepSupplied 68 = .ok (.getfield 15, 3) := by decide +kernel
theorem dX2_keepSupplied_71 : decode cX2_keepSupplied 71 = .ok (.if_icmp .ge 70, 3) := by decide +kernel
theorem dX2_keepSupplied_74 : decode cX2_keepSupplied 74 = .ok (.aload_n 0, 1) := by decide +kernel
theorem dX2_keepSupplied_75 : decode cX2_keepSupplied 75 = .ok (.iload_n 1, 1) := by decide +kernel
theorem dX2_keepSupplied_76 : decode cX2_keepSupplied 76 = .ok (.aload_n 0, 1) := by decide +kernel
theorem dX2_keepSupplied_77 : decode cX2_keepSupplied 77 = .ok (.getfield 11, 3) := by decide +kernel
theorem dX2_keepSupplied_80 : decode cX2_keepSupplied 80 = .ok (.iload 4, 2) := by decide +kernel
theorem dX2_keepSupplied_82 : decode cX2_keepSupplied 82 = .ok (.aaload, 1) := by decide +kernel
theorem dX2_keepSupplied_83 : decode cX2_keepSupplied 83 = .ok (.invokevirtual 78, 3) := by decide +kernel
theorem dX2_keepSupplied_86 : decode cX2_keepSupplied 86 = .ok (.ifCond .eq 24, 3) := by decide +kernel
theorem dX2_keepSupplied_89 : decode cX2_keepSupplied 89 = .ok (.aload_n 0, 1) := by decide +kernel
theorem dX2_keepSupplied_90 : decode cX2_keepSupplied 90 = .ok (.getfield 11, 3) := by decide +kernel
theorem dX2_keepSupplied_93 : decode cX2_keepSupplied 93 = .ok (.iload 4, 2) := by decide +kernel
theorem dX2_keepSupplied_95 : decode cX2_keepSupplied 95 = .ok (.aaload, 1) := by decide +kernel
theorem dX2_keepSupplied_96 : decode cX2_keepSupplied 96 = .ok (.getfield 75, 3) := by decide +kernel
theorem dX2_keepSupplied_99 : decode cX2_keepSupplied 99 = .ok (.iload_n 2, 1) := by decide +kernel
theorem dX2_keepSupplied_100 : decode cX2_keepSupplied 100 = .ok (.iconst (-1), 1) := by decide +kernel
theorem dX2_keepSupplied_101 : decode cX2_keepSupplied 101 = .ok (.ixor, 1) := by decide +kernel
theorem dX2_keepSupplied_102 : decode cX2_keepSupplied 102 = .ok (.iand, 1) := by decide +kernel
theorem dX2_keepSupplied_103 : decode cX2_keepSupplied 103 = .ok (.ifCond .ne 7, 3) := by decide +kernel
theorem dX2_keepSupplied_106 : decode cX2_keepSupplied 106 = .ok (.iconst 1, 1) := by decide +kernel
theorem dX2_keepSupplied_107 : decode cX2_keepSupplied 107 = .ok (.goto 4, 3) := by decide +kernel
theorem dX2_keepSupplied_110 : decode cX2_keepSupplied 110 = .ok (.iconst 0, 1) := by decide +kernel
theorem dX2_keepSupplied_111 : decode cX2_keepSupplied 111 = .ok (.istore 5, 2) := by decide +kernel
theorem dX2_keepSupplied_113 : decode cX2_keepSupplied 113 = .ok (.iload_n 3, 1) := by decide +kernel
theorem dX2_keepSupplied_114 : decode cX2_keepSupplied 114 = .ok (.iload 5, 2) := by decide +kernel
theorem dX2_keepSupplied_116 : decode cX2_keepSupplied 116 = .ok (.ifCond .eq 16, 3) := by decide +kernel
theorem dX2_keepSupplied_119 : decode cX2_keepSupplied 119 = .ok (.aload_n 0, 1) := by decide +kernel
theorem dX2_keepSupplied_120 : decode cX2_keepSupplied 120 = .ok (.getfield 11, 3) := by decide +kernel
theorem dX2_keepSupplied_123 : decode cX2_keepSupplied 123 = .ok (.iload 4, 2) := by decide +kernel
theorem dX2_keepSupplied_125 : decode cX2_keepSupplied 125 = .ok (.aaload, 1) := by decide +kernel
theorem dX2_keepSupplied_126 : decode cX2_keepSupplied 126 = .ok (.invokevirtual 82, 3) := by decide +kernel
theorem dX2_keepSupplied_129 : decode cX2_keepSupplied 129 = .ok (.goto 4, 3) := by decide +kernel
theorem dX2_keepSupplied_132 : decode cX2_keepSupplied 132 = .ok (.iconst 0, 1) := by decide +kernel
theorem dX2_keepSupplied_133 : decode cX2_keepSupplied 133 = .ok (.ior, 1) := by decide +kernel
theorem dX2_keepSupplied_134 : decode cX2_keepSupplied 134 = .ok (.istore_n 3, 1) := by decide +kernel
theorem dX2_keepSupplied_135 : decode cX2_keepSupplied 135 = .ok (.iinc 4 1, 3) := by decide +kernel
theorem dX2_keepSupplied_138 : decode cX2_keepSupplied 138 = .ok (.goto (-73), 3) := by decide +kernel
theorem dX2_keepSupplied_141 : decode cX2_keepSupplied 141 = .ok (.iload_n 3, 1) := by decide +kernel
theorem dX2_keepSupplied_142 : decode cX2_keepSupplied 142 = .ok (.ireturn, 1) := by decide +kernel
end
section
/-! THE STATE. c: the class's columns (c k u: field k of unit u; c 20 k: field k of the BootStage; c 30 0: wishes told; c 31 j, c 32 j, c 33 j, c 34 j: units, weight and address of wish j; c 35 0, c 36 0: the list's array and its length, 0 for the shared empty one; c 37 0: modCount). r: the reference's (r k i: array of field k at i; r 30 k: its field k). o: out[0] + 1. G: addresses. -/
abbrev vwCl : List vw_C := [(RJx4a65c, TJx4a65c, 3), (RX0, TX0, 13), (RX1, TX1, 3), (RX2, TX2, 7), (RX3, TX3, 23)]
def up2 (x : Nat → Nat → Nat) (a i v : Nat) : Nat → Nat → Nat := fun b j => if b = a ∧ j = i then v else x b j
theorem up2_s (x : Nat → Nat → Nat) (a i v : Nat) : up2 x a i v a i = v := by simp [up2]
theorem up2_c {x : Nat → Nat → Nat} {a i v b j : Nat} (h : b ≠ a) : up2 x a i v b j = x b j := by simp [up2, h]
theorem up2_i {x : Nat → Nat → Nat} {a i v b j : Nat} (h : j ≠ i) : up2 x a i v b j = x b j := by simp [up2, h]
def sbV (G : Nat → Nat) (n : Nat) : Value := if n = 0 then .null else .ref (G (19 + n))
theorem sbV_0 (G : Nat → Nat) {n : Nat} (h : n = 0) : sbV G n = .null := by simp [sbV, h]
theorem sbV_s (G : Nat → Nat) {n u : Nat} (h : n = u + 1) : sbV G n = .ref (G (20 + u)) := by
  subst h
  simp only [sbV, Nat.succ_ne_zero, if_false]
  rw [show 19 + (u + 1) = 20 + u by omega]
def siI (n : Nat) : Int32 := nI n - 1
def lE (n : Nat) : Int64 := lN n - 1

abbrev uF (G : Nat → Nat) (c : Nat → Nat → Nat) (u : Nat) : List Value := [.int (nI u), .int (nI (c 1 u)), .int (nI (c 2 u)), .int (nI (c 3 u)), .int (nI (c 4 u)), .int (nI (c 5 u)), sbV G (c 6 u), .int (nI (c 7 u)), .int (nI (c 8 u)), .int (nI (c 9 u)), .int (nI (c 10 u)), .int (nI (c 11 u)), .int (nI (c 12 u))]
abbrev oF (G : Nat → Nat) (c : Nat → Nat → Nat) : List Value := [.ref (G 1), .int (nI (c 20 1)), .ref (G 2), .int (nI (c 20 3)), .int (nI (c 20 4)), .int (nI (c 20 5)), .int (nI (c 20 6))]
abbrev lF (c : Nat → Nat → Nat) : List Value := [.int (nI (c 37 0)), .ref (c 35 0), .int (nI (c 30 0))]
abbrev wF (G : Nat → Nat) (c : Nat → Nat → Nat) (j : Nat) : List Value := [.ref (G (20 + c 31 j)), .ref (G (20 + c 32 j)), .int (nI (c 33 j))]
abbrev mF (G : Nat → Nat) (r : Nat → Nat → Nat) : List Value := [.int (nI (r 30 0)), .ref (G 5), .ref (G 6), .ref (G 7), .ref (G 8), .ref (G 9), .ref (G 10), .ref (G 11), .ref (G 12), .ref (G 13), .int (nI (r 30 10)), .ref (G 14), .int (nI (r 30 12)), .int (nI (r 30 13)), .int (nI (r 30 14)), .int (nI (r 30 15)), .int (nI (r 30 16)), .ref (G 15), .ref (G 16), .ref (G 17), .ref (G 18), .ref (G 19), .int (nI (r 30 22))]
def Rc (G : Nat → Nat) (c : Nat → Nat → Nat) (wl : va_W) : Prop :=
  wl[0]? = some (G 0, .inr (3, oF G c)) ∧ wl[1]? = some (G 1, .inl (G 60, 20, .inr (.inr (.inr (.inr (fun i => some (G (20 + i)))))))) ∧ wl[2]? = some (G 2, .inr (0, lF c)) ∧
  (∀ u, u < 20 → wl[20 + u]? = some (G (20 + u), .inr (1, uF G c u))) ∧
  (∀ j, j < c 30 0 → ∃ i, 40 ≤ i ∧ wl[i]? = some (c 34 j, .inr (2, wF G c j))) ∧
  (∀ i j, i < c 30 0 → j < c 30 0 → c 34 i = c 34 j → i = j) ∧
  (c 36 0 = 0 → c 35 0 = G 70 ∧ c 30 0 = 0) ∧
  (0 < c 36 0 → ∃ i, 40 ≤ i ∧ wl[i]? = some (c 35 0, .inl (G 61, c 36 0, .inr (.inr (.inr (.inr (fun j => if j < c 30 0 then some (c 34 j) else none)))))))
def Rr (G : Nat → Nat) (r : Nat → Nat → Nat) (wl : va_W) : Prop :=
  wl[3]? = some (G 3, .inr (4, mF G r)) ∧ wl[5]? = some (G 5, .inl (G 62, 20, .inl (fun i => nI (r 1 i)))) ∧ wl[6]? = some (G 6, .inl (G 62, 20, .inl (fun i => nI (r 2 i)))) ∧ wl[7]? = some (G 7, .inl (G 62, 20, .inl (fun i => nI (r 3 i)))) ∧ wl[8]? = some (G 8, .inl (G 62, 20, .inl (fun i => nI (r 4 i)))) ∧ wl[9]? = some (G 9, .inl (G 62, 20, .inl (fun i => siI (r 5 i)))) ∧ wl[10]? = some (G 10, .inl (G 63, 20, .inl (fun i => nI (r 6 i)))) ∧ wl[11]? = some (G 11, .inl (G 63, 400, .inl (fun i => nI (r 7 i)))) ∧ wl[12]? = some (G 12, .inl (G 62, 400, .inl (fun i => nI (r 8 i)))) ∧ wl[13]? = some (G 13, .inl (G 62, 400, .inl (fun i => nI (r 9 i)))) ∧ wl[14]? = some (G 14, .inl (G 63, 400, .inl (fun i => nI (r 11 i)))) ∧ wl[15]? = some (G 15, .inl (G 62, 20, .inl (fun i => nI (r 17 i)))) ∧ wl[16]? = some (G 16, .inl (G 62, 20, .inl (fun i => nI (r 18 i)))) ∧ wl[17]? = some (G 17, .inl (G 62, 20, .inl (fun i => nI (r 19 i)))) ∧ wl[18]? = some (G 18, .inl (G 62, 20, .inl (fun i => nI (r 20 i)))) ∧ wl[19]? = some (G 19, .inl (G 63, 20, .inl (fun i => nI (r 21 i))))
def Ro (G : Nat → Nat) (o : Nat) (wl : va_W) : Prop := wl[4]? = some (G 4, .inl (G 64, 1, .inr (.inl (fun _ => lE o))))
theorem ws_ne {wl : va_W} {i j : Nat} {e : Nat × va_E} (h : i ≠ j) : (wl.set i e)[j]? = wl[j]? := List.getElem?_set_ne h
theorem ws_eq {wl : va_W} {i : Nat} {e q : Nat × va_E} (h : wl[i]? = some q) : (wl.set i e)[i]? = some e := List.getElem?_set_self (List.getElem?_eq_some_iff.mp h).1
theorem ws_ap {wl l : va_W} {i : Nat} {q : Nat × va_E} (h : wl[i]? = some q) : (wl ++ l)[i]? = some q := by
  rw [List.getElem?_append_left (List.getElem?_eq_some_iff.mp h).1]
  exact h
theorem Rc_fr {G : Nat → Nat} {c : Nat → Nat → Nat} {wl : va_W} {i : Nat} {e : Nat × va_E} (h : Rc G c wl) (h1 : 3 ≤ i) (h2 : i < 20) : Rc G c (wl.set i e) := by
  obtain ⟨a0, a1, a2, a3, a4, a5, a6, a7⟩ := h
  refine ⟨by rw [ws_ne (by omega)]; exact a0, by rw [ws_ne (by omega)]; exact a1, by rw [ws_ne (by omega)]; exact a2, fun u hu => by rw [ws_ne (by omega)]; exact a3 u hu, fun j hj => ?_, a5, a6, fun hc => ?_⟩
  · obtain ⟨k, hk, hq⟩ := a4 j hj
    exact ⟨k, hk, by rw [ws_ne (by omega)]; exact hq⟩
  · obtain ⟨k, hk, hq⟩ := a7 hc
    exact ⟨k, hk, by rw [ws_ne (by omega)]; exact hq⟩
theorem Rc_ap {G : Nat → Nat} {c : Nat → Nat → Nat} {wl l : va_W} (h : Rc G c wl) : Rc G c (wl ++ l) := by
  obtain ⟨a0, a1, a2, a3, a4, a5, a6, a7⟩ := h
  refine ⟨ws_ap a0, ws_ap a1, ws_ap a2, fun u hu => ws_ap (a3 u hu), fun j hj => ?_, a5, a6, fun hc => ?_⟩
  · obtain ⟨k, hk, hq⟩ := a4 j hj
    exact ⟨k, hk, ws_ap hq⟩
  · obtain ⟨k, hk, hq⟩ := a7 hc
    exact ⟨k, hk, ws_ap hq⟩
theorem Ro_fr {G : Nat → Nat} {o : Nat} {wl : va_W} {i : Nat} {e : Nat × va_E} (h : Ro G o wl) (hi : i ≠ 4) : Ro G o (wl.set i e) := by
  unfold Ro
  rw [ws_ne hi]
  exact h
theorem Ro_ap {G : Nat → Nat} {o : Nat} {wl l : va_W} (h : Ro G o wl) : Ro G o (wl ++ l) := ws_ap h
theorem Rr_fr {G : Nat → Nat} {r : Nat → Nat → Nat} {wl : va_W} {i : Nat} {e : Nat × va_E} (h : Rr G r wl) (hi : i < 3 ∨ i = 4 ∨ 20 ≤ i) : Rr G r (wl.set i e) := by
  obtain ⟨b3, b5, b6, b7, b8, b9, b10, b11, b12, b13, b14, b15, b16, b17, b18, b19⟩ := h
  exact ⟨by rw [ws_ne (by omega)]; exact b3, by rw [ws_ne (by omega)]; exact b5, by rw [ws_ne (by omega)]; exact b6, by rw [ws_ne (by omega)]; exact b7, by rw [ws_ne (by omega)]; exact b8, by rw [ws_ne (by omega)]; exact b9, by rw [ws_ne (by omega)]; exact b10, by rw [ws_ne (by omega)]; exact b11, by rw [ws_ne (by omega)]; exact b12, by rw [ws_ne (by omega)]; exact b13, by rw [ws_ne (by omega)]; exact b14, by rw [ws_ne (by omega)]; exact b15, by rw [ws_ne (by omega)]; exact b16, by rw [ws_ne (by omega)]; exact b17, by rw [ws_ne (by omega)]; exact b18, by rw [ws_ne (by omega)]; exact b19⟩
theorem Rr_ap {G : Nat → Nat} {r : Nat → Nat → Nat} {wl l : va_W} (h : Rr G r wl) : Rr G r (wl ++ l) := by
  obtain ⟨b3, b5, b6, b7, b8, b9, b10, b11, b12, b13, b14, b15, b16, b17, b18, b19⟩ := h
  exact ⟨ws_ap b3, ws_ap b5, ws_ap b6, ws_ap b7, ws_ap b8, ws_ap b9, ws_ap b10, ws_ap b11, ws_ap b12, ws_ap b13, ws_ap b14, ws_ap b15, ws_ap b16, ws_ap b17, ws_ap b18, ws_ap b19⟩
theorem P_o1 {G : Nat → Nat} {c : Nat → Nat → Nat} {wl : va_W} (v : Nat) (h : Rc G c wl) : Rc G (up2 c 20 1 v) (wl.set 0 (G 0, .inr (3, (oF G c).set 1 (.int (nI v))))) := by
  obtain ⟨a0, a1, a2, a3, a4, a5, a6, a7⟩ := h
  refine ⟨by rw [ws_eq a0]; rfl, by rw [ws_ne (by decide)]; exact a1, by rw [ws_ne (by decide)]; exact a2, fun u hu => by rw [ws_ne (by omega)]; exact a3 u hu, fun j hj => ?_, a5, a6, fun hc => ?_⟩
  · obtain ⟨k, hk, hq⟩ := a4 j hj
    exact ⟨k, hk, by rw [ws_ne (by omega)]; exact hq⟩
  · obtain ⟨k, hk, hq⟩ := a7 hc
    exact ⟨k, hk, by rw [ws_ne (by omega)]; exact hq⟩
theorem P_o3 {G : Nat → Nat} {c : Nat → Nat → Nat} {wl : va_W} (v : Nat) (h : Rc G c wl) : Rc G (up2 c 20 3 v) (wl.set 0 (G 0, .inr (3, (oF G c).set 3 (.int (nI v))))) := by
  obtain ⟨a0, a1, a2, a3, a4, a5, a6, a7⟩ := h
  refine ⟨by rw [ws_eq a0]; rfl, by rw [ws_ne (by decide)]; exact a1, by rw [ws_ne (by decide)]; exact a2, fun u hu => by rw [ws_ne (by omega)]; exact a3 u hu, fun j hj => ?_, a5, a6, fun hc => ?_⟩
  · obtain ⟨k, hk, hq⟩ := a4 j hj
    exact ⟨k, hk, by rw [ws_ne (by omega)]; exact hq⟩
  · obtain ⟨k, hk, hq⟩ := a7 hc
    exact ⟨k, hk, by rw [ws_ne (by omega)]; exact hq⟩
theorem P_o4 {G : Nat → Nat} {c : Nat → Nat → Nat} {wl : va_W} (v : Nat) (h : Rc G c wl) : Rc G (up2 c 20 4 v) (wl.set 0 (G 0, .inr (3, (oF G c).set 4 (.int (nI v))))) := by
  obtain ⟨a0, a1, a2, a3, a4, a5, a6, a7⟩ := h
  refine ⟨by rw [ws_eq a0]; rfl, by rw [ws_ne (by decide)]; exact a1, by rw [ws_ne (by decide)]; exact a2, fun u hu => by rw [ws_ne (by omega)]; exact a3 u hu, fun j hj => ?_, a5, a6, fun hc => ?_⟩
  · obtain ⟨k, hk, hq⟩ := a4 j hj
    exact ⟨k, hk, by rw [ws_ne (by omega)]; exact hq⟩
  · obtain ⟨k, hk, hq⟩ := a7 hc
    exact ⟨k, hk, by rw [ws_ne (by omega)]; exact hq⟩
theorem P_o5 {G : Nat → Nat} {c : Nat → Nat → Nat} {wl : va_W} (v : Nat) (h : Rc G c wl) : Rc G (up2 c 20 5 v) (wl.set 0 (G 0, .inr (3, (oF G c).set 5 (.int (nI v))))) := by
  obtain ⟨a0, a1, a2, a3, a4, a5, a6, a7⟩ := h
  refine ⟨by rw [ws_eq a0]; rfl, by rw [ws_ne (by decide)]; exact a1, by rw [ws_ne (by decide)]; exact a2, fun u hu => by rw [ws_ne (by omega)]; exact a3 u hu, fun j hj => ?_, a5, a6, fun hc => ?_⟩
  · obtain ⟨k, hk, hq⟩ := a4 j hj
    exact ⟨k, hk, by rw [ws_ne (by omega)]; exact hq⟩
  · obtain ⟨k, hk, hq⟩ := a7 hc
    exact ⟨k, hk, by rw [ws_ne (by omega)]; exact hq⟩
theorem P_o6 {G : Nat → Nat} {c : Nat → Nat → Nat} {wl : va_W} (v : Nat) (h : Rc G c wl) : Rc G (up2 c 20 6 v) (wl.set 0 (G 0, .inr (3, (oF G c).set 6 (.int (nI v))))) := by
  obtain ⟨a0, a1, a2, a3, a4, a5, a6, a7⟩ := h
  refine ⟨by rw [ws_eq a0]; rfl, by rw [ws_ne (by decide)]; exact a1, by rw [ws_ne (by decide)]; exact a2, fun u hu => by rw [ws_ne (by omega)]; exact a3 u hu, fun j hj => ?_, a5, a6, fun hc => ?_⟩
  · obtain ⟨k, hk, hq⟩ := a4 j hj
    exact ⟨k, hk, by rw [ws_ne (by omega)]; exact hq⟩
  · obtain ⟨k, hk, hq⟩ := a7 hc
    exact ⟨k, hk, by rw [ws_ne (by omega)]; exact hq⟩
theorem P_u1 {G : Nat → Nat} {c : Nat → Nat → Nat} {wl : va_W} {u : Nat} (v : Nat) (hu : u < 20) (h : Rc G c wl) : Rc G (up2 c 1 u v) (wl.set (20 + u) (G (20 + u), .inr (1, (uF G c u).set 1 (.int (nI v))))) := by
  obtain ⟨a0, a1, a2, a3, a4, a5, a6, a7⟩ := h
  refine ⟨by rw [ws_ne (by omega)]; exact a0, by rw [ws_ne (by omega)]; exact a1, by rw [ws_ne (by omega)]; exact a2, fun w hw => ?_, fun j hj => ?_, a5, a6, fun hc => ?_⟩
  · by_cases hwu : w = u
    · subst hwu
      rw [ws_eq (a3 w hw)]
      show some _ = some (_, Sum.inr (1, uF G (up2 c 1 w v) w))
      simp [uF, up2]
    · rw [ws_ne (by omega), a3 w hw]
      simp only [uF, up2_i hwu]
  · obtain ⟨k, hk, hq⟩ := a4 j hj
    exact ⟨k, hk, by rw [ws_ne (by omega)]; exact hq⟩
  · obtain ⟨k, hk, hq⟩ := a7 hc
    exact ⟨k, hk, by rw [ws_ne (by omega)]; exact hq⟩
theorem P_u2 {G : Nat → Nat} {c : Nat → Nat → Nat} {wl : va_W} {u : Nat} (v : Nat) (hu : u < 20) (h : Rc G c wl) : Rc G (up2 c 2 u v) (wl.set (20 + u) (G (20 + u), .inr (1, (uF G c u).set 2 (.int (nI v))))) := by
  obtain ⟨a0, a1, a2, a3, a4, a5, a6, a7⟩ := h
  refine ⟨by rw [ws_ne (by omega)]; exact a0, by rw [ws_ne (by omega)]; exact a1, by rw [ws_ne (by omega)]; exact a2, fun w hw => ?_, fun j hj => ?_, a5, a6, fun hc => ?_⟩
  · by_cases hwu : w = u
    · subst hwu
      rw [ws_eq (a3 w hw)]
      show some _ = some (_, Sum.inr (1, uF G (up2 c 2 w v) w))
      simp [uF, up2]
    · rw [ws_ne (by omega), a3 w hw]
      simp only [uF, up2_i hwu]
  · obtain ⟨k, hk, hq⟩ := a4 j hj
    exact ⟨k, hk, by rw [ws_ne (by omega)]; exact hq⟩
  · obtain ⟨k, hk, hq⟩ := a7 hc
    exact ⟨k, hk, by rw [ws_ne (by omega)]; exact hq⟩
theorem P_u3 {G : Nat → Nat} {c : Nat → Nat → Nat} {wl : va_W} {u : Nat} (v : Nat) (hu : u < 20) (h : Rc G c wl) : Rc G (up2 c 3 u v) (wl.set (20 + u) (G (20 + u), .inr (1, (uF G c u).set 3 (.int (nI v))))) := by
  obtain ⟨a0, a1, a2, a3, a4, a5, a6, a7⟩ := h
  refine ⟨by rw [ws_ne (by omega)]; exact a0, by rw [ws_ne (by omega)]; exact a1, by rw [ws_ne (by omega)]; exact a2, fun w hw => ?_, fun j hj => ?_, a5, a6, fun hc => ?_⟩
  · by_cases hwu : w = u
    · subst hwu
      rw [ws_eq (a3 w hw)]
      show some _ = some (_, Sum.inr (1, uF G (up2 c 3 w v) w))
      simp [uF, up2]
    · rw [ws_ne (by omega), a3 w hw]
      simp only [uF, up2_i hwu]
  · obtain ⟨k, hk, hq⟩ := a4 j hj
    exact ⟨k, hk, by rw [ws_ne (by omega)]; exact hq⟩
  · obtain ⟨k, hk, hq⟩ := a7 hc
    exact ⟨k, hk, by rw [ws_ne (by omega)]; exact hq⟩
theorem P_u4 {G : Nat → Nat} {c : Nat → Nat → Nat} {wl : va_W} {u : Nat} (v : Nat) (hu : u < 20) (h : Rc G c wl) : Rc G (up2 c 4 u v) (wl.set (20 + u) (G (20 + u), .inr (1, (uF G c u).set 4 (.int (nI v))))) := by
  obtain ⟨a0, a1, a2, a3, a4, a5, a6, a7⟩ := h
  refine ⟨by rw [ws_ne (by omega)]; exact a0, by rw [ws_ne (by omega)]; exact a1, by rw [ws_ne (by omega)]; exact a2, fun w hw => ?_, fun j hj => ?_, a5, a6, fun hc => ?_⟩
  · by_cases hwu : w = u
    · subst hwu
      rw [ws_eq (a3 w hw)]
      show some _ = some (_, Sum.inr (1, uF G (up2 c 4 w v) w))
      simp [uF, up2]
    · rw [ws_ne (by omega), a3 w hw]
      simp only [uF, up2_i hwu]
  · obtain ⟨k, hk, hq⟩ := a4 j hj
    exact ⟨k, hk, by rw [ws_ne (by omega)]; exact hq⟩
  · obtain ⟨k, hk, hq⟩ := a7 hc
    exact ⟨k, hk, by rw [ws_ne (by omega)]; exact hq⟩
theorem P_u5 {G : Nat → Nat} {c : Nat → Nat → Nat} {wl : va_W} {u : Nat} (v : Nat) (hu : u < 20) (h : Rc G c wl) : Rc G (up2 c 5 u v) (wl.set (20 + u) (G (20 + u), .inr (1, (uF G c u).set 5 (.int (nI v))))) := by
  obtain ⟨a0, a1, a2, a3, a4, a5, a6, a7⟩ := h
  refine ⟨by rw [ws_ne (by omega)]; exact a0, by rw [ws_ne (by omega)]; exact a1, by rw [ws_ne (by omega)]; exact a2, fun w hw => ?_, fun j hj => ?_, a5, a6, fun hc => ?_⟩
  · by_cases hwu : w = u
    · subst hwu
      rw [ws_eq (a3 w hw)]
      show some _ = some (_, Sum.inr (1, uF G (up2 c 5 w v) w))
      simp [uF, up2]
    · rw [ws_ne (by omega), a3 w hw]
      simp only [uF, up2_i hwu]
  · obtain ⟨k, hk, hq⟩ := a4 j hj
    exact ⟨k, hk, by rw [ws_ne (by omega)]; exact hq⟩
  · obtain ⟨k, hk, hq⟩ := a7 hc
    exact ⟨k, hk, by rw [ws_ne (by omega)]; exact hq⟩
theorem P_u6 {G : Nat → Nat} {c : Nat → Nat → Nat} {wl : va_W} {u : Nat} (v : Nat) (hu : u < 20) (h : Rc G c wl) : Rc G (up2 c 6 u v) (wl.set (20 + u) (G (20 + u), .inr (1, (uF G c u).set 6 (sbV G v)))) := by
  obtain ⟨a0, a1, a2, a3, a4, a5, a6, a7⟩ := h
  refine ⟨by rw [ws_ne (by omega)]; exact a0, by rw [ws_ne (by omega)]; exact a1, by rw [ws_ne (by omega)]; exact a2, fun w hw => ?_, fun j hj => ?_, a5, a6, fun hc => ?_⟩
  · by_cases hwu : w = u
    · subst hwu
      rw [ws_eq (a3 w hw)]
      show some _ = some (_, Sum.inr (1, uF G (up2 c 6 w v) w))
      simp [uF, up2]
    · rw [ws_ne (by omega), a3 w hw]
      simp only [uF, up2_i hwu]
  · obtain ⟨k, hk, hq⟩ := a4 j hj
    exact ⟨k, hk, by rw [ws_ne (by omega)]; exact hq⟩
  · obtain ⟨k, hk, hq⟩ := a7 hc
    exact ⟨k, hk, by rw [ws_ne (by omega)]; exact hq⟩
theorem P_u7 {G : Nat → Nat} {c : Nat → Nat → Nat} {wl : va_W} {u : Nat} (v : Nat) (hu : u < 20) (h : Rc G c wl) : Rc G (up2 c 7 u v) (wl.set (20 + u) (G (20 + u), .inr (1, (uF G c u).set 7 (.int (nI v))))) := by
  obtain ⟨a0, a1, a2, a3, a4, a5, a6, a7⟩ := h
  refine ⟨by rw [ws_ne (by omega)]; exact a0, by rw [ws_ne (by omega)]; exact a1, by rw [ws_ne (by omega)]; exact a2, fun w hw => ?_, fun j hj => ?_, a5, a6, fun hc => ?_⟩
  · by_cases hwu : w = u
    · subst hwu
      rw [ws_eq (a3 w hw)]
      show some _ = some (_, Sum.inr (1, uF G (up2 c 7 w v) w))
      simp [uF, up2]
    · rw [ws_ne (by omega), a3 w hw]
      simp only [uF, up2_i hwu]
  · obtain ⟨k, hk, hq⟩ := a4 j hj
    exact ⟨k, hk, by rw [ws_ne (by omega)]; exact hq⟩
  · obtain ⟨k, hk, hq⟩ := a7 hc
    exact ⟨k, hk, by rw [ws_ne (by omega)]; exact hq⟩
theorem P_u8 {G : Nat → Nat} {c : Nat → Nat → Nat} {wl : va_W} {u : Nat} (v : Nat) (hu : u < 20) (h : Rc G c wl) : Rc G (up2 c 8 u v) (wl.set (20 + u) (G (20 + u), .inr (1, (uF G c u).set 8 (.int (nI v))))) := by
  obtain ⟨a0, a1, a2, a3, a4, a5, a6, a7⟩ := h
  refine ⟨by rw [ws_ne (by omega)]; exact a0, by rw [ws_ne (by omega)]; exact a1, by rw [ws_ne (by omega)]; exact a2, fun w hw => ?_, fun j hj => ?_, a5, a6, fun hc => ?_⟩
  · by_cases hwu : w = u
    · subst hwu
      rw [ws_eq (a3 w hw)]
      show some _ = some (_, Sum.inr (1, uF G (up2 c 8 w v) w))
      simp [uF, up2]
    · rw [ws_ne (by omega), a3 w hw]
      simp only [uF, up2_i hwu]
  · obtain ⟨k, hk, hq⟩ := a4 j hj
    exact ⟨k, hk, by rw [ws_ne (by omega)]; exact hq⟩
  · obtain ⟨k, hk, hq⟩ := a7 hc
    exact ⟨k, hk, by rw [ws_ne (by omega)]; exact hq⟩
theorem P_u9 {G : Nat → Nat} {c : Nat → Nat → Nat} {wl : va_W} {u : Nat} (v : Nat) (hu : u < 20) (h : Rc G c wl) : Rc G (up2 c 9 u v) (wl.set (20 + u) (G (20 + u), .inr (1, (uF G c u).set 9 (.int (nI v))))) := by
  obtain ⟨a0, a1, a2, a3, a4, a5, a6, a7⟩ := h
  refine ⟨by rw [ws_ne (by omega)]; exact a0, by rw [ws_ne (by omega)]; exact a1, by rw [ws_ne (by omega)]; exact a2, fun w hw => ?_, fun j hj => ?_, a5, a6, fun hc => ?_⟩
  · by_cases hwu : w = u
    · subst hwu
      rw [ws_eq (a3 w hw)]
      show some _ = some (_, Sum.inr (1, uF G (up2 c 9 w v) w))
      simp [uF, up2]
    · rw [ws_ne (by omega), a3 w hw]
      simp only [uF, up2_i hwu]
  · obtain ⟨k, hk, hq⟩ := a4 j hj
    exact ⟨k, hk, by rw [ws_ne (by omega)]; exact hq⟩
  · obtain ⟨k, hk, hq⟩ := a7 hc
    exact ⟨k, hk, by rw [ws_ne (by omega)]; exact hq⟩
theorem P_u10 {G : Nat → Nat} {c : Nat → Nat → Nat} {wl : va_W} {u : Nat} (v : Nat) (hu : u < 20) (h : Rc G c wl) : Rc G (up2 c 10 u v) (wl.set (20 + u) (G (20 + u), .inr (1, (uF G c u).set 10 (.int (nI v))))) := by
  obtain ⟨a0, a1, a2, a3, a4, a5, a6, a7⟩ := h
  refine ⟨by rw [ws_ne (by omega)]; exact a0, by rw [ws_ne (by omega)]; exact a1, by rw [ws_ne (by omega)]; exact a2, fun w hw => ?_, fun j hj => ?_, a5, a6, fun hc => ?_⟩
  · by_cases hwu : w = u
    · subst hwu
      rw [ws_eq (a3 w hw)]
      show some _ = some (_, Sum.inr (1, uF G (up2 c 10 w v) w))
      simp [uF, up2]
    · rw [ws_ne (by omega), a3 w hw]
      simp only [uF, up2_i hwu]
  · obtain ⟨k, hk, hq⟩ := a4 j hj
    exact ⟨k, hk, by rw [ws_ne (by omega)]; exact hq⟩
  · obtain ⟨k, hk, hq⟩ := a7 hc
    exact ⟨k, hk, by rw [ws_ne (by omega)]; exact hq⟩
theorem P_u11 {G : Nat → Nat} {c : Nat → Nat → Nat} {wl : va_W} {u : Nat} (v : Nat) (hu : u < 20) (h : Rc G c wl) : Rc G (up2 c 11 u v) (wl.set (20 + u) (G (20 + u), .inr (1, (uF G c u).set 11 (.int (nI v))))) := by
  obtain ⟨a0, a1, a2, a3, a4, a5, a6, a7⟩ := h
  refine ⟨by rw [ws_ne (by omega)]; exact a0, by rw [ws_ne (by omega)]; exact a1, by rw [ws_ne (by omega)]; exact a2, fun w hw => ?_, fun j hj => ?_, a5, a6, fun hc => ?_⟩
  · by_cases hwu : w = u
    · subst hwu
      rw [ws_eq (a3 w hw)]
      show some _ = some (_, Sum.inr (1, uF G (up2 c 11 w v) w))
      simp [uF, up2]
    · rw [ws_ne (by omega), a3 w hw]
      simp only [uF, up2_i hwu]
  · obtain ⟨k, hk, hq⟩ := a4 j hj
    exact ⟨k, hk, by rw [ws_ne (by omega)]; exact hq⟩
  · obtain ⟨k, hk, hq⟩ := a7 hc
    exact ⟨k, hk, by rw [ws_ne (by omega)]; exact hq⟩
theorem P_u12 {G : Nat → Nat} {c : Nat → Nat → Nat} {wl : va_W} {u : Nat} (v : Nat) (hu : u < 20) (h : Rc G c wl) : Rc G (up2 c 12 u v) (wl.set (20 + u) (G (20 + u), .inr (1, (uF G c u).set 12 (.int (nI v))))) := by
  obtain ⟨a0, a1, a2, a3, a4, a5, a6, a7⟩ := h
  refine ⟨by rw [ws_ne (by omega)]; exact a0, by rw [ws_ne (by omega)]; exact a1, by rw [ws_ne (by omega)]; exact a2, fun w hw => ?_, fun j hj => ?_, a5, a6, fun hc => ?_⟩
  · by_cases hwu : w = u
    · subst hwu
      rw [ws_eq (a3 w hw)]
      show some _ = some (_, Sum.inr (1, uF G (up2 c 12 w v) w))
      simp [uF, up2]
    · rw [ws_ne (by omega), a3 w hw]
      simp only [uF, up2_i hwu]
  · obtain ⟨k, hk, hq⟩ := a4 j hj
    exact ⟨k, hk, by rw [ws_ne (by omega)]; exact hq⟩
  · obtain ⟨k, hk, hq⟩ := a7 hc
    exact ⟨k, hk, by rw [ws_ne (by omega)]; exact hq⟩
theorem P_w {G : Nat → Nat} {c : Nat → Nat → Nat} {wl : va_W} {A : Nat → Prop} {i j : Nat} (v : Nat) (hD : va_D A wl) (hj : j < c 30 0) (hi : 40 ≤ i) (hq : wl[i]? = some (c 34 j, .inr (2, wF G c j))) (h : Rc G c wl) : Rc G (up2 c 33 j v) (wl.set i (c 34 j, .inr (2, (wF G c j).set 2 (.int (nI v))))) := by
  obtain ⟨a0, a1, a2, a3, a4, a5, a6, a7⟩ := h
  refine ⟨by rw [ws_ne (by omega)]; exact a0, by rw [ws_ne (by omega)]; exact a1, by rw [ws_ne (by omega)]; exact a2, fun w hw => by rw [ws_ne (by omega)]; exact a3 w hw, fun k hk => ?_, a5, a6, fun hc => ?_⟩
  · by_cases hkj : k = j
    · subst hkj
      refine ⟨i, hi, ?_⟩
      rw [ws_eq hq]
      simp [wF, up2]
    · obtain ⟨m, hm, e⟩ := a4 k hk
      refine ⟨m, hm, ?_⟩
      have hne : i ≠ m := fun z => by
        subst z
        have e2 := hq.symm.trans e
        have e3 : c 34 j = c 34 k := congrArg Prod.fst (Option.some.inj e2)
        exact hkj (a5 k j hk hj e3.symm)
      rw [ws_ne hne, e]
      simp only [wF, up2_i hkj] <;> rfl
  · obtain ⟨m, hm, e⟩ := a7 hc
    refine ⟨m, hm, ?_⟩
    have hne : i ≠ m := fun z => by
      subst z
      have e2 := hq.symm.trans e
      have e3 := congrArg Prod.snd (Option.some.inj e2)
      cases e3
    rw [ws_ne hne]
    exact e
theorem P_m0 {G : Nat → Nat} {r : Nat → Nat → Nat} {wl : va_W} (v : Nat) (h : Rr G r wl) : Rr G (up2 r 30 0 v) (wl.set 3 (G 3, .inr (4, (mF G r).set 0 (.int (nI v))))) := by
  obtain ⟨b3, b5, b6, b7, b8, b9, b10, b11, b12, b13, b14, b15, b16, b17, b18, b19⟩ := h
  exact ⟨by rw [ws_eq b3]; rfl, by rw [ws_ne (by decide)]; exact b5, by rw [ws_ne (by decide)]; exact b6, by rw [ws_ne (by decide)]; exact b7, by rw [ws_ne (by decide)]; exact b8, by rw [ws_ne (by decide)]; exact b9, by rw [ws_ne (by decide)]; exact b10, by rw [ws_ne (by decide)]; exact b11, by rw [ws_ne (by decide)]; exact b12, by rw [ws_ne (by decide)]; exact b13, by rw [ws_ne (by decide)]; exact b14, by rw [ws_ne (by decide)]; exact b15, by rw [ws_ne (by decide)]; exact b16, by rw [ws_ne (by decide)]; exact b17, by rw [ws_ne (by decide)]; exact b18, by rw [ws_ne (by decide)]; exact b19⟩
theorem P_m10 {G : Nat → Nat} {r : Nat → Nat → Nat} {wl : va_W} (v : Nat) (h : Rr G r wl) : Rr G (up2 r 30 10 v) (wl.set 3 (G 3, .inr (4, (mF G r).set 10 (.int (nI v))))) := by
  obtain ⟨b3, b5, b6, b7, b8, b9, b10, b11, b12, b13, b14, b15, b16, b17, b18, b19⟩ := h
  exact ⟨by rw [ws_eq b3]; rfl, by rw [ws_ne (by decide)]; exact b5, by rw [ws_ne (by decide)]; exact b6, by rw [ws_ne (by decide)]; exact b7, by rw [ws_ne (by decide)]; exact b8, by rw [ws_ne (by decide)]; exact b9, by rw [ws_ne (by decide)]; exact b10, by rw [ws_ne (by decide)]; exact b11, by rw [ws_ne (by decide)]; exact b12, by rw [ws_ne (by decide)]; exact b13, by rw [ws_ne (by decide)]; exact b14, by rw [ws_ne (by decide)]; exact b15, by rw [ws_ne (by decide)]; exact b16, by rw [ws_ne (by decide)]; exact b17, by rw [ws_ne (by decide)]; exact b18, by rw [ws_ne (by decide)]; exact b19⟩
theorem P_m12 {G : Nat → Nat} {r : Nat → Nat → Nat} {wl : va_W} (v : Nat) (h : Rr G r wl) : Rr G (up2 r 30 12 v) (wl.set 3 (G 3, .inr (4, (mF G r).set 12 (.int (nI v))))) := by
  obtain ⟨b3, b5, b6, b7, b8, b9, b10, b11, b12, b13, b14, b15, b16, b17, b18, b19⟩ := h
  exact ⟨by rw [ws_eq b3]; rfl, by rw [ws_ne (by decide)]; exact b5, by rw [ws_ne (by decide)]; exact b6, by rw [ws_ne (by decide)]; exact b7, by rw [ws_ne (by decide)]; exact b8, by rw [ws_ne (by decide)]; exact b9, by rw [ws_ne (by decide)]; exact b10, by rw [ws_ne (by decide)]; exact b11, by rw [ws_ne (by decide)]; exact b12, by rw [ws_ne (by decide)]; exact b13, by rw [ws_ne (by decide)]; exact b14, by rw [ws_ne (by decide)]; exact b15, by rw [ws_ne (by decide)]; exact b16, by rw [ws_ne (by decide)]; exact b17, by rw [ws_ne (by decide)]; exact b18, by rw [ws_ne (by decide)]; exact b19⟩
theorem P_m13 {G : Nat → Nat} {r : Nat → Nat → Nat} {wl : va_W} (v : Nat) (h : Rr G r wl) : Rr G (up2 r 30 13 v) (wl.set 3 (G 3, .inr (4, (mF G r).set 13 (.int (nI v))))) := by
  obtain ⟨b3, b5, b6, b7, b8, b9, b10, b11, b12, b13, b14, b15, b16, b17, b18, b19⟩ := h
  exact ⟨by rw [ws_eq b3]; rfl, by rw [ws_ne (by decide)]; exact b5, by rw [ws_ne (by decide)]; exact b6, by rw [ws_ne (by decide)]; exact b7, by rw [ws_ne (by decide)]; exact b8, by rw [ws_ne (by decide)]; exact b9, by rw [ws_ne (by decide)]; exact b10, by rw [ws_ne (by decide)]; exact b11, by rw [ws_ne (by decide)]; exact b12, by rw [ws_ne (by decide)]; exact b13, by rw [ws_ne (by decide)]; exact b14, by rw [ws_ne (by decide)]; exact b15, by rw [ws_ne (by decide)]; exact b16, by rw [ws_ne (by decide)]; exact b17, by rw [ws_ne (by decide)]; exact b18, by rw [ws_ne (by decide)]; exact b19⟩
theorem P_m14 {G : Nat → Nat} {r : Nat → Nat → Nat} {wl : va_W} (v : Nat) (h : Rr G r wl) : Rr G (up2 r 30 14 v) (wl.set 3 (G 3, .inr (4, (mF G r).set 14 (.int (nI v))))) := by
  obtain ⟨b3, b5, b6, b7, b8, b9, b10, b11, b12, b13, b14, b15, b16, b17, b18, b19⟩ := h
  exact ⟨by rw [ws_eq b3]; rfl, by rw [ws_ne (by decide)]; exact b5, by rw [ws_ne (by decide)]; exact b6, by rw [ws_ne (by decide)]; exact b7, by rw [ws_ne (by decide)]; exact b8, by rw [ws_ne (by decide)]; exact b9, by rw [ws_ne (by decide)]; exact b10, by rw [ws_ne (by decide)]; exact b11, by rw [ws_ne (by decide)]; exact b12, by rw [ws_ne (by decide)]; exact b13, by rw [ws_ne (by decide)]; exact b14, by rw [ws_ne (by decide)]; exact b15, by rw [ws_ne (by decide)]; exact b16, by rw [ws_ne (by decide)]; exact b17, by rw [ws_ne (by decide)]; exact b18, by rw [ws_ne (by decide)]; exact b19⟩
theorem P_m15 {G : Nat → Nat} {r : Nat → Nat → Nat} {wl : va_W} (v : Nat) (h : Rr G r wl) : Rr G (up2 r 30 15 v) (wl.set 3 (G 3, .inr (4, (mF G r).set 15 (.int (nI v))))) := by
  obtain ⟨b3, b5, b6, b7, b8, b9, b10, b11, b12, b13, b14, b15, b16, b17, b18, b19⟩ := h
  exact ⟨by rw [ws_eq b3]; rfl, by rw [ws_ne (by decide)]; exact b5, by rw [ws_ne (by decide)]; exact b6, by rw [ws_ne (by decide)]; exact b7, by rw [ws_ne (by decide)]; exact b8, by rw [ws_ne (by decide)]; exact b9, by rw [ws_ne (by decide)]; exact b10, by rw [ws_ne (by decide)]; exact b11, by rw [ws_ne (by decide)]; exact b12, by rw [ws_ne (by decide)]; exact b13, by rw [ws_ne (by decide)]; exact b14, by rw [ws_ne (by decide)]; exact b15, by rw [ws_ne (by decide)]; exact b16, by rw [ws_ne (by decide)]; exact b17, by rw [ws_ne (by decide)]; exact b18, by rw [ws_ne (by decide)]; exact b19⟩
theorem P_m16 {G : Nat → Nat} {r : Nat → Nat → Nat} {wl : va_W} (v : Nat) (h : Rr G r wl) : Rr G (up2 r 30 16 v) (wl.set 3 (G 3, .inr (4, (mF G r).set 16 (.int (nI v))))) := by
  obtain ⟨b3, b5, b6, b7, b8, b9, b10, b11, b12, b13, b14, b15, b16, b17, b18, b19⟩ := h
  exact ⟨by rw [ws_eq b3]; rfl, by rw [ws_ne (by decide)]; exact b5, by rw [ws_ne (by decide)]; exact b6, by rw [ws_ne (by decide)]; exact b7, by rw [ws_ne (by decide)]; exact b8, by rw [ws_ne (by decide)]; exact b9, by rw [ws_ne (by decide)]; exact b10, by rw [ws_ne (by decide)]; exact b11, by rw [ws_ne (by decide)]; exact b12, by rw [ws_ne (by decide)]; exact b13, by rw [ws_ne (by decide)]; exact b14, by rw [ws_ne (by decide)]; exact b15, by rw [ws_ne (by decide)]; exact b16, by rw [ws_ne (by decide)]; exact b17, by rw [ws_ne (by decide)]; exact b18, by rw [ws_ne (by decide)]; exact b19⟩
theorem P_m22 {G : Nat → Nat} {r : Nat → Nat → Nat} {wl : va_W} (v : Nat) (h : Rr G r wl) : Rr G (up2 r 30 22 v) (wl.set 3 (G 3, .inr (4, (mF G r).set 22 (.int (nI v))))) := by
  obtain ⟨b3, b5, b6, b7, b8, b9, b10, b11, b12, b13, b14, b15, b16, b17, b18, b19⟩ := h
  exact ⟨by rw [ws_eq b3]; rfl, by rw [ws_ne (by decide)]; exact b5, by rw [ws_ne (by decide)]; exact b6, by rw [ws_ne (by decide)]; exact b7, by rw [ws_ne (by decide)]; exact b8, by rw [ws_ne (by decide)]; exact b9, by rw [ws_ne (by decide)]; exact b10, by rw [ws_ne (by decide)]; exact b11, by rw [ws_ne (by decide)]; exact b12, by rw [ws_ne (by decide)]; exact b13, by rw [ws_ne (by decide)]; exact b14, by rw [ws_ne (by decide)]; exact b15, by rw [ws_ne (by decide)]; exact b16, by rw [ws_ne (by decide)]; exact b17, by rw [ws_ne (by decide)]; exact b18, by rw [ws_ne (by decide)]; exact b19⟩
theorem upd_e {r : Nat → Nat → Nat} {k i v : Nat} (hi : i < 2 ^ 31) : upd (fun j => nI (r k j)) (nI i).toNatClampNeg (nI v) = fun j => nI (up2 r k i v k j) := by
  funext j
  rw [nI_clamp hi]
  by_cases h : j = i
  · subst h; simp [upd, up2]
  · simp [upd, up2, h]
theorem upd_s {r : Nat → Nat → Nat} {i v : Nat} (hi : i < 2 ^ 31) : upd (fun j => siI (r 5 j)) (nI i).toNatClampNeg (siI v) = fun j => siI (up2 r 5 i v 5 j) := by
  funext j
  rw [nI_clamp hi]
  by_cases h : j = i
  · subst h; simp [upd, up2]
  · simp [upd, up2, h]
theorem nb_le {v : Nat} (h : v ≤ 1) : narrow .boolean (.int (nI v)) = .int (nI v) := by
  rcases (show v = 0 ∨ v = 1 by omega) with h | h <;> subst h <;> decide
theorem nb_ft {v : Nat} (h : v ≤ 1) : fits .boolean (.int (nI v)) = true := by
  rcases (show v = 0 ∨ v = 1 by omega) with h | h <;> subst h <;> decide
theorem nb_nar {v : Nat} (h : v ≤ 1) : vp_nar .boolean (nI v) = nI v := by
  rcases (show v = 0 ∨ v = 1 by omega) with h | h <;> subst h <;> decide

theorem P_a1 {G : Nat → Nat} {r : Nat → Nat → Nat} {wl : va_W} {i : Nat} (v : Nat) (hi : i < 2 ^ 31) (h : Rr G r wl) : Rr G (up2 r 1 i v) (wl.set 5 (G 5, .inl (G 62, 20, .inl (upd (fun j => nI (r 1 j)) (nI i).toNatClampNeg (nI v))))) := by
  obtain ⟨b3, b5, b6, b7, b8, b9, b10, b11, b12, b13, b14, b15, b16, b17, b18, b19⟩ := h
  exact ⟨by rw [ws_ne (by decide)]; exact b3, by rw [ws_eq b5]; rw [upd_e hi], by rw [ws_ne (by decide)]; exact b6, by rw [ws_ne (by decide)]; exact b7, by rw [ws_ne (by decide)]; exact b8, by rw [ws_ne (by decide)]; exact b9, by rw [ws_ne (by decide)]; exact b10, by rw [ws_ne (by decide)]; exact b11, by rw [ws_ne (by decide)]; exact b12, by rw [ws_ne (by decide)]; exact b13, by rw [ws_ne (by decide)]; exact b14, by rw [ws_ne (by decide)]; exact b15, by rw [ws_ne (by decide)]; exact b16, by rw [ws_ne (by decide)]; exact b17, by rw [ws_ne (by decide)]; exact b18, by rw [ws_ne (by decide)]; exact b19⟩
theorem Q_a1 {G : Nat → Nat} {r : Nat → Nat → Nat} {wl : va_W} (h : Rr G r wl) : wl[5]? = some (G 5, .inl (G 62, 20, .inl (fun i => nI (r 1 i)))) := by
  obtain ⟨b3, b5, b6, b7, b8, b9, b10, b11, b12, b13, b14, b15, b16, b17, b18, b19⟩ := h
  exact b5
theorem P_a2 {G : Nat → Nat} {r : Nat → Nat → Nat} {wl : va_W} {i : Nat} (v : Nat) (hi : i < 2 ^ 31) (h : Rr G r wl) : Rr G (up2 r 2 i v) (wl.set 6 (G 6, .inl (G 62, 20, .inl (upd (fun j => nI (r 2 j)) (nI i).toNatClampNeg (nI v))))) := by
  obtain ⟨b3, b5, b6, b7, b8, b9, b10, b11, b12, b13, b14, b15, b16, b17, b18, b19⟩ := h
  exact ⟨by rw [ws_ne (by decide)]; exact b3, by rw [ws_ne (by decide)]; exact b5, by rw [ws_eq b6]; rw [upd_e hi], by rw [ws_ne (by decide)]; exact b7, by rw [ws_ne (by decide)]; exact b8, by rw [ws_ne (by decide)]; exact b9, by rw [ws_ne (by decide)]; exact b10, by rw [ws_ne (by decide)]; exact b11, by rw [ws_ne (by decide)]; exact b12, by rw [ws_ne (by decide)]; exact b13, by rw [ws_ne (by decide)]; exact b14, by rw [ws_ne (by decide)]; exact b15, by rw [ws_ne (by decide)]; exact b16, by rw [ws_ne (by decide)]; exact b17, by rw [ws_ne (by decide)]; exact b18, by rw [ws_ne (by decide)]; exact b19⟩
theorem Q_a2 {G : Nat → Nat} {r : Nat → Nat → Nat} {wl : va_W} (h : Rr G r wl) : wl[6]? = some (G 6, .inl (G 62, 20, .inl (fun i => nI (r 2 i)))) := by
  obtain ⟨b3, b5, b6, b7, b8, b9, b10, b11, b12, b13, b14, b15, b16, b17, b18, b19⟩ := h
  exact b6
theorem P_a3 {G : Nat → Nat} {r : Nat → Nat → Nat} {wl : va_W} {i : Nat} (v : Nat) (hi : i < 2 ^ 31) (h : Rr G r wl) : Rr G (up2 r 3 i v) (wl.set 7 (G 7, .inl (G 62, 20, .inl (upd (fun j => nI (r 3 j)) (nI i).toNatClampNeg (nI v))))) := by
  obtain ⟨b3, b5, b6, b7, b8, b9, b10, b11, b12, b13, b14, b15, b16, b17, b18, b19⟩ := h
  exact ⟨by rw [ws_ne (by decide)]; exact b3, by rw [ws_ne (by decide)]; exact b5, by rw [ws_ne (by decide)]; exact b6, by rw [ws_eq b7]; rw [upd_e hi], by rw [ws_ne (by decide)]; exact b8, by rw [ws_ne (by decide)]; exact b9, by rw [ws_ne (by decide)]; exact b10, by rw [ws_ne (by decide)]; exact b11, by rw [ws_ne (by decide)]; exact b12, by rw [ws_ne (by decide)]; exact b13, by rw [ws_ne (by decide)]; exact b14, by rw [ws_ne (by decide)]; exact b15, by rw [ws_ne (by decide)]; exact b16, by rw [ws_ne (by decide)]; exact b17, by rw [ws_ne (by decide)]; exact b18, by rw [ws_ne (by decide)]; exact b19⟩
theorem Q_a3 {G : Nat → Nat} {r : Nat → Nat → Nat} {wl : va_W} (h : Rr G r wl) : wl[7]? = some (G 7, .inl (G 62, 20, .inl (fun i => nI (r 3 i)))) := by
  obtain ⟨b3, b5, b6, b7, b8, b9, b10, b11, b12, b13, b14, b15, b16, b17, b18, b19⟩ := h
  exact b7
theorem P_a4 {G : Nat → Nat} {r : Nat → Nat → Nat} {wl : va_W} {i : Nat} (v : Nat) (hi : i < 2 ^ 31) (h : Rr G r wl) : Rr G (up2 r 4 i v) (wl.set 8 (G 8, .inl (G 62, 20, .inl (upd (fun j => nI (r 4 j)) (nI i).toNatClampNeg (nI v))))) := by
  obtain ⟨b3, b5, b6, b7, b8, b9, b10, b11, b12, b13, b14, b15, b16, b17, b18, b19⟩ := h
  exact ⟨by rw [ws_ne (by decide)]; exact b3, by rw [ws_ne (by decide)]; exact b5, by rw [ws_ne (by decide)]; exact b6, by rw [ws_ne (by decide)]; exact b7, by rw [ws_eq b8]; rw [upd_e hi], by rw [ws_ne (by decide)]; exact b9, by rw [ws_ne (by decide)]; exact b10, by rw [ws_ne (by decide)]; exact b11, by rw [ws_ne (by decide)]; exact b12, by rw [ws_ne (by decide)]; exact b13, by rw [ws_ne (by decide)]; exact b14, by rw [ws_ne (by decide)]; exact b15, by rw [ws_ne (by decide)]; exact b16, by rw [ws_ne (by decide)]; exact b17, by rw [ws_ne (by decide)]; exact b18, by rw [ws_ne (by decide)]; exact b19⟩
theorem Q_a4 {G : Nat → Nat} {r : Nat → Nat → Nat} {wl : va_W} (h : Rr G r wl) : wl[8]? = some (G 8, .inl (G 62, 20, .inl (fun i => nI (r 4 i)))) := by
  obtain ⟨b3, b5, b6, b7, b8, b9, b10, b11, b12, b13, b14, b15, b16, b17, b18, b19⟩ := h
  exact b8
theorem P_a5 {G : Nat → Nat} {r : Nat → Nat → Nat} {wl : va_W} {i : Nat} (v : Nat) (hi : i < 2 ^ 31) (h : Rr G r wl) : Rr G (up2 r 5 i v) (wl.set 9 (G 9, .inl (G 62, 20, .inl (upd (fun j => siI (r 5 j)) (nI i).toNatClampNeg (siI v))))) := by
  obtain ⟨b3, b5, b6, b7, b8, b9, b10, b11, b12, b13, b14, b15, b16, b17, b18, b19⟩ := h
  exact ⟨by rw [ws_ne (by decide)]; exact b3, by rw [ws_ne (by decide)]; exact b5, by rw [ws_ne (by decide)]; exact b6, by rw [ws_ne (by decide)]; exact b7, by rw [ws_ne (by decide)]; exact b8, by rw [ws_eq b9]; rw [upd_s hi], by rw [ws_ne (by decide)]; exact b10, by rw [ws_ne (by decide)]; exact b11, by rw [ws_ne (by decide)]; exact b12, by rw [ws_ne (by decide)]; exact b13, by rw [ws_ne (by decide)]; exact b14, by rw [ws_ne (by decide)]; exact b15, by rw [ws_ne (by decide)]; exact b16, by rw [ws_ne (by decide)]; exact b17, by rw [ws_ne (by decide)]; exact b18, by rw [ws_ne (by decide)]; exact b19⟩
theorem Q_a5 {G : Nat → Nat} {r : Nat → Nat → Nat} {wl : va_W} (h : Rr G r wl) : wl[9]? = some (G 9, .inl (G 62, 20, .inl (fun i => siI (r 5 i)))) := by
  obtain ⟨b3, b5, b6, b7, b8, b9, b10, b11, b12, b13, b14, b15, b16, b17, b18, b19⟩ := h
  exact b9
theorem P_a6 {G : Nat → Nat} {r : Nat → Nat → Nat} {wl : va_W} {i : Nat} (v : Nat) (hi : i < 2 ^ 31) (hv : v ≤ 1) (h : Rr G r wl) : Rr G (up2 r 6 i v) (wl.set 10 (G 10, .inl (G 63, 20, .inl (upd (fun j => nI (r 6 j)) (nI i).toNatClampNeg (vp_nar .boolean (nI v)))))) := by
  obtain ⟨b3, b5, b6, b7, b8, b9, b10, b11, b12, b13, b14, b15, b16, b17, b18, b19⟩ := h
  exact ⟨by rw [ws_ne (by decide)]; exact b3, by rw [ws_ne (by decide)]; exact b5, by rw [ws_ne (by decide)]; exact b6, by rw [ws_ne (by decide)]; exact b7, by rw [ws_ne (by decide)]; exact b8, by rw [ws_ne (by decide)]; exact b9, by rw [ws_eq b10]; rw [nb_nar hv, upd_e hi], by rw [ws_ne (by decide)]; exact b11, by rw [ws_ne (by decide)]; exact b12, by rw [ws_ne (by decide)]; exact b13, by rw [ws_ne (by decide)]; exact b14, by rw [ws_ne (by decide)]; exact b15, by rw [ws_ne (by decide)]; exact b16, by rw [ws_ne (by decide)]; exact b17, by rw [ws_ne (by decide)]; exact b18, by rw [ws_ne (by decide)]; exact b19⟩
theorem Q_a6 {G : Nat → Nat} {r : Nat → Nat → Nat} {wl : va_W} (h : Rr G r wl) : wl[10]? = some (G 10, .inl (G 63, 20, .inl (fun i => nI (r 6 i)))) := by
  obtain ⟨b3, b5, b6, b7, b8, b9, b10, b11, b12, b13, b14, b15, b16, b17, b18, b19⟩ := h
  exact b10
theorem P_a7 {G : Nat → Nat} {r : Nat → Nat → Nat} {wl : va_W} {i : Nat} (v : Nat) (hi : i < 2 ^ 31) (hv : v ≤ 1) (h : Rr G r wl) : Rr G (up2 r 7 i v) (wl.set 11 (G 11, .inl (G 63, 400, .inl (upd (fun j => nI (r 7 j)) (nI i).toNatClampNeg (vp_nar .boolean (nI v)))))) := by
  obtain ⟨b3, b5, b6, b7, b8, b9, b10, b11, b12, b13, b14, b15, b16, b17, b18, b19⟩ := h
  exact ⟨by rw [ws_ne (by decide)]; exact b3, by rw [ws_ne (by decide)]; exact b5, by rw [ws_ne (by decide)]; exact b6, by rw [ws_ne (by decide)]; exact b7, by rw [ws_ne (by decide)]; exact b8, by rw [ws_ne (by decide)]; exact b9, by rw [ws_ne (by decide)]; exact b10, by rw [ws_eq b11]; rw [nb_nar hv, upd_e hi], by rw [ws_ne (by decide)]; exact b12, by rw [ws_ne (by decide)]; exact b13, by rw [ws_ne (by decide)]; exact b14, by rw [ws_ne (by decide)]; exact b15, by rw [ws_ne (by decide)]; exact b16, by rw [ws_ne (by decide)]; exact b17, by rw [ws_ne (by decide)]; exact b18, by rw [ws_ne (by decide)]; exact b19⟩
theorem Q_a7 {G : Nat → Nat} {r : Nat → Nat → Nat} {wl : va_W} (h : Rr G r wl) : wl[11]? = some (G 11, .inl (G 63, 400, .inl (fun i => nI (r 7 i)))) := by
  obtain ⟨b3, b5, b6, b7, b8, b9, b10, b11, b12, b13, b14, b15, b16, b17, b18, b19⟩ := h
  exact b11
theorem P_a8 {G : Nat → Nat} {r : Nat → Nat → Nat} {wl : va_W} {i : Nat} (v : Nat) (hi : i < 2 ^ 31) (h : Rr G r wl) : Rr G (up2 r 8 i v) (wl.set 12 (G 12, .inl (G 62, 400, .inl (upd (fun j => nI (r 8 j)) (nI i).toNatClampNeg (nI v))))) := by
  obtain ⟨b3, b5, b6, b7, b8, b9, b10, b11, b12, b13, b14, b15, b16, b17, b18, b19⟩ := h
  exact ⟨by rw [ws_ne (by decide)]; exact b3, by rw [ws_ne (by decide)]; exact b5, by rw [ws_ne (by decide)]; exact b6, by rw [ws_ne (by decide)]; exact b7, by rw [ws_ne (by decide)]; exact b8, by rw [ws_ne (by decide)]; exact b9, by rw [ws_ne (by decide)]; exact b10, by rw [ws_ne (by decide)]; exact b11, by rw [ws_eq b12]; rw [upd_e hi], by rw [ws_ne (by decide)]; exact b13, by rw [ws_ne (by decide)]; exact b14, by rw [ws_ne (by decide)]; exact b15, by rw [ws_ne (by decide)]; exact b16, by rw [ws_ne (by decide)]; exact b17, by rw [ws_ne (by decide)]; exact b18, by rw [ws_ne (by decide)]; exact b19⟩
theorem Q_a8 {G : Nat → Nat} {r : Nat → Nat → Nat} {wl : va_W} (h : Rr G r wl) : wl[12]? = some (G 12, .inl (G 62, 400, .inl (fun i => nI (r 8 i)))) := by
  obtain ⟨b3, b5, b6, b7, b8, b9, b10, b11, b12, b13, b14, b15, b16, b17, b18, b19⟩ := h
  exact b12
theorem P_a9 {G : Nat → Nat} {r : Nat → Nat → Nat} {wl : va_W} {i : Nat} (v : Nat) (hi : i < 2 ^ 31) (h : Rr G r wl) : Rr G (up2 r 9 i v) (wl.set 13 (G 13, .inl (G 62, 400, .inl (upd (fun j => nI (r 9 j)) (nI i).toNatClampNeg (nI v))))) := by
  obtain ⟨b3, b5, b6, b7, b8, b9, b10, b11, b12, b13, b14, b15, b16, b17, b18, b19⟩ := h
  exact ⟨by rw [ws_ne (by decide)]; exact b3, by rw [ws_ne (by decide)]; exact b5, by rw [ws_ne (by decide)]; exact b6, by rw [ws_ne (by decide)]; exact b7, by rw [ws_ne (by decide)]; exact b8, by rw [ws_ne (by decide)]; exact b9, by rw [ws_ne (by decide)]; exact b10, by rw [ws_ne (by decide)]; exact b11, by rw [ws_ne (by decide)]; exact b12, by rw [ws_eq b13]; rw [upd_e hi], by rw [ws_ne (by decide)]; exact b14, by rw [ws_ne (by decide)]; exact b15, by rw [ws_ne (by decide)]; exact b16, by rw [ws_ne (by decide)]; exact b17, by rw [ws_ne (by decide)]; exact b18, by rw [ws_ne (by decide)]; exact b19⟩
theorem Q_a9 {G : Nat → Nat} {r : Nat → Nat → Nat} {wl : va_W} (h : Rr G r wl) : wl[13]? = some (G 13, .inl (G 62, 400, .inl (fun i => nI (r 9 i)))) := by
  obtain ⟨b3, b5, b6, b7, b8, b9, b10, b11, b12, b13, b14, b15, b16, b17, b18, b19⟩ := h
  exact b13
theorem P_a11 {G : Nat → Nat} {r : Nat → Nat → Nat} {wl : va_W} {i : Nat} (v : Nat) (hi : i < 2 ^ 31) (hv : v ≤ 1) (h : Rr G r wl) : Rr G (up2 r 11 i v) (wl.set 14 (G 14, .inl (G 63, 400, .inl (upd (fun j => nI (r 11 j)) (nI i).toNatClampNeg (vp_nar .boolean (nI v)))))) := by
  obtain ⟨b3, b5, b6, b7, b8, b9, b10, b11, b12, b13, b14, b15, b16, b17, b18, b19⟩ := h
  exact ⟨by rw [ws_ne (by decide)]; exact b3, by rw [ws_ne (by decide)]; exact b5, by rw [ws_ne (by decide)]; exact b6, by rw [ws_ne (by decide)]; exact b7, by rw [ws_ne (by decide)]; exact b8, by rw [ws_ne (by decide)]; exact b9, by rw [ws_ne (by decide)]; exact b10, by rw [ws_ne (by decide)]; exact b11, by rw [ws_ne (by decide)]; exact b12, by rw [ws_ne (by decide)]; exact b13, by rw [ws_eq b14]; rw [nb_nar hv, upd_e hi], by rw [ws_ne (by decide)]; exact b15, by rw [ws_ne (by decide)]; exact b16, by rw [ws_ne (by decide)]; exact b17, by rw [ws_ne (by decide)]; exact b18, by rw [ws_ne (by decide)]; exact b19⟩
theorem Q_a11 {G : Nat → Nat} {r : Nat → Nat → Nat} {wl : va_W} (h : Rr G r wl) : wl[14]? = some (G 14, .inl (G 63, 400, .inl (fun i => nI (r 11 i)))) := by
  obtain ⟨b3, b5, b6, b7, b8, b9, b10, b11, b12, b13, b14, b15, b16, b17, b18, b19⟩ := h
  exact b14
theorem P_a17 {G : Nat → Nat} {r : Nat → Nat → Nat} {wl : va_W} {i : Nat} (v : Nat) (hi : i < 2 ^ 31) (h : Rr G r wl) : Rr G (up2 r 17 i v) (wl.set 15 (G 15, .inl (G 62, 20, .inl (upd (fun j => nI (r 17 j)) (nI i).toNatClampNeg (nI v))))) := by
  obtain ⟨b3, b5, b6, b7, b8, b9, b10, b11, b12, b13, b14, b15, b16, b17, b18, b19⟩ := h
  exact ⟨by rw [ws_ne (by decide)]; exact b3, by rw [ws_ne (by decide)]; exact b5, by rw [ws_ne (by decide)]; exact b6, by rw [ws_ne (by decide)]; exact b7, by rw [ws_ne (by decide)]; exact b8, by rw [ws_ne (by decide)]; exact b9, by rw [ws_ne (by decide)]; exact b10, by rw [ws_ne (by decide)]; exact b11, by rw [ws_ne (by decide)]; exact b12, by rw [ws_ne (by decide)]; exact b13, by rw [ws_ne (by decide)]; exact b14, by rw [ws_eq b15]; rw [upd_e hi], by rw [ws_ne (by decide)]; exact b16, by rw [ws_ne (by decide)]; exact b17, by rw [ws_ne (by decide)]; exact b18, by rw [ws_ne (by decide)]; exact b19⟩
theorem Q_a17 {G : Nat → Nat} {r : Nat → Nat → Nat} {wl : va_W} (h : Rr G r wl) : wl[15]? = some (G 15, .inl (G 62, 20, .inl (fun i => nI (r 17 i)))) := by
  obtain ⟨b3, b5, b6, b7, b8, b9, b10, b11, b12, b13, b14, b15, b16, b17, b18, b19⟩ := h
  exact b15
theorem P_a18 {G : Nat → Nat} {r : Nat → Nat → Nat} {wl : va_W} {i : Nat} (v : Nat) (hi : i < 2 ^ 31) (h : Rr G r wl) : Rr G (up2 r 18 i v) (wl.set 16 (G 16, .inl (G 62, 20, .inl (upd (fun j => nI (r 18 j)) (nI i).toNatClampNeg (nI v))))) := by
  obtain ⟨b3, b5, b6, b7, b8, b9, b10, b11, b12, b13, b14, b15, b16, b17, b18, b19⟩ := h
  exact ⟨by rw [ws_ne (by decide)]; exact b3, by rw [ws_ne (by decide)]; exact b5, by rw [ws_ne (by decide)]; exact b6, by rw [ws_ne (by decide)]; exact b7, by rw [ws_ne (by decide)]; exact b8, by rw [ws_ne (by decide)]; exact b9, by rw [ws_ne (by decide)]; exact b10, by rw [ws_ne (by decide)]; exact b11, by rw [ws_ne (by decide)]; exact b12, by rw [ws_ne (by decide)]; exact b13, by rw [ws_ne (by decide)]; exact b14, by rw [ws_ne (by decide)]; exact b15, by rw [ws_eq b16]; rw [upd_e hi], by rw [ws_ne (by decide)]; exact b17, by rw [ws_ne (by decide)]; exact b18, by rw [ws_ne (by decide)]; exact b19⟩
theorem Q_a18 {G : Nat → Nat} {r : Nat → Nat → Nat} {wl : va_W} (h : Rr G r wl) : wl[16]? = some (G 16, .inl (G 62, 20, .inl (fun i => nI (r 18 i)))) := by
  obtain ⟨b3, b5, b6, b7, b8, b9, b10, b11, b12, b13, b14, b15, b16, b17, b18, b19⟩ := h
  exact b16
theorem P_a19 {G : Nat → Nat} {r : Nat → Nat → Nat} {wl : va_W} {i : Nat} (v : Nat) (hi : i < 2 ^ 31) (h : Rr G r wl) : Rr G (up2 r 19 i v) (wl.set 17 (G 17, .inl (G 62, 20, .inl (upd (fun j => nI (r 19 j)) (nI i).toNatClampNeg (nI v))))) := by
  obtain ⟨b3, b5, b6, b7, b8, b9, b10, b11, b12, b13, b14, b15, b16, b17, b18, b19⟩ := h
  exact ⟨by rw [ws_ne (by decide)]; exact b3, by rw [ws_ne (by decide)]; exact b5, by rw [ws_ne (by decide)]; exact b6, by rw [ws_ne (by decide)]; exact b7, by rw [ws_ne (by decide)]; exact b8, by rw [ws_ne (by decide)]; exact b9, by rw [ws_ne (by decide)]; exact b10, by rw [ws_ne (by decide)]; exact b11, by rw [ws_ne (by decide)]; exact b12, by rw [ws_ne (by decide)]; exact b13, by rw [ws_ne (by decide)]; exact b14, by rw [ws_ne (by decide)]; exact b15, by rw [ws_ne (by decide)]; exact b16, by rw [ws_eq b17]; rw [upd_e hi], by rw [ws_ne (by decide)]; exact b18, by rw [ws_ne (by decide)]; exact b19⟩
theorem Q_a19 {G : Nat → Nat} {r : Nat → Nat → Nat} {wl : va_W} (h : Rr G r wl) : wl[17]? = some (G 17, .inl (G 62, 20, .inl (fun i => nI (r 19 i)))) := by
  obtain ⟨b3, b5, b6, b7, b8, b9, b10, b11, b12, b13, b14, b15, b16, b17, b18, b19⟩ := h
  exact b17
theorem P_a20 {G : Nat → Nat} {r : Nat → Nat → Nat} {wl : va_W} {i : Nat} (v : Nat) (hi : i < 2 ^ 31) (h : Rr G r wl) : Rr G (up2 r 20 i v) (wl.set 18 (G 18, .inl (G 62, 20, .inl (upd (fun j => nI (r 20 j)) (nI i).toNatClampNeg (nI v))))) := by
  obtain ⟨b3, b5, b6, b7, b8, b9, b10, b11, b12, b13, b14, b15, b16, b17, b18, b19⟩ := h
  exact ⟨by rw [ws_ne (by decide)]; exact b3, by rw [ws_ne (by decide)]; exact b5, by rw [ws_ne (by decide)]; exact b6, by rw [ws_ne (by decide)]; exact b7, by rw [ws_ne (by decide)]; exact b8, by rw [ws_ne (by decide)]; exact b9, by rw [ws_ne (by decide)]; exact b10, by rw [ws_ne (by decide)]; exact b11, by rw [ws_ne (by decide)]; exact b12, by rw [ws_ne (by decide)]; exact b13, by rw [ws_ne (by decide)]; exact b14, by rw [ws_ne (by decide)]; exact b15, by rw [ws_ne (by decide)]; exact b16, by rw [ws_ne (by decide)]; exact b17, by rw [ws_eq b18]; rw [upd_e hi], by rw [ws_ne (by decide)]; exact b19⟩
theorem Q_a20 {G : Nat → Nat} {r : Nat → Nat → Nat} {wl : va_W} (h : Rr G r wl) : wl[18]? = some (G 18, .inl (G 62, 20, .inl (fun i => nI (r 20 i)))) := by
  obtain ⟨b3, b5, b6, b7, b8, b9, b10, b11, b12, b13, b14, b15, b16, b17, b18, b19⟩ := h
  exact b18
theorem P_a21 {G : Nat → Nat} {r : Nat → Nat → Nat} {wl : va_W} {i : Nat} (v : Nat) (hi : i < 2 ^ 31) (hv : v ≤ 1) (h : Rr G r wl) : Rr G (up2 r 21 i v) (wl.set 19 (G 19, .inl (G 63, 20, .inl (upd (fun j => nI (r 21 j)) (nI i).toNatClampNeg (vp_nar .boolean (nI v)))))) := by
  obtain ⟨b3, b5, b6, b7, b8, b9, b10, b11, b12, b13, b14, b15, b16, b17, b18, b19⟩ := h
  exact ⟨by rw [ws_ne (by decide)]; exact b3, by rw [ws_ne (by decide)]; exact b5, by rw [ws_ne (by decide)]; exact b6, by rw [ws_ne (by decide)]; exact b7, by rw [ws_ne (by decide)]; exact b8, by rw [ws_ne (by decide)]; exact b9, by rw [ws_ne (by decide)]; exact b10, by rw [ws_ne (by decide)]; exact b11, by rw [ws_ne (by decide)]; exact b12, by rw [ws_ne (by decide)]; exact b13, by rw [ws_ne (by decide)]; exact b14, by rw [ws_ne (by decide)]; exact b15, by rw [ws_ne (by decide)]; exact b16, by rw [ws_ne (by decide)]; exact b17, by rw [ws_ne (by decide)]; exact b18, by rw [ws_eq b19]; rw [nb_nar hv, upd_e hi]⟩
theorem Q_a21 {G : Nat → Nat} {r : Nat → Nat → Nat} {wl : va_W} (h : Rr G r wl) : wl[19]? = some (G 19, .inl (G 63, 20, .inl (fun i => nI (r 21 i)))) := by
  obtain ⟨b3, b5, b6, b7, b8, b9, b10, b11, b12, b13, b14, b15, b16, b17, b18, b19⟩ := h
  exact b19
theorem Q_m {G : Nat → Nat} {r : Nat → Nat → Nat} {wl : va_W} (h : Rr G r wl) : wl[3]? = some (G 3, .inr (4, mF G r)) := h.1
theorem Q_o {G : Nat → Nat} {c : Nat → Nat → Nat} {wl : va_W} (h : Rc G c wl) : wl[0]? = some (G 0, .inr (3, oF G c)) := h.1
theorem Q_r {G : Nat → Nat} {c : Nat → Nat → Nat} {wl : va_W} (h : Rc G c wl) : wl[1]? = some (G 1, .inl (G 60, 20, .inr (.inr (.inr (.inr (fun i => some (G (20 + i)))))))) := h.2.1
theorem Q_l {G : Nat → Nat} {c : Nat → Nat → Nat} {wl : va_W} (h : Rc G c wl) : wl[2]? = some (G 2, .inr (0, lF c)) := h.2.2.1
theorem Q_u {G : Nat → Nat} {c : Nat → Nat → Nat} {wl : va_W} (h : Rc G c wl) {u : Nat} (hu : u < 20) : wl[20 + u]? = some (G (20 + u), .inr (1, uF G c u)) := h.2.2.2.1 u hu
theorem Q_w {G : Nat → Nat} {c : Nat → Nat → Nat} {wl : va_W} (h : Rc G c wl) {j : Nat} (hj : j < c 30 0) : ∃ i, 40 ≤ i ∧ wl[i]? = some (c 34 j, .inr (2, wF G c j)) := h.2.2.2.2.1 j hj
theorem G_u {G : Nat → Nat} {c : Nat → Nat → Nat} {wl : va_W} {A : Nat → Prop} (h : Rc G c wl) (hD : va_D A wl) {u v : Nat} (hu : u < 20) (hv : v < 20) (e : G (20 + u) = G (20 + v)) : u = v := by
  have := hD.1 _ _ _ _ (Q_u h hu) (Q_u h hv) e
  omega
abbrev tyL (G : Nat → Nat) : List (ClassId × FieldType) := [(G 60, .object "BootStage$Unit"), (G 61, .object "java/lang/Object"), (G 62, .int), (G 63, .boolean), (G 64, .long)]
abbrev exO : String := "java/lang/IndexOutOfBoundsException"
abbrev exA : String := "java/lang/IllegalArgumentException"
abbrev exS : String := "java/lang/IllegalStateException"
/-- what of the start lies outside the system's own cells: for throws, and for lists -/
def Ex (G : Nat → Nat) (h0 : Nat) (U : State) : Prop :=
  vx_Zq Bundle.tN "UNASSIGNED_STACK" Bundle.steD (fun q => h0 ≤ q) U U.heap ∧ vx_Zq Bundle.tN "SUPPRESSED_SENTINEL" Bundle.listD (fun q => h0 ≤ q) U U.heap ∧
  (vk_R RX2 48 "there are 20 units" (G 71) U ∧ vk_R RX2 73 "needs would make a loop" (G 72) U ∧ vk_R RX2 131 "no start goes on" (G 73) U ∧ vk_R RX2 152 "there is no such unit" (G 74) U ∧ vk_R RX2 157 "an argument is out of range" (G 75) U ∧ vk_R RX2 160 "both units are the same" (G 76) U ∧ vk_R RX2 162 "a start goes on" (G 77) U) ∧
  (va_Nw (.declares (Bundle.initS "java/lang/RuntimeException")) U ∧ va_Nw (.declares (Bundle.initS "java/lang/Exception")) U ∧ va_Nw (.declares (Bundle.initS Bundle.tN)) U ∧ va_Nw (.castable exO exO) U ∧ va_Nw (.castable exA exA) U ∧ va_Nw (.castable exS exS) U) ∧
  (va_Nc exO exA U ∧ va_Nc exO exS U ∧ va_Nc exA exO U ∧ va_Nc exA exS U ∧ va_Nc exS exO U ∧ va_Nc exS exA U)
def El (G : Nat → Nat) (h0 : Nat) (U : State) : Prop :=
  va_Z "java/util/ArrayList" "DEFAULTCAPACITY_EMPTY_ELEMENTDATA" "[Ljava/lang/Object;" (.ref (G 70)) (fun q => h0 ≤ q) U U.heap ∧ va_T (.object "java/lang/Object") (G 70) 0 (fun _ => .null) (fun q => h0 ≤ q) U U.heap ∧
  va_AO "java/lang/Object" U ∧ va_AO "BootStage$Unit" U ∧ va_Mi "[Ljava/lang/Object;" (G 80) U ∧ va_Dc U ∧ va_Nw (.castable RX1 "java/lang/Object") U ∧ va_Nw (.castable RX1 RX1) U ∧ va_Nw (.castable "[Ljava/lang/Object;" "[Ljava/lang/Object;") U
def Ev (D : va_G) (G : Nat → Nat) (h0 : Nat) (U : State) : Prop := h0 ≤ U.heap.size ∧ va_K D vwCl (tyL G) U ∧ Ex G h0 U ∧ El G h0 U
/-- the system's own cells -/
def Wr (D : va_G) (G : Nat → Nat) (h0 : Nat) (c r : Nat → Nat → Nat) (o : Nat) (U : State) : Prop := ∃ wl : va_W, Rc G c wl ∧ Rr G r wl ∧ Ro G o wl ∧ va_P D vwCl wl U.heap ∧ va_D (fun q => h0 ≤ q) wl
def Pr (D : va_G) (G : Nat → Nat) (h0 : Nat) (c r : Nat → Nat → Nat) (o : Nat) (U : State) : Prop := Ev D G h0 U ∧ Wr D G h0 c r o U
theorem Ex_mv {G : Nat → Nat} {h0 : Nat} {s U : State} {locs : List Loc} (h : Ex G h0 s) (hW : s.WarmedH U.vm) (hS : va_S (fun q => h0 ≤ q) s.heap U.heap locs) : Ex G h0 U := by
  obtain ⟨z1, z2, ⟨k1, k2, k3, k4, k5, k6, k7⟩, ⟨d1, d2, d3, d4, d5, d6⟩, ⟨n1, n2, n3, n4, n5, n6⟩⟩ := h
  exact ⟨vx_Zq.moved hW.alike (z1.kept hS.2.1), vx_Zq.moved hW.alike (z2.kept hS.2.1), ⟨k1.warm hW, k2.warm hW, k3.warm hW, k4.warm hW, k5.warm hW, k6.warm hW, k7.warm hW⟩, ⟨d1.warmD hW, d2.warmD hW, d3.warmD hW, d4.warmC hW, d5.warmC hW, d6.warmC hW⟩, ⟨n1.moved hW.alike, n2.moved hW.alike, n3.moved hW.alike, n4.moved hW.alike, n5.moved hW.alike, n6.moved hW.alike⟩⟩
theorem El_mv {G : Nat → Nat} {h0 : Nat} {s U : State} {locs : List Loc} (h : El G h0 s) (hW : s.WarmedH U.vm) (hS : va_S (fun q => h0 ≤ q) s.heap U.heap locs) : El G h0 U := by
  obtain ⟨z1, z2, a1, a2, m1, d1, c1, c2, c3⟩ := h
  exact ⟨va_Z.moved hW.alike (z1.kept hS.2.1), va_T.moved hW.alike (z2.kept hS.2.1), a1.moved hW.alike, a2.moved hW.alike, m1.moved hW.alike, d1.moved hW.alike, c1.warmC hW, c2.warmC hW, c3.warmC hW⟩
theorem Ev_mv {D : va_G} {G : Nat → Nat} {h0 : Nat} {s U : State} {locs : List Loc} (h : Ev D G h0 s) (hW : s.WarmedH U.vm) (hS : va_S (fun q => h0 ≤ q) s.heap U.heap locs) : Ev D G h0 U :=
  ⟨Nat.le_trans h.1 hS.1, h.2.1.moved hW.alike, Ex_mv h.2.2.1 hW hS, El_mv h.2.2.2 hW hS⟩
theorem Ev_cg {D : va_G} {G : Nat → Nat} {h0 : Nat} {a : Array Value} {U : State} {g : JFrame} {mk : MethodId} (h : Ev D G h0 U) : Ev D G h0 (U.calling g mk a) := Ev_mv (locs := []) h (State.WarmedH.refl U) va_S.rf
theorem Pr_cg {D : va_G} {G : Nat → Nat} {h0 : Nat} {c r : Nat → Nat → Nat} {o : Nat} {a : Array Value} {U : State} {g : JFrame} {mk : MethodId} (h : Pr D G h0 c r o U) : Pr D G h0 c r o (U.calling g mk a) := ⟨Ev_cg h.1, h.2⟩
/-- the world in another state with this heap -/
theorem Pr_mk {D : va_G} {G : Nat → Nat} {h0 : Nat} {c r : Nat → Nat → Nat} {o : Nat} {s U : State} {H : Heap} {locs : List Loc} {wl : va_W} (hE : Ev D G h0 s) (hRc : Rc G c wl) (hRr : Rr G r wl) (hRo : Ro G o wl) (hP : va_P D vwCl wl H) (hD : va_D (fun q => h0 ≤ q) wl) (hS : va_S (fun q => h0 ≤ q) s.heap H locs) (hU : U.heap = H) (hW : s.WarmedH U.vm) : Pr D G h0 c r o U := by
  subst hU
  exact ⟨Ev_mv hE hW hS, wl, hRc, hRr, hRo, hP, hD⟩
theorem Wr_mk {D : va_G} {G : Nat → Nat} {h0 : Nat} {c r : Nat → Nat → Nat} {o : Nat} {U : State} {H : Heap} {wl : va_W} (hRc : Rc G c wl) (hRr : Rr G r wl) (hRo : Ro G o wl) (hP : va_P D vwCl wl H) (hD : va_D (fun q => h0 ≤ q) wl) (hU : U.heap = H) : Wr D G h0 c r o U := by
  subst hU
  exact ⟨wl, hRc, hRr, hRo, hP, hD⟩
noncomputable def bN (P : Prop) : Nat := @ite Nat P (Classical.propDecidable P) 1 0
theorem bN_t {P : Prop} (h : P) : bN P = 1 := by unfold bN; exact if_pos h
theorem bN_f {P : Prop} (h : ¬ P) : bN P = 0 := by unfold bN; exact if_neg h
theorem bN_le (P : Prop) : bN P ≤ 1 := by
  rcases Classical.em P with h | h
  · rw [bN_t h]; exact Nat.le_refl 1
  · rw [bN_f h]; exact Nat.zero_le 1
theorem bN_c {P Q : Prop} (h : P ↔ Q) : bN P = bN Q := by
  rcases Classical.em P with k | k
  · rw [bN_t k, bN_t (h.mp k)]
  · rw [bN_f k, bN_f (fun z => k (h.mpr z))]
theorem bN_0 {P : Prop} : bN P = 0 ↔ ¬ P := by
  rcases Classical.em P with h | h
  · rw [bN_t h]; simp [h]
  · rw [bN_f h]; simp [h]
theorem bN_1 {P : Prop} : bN P = 1 ↔ P := by
  rcases Classical.em P with h | h
  · rw [bN_t h]; simp [h]
  · rw [bN_f h]; simp [h]
end
section
/-! ROWS OVER NUMBERS THAT ARE nI OF SOMETHING, and over the system's cells -/
theorem k_shc : ∀ n, n < 32 → ((nI n &&& 31).toBitVec.smod 32).toNat = n := by decide +kernel
theorem k_bit {u : Nat} (h : u < 31) : nI 1 <<< (nI u &&& 31) = nI (2 ^ u) := by
  have hp : 2 ^ u < 2 ^ 31 := Nat.pow_lt_pow_right (by decide) h
  have e := pk_shlN (n := 1) (nI u &&& 31) u (k_shc u (by omega)) (by rw [Nat.one_mul]; exact Nat.lt_trans hp (by decide))
  rw [Nat.one_mul] at e
  exact e
theorem k_shr {a u : Nat} (ha : a < 2 ^ 31) (h : u < 32) : nI a >>> (nI u &&& 31) = nI (a / 2 ^ u) := pk_shrN ha (nI u &&& 31) u (k_shc u h)
theorem k_or (a b : Nat) : nI a ||| nI b = nI (a ||| b) := by
  apply Int32.toBitVec_inj.mp
  show BitVec.ofNat 32 a ||| BitVec.ofNat 32 b = BitVec.ofNat 32 (a ||| b)
  apply BitVec.eq_of_toNat_eq
  simp only [BitVec.toNat_or, BitVec.toNat_ofNat]
  exact (Nat.or_mod_two_pow ..).symm
theorem k_and (a b : Nat) : nI a &&& nI b = nI (a &&& b) := by
  apply Int32.toBitVec_inj.mp
  show BitVec.ofNat 32 a &&& BitVec.ofNat 32 b = BitVec.ofNat 32 (a &&& b)
  apply BitVec.eq_of_toNat_eq
  simp only [BitVec.toNat_and, BitVec.toNat_ofNat]
  exact (Nat.and_mod_two_pow ..).symm
theorem k_xor (a b : Nat) : nI a ^^^ nI b = nI (a ^^^ b) := by
  apply Int32.toBitVec_inj.mp
  show BitVec.ofNat 32 a ^^^ BitVec.ofNat 32 b = BitVec.ofNat 32 (a ^^^ b)
  apply BitVec.eq_of_toNat_eq
  simp only [BitVec.toNat_xor, BitVec.toNat_ofNat]
  exact (Nat.xor_mod_two_pow ..).symm
/-- a without the bits of b -/
def anN (a b : Nat) : Nat := a ^^^ (a &&& b)
theorem anN_0 {a b : Nat} : anN a b = 0 ↔ ∀ i, a.testBit i = true → b.testBit i = true := by
  constructor
  · intro h i hi
    have h2 : (anN a b).testBit i = false := by rw [h]; exact Nat.zero_testBit i
    rw [anN, Nat.testBit_xor, Nat.testBit_and, hi] at h2
    cases hb : b.testBit i
    · rw [hb] at h2; simp at h2
    · rfl
  · intro h
    apply Nat.eq_of_testBit_eq
    intro i
    rw [Nat.zero_testBit, anN, Nat.testBit_xor, Nat.testBit_and]
    cases ha : a.testBit i
    · simp
    · rw [h i ha]; simp
theorem anN_lt {a b : Nat} (ha : a < 2 ^ 20) : anN a b < 2 ^ 20 := Nat.xor_lt_two_pow ha (Nat.lt_of_le_of_lt Nat.and_le_left ha)
theorem k_nand (a b : Nat) : nI a &&& (nI b ^^^ (-1)) = nI (anN a b) := by
  apply Int32.toBitVec_inj.mp
  show BitVec.ofNat 32 a &&& (BitVec.ofNat 32 b ^^^ (-1 : Int32).toBitVec) = BitVec.ofNat 32 (anN a b)
  have e : (-1 : Int32).toBitVec = BitVec.allOnes 32 := by decide
  rw [e]
  apply BitVec.eq_of_getLsbD_eq
  intro i hi
  simp only [BitVec.getLsbD_and, BitVec.getLsbD_xor, BitVec.getLsbD_ofNat, BitVec.getLsbD_allOnes, anN, Nat.testBit_xor, Nat.testBit_and, hi, decide_true, Bool.true_and, Bool.and_true]
  cases a.testBit i <;> cases b.testBit i <;> rfl
section NR
variable {p : Program} {l : Launch} {e : Env} {R : Room} {s : State} {m : MethodId} {args : Array Value} {below : List Frame} {meth : Method} {cd : Code} {H : Heap} {locs : List Loc} {cells slots : Nat} {Q : State → Prop}
variable {cc : ByteArray} {pc : Nat} {ls : Array Slot} {rest : List Value} {a b : Nat}
theorem n_icmp_lt (hexec : p.tables.exec = Jvm.exec) (hb : cd.code = cc) {off : Int} {tgt : Nat} (hdg : decode cc pc = .ok (.if_icmp .lt off, 3)) (ht : (pc : Int) + off = (tgt : Int)) (h1 : a < 2 ^ 31) (h2 : b < 2 ^ 31)
    (kt : a < b → W p l e R s m args below meth cd H locs cells slots Q (F0 m tgt ls rest)) (kf : b ≤ a → W p l e R s m args below meth cd H locs cells slots Q (F0 m (pc + 3) ls rest)) : W p l e R s m args below meth cd H locs cells slots Q (F0 m pc ls (.int (nI b) :: .int (nI a) :: rest)) :=
  lv_icmp_lt hexec hb hdg ht (fun c => kt ((nI_ltI h1 h2).mp c)) (fun c => kf (Nat.not_lt.mp (fun z => c ((nI_ltI h1 h2).mpr z))))
theorem n_icmp_ge (hexec : p.tables.exec = Jvm.exec) (hb : cd.code = cc) {off : Int} {tgt : Nat} (hdg : decode cc pc = .ok (.if_icmp .ge off, 3)) (ht : (pc : Int) + off = (tgt : Int)) (h1 : a < 2 ^ 31) (h2 : b < 2 ^ 31)
    (kt : b ≤ a → W p l e R s m args below meth cd H locs cells slots Q (F0 m tgt ls rest)) (kf : a < b → W p l e R s m args below meth cd H locs cells slots Q (F0 m (pc + 3) ls rest)) : W p l e R s m args below meth cd H locs cells slots Q (F0 m pc ls (.int (nI b) :: .int (nI a) :: rest)) :=
  lv_icmp_ge hexec hb hdg ht (fun c => kt ((nI_leI h2 h1).mp c)) (fun c => kf (Nat.not_le.mp (fun z => c ((nI_leI h2 h1).mpr z))))
theorem n_icmp_gt (hexec : p.tables.exec = Jvm.exec) (hb : cd.code = cc) {off : Int} {tgt : Nat} (hdg : decode cc pc = .ok (.if_icmp .gt off, 3)) (ht : (pc : Int) + off = (tgt : Int)) (h1 : a < 2 ^ 31) (h2 : b < 2 ^ 31)
    (kt : b < a → W p l e R s m args below meth cd H locs cells slots Q (F0 m tgt ls rest)) (kf : a ≤ b → W p l e R s m args below meth cd H locs cells slots Q (F0 m (pc + 3) ls rest)) : W p l e R s m args below meth cd H locs cells slots Q (F0 m pc ls (.int (nI b) :: .int (nI a) :: rest)) :=
  lv_icmp_gt hexec hb hdg ht (fun c => kt ((nI_ltI h2 h1).mp c)) (fun c => kf (Nat.not_lt.mp (fun z => c ((nI_ltI h2 h1).mpr z))))
theorem n_icmp_le (hexec : p.tables.exec = Jvm.exec) (hb : cd.code = cc) {off : Int} {tgt : Nat} (hdg : decode cc pc = .ok (.if_icmp .le off, 3)) (ht : (pc : Int) + off = (tgt : Int)) (h1 : a < 2 ^ 31) (h2 : b < 2 ^ 31)
    (kt : a ≤ b → W p l e R s m args below meth cd H locs cells slots Q (F0 m tgt ls rest)) (kf : b < a → W p l e R s m args below meth cd H locs cells slots Q (F0 m (pc + 3) ls rest)) : W p l e R s m args below meth cd H locs cells slots Q (F0 m pc ls (.int (nI b) :: .int (nI a) :: rest)) :=
  lv_icmp_le hexec hb hdg ht (fun c => kt ((nI_leI h1 h2).mp c)) (fun c => kf (Nat.not_le.mp (fun z => c ((nI_leI h1 h2).mpr z))))
theorem n_icmp_eq (hexec : p.tables.exec = Jvm.exec) (hb : cd.code = cc) {off : Int} {tgt : Nat} (hdg : decode cc pc = .ok (.if_icmp .eq off, 3)) (ht : (pc : Int) + off = (tgt : Int)) (h1 : a < 2 ^ 31) (h2 : b < 2 ^ 31)
    (kt : a = b → W p l e R s m args below meth cd H locs cells slots Q (F0 m tgt ls rest)) (kf : a ≠ b → W p l e R s m args below meth cd H locs cells slots Q (F0 m (pc + 3) ls rest)) : W p l e R s m args below meth cd H locs cells slots Q (F0 m pc ls (.int (nI b) :: .int (nI a) :: rest)) :=
  lv_icmp_eq hexec hb hdg ht (fun c => kt ((nI_eq h1 h2).mp c)) (fun c => kf (fun z => c ((nI_eq h1 h2).mpr z)))
theorem n_icmp_ne (hexec : p.tables.exec = Jvm.exec) (hb : cd.code = cc) {off : Int} {tgt : Nat} (hdg : decode cc pc = .ok (.if_icmp .ne off, 3)) (ht : (pc : Int) + off = (tgt : Int)) (h1 : a < 2 ^ 31) (h2 : b < 2 ^ 31)
    (kt : a ≠ b → W p l e R s m args below meth cd H locs cells slots Q (F0 m tgt ls rest)) (kf : a = b → W p l e R s m args below meth cd H locs cells slots Q (F0 m (pc + 3) ls rest)) : W p l e R s m args below meth cd H locs cells slots Q (F0 m pc ls (.int (nI b) :: .int (nI a) :: rest)) :=
  lv_icmp_ne hexec hb hdg ht (fun c => kt (fun z => c ((nI_eq h1 h2).mpr z))) (fun c => kf ((nI_eq h1 h2).mp c))
theorem n_z {a : Nat} (h : a < 2 ^ 31) : nI a = 0 ↔ a = 0 := ⟨fun c => (nI_eq h (by decide)).mp (c.trans nI_0.symm), fun c => by rw [c]; exact nI_0⟩
theorem n_p {a : Nat} (h : a < 2 ^ 31) : 0 < nI a ↔ 0 < a := by
  rw [← nI_0]
  exact nI_ltI (by decide) h
theorem n_if_eq (hexec : p.tables.exec = Jvm.exec) (hb : cd.code = cc) {off : Int} {tgt : Nat} (hdg : decode cc pc = .ok (.ifCond .eq off, 3)) (ht : (pc : Int) + off = (tgt : Int)) (h1 : a < 2 ^ 31)
    (kt : a = 0 → W p l e R s m args below meth cd H locs cells slots Q (F0 m tgt ls rest)) (kf : 0 < a → W p l e R s m args below meth cd H locs cells slots Q (F0 m (pc + 3) ls rest)) : W p l e R s m args below meth cd H locs cells slots Q (F0 m pc ls (.int (nI a) :: rest)) :=
  lv_if_eq hexec hb hdg ht (fun c => kt ((n_z h1).mp c)) (fun c => kf (Nat.pos_of_ne_zero (fun z => c ((n_z h1).mpr z))))
theorem n_if_ne (hexec : p.tables.exec = Jvm.exec) (hb : cd.code = cc) {off : Int} {tgt : Nat} (hdg : decode cc pc = .ok (.ifCond .ne off, 3)) (ht : (pc : Int) + off = (tgt : Int)) (h1 : a < 2 ^ 31)
    (kt : 0 < a → W p l e R s m args below meth cd H locs cells slots Q (F0 m tgt ls rest)) (kf : a = 0 → W p l e R s m args below meth cd H locs cells slots Q (F0 m (pc + 3) ls rest)) : W p l e R s m args below meth cd H locs cells slots Q (F0 m pc ls (.int (nI a) :: rest)) :=
  lv_if_ne hexec hb hdg ht (fun c => kt (Nat.pos_of_ne_zero (fun z => c ((n_z h1).mpr z)))) (fun c => kf ((n_z h1).mp c))
theorem n_if_gt (hexec : p.tables.exec = Jvm.exec) (hb : cd.code = cc) {off : Int} {tgt : Nat} (hdg : decode cc pc = .ok (.ifCond .gt off, 3)) (ht : (pc : Int) + off = (tgt : Int)) (h1 : a < 2 ^ 31)
    (kt : 0 < a → W p l e R s m args below meth cd H locs cells slots Q (F0 m tgt ls rest)) (kf : a = 0 → W p l e R s m args below meth cd H locs cells slots Q (F0 m (pc + 3) ls rest)) : W p l e R s m args below meth cd H locs cells slots Q (F0 m pc ls (.int (nI a) :: rest)) :=
  lv_if_gt hexec hb hdg ht (fun c => kt ((n_p h1).mp c)) (fun c => kf (Nat.eq_zero_of_not_pos (fun z => c ((n_p h1).mpr z))))
theorem n_if_le (hexec : p.tables.exec = Jvm.exec) (hb : cd.code = cc) {off : Int} {tgt : Nat} (hdg : decode cc pc = .ok (.ifCond .le off, 3)) (ht : (pc : Int) + off = (tgt : Int)) (h1 : a < 2 ^ 31)
    (kt : a = 0 → W p l e R s m args below meth cd H locs cells slots Q (F0 m tgt ls rest)) (kf : 0 < a → W p l e R s m args below meth cd H locs cells slots Q (F0 m (pc + 3) ls rest)) : W p l e R s m args below meth cd H locs cells slots Q (F0 m pc ls (.int (nI a) :: rest)) :=
  lv_if_le hexec hb hdg ht (fun c => kt (Nat.eq_zero_of_not_pos (fun z => by have h9 := (n_p h1).mpr z; rw [Int32.lt_iff_toInt_lt] at h9; rw [Int32.le_iff_toInt_le] at c; omega))) (fun c => kf (Nat.pos_of_ne_zero (fun z => c (by rw [z]; decide))))
theorem n_ifb_eq {P : Prop} (hexec : p.tables.exec = Jvm.exec) (hb : cd.code = cc) {off : Int} {tgt : Nat} (hdg : decode cc pc = .ok (.ifCond .eq off, 3)) (ht : (pc : Int) + off = (tgt : Int))
    (kt : ¬ P → W p l e R s m args below meth cd H locs cells slots Q (F0 m tgt ls rest)) (kf : P → W p l e R s m args below meth cd H locs cells slots Q (F0 m (pc + 3) ls rest)) : W p l e R s m args below meth cd H locs cells slots Q (F0 m pc ls (.int (nI (bN P)) :: rest)) :=
  n_if_eq hexec hb hdg ht (Nat.lt_of_le_of_lt (bN_le P) (by decide)) (fun c => kt (bN_0.mp c)) (fun c => kf (bN_1.mp (Nat.le_antisymm (bN_le P) c)))
theorem n_ifb_ne {P : Prop} (hexec : p.tables.exec = Jvm.exec) (hb : cd.code = cc) {off : Int} {tgt : Nat} (hdg : decode cc pc = .ok (.ifCond .ne off, 3)) (ht : (pc : Int) + off = (tgt : Int))
    (kt : P → W p l e R s m args below meth cd H locs cells slots Q (F0 m tgt ls rest)) (kf : ¬ P → W p l e R s m args below meth cd H locs cells slots Q (F0 m (pc + 3) ls rest)) : W p l e R s m args below meth cd H locs cells slots Q (F0 m pc ls (.int (nI (bN P)) :: rest)) :=
  n_if_ne hexec hb hdg ht (Nat.lt_of_le_of_lt (bN_le P) (by decide)) (fun c => kt (bN_1.mp (Nat.le_antisymm (bN_le P) c))) (fun c => kf (bN_0.mp c))
theorem n_iadd (hexec : p.tables.exec = Jvm.exec) (hb : cd.code = cc) (hdg : decode cc pc = .ok (.iadd, 1)) (k : W p l e R s m args below meth cd H locs cells slots Q (F0 m (pc + 1) ls (.int (nI (a + b)) :: rest))) : W p l e R s m args below meth cd H locs cells slots Q (F0 m pc ls (.int (nI b) :: .int (nI a) :: rest)) :=
  lv_iadd hexec hb hdg (by rw [nI_add]; exact k)
theorem n_isub (hexec : p.tables.exec = Jvm.exec) (hb : cd.code = cc) (hdg : decode cc pc = .ok (.isub, 1)) (h : b ≤ a) (k : W p l e R s m args below meth cd H locs cells slots Q (F0 m (pc + 1) ls (.int (nI (a - b)) :: rest))) : W p l e R s m args below meth cd H locs cells slots Q (F0 m pc ls (.int (nI b) :: .int (nI a) :: rest)) :=
  lv_isub hexec hb hdg (by rw [pk_sub h]; exact k)
theorem n_imul (hexec : p.tables.exec = Jvm.exec) (hb : cd.code = cc) (hdg : decode cc pc = .ok (.imul, 1)) (k : W p l e R s m args below meth cd H locs cells slots Q (F0 m (pc + 1) ls (.int (nI (a * b)) :: rest))) : W p l e R s m args below meth cd H locs cells slots Q (F0 m pc ls (.int (nI b) :: .int (nI a) :: rest)) :=
  lv_imul hexec hb hdg (by rw [pk_mul]; exact k)
theorem n_idiv (hexec : p.tables.exec = Jvm.exec) (hb : cd.code = cc) (hdg : decode cc pc = .ok (.idiv, 1)) (h1 : a < 2 ^ 31) (h0 : 0 < b) (h2 : b < 2 ^ 31) (k : W p l e R s m args below meth cd H locs cells slots Q (F0 m (pc + 1) ls (.int (nI (a / b)) :: rest))) : W p l e R s m args below meth cd H locs cells slots Q (F0 m pc ls (.int (nI b) :: .int (nI a) :: rest)) :=
  lv_idiv hexec hb hdg (nI_ne0 h0 h2) (by rw [pk_div h1 h0 h2]; exact k)
theorem n_irem (hexec : p.tables.exec = Jvm.exec) (hb : cd.code = cc) (hdg : decode cc pc = .ok (.irem, 1)) (h1 : a < 2 ^ 31) (h0 : 0 < b) (h2 : b < 2 ^ 31) (k : W p l e R s m args below meth cd H locs cells slots Q (F0 m (pc + 1) ls (.int (nI (a % b)) :: rest))) : W p l e R s m args below meth cd H locs cells slots Q (F0 m pc ls (.int (nI b) :: .int (nI a) :: rest)) :=
  lv_irem hexec hb hdg (nI_ne0 h0 h2) (by rw [pk_rem h1 h0 h2]; exact k)
theorem n_ior (hexec : p.tables.exec = Jvm.exec) (hb : cd.code = cc) (hdg : decode cc pc = .ok (.ior, 1)) (k : W p l e R s m args below meth cd H locs cells slots Q (F0 m (pc + 1) ls (.int (nI (a ||| b)) :: rest))) : W p l e R s m args below meth cd H locs cells slots Q (F0 m pc ls (.int (nI b) :: .int (nI a) :: rest)) :=
  lv_ior hexec hb hdg (by rw [k_or]; exact k)
theorem n_iand (hexec : p.tables.exec = Jvm.exec) (hb : cd.code = cc) (hdg : decode cc pc = .ok (.iand, 1)) (k : W p l e R s m args below meth cd H locs cells slots Q (F0 m (pc + 1) ls (.int (nI (a &&& b)) :: rest))) : W p l e R s m args below meth cd H locs cells slots Q (F0 m pc ls (.int (nI b) :: .int (nI a) :: rest)) :=
  lv_iand hexec hb hdg (by rw [k_and]; exact k)
theorem n_nand (hexec : p.tables.exec = Jvm.exec) (hb : cd.code = cc) (hdg : decode cc pc = .ok (.iand, 1)) (k : W p l e R s m args below meth cd H locs cells slots Q (F0 m (pc + 1) ls (.int (nI (anN a b)) :: rest))) : W p l e R s m args below meth cd H locs cells slots Q (F0 m pc ls (.int (nI b ^^^ (-1)) :: .int (nI a) :: rest)) :=
  lv_iand hexec hb hdg (by rw [k_nand]; exact k)
theorem n_bit (hexec : p.tables.exec = Jvm.exec) (hb : cd.code = cc) (hdg : decode cc pc = .ok (.ishl, 1)) (h : b < 31) (k : W p l e R s m args below meth cd H locs cells slots Q (F0 m (pc + 1) ls (.int (nI (2 ^ b)) :: rest))) : W p l e R s m args below meth cd H locs cells slots Q (F0 m pc ls (.int (nI b) :: .int (nI 1) :: rest)) :=
  lv_ishl hexec hb hdg (by rw [k_bit h]; exact k)
theorem n_ishr (hexec : p.tables.exec = Jvm.exec) (hb : cd.code = cc) (hdg : decode cc pc = .ok (.ishr, 1)) (h1 : a < 2 ^ 31) (h : b < 32) (k : W p l e R s m args below meth cd H locs cells slots Q (F0 m (pc + 1) ls (.int (nI (a / 2 ^ b)) :: rest))) : W p l e R s m args below meth cd H locs cells slots Q (F0 m pc ls (.int (nI b) :: .int (nI a) :: rest)) :=
  lv_ishr hexec hb hdg (by rw [k_shr h1 h]; exact k)
/-- a value on top by another name -/
theorem n_top {x y : Value} (h : x = y) (k : W p l e R s m args below meth cd H locs cells slots Q (F0 m pc ls (y :: rest))) : W p l e R s m args below meth cd H locs cells slots Q (F0 m pc ls (x :: rest)) := by
  subst h
  exact k
variable {D : va_G} {G : Nat → Nat} {h0 : Nat} {c r : Nat → Nat → Nat} {o : Nat} {wl : va_W} {A : Nat → Prop} {H0 : Heap}
theorem x_put (hexec : p.tables.exec = Jvm.exec) (hb : cd.code = cc) {own ref C : String} {T : u_T} {N ci index ad : Nat} {Ts : List Cond} (hts : ∀ w ∈ Ts, w.before args s = true) (hin : ∀ w ∈ u_ws C T N, w ∈ Ts) (ty0 : Nat → FieldType) (hty : ∀ k, k < N → parseFieldDescriptor (T k).2.2.1 = some (ty0 k)) (hnm : ∀ a, a < N → ∀ b, b < N → a ≠ b → (T a).2.1 ≠ (T b).2.1) (hown : s.vm.findClass own = some m.cls) (hK : va_K D vwCl (tyL G) s) (hP : va_P D vwCl wl H) (hD : va_D A wl) (hS0 : va_S A H0 H locs) (q0 : Nat) {fs : List Value} (he : wl[q0]? = some (ad, .inr (ci, fs))) (hc : vwCl[ci]? = some (C, T, N)) (k : Nat) (hk : k < N) (hlink : (Cond.fieldLink own index ref (T k).2.1 (T k).2.2.1).before args s = true) (hsame : ∀ x, s.fieldFound? (T k).1 (T k).2.1 (T k).2.2.1 = some x → s.fieldFound? ref (T k).2.1 (T k).2.2.1 = some x) (hfin : (T k).2.2.2 = false) {ty : FieldType} {v : Value} (hd : parseFieldDescriptor (T k).2.2.1 = some ty) (hn : narrow ty v = v) (hfit : fits ty v = true) (hl : k < fs.length) (hdg : decode cc pc = .ok (.putfield index, 3))
    {Z : va_W → Prop} (hZ : Z (wl.set q0 (ad, .inr (ci, fs.set k v)))) (kk : ∀ (H1 : Heap) (locs1 : List Loc) (wl1 : va_W), Z wl1 → va_P D vwCl wl1 H1 → va_D A wl1 → va_S A H0 H1 locs1 → W p l e R s m args below meth cd H1 locs1 cells slots Q (F0 m (pc + 3) ls rest)) : W p l e R s m args below meth cd H locs cells slots Q (F0 m pc ls (v :: .ref ad :: rest)) :=
  va_put hexec hb hts hin ty0 hty hnm hown hK hP hD hS0 q0 he hc k hk hlink hsame hfin hd hn hfit hl hdg (fun H1 locs1 h1 h2 h3 => kk H1 locs1 _ hZ h1 h2 h3)
theorem x_iald (hexec : p.tables.exec = Jvm.exec) (hb : cd.code = cc) (hK : va_K D vwCl (tyL G) s) (hP : va_P D vwCl wl H) (q0 : Nat) {n ad i : Nat} {f : Nat → Int32} (he : wl[q0]? = some (ad, .inl (G 62, n, .inl f))) (hi : i < n) (hn : n < 2 ^ 31) (hdg : decode cc pc = .ok (.iaload, 1)) {v : Int32} (hv : f i = v)
    (kk : W p l e R s m args below meth cd H locs cells slots Q (F0 m (pc + 1) ls (.int v :: rest))) : W p l e R s m args below meth cd H locs cells slots Q (F0 m pc ls (.int (nI i) :: .ref ad :: rest)) :=
  va_iald hexec hb hK hP q0 2 he rfl (vp_in_nI hi hn) hdg (by rw [nI_clamp (Nat.lt_trans hi hn), hv]; exact kk)
theorem x_zald (hexec : p.tables.exec = Jvm.exec) (hb : cd.code = cc) (hK : va_K D vwCl (tyL G) s) (hP : va_P D vwCl wl H) (q0 : Nat) {n ad i : Nat} {f : Nat → Int32} (he : wl[q0]? = some (ad, .inl (G 63, n, .inl f))) (hi : i < n) (hn : n < 2 ^ 31) (hdg : decode cc pc = .ok (.baload, 1)) {v : Int32} (hv : f i = v)
    (kk : W p l e R s m args below meth cd H locs cells slots Q (F0 m (pc + 1) ls (.int v :: rest))) : W p l e R s m args below meth cd H locs cells slots Q (F0 m pc ls (.int (nI i) :: .ref ad :: rest)) :=
  va_zald hexec hb hK hP q0 3 he rfl (vp_in_nI hi hn) hdg (by rw [nI_clamp (Nat.lt_trans hi hn), hv]; exact kk)
theorem x_iast (hexec : p.tables.exec = Jvm.exec) (hb : cd.code = cc) (hK : va_K D vwCl (tyL G) s) (hP : va_P D vwCl wl H) (hD : va_D A wl) (hS : va_S A H0 H locs) (q0 : Nat) {n ad i : Nat} {x : Int32} {f : Nat → Int32} (he : wl[q0]? = some (ad, .inl (G 62, n, .inl f))) (hi : i < n) (hn : n < 2 ^ 31) (hdg : decode cc pc = .ok (.iastore, 1))
    {Z : va_W → Prop} (hZ : Z (wl.set q0 (ad, .inl (G 62, n, .inl (upd f (nI i).toNatClampNeg x))))) (kk : ∀ (H1 : Heap) (locs1 : List Loc) (wl1 : va_W), Z wl1 → va_P D vwCl wl1 H1 → va_D A wl1 → va_S A H0 H1 locs1 → W p l e R s m args below meth cd H1 locs1 cells slots Q (F0 m (pc + 1) ls rest)) : W p l e R s m args below meth cd H locs cells slots Q (F0 m pc ls (.int x :: .int (nI i) :: .ref ad :: rest)) :=
  va_iast hexec hb hK hP hD hS q0 2 he rfl (vp_in_nI hi hn) hdg (fun H1 locs1 h1 h2 h3 => kk H1 locs1 _ hZ h1 h2 h3)
theorem x_zast (hexec : p.tables.exec = Jvm.exec) (hb : cd.code = cc) (hK : va_K D vwCl (tyL G) s) (hP : va_P D vwCl wl H) (hD : va_D A wl) (hS : va_S A H0 H locs) (q0 : Nat) {n ad i : Nat} {x : Int32} {f : Nat → Int32} (he : wl[q0]? = some (ad, .inl (G 63, n, .inl f))) (hi : i < n) (hn : n < 2 ^ 31) (hdg : decode cc pc = .ok (.bastore, 1))
    {Z : va_W → Prop} (hZ : Z (wl.set q0 (ad, .inl (G 63, n, .inl (upd f (nI i).toNatClampNeg (vp_nar .boolean x)))))) (kk : ∀ (H1 : Heap) (locs1 : List Loc) (wl1 : va_W), Z wl1 → va_P D vwCl wl1 H1 → va_D A wl1 → va_S A H0 H1 locs1 → W p l e R s m args below meth cd H1 locs1 cells slots Q (F0 m (pc + 1) ls rest)) : W p l e R s m args below meth cd H locs cells slots Q (F0 m pc ls (.int x :: .int (nI i) :: .ref ad :: rest)) :=
  va_zast hexec hb hK hP hD hS q0 3 he rfl (vp_in_nI hi hn) hdg (fun H1 locs1 h1 h2 h3 => kk H1 locs1 _ hZ h1 h2 h3)
/-- rows[u] -/
theorem x_row (hexec : p.tables.exec = Jvm.exec) (hb : cd.code = cc) (hK : va_K D vwCl (tyL G) s) (hP : va_P D vwCl wl H) (hR : Rc G c wl) {u : Nat} (hu : u < 20) (hdg : decode cc pc = .ok (.aaload, 1))
    (kk : W p l e R s m args below meth cd H locs cells slots Q (F0 m (pc + 1) ls (.ref (G (20 + u)) :: rest))) : W p l e R s m args below meth cd H locs cells slots Q (F0 m pc ls (.int (nI u) :: .ref (G 1) :: rest)) :=
  va_aldq hexec hb hK hP 1 0 (Q_r hR) rfl (vp_in_nI hu (by decide)) hdg (by rw [nI_clamp (by omega)]; exact kk)
variable {mc ms : Nat} {free : Addr → Prop} {st0 : List Value} {av : Array Value}
theorem y_calli {S : Type} {post : Int32 → S → Prop} {cf rf : S → Nat → Nat → Nat} {of : S → Nat} (hr : va_Run p l e R s m args below meth cd H locs cells slots mc ms (F0 m pc ls st0) rest (va_Qi post (fun u t => Wr D G h0 (cf u) (rf u) (of u) t) (fun q => h0 ≤ q) av) (fun q => h0 ≤ q)) (hS : va_S (fun q => h0 ≤ q) H0 H locs)
    (kk : ∀ (v : Int32) (u : S) (H1 : Heap) (locs1 : List Loc) (wl1 : va_W), post v u → Rc G (cf u) wl1 → Rr G (rf u) wl1 → Ro G (of u) wl1 → va_P D vwCl wl1 H1 → va_D (fun q => h0 ≤ q) wl1 → va_S (fun q => h0 ≤ q) H0 H1 locs1 → W p l e R s m args below meth cd H1 locs1 (cells + mc) (slots + ms) Q (F0 m (pc + 3) ls (.int v :: rest))) : W p l e R s m args below meth cd H locs cells slots Q (F0 m pc ls st0) :=
  va_calli hr hS (fun _ _ h => h) (fun _ h => h) (fun v u t H1 locs1 ht _ hp hB _ _ hS1 => by
    obtain ⟨wl1, b1, b2, b3, b4, b5⟩ := hB
    rw [ht] at b4
    exact kk v u H1 locs1 wl1 hp b1 b2 b3 b4 b5 hS1)
theorem y_callv {S : Type} {post : S → Prop} {cf rf : S → Nat → Nat → Nat} {of : S → Nat} (hr : va_Run p l e R s m args below meth cd H locs cells slots mc ms (F0 m pc ls st0) rest (va_Qv post (fun u t => Wr D G h0 (cf u) (rf u) (of u) t) (fun q => h0 ≤ q) av) (fun q => h0 ≤ q)) (hS : va_S (fun q => h0 ≤ q) H0 H locs)
    (kk : ∀ (u : S) (H1 : Heap) (locs1 : List Loc) (wl1 : va_W), post u → Rc G (cf u) wl1 → Rr G (rf u) wl1 → Ro G (of u) wl1 → va_P D vwCl wl1 H1 → va_D (fun q => h0 ≤ q) wl1 → va_S (fun q => h0 ≤ q) H0 H1 locs1 → W p l e R s m args below meth cd H1 locs1 (cells + mc) (slots + ms) Q (F0 m (pc + 3) ls rest)) : W p l e R s m args below meth cd H locs cells slots Q (F0 m pc ls st0) :=
  va_callv hr hS (fun _ _ h => h) (fun _ h => h) (fun u t H1 locs1 ht _ hp hB _ _ hS1 => by
    obtain ⟨wl1, b1, b2, b3, b4, b5⟩ := hB
    rw [ht] at b4
    exact kk u H1 locs1 wl1 hp b1 b2 b3 b4 b5 hS1)
end NR
end
section
/-! WHAT THE SYSTEM'S WORDS MEAN, over states st (2 READY, 3 FAILED, 4 HELD) and stand-ins sb (0: none, v + 1: v) -/
def goneP (st : Nat → Nat) (u : Nat) : Prop := st u = 3 ∨ st u = 4
def metP (st sb : Nat → Nat) (u : Nat) : Prop := st u = 2 ∨ (goneP st u ∧ sb u ≠ 0 ∧ st (sb u - 1) = 2)
def lostP (st sb : Nat → Nat) (u : Nat) : Prop := goneP st u ∧ (sb u = 0 ∨ goneP st (sb u - 1))
def doneP (st : Nat → Nat) (u : Nat) : Prop := st u = 2 ∨ goneP st u
/-- bounds of the class's numbers -/
def BC (c : Nat → Nat → Nat) : Prop := ∀ a i, a ≤ 33 → c a i < 2 ^ 31
def BR (r : Nat → Nat → Nat) : Prop := ∀ a i, a ≤ 30 → r a i < 2 ^ 31
/-- resetForStart -/
def c_reset (c : Nat → Nat → Nat) (u : Nat) : Nat → Nat → Nat := up2 (up2 (up2 c 9 u (if c 5 u = 0 then 0 else 4)) 11 u 0) 12 u (c 3 u)
/-- comeToEnd -/
def c_come (c : Nat → Nat → Nat) (u : Nat) : Nat → Nat → Nat :=
  if c 4 u = 0 then up2 (up2 c 9 u 2) 3 u (max 1 ((c 3 u + c 1 u) / 2))
  else if c 11 u < c 2 u then up2 (up2 (up2 c 4 u (c 4 u - 1)) 11 u (c 11 u + 1)) 9 u 0 else up2 (up2 c 4 u (c 4 u - 1)) 9 u 3
/-- timeDone of a unit -/
def c_part (c : Nat → Nat → Nat) (u : Nat) : Nat := if c 9 u = 2 ∨ c 9 u = 3 then c 12 u else if c 9 u = 1 then min (c 10 u) (c 12 u) else 0
theorem nI_max {a b : Nat} (ha : a < 2 ^ 31) (hb : b < 2 ^ 31) : (if nI a < nI b then nI b else nI a) = nI (max a b) := by
  by_cases h : a < b
  · rw [if_pos (nI_lt h hb), Nat.max_eq_right (Nat.le_of_lt h)]
  · rw [if_neg (nI_nlt (Nat.not_lt.mp h) ha), Nat.max_eq_left (Nat.not_lt.mp h)]
theorem nI_min {a b : Nat} (ha : a < 2 ^ 31) (hb : b < 2 ^ 31) : (if nI b < nI a then nI b else nI a) = nI (min a b) := by
  by_cases h : b < a
  · rw [if_pos (nI_lt h ha), Nat.min_eq_right (Nat.le_of_lt h)]
  · rw [if_neg (nI_nlt (Nat.not_lt.mp h) hb), Nat.min_eq_left (Nat.not_lt.mp h)]
end
section
/-! MASKS, COUNTS, SUMS -/
noncomputable def mk (p : Nat → Prop) : Nat → Nat
  | 0 => 0
  | n + 1 => mk p n ||| (bN (p n) * 2 ^ n)
noncomputable def ct (p : Nat → Prop) : Nat → Nat
  | 0 => 0
  | n + 1 => ct p n + bN (p n)
def sm (f : Nat → Nat) : Nat → Nat
  | 0 => 0
  | n + 1 => sm f n + f n
theorem mk_t {p : Nat → Prop} {n : Nat} (h : p n) : mk p (n + 1) = mk p n ||| 2 ^ n := by rw [mk, bN_t h, Nat.one_mul]
theorem mk_f {p : Nat → Prop} {n : Nat} (h : ¬ p n) : mk p (n + 1) = mk p n := by rw [mk, bN_f h, Nat.zero_mul, Nat.or_zero]
theorem ct_t {p : Nat → Prop} {n : Nat} (h : p n) : ct p (n + 1) = ct p n + 1 := by rw [ct, bN_t h]
theorem ct_f {p : Nat → Prop} {n : Nat} (h : ¬ p n) : ct p (n + 1) = ct p n := by rw [ct, bN_f h, Nat.add_zero]
theorem mk_bit {p : Nat → Prop} {i : Nat} : ∀ {n : Nat}, (mk p n).testBit i = true ↔ i < n ∧ p i
  | 0 => by simp [mk]
  | n + 1 => by
    have ih := mk_bit (p := p) (i := i) (n := n)
    by_cases h : p n
    · rw [mk_t h, Nat.testBit_or, Bool.or_eq_true, ih, Nat.testBit_two_pow]
      constructor
      · rintro (h1 | h1)
        · exact ⟨Nat.lt_succ_of_lt h1.1, h1.2⟩
        · have e : n = i := by simpa using h1
          subst e
          exact ⟨Nat.lt_succ_self _, h⟩
      · rintro ⟨h1, h2⟩
        by_cases e : n = i
        · exact Or.inr (by simp [e])
        · exact Or.inl ⟨by omega, h2⟩
    · rw [mk_f h, ih]
      constructor
      · exact fun h1 => ⟨Nat.lt_succ_of_lt h1.1, h1.2⟩
      · rintro ⟨h1, h2⟩
        by_cases e : n = i
        · subst e; exact absurd h2 h
        · exact ⟨by omega, h2⟩
theorem mk_lt {p : Nat → Prop} : ∀ n : Nat, mk p n < 2 ^ n
  | 0 => by simp [mk]
  | n + 1 => by
    have ih := mk_lt (p := p) n
    have h1 : mk p n < 2 ^ (n + 1) := Nat.lt_of_lt_of_le ih (Nat.pow_le_pow_right (by decide) (Nat.le_succ n))
    by_cases h : p n
    · rw [mk_t h]
      exact Nat.or_lt_two_pow h1 (Nat.pow_lt_pow_right (by decide) (Nat.lt_succ_self n))
    · rw [mk_f h]; exact h1
theorem mk_cg {p q : Nat → Prop} : ∀ {n : Nat}, (∀ i, i < n → (p i ↔ q i)) → mk p n = mk q n
  | 0, _ => rfl
  | n + 1, h => by rw [mk, mk, mk_cg (fun i hi => h i (Nat.lt_succ_of_lt hi)), bN_c (h n (Nat.lt_succ_self n))]
theorem ct_cg {p q : Nat → Prop} : ∀ {n : Nat}, (∀ i, i < n → (p i ↔ q i)) → ct p n = ct q n
  | 0, _ => rfl
  | n + 1, h => by rw [ct, ct, ct_cg (fun i hi => h i (Nat.lt_succ_of_lt hi)), bN_c (h n (Nat.lt_succ_self n))]
theorem sm_cg {f g : Nat → Nat} : ∀ {n : Nat}, (∀ i, i < n → f i = g i) → sm f n = sm g n
  | 0, _ => rfl
  | n + 1, h => by rw [sm, sm, sm_cg (fun i hi => h i (Nat.lt_succ_of_lt hi)), h n (Nat.lt_succ_self n)]
theorem ct_le {p : Nat → Prop} : ∀ n : Nat, ct p n ≤ n
  | 0 => Nat.le_refl 0
  | n + 1 => by have := ct_le (p := p) n; have := bN_le (p n); rw [ct]; omega
theorem sm_le {f : Nat → Nat} {k : Nat} : ∀ {n : Nat}, (∀ i, i < n → f i ≤ k) → sm f n ≤ n * k
  | 0, _ => by simp [sm]
  | n + 1, h => by
    have h1 := sm_le (fun i hi => h i (Nat.lt_succ_of_lt hi))
    have h2 := h n (Nat.lt_succ_self n)
    rw [sm, Nat.succ_mul]
    omega
theorem ct_sub {p q : Nat → Prop} : ∀ {n : Nat}, (∀ i, i < n → p i → q i) → ct p n ≤ ct q n
  | 0, _ => Nat.le_refl 0
  | n + 1, h => by
    have h1 := ct_sub (fun i hi => h i (Nat.lt_succ_of_lt hi))
    by_cases hp : p n
    · rw [ct_t hp, ct_t (h n (Nat.lt_succ_self n) hp)]; omega
    · rw [ct_f hp, ct]; omega
/-- one more -/
theorem ct_one {p q : Nat → Prop} {u : Nat} (hp : ¬ p u) (hq : q u) : ∀ {n : Nat}, u < n → (∀ i, i < n → i ≠ u → (p i ↔ q i)) → ct q n = ct p n + 1
  | 0, h, _ => absurd h (Nat.not_lt_zero _)
  | n + 1, h, hk => by
    by_cases e : u = n
    · subst e
      rw [ct_t hq, ct_f hp, ct_cg (fun i hi => (hk i (Nat.lt_succ_of_lt hi) (Nat.ne_of_lt hi)).symm)]
    · have ih := ct_one hp hq (show u < n by omega) (fun i hi => hk i (Nat.lt_succ_of_lt hi))
      rw [ct, ct, ih, bN_c (hk n (Nat.lt_succ_self n) (fun z => e z.symm))]
      omega
theorem and_bit {f u : Nat} : f &&& 2 ^ u = 0 ↔ ¬ f.testBit u = true := by
  constructor
  · intro h z
    have h2 : (f &&& 2 ^ u).testBit u = false := by rw [h]; exact Nat.zero_testBit u
    rw [Nat.testBit_and, z, Nat.testBit_two_pow_self] at h2
    cases h2
  · intro h
    apply Nat.eq_of_testBit_eq
    intro i
    rw [Nat.zero_testBit, Nat.testBit_and, Nat.testBit_two_pow]
    by_cases e : u = i
    · subst e
      simp only [Bool.not_eq_true] at h
      rw [h]; rfl
    · simp [e]
theorem and_0 {a b : Nat} : a &&& b = 0 ↔ ∀ i, a.testBit i = true → ¬ b.testBit i = true := by
  constructor
  · intro h i h1 h2
    have h3 : (a &&& b).testBit i = false := by rw [h]; exact Nat.zero_testBit i
    rw [Nat.testBit_and, h1, h2] at h3
    cases h3
  · intro h
    apply Nat.eq_of_testBit_eq
    intro i
    rw [Nat.zero_testBit, Nat.testBit_and]
    cases ha : a.testBit i
    · rfl
    · have := h i ha
      simp only [Bool.not_eq_true] at this
      rw [this]; rfl
/-! WHAT IS REACHED -/
def Rch (E : Nat → Nat → Prop) (a b : Nat) : Prop := ∀ S : Nat → Prop, S a → (∀ u v, S u → E u v → S v) → S b
theorem Rch_r {E : Nat → Nat → Prop} (a : Nat) : Rch E a a := fun _ h _ => h
theorem Rch_s {E : Nat → Nat → Prop} {a u v : Nat} (h : Rch E a u) (he : E u v) : Rch E a v := fun S h1 h2 => h2 u v (h S h1 h2) he
theorem Rch_cg {E F : Nat → Nat → Prop} (h : ∀ u v, E u v ↔ F u v) (a b : Nat) : Rch E a b ↔ Rch F a b :=
  ⟨fun k S h1 h2 => k S h1 (fun u v hu he => h2 u v hu ((h u v).mp he)), fun k S h1 h2 => k S h1 (fun u v hu he => h2 u v hu ((h u v).mpr he))⟩
/-- sets that grow below n stand still before step n -/
theorem grow_still {S : Nat → Nat → Prop} {n a : Nat} (ha : a < n) (h0 : S 0 a) (hm : ∀ t v, S t v → S (t + 1) v) (hn : ∀ t v, S t v → v < n) : ∃ t, t < n ∧ ∀ v, S (t + 1) v → S t v := by
  apply Classical.byContradiction
  intro hno
  have step : ∀ t, t < n → ct (S t) n + 1 ≤ ct (S (t + 1)) n := by
    intro t ht
    have h1 : ∃ v, S (t + 1) v ∧ ¬ S t v := by
      apply Classical.byContradiction
      intro h2
      exact hno ⟨t, ht, fun v hv => Classical.byContradiction (fun h3 => h2 ⟨v, hv, h3⟩)⟩
    obtain ⟨v, h3, h4⟩ := h1
    have e := ct_one (p := S t) (q := fun i => S t i ∨ i = v) (u := v) h4 (Or.inr rfl) (hn _ _ h3) (fun i _ hi => ⟨Or.inl, fun z => z.elim id (fun z => absurd z hi)⟩)
    rw [← e]
    exact ct_sub (fun i _ hi => hi.elim (hm t i) (fun z => by rw [z]; exact h3))
  have all : ∀ t, t ≤ n → t + 1 ≤ ct (S t) n := by
    intro t
    induction t with
    | zero =>
      intro _
      have e := ct_one (p := fun _ => False) (q := fun i => i = a) (u := a) (fun z => z) rfl ha (fun i _ hi => ⟨fun z => z.elim, fun z => hi z⟩)
      have h2 : ct (fun i => i = a) n ≤ ct (S 0) n := ct_sub (fun i _ hi => by rw [hi]; exact h0)
      omega
    | succ t ih =>
      intro ht
      have h1 := ih (by omega)
      have h2 := step t (by omega)
      omega
  have h1 := all n (Nat.le_refl n)
  have h2 := ct_le (p := S n) n
  omega
/-! THE CLASS'S STEPS -/
def BC1 (c : Nat → Nat → Nat) : Prop := BC c ∧ c 20 1 ≤ 20
/-- edges: needs, and kept wishes where fl isn't 0 -/
def eC (c : Nat → Nat → Nat) (fl u v : Nat) : Prop := u < c 20 1 ∧ ((c 7 u).testBit v = true ∨ (fl ≠ 0 ∧ (c 8 u).testBit v = true))
def rsE (c : Nat → Nat → Nat) (fl u : Nat) : Nat := c 7 u ||| (if fl = 0 then 0 else c 8 u)
def rsI (c : Nat → Nat → Nat) (fl f : Nat) : Nat → Nat
  | 0 => f
  | k + 1 => if (rsI c fl f k).testBit k = true then rsI c fl f k ||| rsE c fl k else rsI c fl f k
def rdI (c : Nat → Nat → Nat) (fl a : Nat) : Nat → Nat
  | 0 => 2 ^ a
  | i + 1 => rsI c fl (rdI c fl a i) (c 20 1)
def rdB (c : Nat → Nat → Nat) (fl a : Nat) : Nat → Nat
  | 0 => 0
  | i + 1 => rdI c fl a i
theorem rsE_bit {c : Nat → Nat → Nat} {fl u v : Nat} (hu : u < c 20 1) : (rsE c fl u).testBit v = true ↔ eC c fl u v := by
  unfold rsE eC
  rw [Nat.testBit_or, Bool.or_eq_true]
  by_cases h : fl = 0
  · simp [h, hu]
  · simp [h, hu]
theorem rsI_mono {c : Nat → Nat → Nat} {fl f v : Nat} : ∀ {k m : Nat}, k ≤ m → (rsI c fl f k).testBit v = true → (rsI c fl f m).testBit v = true := by
  intro k m h
  induction h with
  | refl => exact id
  | @step m _ ih =>
    intro h1
    have h2 := ih h1
    rw [rsI]
    split
    · rw [Nat.testBit_or, h2]; rfl
    · exact h2
theorem rsI_sound {c : Nat → Nat → Nat} {fl f a : Nat} (h : ∀ v, f.testBit v = true → Rch (eC c fl) a v) : ∀ k, k ≤ c 20 1 → ∀ v, (rsI c fl f k).testBit v = true → Rch (eC c fl) a v
  | 0, _, v, hv => h v hv
  | k + 1, hk, v, hv => by
    have ih := rsI_sound h k (by omega)
    rw [rsI] at hv
    split at hv
    · rename_i hc
      rw [Nat.testBit_or, Bool.or_eq_true] at hv
      rcases hv with hv | hv
      · exact ih v hv
      · exact Rch_s (ih k hc) ((rsE_bit (by omega)).mp hv)
    · exact ih v hv
theorem rsI_lt {c : Nat → Nat → Nat} {fl f N : Nat} (h7 : ∀ u, c 7 u < 2 ^ N) (h8 : ∀ u, c 8 u < 2 ^ N) (hf : f < 2 ^ N) : ∀ k, rsI c fl f k < 2 ^ N
  | 0 => hf
  | k + 1 => by
    have ih := rsI_lt (fl := fl) h7 h8 hf k
    rw [rsI]
    split
    · refine Nat.or_lt_two_pow ih (Nat.or_lt_two_pow (h7 k) ?_)
      split
      · exact Nat.two_pow_pos N
      · exact h8 k
    · exact ih
theorem rdI_lt {c : Nat → Nat → Nat} {fl a N : Nat} (h7 : ∀ u, c 7 u < 2 ^ N) (h8 : ∀ u, c 8 u < 2 ^ N) (ha : a < N) : ∀ i, rdI c fl a i < 2 ^ N
  | 0 => Nat.pow_lt_pow_right (by decide) ha
  | i + 1 => rsI_lt h7 h8 (rdI_lt h7 h8 ha i) _
theorem rdI_sound {c : Nat → Nat → Nat} {fl a : Nat} : ∀ i v, (rdI c fl a i).testBit v = true → Rch (eC c fl) a v
  | 0, v, h => by
    have e : a = v := by simpa [rdI, Nat.testBit_two_pow] using h
    rw [← e]; exact Rch_r a
  | i + 1, v, h => rsI_sound (fun w hw => rdI_sound i w hw) _ (Nat.le_refl _) v h
theorem rdI_closed {c : Nat → Nat → Nat} {fl a i : Nat} (h : rdI c fl a (i + 1) = rdI c fl a i) {u v : Nat} (hu : (rdI c fl a i).testBit u = true) (he : eC c fl u v) : (rdI c fl a i).testBit v = true := by
  rw [← h]
  show (rsI c fl (rdI c fl a i) (c 20 1)).testBit v = true
  have h1 : (rsI c fl (rdI c fl a i) u).testBit u = true := rsI_mono (k := 0) (Nat.zero_le u) hu
  refine rsI_mono (k := u + 1) he.1 ?_
  rw [rsI, if_pos h1, Nat.testBit_or, (rsE_bit he.1).mpr he, Bool.or_true]
theorem rdI_const {c : Nat → Nat → Nat} {fl a i : Nat} (h : rdI c fl a (i + 1) = rdI c fl a i) : ∀ k, rdI c fl a (i + k) = rdI c fl a i
  | 0 => rfl
  | k + 1 => by
    have ih := rdI_const h k
    show rsI c fl (rdI c fl a (i + k)) (c 20 1) = _
    rw [ih]
    exact h
/-- what the class's rounds find -/
theorem reach_fin {c : Nat → Nat → Nat} {fl a b i : Nat} (h7 : ∀ u, c 7 u < 2 ^ c 20 1) (h8 : ∀ u, c 8 u < 2 ^ c 20 1) (ha : a < c 20 1) (hi : c 20 1 < i ∨ rdI c fl a i = rdB c fl a i) : (rdI c fl a i).testBit b = true ↔ Rch (eC c fl) a b := by
  have hcl : ∃ j, rdI c fl a (j + 1) = rdI c fl a j ∧ rdI c fl a i = rdI c fl a j := by
    rcases hi with hi | hi
    · obtain ⟨t, ht, hs⟩ := grow_still (S := fun t v => (rdI c fl a t).testBit v = true) ha (by simp [rdI]) (fun t v hv => rsI_mono (k := 0) (Nat.zero_le _) hv)
        (fun t v hv => by
          apply Classical.byContradiction
          intro hn
          have h1 := rdI_lt (fl := fl) h7 h8 ha t
          have h2 := Nat.testBit_lt_two_pow (Nat.lt_of_lt_of_le h1 (Nat.pow_le_pow_right (by decide) (Nat.not_lt.mp hn)))
          rw [h2] at hv
          cases hv)
      have e : rdI c fl a (t + 1) = rdI c fl a t := by
        apply Nat.eq_of_testBit_eq
        intro v
        cases h1 : (rdI c fl a t).testBit v
        · cases h2 : (rdI c fl a (t + 1)).testBit v
          · rfl
          · rw [hs v h2] at h1; cases h1
        · exact rsI_mono (k := 0) (Nat.zero_le _) h1
      refine ⟨t, e, ?_⟩
      have := rdI_const e (i - t)
      rwa [show t + (i - t) = i by omega] at this
    · cases i with
      | zero =>
        have : (2 : Nat) ^ a = 0 := hi
        exact absurd this (Nat.ne_of_gt (Nat.two_pow_pos a))
      | succ j => exact ⟨j, hi, hi⟩
  obtain ⟨j, h1, h2⟩ := hcl
  constructor
  · exact rdI_sound i b
  · intro h
    rw [h2]
    refine h (fun v => (rdI c fl a j).testBit v = true) ?_ (fun u v hu he => rdI_closed h1 hu he)
    have : ∀ k, (rdI c fl a k).testBit a = true := by
      intro k
      induction k with
      | zero => simp [rdI]
      | succ k ih => exact rsI_mono (k := 0) (Nat.zero_le _) ih
    exact this j
end
section
/-! THE CLASS'S STATE: bounds that always hold, and the steps of a tick -/
def UB (c : Nat → Nat → Nat) (u : Nat) : Prop := c 1 u ≤ 100 ∧ c 2 u ≤ 3 ∧ 1 ≤ c 3 u ∧ c 3 u ≤ 100 ∧ c 4 u ≤ 10 ∧ c 5 u ≤ 1 ∧ c 9 u ≤ 4 ∧ c 10 u ≤ 100 ∧ (c 9 u = 1 → c 10 u ≤ 99) ∧ c 11 u ≤ 3 ∧ c 12 u ≤ 100
def WB (c : Nat → Nat → Nat) : Prop := ∀ j, j < c 30 0 → c 31 j < c 20 1 ∧ c 32 j < c 20 1 ∧ 1 ≤ c 33 j ∧ c 33 j ≤ 100
def IC (c : Nat → Nat → Nat) : Prop := BC c ∧ c 20 1 ≤ 20 ∧ (∀ u, c 6 u ≤ c 20 1) ∧ (∀ u, c 7 u < 2 ^ c 20 1) ∧ (∀ u, c 8 u < 2 ^ c 20 1) ∧ (∀ u, UB c u) ∧ (c 20 3 ≤ 1 ∧ c 20 4 ≤ 20 ∧ c 20 5 ≤ 2000 ∧ c 20 6 ≤ 1000) ∧ WB c ∧ (c 30 0 ≤ c 36 0 ∧ c 36 0 ≤ 2 * c 30 0 + 10)
theorem IC_B {c : Nat → Nat → Nat} (h : IC c) : BC c := h.1
theorem IC_n {c : Nat → Nat → Nat} (h : IC c) : c 20 1 ≤ 20 := h.2.1
theorem IC_s {c : Nat → Nat → Nat} (h : IC c) : ∀ u, c 6 u ≤ 20 := fun u => Nat.le_trans (h.2.2.1 u) h.2.1
theorem IC_7 {c : Nat → Nat → Nat} (h : IC c) : ∀ u, c 7 u < 2 ^ c 20 1 := h.2.2.2.1
theorem IC_8 {c : Nat → Nat → Nat} (h : IC c) : ∀ u, c 8 u < 2 ^ c 20 1 := h.2.2.2.2.1
theorem p20 {x n : Nat} (h : x < 2 ^ n) (hn : n ≤ 20) : x < 2 ^ 20 := Nat.lt_of_lt_of_le h (Nat.pow_le_pow_right (by decide) hn)
theorem IC_U {c : Nat → Nat → Nat} (h : IC c) : ∀ u, UB c u := h.2.2.2.2.2.1
theorem IC_o {c : Nat → Nat → Nat} (h : IC c) : c 20 3 ≤ 1 ∧ c 20 4 ≤ 20 ∧ c 20 5 ≤ 2000 ∧ c 20 6 ≤ 1000 := h.2.2.2.2.2.2.1
theorem IC_W {c : Nat → Nat → Nat} (h : IC c) : WB c := h.2.2.2.2.2.2.2.1
theorem IC_L {c : Nat → Nat → Nat} (h : IC c) : c 30 0 ≤ c 36 0 ∧ c 36 0 ≤ 2 * c 30 0 + 10 := h.2.2.2.2.2.2.2.2
/-- columns of a unit that a start writes -/
def uc (a : Nat) : Prop := 1 ≤ a ∧ a ≤ 12 ∧ a ≠ 6 ∧ a ≠ 7 ∧ a ≠ 8
theorem IC_unit {c c' : Nat → Nat → Nat} {u : Nat} (h : IC c) (hk : ∀ a i, ¬ (uc a ∧ i = u) → c' a i = c a i) (hU : UB c' u) : IC c' := by
  have k0 : ∀ a i, (a = 6 ∨ a = 7 ∨ a = 8 ∨ 12 < a) → c' a i = c a i := fun a i ha => hk a i (fun z => by obtain ⟨⟨_, _, _, _, _⟩, _⟩ := z; omega)
  obtain ⟨h1, h2, h3, h4, h5, h6, h7, h8, h9⟩ := h
  refine ⟨?_, by rw [k0 20 1 (by omega)]; exact h2, fun w => by rw [k0 6 w (by omega), k0 20 1 (by omega)]; exact h3 w, fun w => by rw [k0 7 w (by omega), k0 20 1 (by omega)]; exact h4 w, fun w => by rw [k0 8 w (by omega), k0 20 1 (by omega)]; exact h5 w, ?_, by rw [k0 20 3 (by omega), k0 20 4 (by omega), k0 20 5 (by omega), k0 20 6 (by omega)]; exact h7, ?_, by rw [k0 30 0 (by omega), k0 36 0 (by omega)]; exact h9⟩
  · intro a i ha
    by_cases hz : uc a ∧ i = u
    · obtain ⟨⟨z1, z2, z3, z4, z5⟩, z6⟩ := hz
      subst z6
      obtain ⟨u1, u2, u3, u4, u5, u6, u7, u8, u9, u10, u11⟩ := hU
      have : a = 1 ∨ a = 2 ∨ a = 3 ∨ a = 4 ∨ a = 5 ∨ a = 9 ∨ a = 10 ∨ a = 11 ∨ a = 12 := by omega
      rcases this with e | e | e | e | e | e | e | e | e <;> subst e <;> omega
    · rw [hk a i hz]; exact h1 a i ha
  · intro w
    by_cases hw : w = u
    · subst hw; exact hU
    · have k1 : ∀ a, c' a w = c a w := fun a => hk a w (fun z => hw z.2)
      unfold UB
      simp only [k1]
      exact h6 w
  · intro j hj
    rw [k0 30 0 (by omega)] at hj
    rw [k0 31 j (by omega), k0 32 j (by omega), k0 33 j (by omega), k0 20 1 (by omega)]
    exact h8 j hj
def c_end1 (c : Nat → Nat → Nat) (u : Nat) : Nat → Nat → Nat :=
  if c 9 u = 1 then (if c 10 u + 1 < c 1 u then up2 c 10 u (c 10 u + 1) else c_come (up2 c 10 u (c 10 u + 1)) u) else c
def c_endI (c : Nat → Nat → Nat) : Nat → Nat → Nat → Nat
  | 0 => c
  | k + 1 => c_end1 (c_endI c k) k
noncomputable def c_fail1 (c : Nat → Nat → Nat) (u : Nat) : Nat → Nat → Nat :=
  if c 9 u = 0 ∧ c 7 u &&& mk (lostP (c 9) (c 6)) (c 20 1) ≠ 0 then up2 c 9 u 3 else c
noncomputable def c_failI (c : Nat → Nat → Nat) : Nat → Nat → Nat → Nat
  | 0 => c
  | k + 1 => c_fail1 (c_failI c k) k
/-- how many are STARTING -/
noncomputable def c_cnt (c : Nat → Nat → Nat) : Nat := ct (fun w => c 9 w = 1) (c 20 1)
noncomputable def c_st1 (met dn : Nat) (c : Nat → Nat → Nat) (u : Nat) : Nat → Nat → Nat :=
  if c_cnt c < c 20 4 ∧ c 9 u = 0 ∧ anN (c 7 u) met = 0 ∧ anN (c 8 u) dn = 0 then up2 (up2 c 9 u 1) 10 u 0 else c
noncomputable def c_stI (met dn : Nat) (c : Nat → Nat → Nat) : Nat → Nat → Nat → Nat
  | 0 => c
  | k + 1 => c_st1 met dn (c_stI met dn c k) k
noncomputable def c_start (c : Nat → Nat → Nat) : Nat → Nat → Nat := c_stI (mk (metP (c 9) (c 6)) (c 20 1)) (mk (doneP (c 9)) (c 20 1)) c (c 20 1)
def c_bar (c : Nat → Nat → Nat) : Nat → Nat → Nat := up2 c 20 6 (max (c 20 6) (if c 20 3 ≠ 0 ∧ 0 < c 20 5 then 1000 * sm (c_part c) (c 20 1) / c 20 5 else 1000))
noncomputable def c_go (c : Nat → Nat → Nat) : Nat → Nat → Nat := up2 (c_start c) 20 3 (bN (0 < c_cnt (c_start c)))
noncomputable def c_tick1 (c : Nat → Nat → Nat) : Nat → Nat → Nat := c_bar (c_go (c_failI (c_endI c (c 20 1)) (c 20 1)))
theorem up_off {c : Nat → Nat → Nat} {a i v b j : Nat} (h : ¬ (b = a ∧ j = i)) : up2 c a i v b j = c b j := by simp [up2, h]
/-- c' is c but for the start's columns of u -/
def Offu (c c' : Nat → Nat → Nat) (u : Nat) : Prop := ∀ a i, ¬ (uc a ∧ i = u) → c' a i = c a i
theorem Off_up {c c' : Nat → Nat → Nat} {u a v : Nat} (h : Offu c c' u) (ha : uc a) : Offu c (up2 c' a u v) u := fun b j hb => by
  have hz : ¬ (b = a ∧ j = u) := fun z => hb ⟨by rw [z.1]; exact ha, z.2⟩
  rw [up_off hz]
  exact h b j hb
theorem Off_r {c : Nat → Nat → Nat} {u : Nat} : Offu c c u := fun _ _ _ => rfl
theorem Off_come {c c' : Nat → Nat → Nat} {u : Nat} (h : Offu c c' u) : Offu c (c_come c' u) u := by
  unfold c_come
  split
  · exact Off_up (Off_up h ⟨by decide, by decide, by decide, by decide, by decide⟩) ⟨by decide, by decide, by decide, by decide, by decide⟩
  · split
    · exact Off_up (Off_up (Off_up h ⟨by decide, by decide, by decide, by decide, by decide⟩) ⟨by decide, by decide, by decide, by decide, by decide⟩) ⟨by decide, by decide, by decide, by decide, by decide⟩
    · exact Off_up (Off_up h ⟨by decide, by decide, by decide, by decide, by decide⟩) ⟨by decide, by decide, by decide, by decide, by decide⟩
theorem Off_end1 (c : Nat → Nat → Nat) (u : Nat) : Offu c (c_end1 c u) u := by
  unfold c_end1
  split
  · split
    · exact Off_up Off_r ⟨by decide, by decide, by decide, by decide, by decide⟩
    · exact Off_come (Off_up Off_r ⟨by decide, by decide, by decide, by decide, by decide⟩)
  · exact Off_r
theorem Off_fail1 (c : Nat → Nat → Nat) (u : Nat) : Offu c (c_fail1 c u) u := by
  unfold c_fail1
  split
  · exact Off_up Off_r ⟨by decide, by decide, by decide, by decide, by decide⟩
  · exact Off_r
theorem Off_st1 (met dn : Nat) (c : Nat → Nat → Nat) (u : Nat) : Offu c (c_st1 met dn c u) u := by
  unfold c_st1
  split
  · exact Off_up (Off_up Off_r ⟨by decide, by decide, by decide, by decide, by decide⟩) ⟨by decide, by decide, by decide, by decide, by decide⟩
  · exact Off_r
theorem UB_come {c : Nat → Nat → Nat} {u : Nat} (h : UB c u ∨ (c 1 u ≤ 100 ∧ c 2 u ≤ 3 ∧ 1 ≤ c 3 u ∧ c 3 u ≤ 100 ∧ c 4 u ≤ 10 ∧ c 5 u ≤ 1 ∧ c 10 u ≤ 100 ∧ c 11 u ≤ 3 ∧ c 12 u ≤ 100)) : UB (c_come c u) u := by
  have h : c 1 u ≤ 100 ∧ c 2 u ≤ 3 ∧ 1 ≤ c 3 u ∧ c 3 u ≤ 100 ∧ c 4 u ≤ 10 ∧ c 5 u ≤ 1 ∧ c 10 u ≤ 100 ∧ c 11 u ≤ 3 ∧ c 12 u ≤ 100 := by
    rcases h with h | h
    · obtain ⟨u1, u2, u3, u4, u5, u6, u7, u8, u9, u10, u11⟩ := h
      exact ⟨u1, u2, u3, u4, u5, u6, u8, u10, u11⟩
    · exact h
  obtain ⟨u1, u2, u3, u4, u5, u6, u8, u10, u11⟩ := h
  unfold c_come UB
  split
  · simp [up2]; omega
  · split
    · simp [up2]; omega
    · simp [up2]; omega
theorem IC_end1 {c : Nat → Nat → Nat} (h : IC c) (u : Nat) : IC (c_end1 c u) := by
  refine IC_unit h (Off_end1 c u) ?_
  have hu := IC_U h u
  obtain ⟨u1, u2, u3, u4, u5, u6, u7, u8, u9, u10, u11⟩ := id hu
  unfold c_end1
  split
  · rename_i h1
    have h9 := u9 h1
    split
    · unfold UB; simp [up2]; omega
    · refine UB_come (Or.inr ?_)
      simp [up2]; omega
  · exact hu
theorem IC_endI {c : Nat → Nat → Nat} (h : IC c) : ∀ k, IC (c_endI c k)
  | 0 => h
  | k + 1 => IC_end1 (IC_endI h k) k
theorem IC_fail1 {c : Nat → Nat → Nat} (h : IC c) (u : Nat) : IC (c_fail1 c u) := by
  refine IC_unit h (Off_fail1 c u) ?_
  have hu := IC_U h u
  obtain ⟨u1, u2, u3, u4, u5, u6, u7, u8, u9, u10, u11⟩ := id hu
  unfold c_fail1
  split
  · unfold UB; simp [up2]; omega
  · exact hu
theorem IC_failI {c : Nat → Nat → Nat} (h : IC c) : ∀ k, IC (c_failI c k)
  | 0 => h
  | k + 1 => IC_fail1 (IC_failI h k) k
theorem IC_st1 {met dn : Nat} {c : Nat → Nat → Nat} (h : IC c) (u : Nat) : IC (c_st1 met dn c u) := by
  refine IC_unit h (Off_st1 met dn c u) ?_
  have hu := IC_U h u
  obtain ⟨u1, u2, u3, u4, u5, u6, u7, u8, u9, u10, u11⟩ := id hu
  unfold c_st1
  split
  · unfold UB; simp [up2]; omega
  · exact hu
theorem IC_stI {met dn : Nat} {c : Nat → Nat → Nat} (h : IC c) : ∀ k, IC (c_stI met dn c k)
  | 0 => h
  | k + 1 => IC_st1 (IC_stI h k) k
theorem IC_start {c : Nat → Nat → Nat} (h : IC c) : IC (c_start c) := IC_stI h _
theorem Off_n {c c' : Nat → Nat → Nat} {u : Nat} (h : Offu c c' u) (a i : Nat) (ha : a = 6 ∨ a = 7 ∨ a = 8 ∨ 12 < a) : c' a i = c a i := h a i (fun z => by obtain ⟨⟨_, _, _, _, _⟩, _⟩ := z; omega)
theorem endI_n (c : Nat → Nat → Nat) (a i : Nat) (ha : a = 6 ∨ a = 7 ∨ a = 8 ∨ 12 < a) : ∀ k, c_endI c k a i = c a i
  | 0 => rfl
  | k + 1 => (Off_n (Off_end1 _ k) a i ha).trans (endI_n c a i ha k)
theorem failI_n (c : Nat → Nat → Nat) (a i : Nat) (ha : a = 6 ∨ a = 7 ∨ a = 8 ∨ 12 < a) : ∀ k, c_failI c k a i = c a i
  | 0 => rfl
  | k + 1 => (Off_n (Off_fail1 _ k) a i ha).trans (failI_n c a i ha k)
theorem stI_n (met dn : Nat) (c : Nat → Nat → Nat) (a i : Nat) (ha : a = 6 ∨ a = 7 ∨ a = 8 ∨ 12 < a) : ∀ k, c_stI met dn c k a i = c a i
  | 0 => rfl
  | k + 1 => (Off_n (Off_st1 met dn _ k) a i ha).trans (stI_n met dn c a i ha k)
/-- a full bound stays full -/
theorem stI_stay {met dn : Nat} {c : Nat → Nat → Nat} {i : Nat} (h : c 20 4 ≤ c_cnt (c_stI met dn c i)) : ∀ k, c_stI met dn c (i + k) = c_stI met dn c i
  | 0 => rfl
  | k + 1 => by
    have ih := stI_stay h k
    show c_st1 met dn (c_stI met dn c (i + k)) (i + k) = _
    rw [ih]
    unfold c_st1
    rw [if_neg]
    rintro ⟨z, -⟩
    rw [stI_n met dn c 20 4 (by omega)] at z
    omega
theorem cnt_up {c : Nat → Nat → Nat} {u : Nat} (hu : u < c 20 1) (h : c 9 u = 0) : c_cnt (up2 (up2 c 9 u 1) 10 u 0) = c_cnt c + 1 := by
  unfold c_cnt
  have e : up2 (up2 c 9 u 1) 10 u 0 20 1 = c 20 1 := by simp [up2]
  rw [e]
  exact ct_one (u := u) (by omega) (by simp [up2]) hu (fun i _ hi => by simp [up2, hi])
theorem IC_obj {c : Nat → Nat → Nat} {k v : Nat} (h : IC c) (hk : k = 3 ∧ v ≤ 1 ∨ k = 4 ∧ v ≤ 20 ∨ k = 5 ∧ v ≤ 2000 ∨ k = 6 ∧ v ≤ 1000) : IC (up2 c 20 k v) := by
  obtain ⟨h1, h2, h3, h4, h5, h6, h7, h8, h9⟩ := h
  have k1 : up2 c 20 k v 20 1 = c 20 1 := up2_i (by omega)
  refine ⟨?_, by rw [k1]; exact h2, fun w => by rw [k1]; exact h3 w, fun w => by rw [k1]; exact h4 w, fun w => by rw [k1]; exact h5 w, h6, ?_, fun j hj => by rw [k1]; exact h8 j hj, h9⟩
  · intro a i ha
    by_cases hz : a = 20 ∧ i = k
    · rw [hz.1, hz.2, up2_s]; omega
    · rw [up_off hz]; exact h1 a i ha
  · rcases hk with ⟨e, hv⟩ | ⟨e, hv⟩ | ⟨e, hv⟩ | ⟨e, hv⟩ <;> subst e <;> simp [up2] <;> omega
end
section
/-! WHAT CAN RUN, AND WHAT IS AWAITED, as the class finds them -/
noncomputable def keepS (c : Nat → Nat → Nat) (f : Nat) : Nat := mk (fun u => f.testBit u = true ∧ anN (c 7 u) (f ||| mk (fun w => c 6 w ≠ 0 ∧ f.testBit (c 6 w - 1) = true) (c 20 1)) = 0) (c 20 1)
noncomputable def kpI (c : Nat → Nat → Nat) : Nat → Nat
  | 0 => mk (fun w => c 5 w = 0 ∧ c 4 w ≤ c 2 w) (c 20 1)
  | i + 1 => keepS c (kpI c i)
noncomputable def kpB (c : Nat → Nat → Nat) : Nat → Nat
  | 0 => 0
  | i + 1 => kpI c i
noncomputable def canC (c : Nat → Nat → Nat) : Nat := kpI c (c 20 1 + 1)
theorem kpI_lt {c : Nat → Nat → Nat} (hn : c 20 1 ≤ 20) : ∀ i, kpI c i < 2 ^ 20
  | 0 => p20 (mk_lt _) hn
  | _ + 1 => p20 (mk_lt _) hn
theorem kpB_lt {c : Nat → Nat → Nat} (hn : c 20 1 ≤ 20) : ∀ i, kpB c i < 2 ^ 20
  | 0 => (by decide : (0 : Nat) < 2 ^ 20)
  | i + 1 => kpI_lt hn i
theorem keepS_0 (c : Nat → Nat → Nat) : keepS c 0 = 0 := by
  apply Nat.eq_of_testBit_eq
  intro i
  rw [Nat.zero_testBit]
  cases h : (keepS c 0).testBit i
  · rfl
  · have h1 := (mk_bit.mp h).2.1
    rw [Nat.zero_testBit] at h1
    cases h1
theorem keepS_sub {c : Nat → Nat → Nat} {f v : Nat} (h : (keepS c f).testBit v = true) : f.testBit v = true := (mk_bit.mp h).2.1
theorem kpI_const {c : Nat → Nat → Nat} {i : Nat} (h : keepS c (kpI c i) = kpI c i) : ∀ k, kpI c (i + k) = kpI c i
  | 0 => rfl
  | k + 1 => by
    show keepS c (kpI c (i + k)) = _
    rw [kpI_const h k]
    exact h
theorem canC_still (c : Nat → Nat → Nat) : keepS c (canC c) = canC c := by
  have h1 := grow_still (S := fun t v => v < c 20 1 + 1 ∧ (v = c 20 1 ∨ ¬ (kpI c t).testBit v = true)) (n := c 20 1 + 1) (a := c 20 1) (by omega) ⟨by omega, Or.inl rfl⟩
    (fun t v h => ⟨h.1, h.2.elim Or.inl (fun z => Or.inr (fun z2 => z (keepS_sub z2)))⟩) (fun t v h => h.1)
  obtain ⟨t, ht, hs⟩ := h1
  have e : keepS c (kpI c t) = kpI c t := by
    apply Nat.eq_of_testBit_eq
    intro v
    cases h2 : (kpI c t).testBit v
    · cases h3 : (keepS c (kpI c t)).testBit v
      · rfl
      · rw [keepS_sub h3] at h2; cases h2
    · have hv : v < c 20 1 := by
        cases t with
        | zero => exact (mk_bit.mp h2).1
        | succ t => exact (mk_bit.mp h2).1
      cases h3 : (keepS c (kpI c t)).testBit v
      · have h4 := hs v ⟨by omega, Or.inr (fun z => by rw [show kpI c (t + 1) = keepS c (kpI c t) from rfl, h3] at z; cases z)⟩
        rcases h4.2 with z | z
        · omega
        · exact absurd h2 z
      · rfl
  have h5 := kpI_const e (c 20 1 + 1 - t)
  rw [show t + (c 20 1 + 1 - t) = c 20 1 + 1 by omega] at h5
  show keepS c (kpI c (c 20 1 + 1)) = kpI c (c 20 1 + 1)
  rw [h5]
  exact e
theorem canC_fin {c : Nat → Nat → Nat} {i : Nat} (h : c 20 1 < i ∨ kpI c i = kpB c i) : kpI c i = canC c := by
  rcases h with h | h
  · have e := kpI_const (c := c) (i := c 20 1 + 1) (canC_still c) (i - (c 20 1 + 1))
    rw [show c 20 1 + 1 + (i - (c 20 1 + 1)) = i by omega] at e
    exact e
  · have e : keepS c (kpI c i) = kpI c i := by
      cases i with
      | zero => rw [h]; exact keepS_0 c
      | succ j =>
        have h2 : keepS c (kpI c j) = kpI c j := h
        show keepS c (keepS c (kpI c j)) = keepS c (kpI c j)
        rw [h2, h2]
    rcases Nat.le_total i (c 20 1 + 1) with hl | hl
    · have e2 := kpI_const e (c 20 1 + 1 - i)
      rw [show i + (c 20 1 + 1 - i) = c 20 1 + 1 by omega] at e2
      exact e2.symm
    · have e2 := kpI_const (c := c) (i := c 20 1 + 1) (canC_still c) (i - (c 20 1 + 1))
      rw [show c 20 1 + 1 + (i - (c 20 1 + 1)) = i by omega] at e2
      exact e2
/-- u waits for v -/
def awC (c : Nat → Nat → Nat) (u v : Nat) : Prop := ((c 7 u).testBit v = true ∧ ¬ metP (c 9) (c 6) v ∧ ¬ lostP (c 9) (c 6) v) ∨ ((c 8 u).testBit v = true ∧ ¬ doneP (c 9) v)
end
section
set_option maxHeartbeats 4000000 in
set_option maxRecDepth 100000 in
theorem k_X0_bit (l : Launch) (D : va_G) (G : Nat → Nat) (h0 : Nat) (c r : Nat → Nat → Nat) (o : Nat) (u : Nat) (hu : u < 20) : Met l yX0_bit wsX0_bit ({ frames := 0, cells := 0, slots := 0, locals := 0 } : Room) (va_Pc [.ref (G (20 + u))] (fun U => Pr D G h0 c r o U)) (va_Qi (fun (v9 : Int32) (_ : Unit) => v9 = nI (2 ^ u)) (fun _ t => Wr D G h0 c r o t) (fun q => h0 ≤ q)) 0 0 (fun q => h0 ≤ q) := by
  refine Met.ofW (cc := cX0_bit) (maxL := 1) (ret := (some .int)) (by decide) rfl ?_
  intro p e s m args below meth cd s₁ B hml hv
  obtain ⟨rfl, hE, wl, hRc, hRr, hRo, hP, hD⟩ := hv
  have hx := B.exec
  have hb := B.bytes
  have hr := B.returns
  have hts := atoms_spec (ws := wsX0_bit) B.pre
  have hown : s.vm.findClass RX0 = some m.cls := findClass_of_methodNamed B.named
  have hlocks := B.notSynchronized
  have hK := hE.2.1
  have hS : va_S (fun q => h0 ≤ q) s.heap s.heap [] := va_S.rf
  have hl := lv_entry ([.ref (G (20 + u))]) (n := 1) (Nat.le_of_ble_eq_true rfl)
  rw [lg_entry_eq]
  generalize (lg_sl ([.ref (G (20 + u))]) ++ List.replicate (1 - (lg_sl ([.ref (G (20 + u))])).length) Slot.unset).toArray = ls at hl ⊢
  have hl : lv_has ls 1 [(0, .ref (G (20 + u)))] := hl
  have inX0 : ∀ w ∈ wsX00, w ∈ wsX0_bit := by decide +kernel
  refine lv_iconst (v := nI 1) hx hb dX0_bit_0 (by decide) ?_
  refine lv_aload_n hx hb dX0_bit_1 rfl (lv_at hl 0 rfl) ?_
  refine va_get (D := D) (ci := 1) (v := .int (nI u)) (C := RX0) (T := TX0) (N := 13) hx hb hts inX0 hown hK hP (20 + u) (Q_u hRc (by first | omega | decide | assumption)) rfl 0 (by decide) (hts (.fieldLink RX0 50 "BootStage$Unit" "number" "I") (by decide +kernel)) (fun _ h9 => h9) rfl dX0_bit_2 ?_
  refine n_bit hx hb dX0_bit_5 (by omega) ?_
  exact W.iret (v := nI (2 ^ u)) hx hb hr (fun t ht hW => ⟨⟨_, (), rfl, (show nI (2 ^ u) = nI (2 ^ u) from by first | rfl | (apply congrArg nI; omega) | exact congrArg nI (bN_t (by omega)).symm | exact congrArg nI (bN_f (by omega)).symm), Wr_mk hRc hRr hRo hP hD ht⟩, hS.F ht⟩) hS.2.2 dX0_bit_6
set_option maxHeartbeats 4000000 in
set_option maxRecDepth 100000 in
theorem k_X0_resetForStart (l : Launch) (D : va_G) (G : Nat → Nat) (h0 : Nat) (c r : Nat → Nat → Nat) (o : Nat) (u : Nat) (hu : u < 20) (hB : BC c) : Met l yX0_resetForStart wsX0_resetForStart ({ frames := 0, cells := 0, slots := 0, locals := 0 } : Room) (va_Pc [.ref (G (20 + u))] (fun U => Pr D G h0 c r o U)) (va_Qi (fun (v9 : Int32) (_ : Unit) => v9 = nI (if c 5 u = 0 then c 3 u else 0)) (fun _ t => Wr D G h0 (c_reset c u) r o t) (fun q => h0 ≤ q)) 0 0 (fun q => h0 ≤ q) := by
  refine Met.ofW (cc := cX0_resetForStart) (maxL := 1) (ret := (some .int)) (by decide) rfl ?_
  intro p e s m args below meth cd s₁ B hml hv
  obtain ⟨rfl, hE, wl, hRc, hRr, hRo, hP, hD⟩ := hv
  have hx := B.exec
  have hb := B.bytes
  have hr := B.returns
  have hts := atoms_spec (ws := wsX0_resetForStart) B.pre
  have hown : s.vm.findClass RX0 = some m.cls := findClass_of_methodNamed B.named
  have hlocks := B.notSynchronized
  have hK := hE.2.1
  have hS : va_S (fun q => h0 ≤ q) s.heap s.heap [] := va_S.rf
  have hl := lv_entry ([.ref (G (20 + u))]) (n := 1) (Nat.le_of_ble_eq_true rfl)
  rw [lg_entry_eq]
  generalize (lg_sl ([.ref (G (20 + u))]) ++ List.replicate (1 - (lg_sl ([.ref (G (20 + u))])).length) Slot.unset).toArray = ls at hl ⊢
  have hl : lv_has ls 1 [(0, .ref (G (20 + u)))] := hl
  have inX0 : ∀ w ∈ wsX00, w ∈ wsX0_resetForStart := by decide +kernel
  refine lv_aload_n hx hb dX0_resetForStart_0 rfl (lv_at hl 0 rfl) ?_
  refine lv_aload_n hx hb dX0_resetForStart_1 rfl (lv_at hl 0 rfl) ?_
  refine va_get (D := D) (ci := 1) (v := .int (nI (c 5 u))) (C := RX0) (T := TX0) (N := 13) hx hb hts inX0 hown hK hP (20 + u) (Q_u hRc (by first | omega | decide | assumption)) rfl 5 (by decide) (hts (.fieldLink RX0 24 "BootStage$Unit" "isHeld" "Z") (by decide +kernel)) (fun _ h9 => h9) rfl dX0_resetForStart_2 ?_
  refine n_if_eq (tgt := 12) hx hb dX0_resetForStart_5 (by decide) (hB _ _ (by decide)) (fun c_5 => ?_) (fun c_5 => ?_)
  · refine lv_iconst (v := nI 0) hx hb dX0_resetForStart_12 (by decide) ?_
    refine x_put (D := D) (G := G) (ci := 1) (ty := .int) (C := RX0) (T := TX0) (N := 13) (Z := fun wl => Rc G (up2 c 9 u 0) wl ∧ Rr G r wl ∧ Ro G o wl) hx hb hts inX0 tyX0 tyX0_ok nmX0 hown hK hP hD hS (20 + u) (Q_u hRc (by first | omega | decide | assumption)) rfl 9 (by decide) (hts (.fieldLink RX0 38 "BootStage$Unit" "state" "I") (by decide +kernel)) (fun _ h9 => h9) rfl (by decide +kernel) rfl rfl (Nat.le_of_ble_eq_true rfl) dX0_resetForStart_13 ⟨P_u9 0 (by first | omega | decide | assumption) hRc, Rr_fr hRr (by omega), Ro_fr hRo (by omega)⟩ (fun H locs wl hZ hP hD hS => ?_)
    obtain ⟨hRc, hRr, hRo⟩ := hZ
    refine lv_aload_n hx hb dX0_resetForStart_16 rfl (lv_at hl 0 rfl) ?_
    refine lv_iconst (v := nI 0) hx hb dX0_resetForStart_17 (by decide) ?_
    refine x_put (D := D) (G := G) (ci := 1) (ty := .int) (C := RX0) (T := TX0) (N := 13) (Z := fun wl => Rc G (up2 (up2 c 9 u 0) 11 u 0) wl ∧ Rr G r wl ∧ Ro G o wl) hx hb hts inX0 tyX0 tyX0_ok nmX0 hown hK hP hD hS (20 + u) (Q_u hRc (by first | omega | decide | assumption)) rfl 11 (by decide) (hts (.fieldLink RX0 44 "BootStage$Unit" "retriesUsed" "I") (by decide +kernel)) (fun _ h9 => h9) rfl (by decide +kernel) rfl rfl (Nat.le_of_ble_eq_true rfl) dX0_resetForStart_18 ⟨P_u11 0 (by first | omega | decide | assumption) hRc, Rr_fr hRr (by omega), Ro_fr hRo (by omega)⟩ (fun H locs wl hZ hP hD hS => ?_)
    obtain ⟨hRc, hRr, hRo⟩ := hZ
    refine lv_aload_n hx hb dX0_resetForStart_21 rfl (lv_at hl 0 rfl) ?_
    refine lv_aload_n hx hb dX0_resetForStart_22 rfl (lv_at hl 0 rfl) ?_
    refine va_get (D := D) (ci := 1) (v := .int (nI (c 3 u))) (C := RX0) (T := TX0) (N := 13) hx hb hts inX0 hown hK hP (20 + u) (Q_u hRc (by first | omega | decide | assumption)) rfl 3 (by decide) (hts (.fieldLink RX0 18 "BootStage$Unit" "learned" "I") (by decide +kernel)) (fun _ h9 => h9) (congrArg (fun z => some (Value.int (nI z))) (show (up2 (up2 c 9 u 0) 11 u 0) 3 u = c 3 u from by simp [up2])) dX0_resetForStart_23 ?_
    refine x_put (D := D) (G := G) (ci := 1) (ty := .int) (C := RX0) (T := TX0) (N := 13) (Z := fun wl => Rc G (up2 (up2 (up2 c 9 u 0) 11 u 0) 12 u (c 3 u)) wl ∧ Rr G r wl ∧ Ro G o wl) hx hb hts inX0 tyX0 tyX0_ok nmX0 hown hK hP hD hS (20 + u) (Q_u hRc (by first | omega | decide | assumption)) rfl 12 (by decide) (hts (.fieldLink RX0 47 "BootStage$Unit" "learnedAtBegin" "I") (by decide +kernel)) (fun _ h9 => h9) rfl (by decide +kernel) rfl rfl (Nat.le_of_ble_eq_true rfl) dX0_resetForStart_26 ⟨P_u12 (c 3 u) (by first | omega | decide | assumption) hRc, Rr_fr hRr (by omega), Ro_fr hRo (by omega)⟩ (fun H locs wl hZ hP hD hS => ?_)
    obtain ⟨hRc, hRr, hRo⟩ := hZ
    refine lv_aload_n hx hb dX0_resetForStart_29 rfl (lv_at hl 0 rfl) ?_
    refine va_get (D := D) (ci := 1) (v := .int (nI (c 5 u))) (C := RX0) (T := TX0) (N := 13) hx hb hts inX0 hown hK hP (20 + u) (Q_u hRc (by first | omega | decide | assumption)) rfl 5 (by decide) (hts (.fieldLink RX0 24 "BootStage$Unit" "isHeld" "Z") (by decide +kernel)) (fun _ h9 => h9) (congrArg (fun z => some (Value.int (nI z))) (show (up2 (up2 (up2 c 9 u 0) 11 u 0) 12 u (c 3 u)) 5 u = c 5 u from by simp [up2])) dX0_resetForStart_30 ?_
    refine n_if_eq (tgt := 40) hx hb dX0_resetForStart_33 (by decide) (hB _ _ (by decide)) (fun c_33 => ?_) (fun c_33 => ?_)
    · refine lv_aload_n hx hb dX0_resetForStart_40 rfl (lv_at hl 0 rfl) ?_
      refine va_get (D := D) (ci := 1) (v := .int (nI (c 3 u))) (C := RX0) (T := TX0) (N := 13) hx hb hts inX0 hown hK hP (20 + u) (Q_u hRc (by first | omega | decide | assumption)) rfl 3 (by decide) (hts (.fieldLink RX0 18 "BootStage$Unit" "learned" "I") (by decide +kernel)) (fun _ h9 => h9) (congrArg (fun z => some (Value.int (nI z))) (show (up2 (up2 (up2 c 9 u 0) 11 u 0) 12 u (c 3 u)) 3 u = c 3 u from by simp [up2])) dX0_resetForStart_41 ?_
      exact W.iret (v := nI (c 3 u)) hx hb hr (fun t ht hW => ⟨⟨_, (), rfl, (show nI (c 3 u) = nI (if c 5 u = 0 then c 3 u else 0) from by first | rw [if_pos (by assumption)] | rw [if_neg (by omega)]), Wr_mk (show Rc G (c_reset c u) wl from by rw [show (c_reset c u) = up2 (up2 (up2 c 9 u 0) 11 u 0) 12 u (c 3 u) from by unfold c_reset; rw [if_pos (by assumption)]]; exact hRc) hRr hRo hP hD ht⟩, hS.F ht⟩) hS.2.2 dX0_resetForStart_44
    · exfalso; omega
  · refine lv_iconst (v := nI 4) hx hb dX0_resetForStart_8 (by decide) ?_
    refine lv_goto (tgt := 13) hx hb dX0_resetForStart_9 (by decide) ?_
    refine x_put (D := D) (G := G) (ci := 1) (ty := .int) (C := RX0) (T := TX0) (N := 13) (Z := fun wl => Rc G (up2 c 9 u 4) wl ∧ Rr G r wl ∧ Ro G o wl) hx hb hts inX0 tyX0 tyX0_ok nmX0 hown hK hP hD hS (20 + u) (Q_u hRc (by first | omega | decide | assumption)) rfl 9 (by decide) (hts (.fieldLink RX0 38 "BootStage$Unit" "state" "I") (by decide +kernel)) (fun _ h9 => h9) rfl (by decide +kernel) rfl rfl (Nat.le_of_ble_eq_true rfl) dX0_resetForStart_13 ⟨P_u9 4 (by first | omega | decide | assumption) hRc, Rr_fr hRr (by omega), Ro_fr hRo (by omega)⟩ (fun H locs wl hZ hP hD hS => ?_)
    obtain ⟨hRc, hRr, hRo⟩ := hZ
    refine lv_aload_n hx hb dX0_resetForStart_16 rfl (lv_at hl 0 rfl) ?_
    refine lv_iconst (v := nI 0) hx hb dX0_resetForStart_17 (by decide) ?_
    refine x_put (D := D) (G := G) (ci := 1) (ty := .int) (C := RX0) (T := TX0) (N := 13) (Z := fun wl => Rc G (up2 (up2 c 9 u 4) 11 u 0) wl ∧ Rr G r wl ∧ Ro G o wl) hx hb hts inX0 tyX0 tyX0_ok nmX0 hown hK hP hD hS (20 + u) (Q_u hRc (by first | omega | decide | assumption)) rfl 11 (by decide) (hts (.fieldLink RX0 44 "BootStage$Unit" "retriesUsed" "I") (by decide +kernel)) (fun _ h9 => h9) rfl (by decide +kernel) rfl rfl (Nat.le_of_ble_eq_true rfl) dX0_resetForStart_18 ⟨P_u11 0 (by first | omega | decide | assumption) hRc, Rr_fr hRr (by omega), Ro_fr hRo (by omega)⟩ (fun H locs wl hZ hP hD hS => ?_)
    obtain ⟨hRc, hRr, hRo⟩ := hZ
    refine lv_aload_n hx hb dX0_resetForStart_21 rfl (lv_at hl 0 rfl) ?_
    refine lv_aload_n hx hb dX0_resetForStart_22 rfl (lv_at hl 0 rfl) ?_
    refine va_get (D := D) (ci := 1) (v := .int (nI (c 3 u))) (C := RX0) (T := TX0) (N := 13) hx hb hts inX0 hown hK hP (20 + u) (Q_u hRc (by first | omega | decide | assumption)) rfl 3 (by decide) (hts (.fieldLink RX0 18 "BootStage$Unit" "learned" "I") (by decide +kernel)) (fun _ h9 => h9) (congrArg (fun z => some (Value.int (nI z))) (show (up2 (up2 c 9 u 4) 11 u 0) 3 u = c 3 u from by simp [up2])) dX0_resetForStart_23 ?_
    refine x_put (D := D) (G := G) (ci := 1) (ty := .int) (C := RX0) (T := TX0) (N := 13) (Z := fun wl => Rc G (up2 (up2 (up2 c 9 u 4) 11 u 0) 12 u (c 3 u)) wl ∧ Rr G r wl ∧ Ro G o wl) hx hb hts inX0 tyX0 tyX0_ok nmX0 hown hK hP hD hS (20 + u) (Q_u hRc (by first | omega | decide | assumption)) rfl 12 (by decide) (hts (.fieldLink RX0 47 "BootStage$Unit" "learnedAtBegin" "I") (by decide +kernel)) (fun _ h9 => h9) rfl (by decide +kernel) rfl rfl (Nat.le_of_ble_eq_true rfl) dX0_resetForStart_26 ⟨P_u12 (c 3 u) (by first | omega | decide | assumption) hRc, Rr_fr hRr (by omega), Ro_fr hRo (by omega)⟩ (fun H locs wl hZ hP hD hS => ?_)
    obtain ⟨hRc, hRr, hRo⟩ := hZ
    refine lv_aload_n hx hb dX0_resetForStart_29 rfl (lv_at hl 0 rfl) ?_
    refine va_get (D := D) (ci := 1) (v := .int (nI (c 5 u))) (C := RX0) (T := TX0) (N := 13) hx hb hts inX0 hown hK hP (20 + u) (Q_u hRc (by first | omega | decide | assumption)) rfl 5 (by decide) (hts (.fieldLink RX0 24 "BootStage$Unit" "isHeld" "Z") (by decide +kernel)) (fun _ h9 => h9) (congrArg (fun z => some (Value.int (nI z))) (show (up2 (up2 (up2 c 9 u 4) 11 u 0) 12 u (c 3 u)) 5 u = c 5 u from by simp [up2])) dX0_resetForStart_30 ?_
    refine n_if_eq (tgt := 40) hx hb dX0_resetForStart_33 (by decide) (hB _ _ (by decide)) (fun c_33 => ?_) (fun c_33 => ?_)
    · exfalso; omega
    · refine lv_iconst (v := nI 0) hx hb dX0_resetForStart_36 (by decide) ?_
      refine lv_goto (tgt := 44) hx hb dX0_resetForStart_37 (by decide) ?_
      exact W.iret (v := nI 0) hx hb hr (fun t ht hW => ⟨⟨_, (), rfl, (show nI 0 = nI (if c 5 u = 0 then c 3 u else 0) from by first | rw [if_pos (by assumption)] | rw [if_neg (by omega)]), Wr_mk (show Rc G (c_reset c u) wl from by rw [show (c_reset c u) = up2 (up2 (up2 c 9 u 4) 11 u 0) 12 u (c 3 u) from by unfold c_reset; rw [if_neg (by omega)]]; exact hRc) hRr hRo hP hD ht⟩, hS.F ht⟩) hS.2.2 dX0_resetForStart_44
set_option maxHeartbeats 4000000 in
set_option maxRecDepth 100000 in
theorem k_X0_isGone (l : Launch) (D : va_G) (G : Nat → Nat) (h0 : Nat) (c r : Nat → Nat → Nat) (o : Nat) (u : Nat) (hu : u < 20) (hB : BC c) : Met l yX0_isGone wsX0_isGone ({ frames := 0, cells := 0, slots := 0, locals := 0 } : Room) (va_Pc [.ref (G (20 + u))] (fun U => Pr D G h0 c r o U)) (va_Qi (fun (v9 : Int32) (_ : Unit) => v9 = nI (bN (goneP (c 9) u))) (fun _ t => Wr D G h0 c r o t) (fun q => h0 ≤ q)) 0 0 (fun q => h0 ≤ q) := by
  refine Met.ofW (cc := cX0_isGone) (maxL := 1) (ret := (some .boolean)) (by decide) rfl ?_
  intro p e s m args below meth cd s₁ B hml hv
  obtain ⟨rfl, hE, wl, hRc, hRr, hRo, hP, hD⟩ := hv
  have hx := B.exec
  have hb := B.bytes
  have hr := B.returns
  have hts := atoms_spec (ws := wsX0_isGone) B.pre
  have hown : s.vm.findClass RX0 = some m.cls := findClass_of_methodNamed B.named
  have hlocks := B.notSynchronized
  have hK := hE.2.1
  have hS : va_S (fun q => h0 ≤ q) s.heap s.heap [] := va_S.rf
  have hl := lv_entry ([.ref (G (20 + u))]) (n := 1) (Nat.le_of_ble_eq_true rfl)
  rw [lg_entry_eq]
  generalize (lg_sl ([.ref (G (20 + u))]) ++ List.replicate (1 - (lg_sl ([.ref (G (20 + u))])).length) Slot.unset).toArray = ls at hl ⊢
  have hl : lv_has ls 1 [(0, .ref (G (20 + u)))] := hl
  have inX0 : ∀ w ∈ wsX00, w ∈ wsX0_isGone := by decide +kernel
  refine lv_aload_n hx hb dX0_isGone_0 rfl (lv_at hl 0 rfl) ?_
  refine va_get (D := D) (ci := 1) (v := .int (nI (c 9 u))) (C := RX0) (T := TX0) (N := 13) hx hb hts inX0 hown hK hP (20 + u) (Q_u hRc (by first | omega | decide | assumption)) rfl 9 (by decide) (hts (.fieldLink RX0 38 "BootStage$Unit" "state" "I") (by decide +kernel)) (fun _ h9 => h9) rfl dX0_isGone_1 ?_
  refine lv_iconst (v := nI 3) hx hb dX0_isGone_4 (by decide) ?_
  refine n_icmp_eq (tgt := 16) hx hb dX0_isGone_5 (by decide) (hB _ _ (by decide)) (by decide) (fun c_5 => ?_) (fun c_5 => ?_)
  · refine lv_iconst (v := nI 1) hx hb dX0_isGone_16 (by decide) ?_
    refine lv_goto (tgt := 21) hx hb dX0_isGone_17 (by decide) ?_
    exact W.zret (v := nI 1) (ty := .boolean) hx hb hr (nb_le (by first | exact bN_le _ | decide | omega | assumption)) (fun t ht hW => ⟨⟨_, (), rfl, (show nI 1 = nI (bN (goneP (c 9) u)) from by first | exact congrArg nI (bN_t (show c 9 u = 3 ∨ c 9 u = 4 by omega)).symm | exact congrArg nI (bN_f (show ¬ (c 9 u = 3 ∨ c 9 u = 4) by omega)).symm), Wr_mk hRc hRr hRo hP hD ht⟩, hS.F ht⟩) hS.2.2 dX0_isGone_21
  · refine lv_aload_n hx hb dX0_isGone_8 rfl (lv_at hl 0 rfl) ?_
    refine va_get (D := D) (ci := 1) (v := .int (nI (c 9 u))) (C := RX0) (T := TX0) (N := 13) hx hb hts inX0 hown hK hP (20 + u) (Q_u hRc (by first | omega | decide | assumption)) rfl 9 (by decide) (hts (.fieldLink RX0 38 "BootStage$Unit" "state" "I") (by decide +kernel)) (fun _ h9 => h9) rfl dX0_isGone_9 ?_
    refine lv_iconst (v := nI 4) hx hb dX0_isGone_12 (by decide) ?_
    refine n_icmp_ne (tgt := 20) hx hb dX0_isGone_13 (by decide) (hB _ _ (by decide)) (by decide) (fun c_13 => ?_) (fun c_13 => ?_)
    · refine lv_iconst (v := nI 0) hx hb dX0_isGone_20 (by decide) ?_
      exact W.zret (v := nI 0) (ty := .boolean) hx hb hr (nb_le (by first | exact bN_le _ | decide | omega | assumption)) (fun t ht hW => ⟨⟨_, (), rfl, (show nI 0 = nI (bN (goneP (c 9) u)) from by first | exact congrArg nI (bN_t (show c 9 u = 3 ∨ c 9 u = 4 by omega)).symm | exact congrArg nI (bN_f (show ¬ (c 9 u = 3 ∨ c 9 u = 4) by omega)).symm), Wr_mk hRc hRr hRo hP hD ht⟩, hS.F ht⟩) hS.2.2 dX0_isGone_21
    · refine lv_iconst (v := nI 1) hx hb dX0_isGone_16 (by decide) ?_
      refine lv_goto (tgt := 21) hx hb dX0_isGone_17 (by decide) ?_
      exact W.zret (v := nI 1) (ty := .boolean) hx hb hr (nb_le (by first | exact bN_le _ | decide | omega | assumption)) (fun t ht hW => ⟨⟨_, (), rfl, (show nI 1 = nI (bN (goneP (c 9) u)) from by first | exact congrArg nI (bN_t (show c 9 u = 3 ∨ c 9 u = 4 by omega)).symm | exact congrArg nI (bN_f (show ¬ (c 9 u = 3 ∨ c 9 u = 4) by omega)).symm), Wr_mk hRc hRr hRo hP hD ht⟩, hS.F ht⟩) hS.2.2 dX0_isGone_21
set_option maxHeartbeats 4000000 in
set_option maxRecDepth 100000 in
theorem k_X0_isNeedMet (l : Launch) (D : va_G) (G : Nat → Nat) (h0 : Nat) (c r : Nat → Nat → Nat) (o : Nat) (u : Nat) (hu : u < 20) (hB : BC c) (hs : ∀ u, c 6 u ≤ 20) : Met l yX0_isNeedMet wsX0_isNeedMet ({ frames := 1, cells := 0, slots := 0, locals := 20 } : Room) (va_Pc [.ref (G (20 + u))] (fun U => Pr D G h0 c r o U)) (va_Qi (fun (v9 : Int32) (_ : Unit) => v9 = nI (bN (metP (c 9) (c 6) u))) (fun _ t => Wr D G h0 c r o t) (fun q => h0 ≤ q)) 0 0 (fun q => h0 ≤ q) := by
  refine Met.ofW (cc := cX0_isNeedMet) (maxL := 1) (ret := (some .boolean)) (by decide) rfl ?_
  intro p e s m args below meth cd s₁ B hml hv
  obtain ⟨rfl, hE, wl, hRc, hRr, hRo, hP, hD⟩ := hv
  have hx := B.exec
  have hb := B.bytes
  have hr := B.returns
  have hts := atoms_spec (ws := wsX0_isNeedMet) B.pre
  have hown : s.vm.findClass RX0 = some m.cls := findClass_of_methodNamed B.named
  have hlocks := B.notSynchronized
  have hK := hE.2.1
  have hS : va_S (fun q => h0 ≤ q) s.heap s.heap [] := va_S.rf
  have hl := lv_entry ([.ref (G (20 + u))]) (n := 1) (Nat.le_of_ble_eq_true rfl)
  rw [lg_entry_eq]
  generalize (lg_sl ([.ref (G (20 + u))]) ++ List.replicate (1 - (lg_sl ([.ref (G (20 + u))])).length) Slot.unset).toArray = ls at hl ⊢
  have hl : lv_has ls 1 [(0, .ref (G (20 + u)))] := hl
  have inX0 : ∀ w ∈ wsX00, w ∈ wsX0_isNeedMet := by decide +kernel
  refine lv_aload_n hx hb dX0_isNeedMet_0 rfl (lv_at hl 0 rfl) ?_
  refine va_get (D := D) (ci := 1) (v := .int (nI (c 9 u))) (C := RX0) (T := TX0) (N := 13) hx hb hts inX0 hown hK hP (20 + u) (Q_u hRc (by first | omega | decide | assumption)) rfl 9 (by decide) (hts (.fieldLink RX0 38 "BootStage$Unit" "state" "I") (by decide +kernel)) (fun _ h9 => h9) rfl dX0_isNeedMet_1 ?_
  refine lv_iconst (v := nI 2) hx hb dX0_isNeedMet_4 (by decide) ?_
  refine n_icmp_eq (tgt := 33) hx hb dX0_isNeedMet_5 (by decide) (hB _ _ (by decide)) (by decide) (fun c_5 => ?_) (fun c_5 => ?_)
  · refine lv_iconst (v := nI 1) hx hb dX0_isNeedMet_33 (by decide) ?_
    refine lv_goto (tgt := 38) hx hb dX0_isNeedMet_34 (by decide) ?_
    exact W.zret (v := nI 1) (ty := .boolean) hx hb hr (nb_le (by first | exact bN_le _ | decide | omega | assumption)) (fun t ht hW => ⟨⟨_, (), rfl, (show nI 1 = nI (bN (metP (c 9) (c 6) u)) from by first | exact congrArg nI (bN_t (Or.inl (by assumption))).symm | exact congrArg nI (bN_f (fun z => z.elim (fun z => absurd z (by assumption)) (fun z => absurd z.1 (by assumption)))).symm), Wr_mk hRc hRr hRo hP hD ht⟩, hS.F ht⟩) hS.2.2 dX0_isNeedMet_38
  · refine lv_aload_n hx hb dX0_isNeedMet_8 rfl (lv_at hl 0 rfl) ?_
    refine y_calli (va_runV (As := []) (rest := []) ⟨hx, hb, hml, hown, hts⟩ (k_X0_isGone l D G h0 c r o u (by first | omega | assumption) hB) (cwV 0 hts gX0_isNeedMet_X0_isGone rfl rfl rfl (by decide +kernel) ⟨Nat.le_of_ble_eq_true rfl, Nat.le_of_ble_eq_true rfl⟩) ⟨fun a U g mk q => ⟨q.1, Pr_cg q.2⟩, va_recv (ci := 1) (q0 := 20 + u) hK hP rfl (Q_u hRc (by first | omega | decide | assumption)), fun U hU hW => ⟨rfl, Pr_mk hE hRc hRr hRo hP hD hS hU hW⟩⟩ rfl rfl hl.1 rfl (lv_room (Nat.le_of_ble_eq_true rfl)) dX0_isNeedMet_9 ⟨Nat.le_of_ble_eq_true rfl, Nat.le_of_ble_eq_true rfl⟩) hS (fun v _ H locs wl hv hRc hRr hRo hP hD hS => ?_)
    refine n_top (y := .int (nI (bN (goneP (c 9) u)))) (congrArg Value.int hv) ?_
    clear hv v
    refine n_ifb_eq (tgt := 37) hx hb dX0_isNeedMet_12 (by decide) (fun c_12 => ?_) (fun c_12 => ?_)
    · refine lv_iconst (v := nI 0) hx hb dX0_isNeedMet_37 (by decide) ?_
      exact W.zret (v := nI 0) (ty := .boolean) hx hb hr (nb_le (by first | exact bN_le _ | decide | omega | assumption)) (fun t ht hW => ⟨⟨_, (), rfl, (show nI 0 = nI (bN (metP (c 9) (c 6) u)) from by first | exact congrArg nI (bN_t (Or.inl (by assumption))).symm | exact congrArg nI (bN_f (fun z => z.elim (fun z => absurd z (by assumption)) (fun z => absurd z.1 (by assumption)))).symm), Wr_mk hRc hRr hRo hP hD ht⟩, hS.F ht⟩) hS.2.2 dX0_isNeedMet_38
    · refine lv_aload_n hx hb dX0_isNeedMet_15 rfl (lv_at hl 0 rfl) ?_
      rcases (show c 6 u = 0 ∨ ∃ w, c 6 u = w + 1 from by cases h9 : c 6 u with | zero => exact Or.inl rfl | succ w => exact Or.inr ⟨w, rfl⟩) with hz_16 | ⟨w_16, hz_16⟩
      · skip
        refine va_get (D := D) (ci := 1) (v := .null) (C := RX0) (T := TX0) (N := 13) hx hb hts inX0 hown hK hP (20 + u) (Q_u hRc (by first | omega | decide | assumption)) rfl 6 (by decide) (hts (.fieldLink RX0 28 "BootStage$Unit" "substitute" "LBootStage$Unit;") (by decide +kernel)) (fun _ h9 => h9) (congrArg some (sbV_0 G hz_16)) dX0_isNeedMet_16 ?_
        refine lv_ifnullN (tgt := 37) hx hb dX0_isNeedMet_19 (by decide) ?_
        refine lv_iconst (v := nI 0) hx hb dX0_isNeedMet_37 (by decide) ?_
        exact W.zret (v := nI 0) (ty := .boolean) hx hb hr (nb_le (by first | exact bN_le _ | decide | omega | assumption)) (fun t ht hW => ⟨⟨_, (), rfl, (show nI 0 = nI (bN (metP (c 9) (c 6) u)) from by first | exact congrArg nI (bN_t (Or.inl (by assumption))).symm | exact congrArg nI (bN_f (fun z => z.elim (fun z => absurd z (by assumption)) (fun z => z.2.1 hz_16))).symm), Wr_mk hRc hRr hRo hP hD ht⟩, hS.F ht⟩) hS.2.2 dX0_isNeedMet_38
      · have hw_w_16 : w_16 < 20 := by have h9 := hs u; omega
        refine va_get (D := D) (ci := 1) (v := .ref (G (20 + w_16))) (C := RX0) (T := TX0) (N := 13) hx hb hts inX0 hown hK hP (20 + u) (Q_u hRc (by first | omega | decide | assumption)) rfl 6 (by decide) (hts (.fieldLink RX0 28 "BootStage$Unit" "substitute" "LBootStage$Unit;") (by decide +kernel)) (fun _ h9 => h9) (congrArg some (sbV_s G hz_16)) dX0_isNeedMet_16 ?_
        refine lv_ifnull hx hb dX0_isNeedMet_19 ?_
        refine lv_aload_n hx hb dX0_isNeedMet_22 rfl (lv_at hl 0 rfl) ?_
        refine va_get (D := D) (ci := 1) (v := .ref (G (20 + w_16))) (C := RX0) (T := TX0) (N := 13) hx hb hts inX0 hown hK hP (20 + u) (Q_u hRc (by first | omega | decide | assumption)) rfl 6 (by decide) (hts (.fieldLink RX0 28 "BootStage$Unit" "substitute" "LBootStage$Unit;") (by decide +kernel)) (fun _ h9 => h9) (congrArg some (sbV_s G hz_16)) dX0_isNeedMet_23 ?_
        refine va_get (D := D) (ci := 1) (v := .int (nI (c 9 w_16))) (C := RX0) (T := TX0) (N := 13) hx hb hts inX0 hown hK hP (20 + w_16) (Q_u hRc (by first | omega | decide | assumption)) rfl 9 (by decide) (hts (.fieldLink RX0 38 "BootStage$Unit" "state" "I") (by decide +kernel)) (fun _ h9 => h9) rfl dX0_isNeedMet_26 ?_
        refine lv_iconst (v := nI 2) hx hb dX0_isNeedMet_29 (by decide) ?_
        refine n_icmp_ne (tgt := 37) hx hb dX0_isNeedMet_30 (by decide) (hB _ _ (by decide)) (by decide) (fun c_30 => ?_) (fun c_30 => ?_)
        · refine lv_iconst (v := nI 0) hx hb dX0_isNeedMet_37 (by decide) ?_
          exact W.zret (v := nI 0) (ty := .boolean) hx hb hr (nb_le (by first | exact bN_le _ | decide | omega | assumption)) (fun t ht hW => ⟨⟨_, (), rfl, (show nI 0 = nI (bN (metP (c 9) (c 6) u)) from by first | exact congrArg nI (bN_t (Or.inl (by assumption))).symm | exact congrArg nI (bN_t (Or.inr ⟨by assumption, by omega, by rw [hz_16, Nat.add_sub_cancel]; assumption⟩)).symm | exact congrArg nI (bN_f (fun z => z.elim (fun z => absurd z (by assumption)) (fun z => absurd z.2.2 (by rw [hz_16, Nat.add_sub_cancel]; assumption)))).symm), Wr_mk hRc hRr hRo hP hD ht⟩, hS.F ht⟩) hS.2.2 dX0_isNeedMet_38
        · refine lv_iconst (v := nI 1) hx hb dX0_isNeedMet_33 (by decide) ?_
          refine lv_goto (tgt := 38) hx hb dX0_isNeedMet_34 (by decide) ?_
          exact W.zret (v := nI 1) (ty := .boolean) hx hb hr (nb_le (by first | exact bN_le _ | decide | omega | assumption)) (fun t ht hW => ⟨⟨_, (), rfl, (show nI 1 = nI (bN (metP (c 9) (c 6) u)) from by first | exact congrArg nI (bN_t (Or.inl (by assumption))).symm | exact congrArg nI (bN_t (Or.inr ⟨by assumption, by omega, by rw [hz_16, Nat.add_sub_cancel]; assumption⟩)).symm | exact congrArg nI (bN_f (fun z => z.elim (fun z => absurd z (by assumption)) (fun z => absurd z.2.2 (by rw [hz_16, Nat.add_sub_cancel]; assumption)))).symm), Wr_mk hRc hRr hRo hP hD ht⟩, hS.F ht⟩) hS.2.2 dX0_isNeedMet_38
set_option maxHeartbeats 4000000 in
set_option maxRecDepth 100000 in
theorem k_X0_isNeedLost (l : Launch) (D : va_G) (G : Nat → Nat) (h0 : Nat) (c r : Nat → Nat → Nat) (o : Nat) (u : Nat) (hu : u < 20) (hB : BC c) (hs : ∀ u, c 6 u ≤ 20) : Met l yX0_isNeedLost wsX0_isNeedLost ({ frames := 1, cells := 0, slots := 0, locals := 20 } : Room) (va_Pc [.ref (G (20 + u))] (fun U => Pr D G h0 c r o U)) (va_Qi (fun (v9 : Int32) (_ : Unit) => v9 = nI (bN (lostP (c 9) (c 6) u))) (fun _ t => Wr D G h0 c r o t) (fun q => h0 ≤ q)) 0 0 (fun q => h0 ≤ q) := by
  refine Met.ofW (cc := cX0_isNeedLost) (maxL := 1) (ret := (some .boolean)) (by decide) rfl ?_
  intro p e s m args below meth cd s₁ B hml hv
  obtain ⟨rfl, hE, wl, hRc, hRr, hRo, hP, hD⟩ := hv
  have hx := B.exec
  have hb := B.bytes
  have hr := B.returns
  have hts := atoms_spec (ws := wsX0_isNeedLost) B.pre
  have hown : s.vm.findClass RX0 = some m.cls := findClass_of_methodNamed B.named
  have hlocks := B.notSynchronized
  have hK := hE.2.1
  have hS : va_S (fun q => h0 ≤ q) s.heap s.heap [] := va_S.rf
  have hl := lv_entry ([.ref (G (20 + u))]) (n := 1) (Nat.le_of_ble_eq_true rfl)
  rw [lg_entry_eq]
  generalize (lg_sl ([.ref (G (20 + u))]) ++ List.replicate (1 - (lg_sl ([.ref (G (20 + u))])).length) Slot.unset).toArray = ls at hl ⊢
  have hl : lv_has ls 1 [(0, .ref (G (20 + u)))] := hl
  have inX0 : ∀ w ∈ wsX00, w ∈ wsX0_isNeedLost := by decide +kernel
  refine lv_aload_n hx hb dX0_isNeedLost_0 rfl (lv_at hl 0 rfl) ?_
  refine y_calli (va_runV (As := []) (rest := []) ⟨hx, hb, hml, hown, hts⟩ (k_X0_isGone l D G h0 c r o u (by first | omega | assumption) hB) (cwV 0 hts gX0_isNeedLost_X0_isGone rfl rfl rfl (by decide +kernel) ⟨Nat.le_of_ble_eq_true rfl, Nat.le_of_ble_eq_true rfl⟩) ⟨fun a U g mk q => ⟨q.1, Pr_cg q.2⟩, va_recv (ci := 1) (q0 := 20 + u) hK hP rfl (Q_u hRc (by first | omega | decide | assumption)), fun U hU hW => ⟨rfl, Pr_mk hE hRc hRr hRo hP hD hS hU hW⟩⟩ rfl rfl hl.1 rfl (lv_room (Nat.le_of_ble_eq_true rfl)) dX0_isNeedLost_1 ⟨Nat.le_of_ble_eq_true rfl, Nat.le_of_ble_eq_true rfl⟩) hS (fun v _ H locs wl hv hRc hRr hRo hP hD hS => ?_)
  refine n_top (y := .int (nI (bN (goneP (c 9) u)))) (congrArg Value.int hv) ?_
  clear hv v
  refine n_ifb_eq (tgt := 28) hx hb dX0_isNeedLost_4 (by decide) (fun c_4 => ?_) (fun c_4 => ?_)
  · refine lv_iconst (v := nI 0) hx hb dX0_isNeedLost_28 (by decide) ?_
    exact W.zret (v := nI 0) (ty := .boolean) hx hb hr (nb_le (by first | exact bN_le _ | decide | omega | assumption)) (fun t ht hW => ⟨⟨_, (), rfl, (show nI 0 = nI (bN (lostP (c 9) (c 6) u)) from by first | exact congrArg nI (bN_t ⟨by assumption, Or.inl (by assumption)⟩).symm | exact congrArg nI (bN_t ⟨by assumption, Or.inr (by rw [hu, Nat.add_sub_cancel]; assumption)⟩).symm | exact congrArg nI (bN_f (fun z => absurd z.1 (by assumption))).symm | exact congrArg nI (bN_f (fun z => z.2.elim (fun z => absurd z (by omega)) (fun z => absurd z (by rw [hu]; assumption)))).symm), Wr_mk hRc hRr hRo hP hD ht⟩, hS.F ht⟩) hS.2.2 dX0_isNeedLost_29
  · refine lv_aload_n hx hb dX0_isNeedLost_7 rfl (lv_at hl 0 rfl) ?_
    rcases (show c 6 u = 0 ∨ ∃ w, c 6 u = w + 1 from by cases h9 : c 6 u with | zero => exact Or.inl rfl | succ w => exact Or.inr ⟨w, rfl⟩) with hz_8 | ⟨w_8, hz_8⟩
    · skip
      refine va_get (D := D) (ci := 1) (v := .null) (C := RX0) (T := TX0) (N := 13) hx hb hts inX0 hown hK hP (20 + u) (Q_u hRc (by first | omega | decide | assumption)) rfl 6 (by decide) (hts (.fieldLink RX0 28 "BootStage$Unit" "substitute" "LBootStage$Unit;") (by decide +kernel)) (fun _ h9 => h9) (congrArg some (sbV_0 G hz_8)) dX0_isNeedLost_8 ?_
      refine lv_ifnullN (tgt := 24) hx hb dX0_isNeedLost_11 (by decide) ?_
      refine lv_iconst (v := nI 1) hx hb dX0_isNeedLost_24 (by decide) ?_
      refine lv_goto (tgt := 29) hx hb dX0_isNeedLost_25 (by decide) ?_
      exact W.zret (v := nI 1) (ty := .boolean) hx hb hr (nb_le (by first | exact bN_le _ | decide | omega | assumption)) (fun t ht hW => ⟨⟨_, (), rfl, (show nI 1 = nI (bN (lostP (c 9) (c 6) u)) from by first | exact congrArg nI (bN_t ⟨by assumption, Or.inl (by assumption)⟩).symm | exact congrArg nI (bN_t ⟨by assumption, Or.inr (by rw [hz_8, Nat.add_sub_cancel]; assumption)⟩).symm | exact congrArg nI (bN_f (fun z => absurd z.1 (by assumption))).symm | exact congrArg nI (bN_f (fun z => z.2.elim (fun z => absurd z (by omega)) (fun z => absurd z (by rw [hz_8]; assumption)))).symm), Wr_mk hRc hRr hRo hP hD ht⟩, hS.F ht⟩) hS.2.2 dX0_isNeedLost_29
    · have hw_w_8 : w_8 < 20 := by have h9 := hs u; omega
      refine va_get (D := D) (ci := 1) (v := .ref (G (20 + w_8))) (C := RX0) (T := TX0) (N := 13) hx hb hts inX0 hown hK hP (20 + u) (Q_u hRc (by first | omega | decide | assumption)) rfl 6 (by decide) (hts (.fieldLink RX0 28 "BootStage$Unit" "substitute" "LBootStage$Unit;") (by decide +kernel)) (fun _ h9 => h9) (congrArg some (sbV_s G hz_8)) dX0_isNeedLost_8 ?_
      refine lv_ifnull hx hb dX0_isNeedLost_11 ?_
      refine lv_aload_n hx hb dX0_isNeedLost_14 rfl (lv_at hl 0 rfl) ?_
      refine va_get (D := D) (ci := 1) (v := .ref (G (20 + w_8))) (C := RX0) (T := TX0) (N := 13) hx hb hts inX0 hown hK hP (20 + u) (Q_u hRc (by first | omega | decide | assumption)) rfl 6 (by decide) (hts (.fieldLink RX0 28 "BootStage$Unit" "substitute" "LBootStage$Unit;") (by decide +kernel)) (fun _ h9 => h9) (congrArg some (sbV_s G hz_8)) dX0_isNeedLost_15 ?_
      refine y_calli (va_runV (As := []) (rest := []) ⟨hx, hb, hml, hown, hts⟩ (k_X0_isGone l D G h0 c r o w_8 (by first | omega | assumption) hB) (cwV 0 hts gX0_isNeedLost_X0_isGone rfl rfl rfl (by decide +kernel) ⟨Nat.le_of_ble_eq_true rfl, Nat.le_of_ble_eq_true rfl⟩) ⟨fun a U g mk q => ⟨q.1, Pr_cg q.2⟩, va_recv (ci := 1) (q0 := 20 + w_8) hK hP rfl (Q_u hRc (by first | omega | decide | assumption)), fun U hU hW => ⟨rfl, Pr_mk hE hRc hRr hRo hP hD hS hU hW⟩⟩ rfl rfl hl.1 rfl (lv_room (Nat.le_of_ble_eq_true rfl)) dX0_isNeedLost_18 ⟨Nat.le_of_ble_eq_true rfl, Nat.le_of_ble_eq_true rfl⟩) hS (fun v _ H locs wl hv hRc hRr hRo hP hD hS => ?_)
      refine n_top (y := .int (nI (bN (goneP (c 9) w_8)))) (congrArg Value.int hv) ?_
      clear hv v
      refine n_ifb_eq (tgt := 28) hx hb dX0_isNeedLost_21 (by decide) (fun c_21 => ?_) (fun c_21 => ?_)
      · refine lv_iconst (v := nI 0) hx hb dX0_isNeedLost_28 (by decide) ?_
        exact W.zret (v := nI 0) (ty := .boolean) hx hb hr (nb_le (by first | exact bN_le _ | decide | omega | assumption)) (fun t ht hW => ⟨⟨_, (), rfl, (show nI 0 = nI (bN (lostP (c 9) (c 6) u)) from by first | exact congrArg nI (bN_t ⟨by assumption, Or.inl (by assumption)⟩).symm | exact congrArg nI (bN_t ⟨by assumption, Or.inr (by rw [hz_8, Nat.add_sub_cancel]; assumption)⟩).symm | exact congrArg nI (bN_f (fun z => absurd z.1 (by assumption))).symm | exact congrArg nI (bN_f (fun z => z.2.elim (fun z => absurd z (by omega)) (fun z => absurd z (by rw [hz_8]; assumption)))).symm), Wr_mk hRc hRr hRo hP hD ht⟩, hS.F ht⟩) hS.2.2 dX0_isNeedLost_29
      · refine lv_iconst (v := nI 1) hx hb dX0_isNeedLost_24 (by decide) ?_
        refine lv_goto (tgt := 29) hx hb dX0_isNeedLost_25 (by decide) ?_
        exact W.zret (v := nI 1) (ty := .boolean) hx hb hr (nb_le (by first | exact bN_le _ | decide | omega | assumption)) (fun t ht hW => ⟨⟨_, (), rfl, (show nI 1 = nI (bN (lostP (c 9) (c 6) u)) from by first | exact congrArg nI (bN_t ⟨by assumption, Or.inl (by assumption)⟩).symm | exact congrArg nI (bN_t ⟨by assumption, Or.inr (by rw [hz_8, Nat.add_sub_cancel]; assumption)⟩).symm | exact congrArg nI (bN_f (fun z => absurd z.1 (by assumption))).symm | exact congrArg nI (bN_f (fun z => z.2.elim (fun z => absurd z (by omega)) (fun z => absurd z (by rw [hz_8]; assumption)))).symm), Wr_mk hRc hRr hRo hP hD ht⟩, hS.F ht⟩) hS.2.2 dX0_isNeedLost_29
set_option maxHeartbeats 4000000 in
set_option maxRecDepth 100000 in
theorem k_X0_isWishDone (l : Launch) (D : va_G) (G : Nat → Nat) (h0 : Nat) (c r : Nat → Nat → Nat) (o : Nat) (u : Nat) (hu : u < 20) (hB : BC c) : Met l yX0_isWishDone wsX0_isWishDone ({ frames := 1, cells := 0, slots := 0, locals := 20 } : Room) (va_Pc [.ref (G (20 + u))] (fun U => Pr D G h0 c r o U)) (va_Qi (fun (v9 : Int32) (_ : Unit) => v9 = nI (bN (doneP (c 9) u))) (fun _ t => Wr D G h0 c r o t) (fun q => h0 ≤ q)) 0 0 (fun q => h0 ≤ q) := by
  refine Met.ofW (cc := cX0_isWishDone) (maxL := 1) (ret := (some .boolean)) (by decide) rfl ?_
  intro p e s m args below meth cd s₁ B hml hv
  obtain ⟨rfl, hE, wl, hRc, hRr, hRo, hP, hD⟩ := hv
  have hx := B.exec
  have hb := B.bytes
  have hr := B.returns
  have hts := atoms_spec (ws := wsX0_isWishDone) B.pre
  have hown : s.vm.findClass RX0 = some m.cls := findClass_of_methodNamed B.named
  have hlocks := B.notSynchronized
  have hK := hE.2.1
  have hS : va_S (fun q => h0 ≤ q) s.heap s.heap [] := va_S.rf
  have hl := lv_entry ([.ref (G (20 + u))]) (n := 1) (Nat.le_of_ble_eq_true rfl)
  rw [lg_entry_eq]
  generalize (lg_sl ([.ref (G (20 + u))]) ++ List.replicate (1 - (lg_sl ([.ref (G (20 + u))])).length) Slot.unset).toArray = ls at hl ⊢
  have hl : lv_has ls 1 [(0, .ref (G (20 + u)))] := hl
  have inX0 : ∀ w ∈ wsX00, w ∈ wsX0_isWishDone := by decide +kernel
  refine lv_aload_n hx hb dX0_isWishDone_0 rfl (lv_at hl 0 rfl) ?_
  refine va_get (D := D) (ci := 1) (v := .int (nI (c 9 u))) (C := RX0) (T := TX0) (N := 13) hx hb hts inX0 hown hK hP (20 + u) (Q_u hRc (by first | omega | decide | assumption)) rfl 9 (by decide) (hts (.fieldLink RX0 38 "BootStage$Unit" "state" "I") (by decide +kernel)) (fun _ h9 => h9) rfl dX0_isWishDone_1 ?_
  refine lv_iconst (v := nI 2) hx hb dX0_isWishDone_4 (by decide) ?_
  refine n_icmp_eq (tgt := 15) hx hb dX0_isWishDone_5 (by decide) (hB _ _ (by decide)) (by decide) (fun c_5 => ?_) (fun c_5 => ?_)
  · refine lv_iconst (v := nI 1) hx hb dX0_isWishDone_15 (by decide) ?_
    refine lv_goto (tgt := 20) hx hb dX0_isWishDone_16 (by decide) ?_
    exact W.zret (v := nI 1) (ty := .boolean) hx hb hr (nb_le (by first | exact bN_le _ | decide | omega | assumption)) (fun t ht hW => ⟨⟨_, (), rfl, (show nI 1 = nI (bN (doneP (c 9) u)) from by first | exact congrArg nI (bN_t (Or.inl (by assumption))).symm | exact congrArg nI (bN_t (Or.inr (by assumption))).symm | exact congrArg nI (bN_f (fun z => z.elim (fun z => absurd z (by assumption)) (fun z => absurd z (by assumption)))).symm), Wr_mk hRc hRr hRo hP hD ht⟩, hS.F ht⟩) hS.2.2 dX0_isWishDone_20
  · refine lv_aload_n hx hb dX0_isWishDone_8 rfl (lv_at hl 0 rfl) ?_
    refine y_calli (va_runV (As := []) (rest := []) ⟨hx, hb, hml, hown, hts⟩ (k_X0_isGone l D G h0 c r o u (by first | omega | assumption) hB) (cwV 0 hts gX0_isWishDone_X0_isGone rfl rfl rfl (by decide +kernel) ⟨Nat.le_of_ble_eq_true rfl, Nat.le_of_ble_eq_true rfl⟩) ⟨fun a U g mk q => ⟨q.1, Pr_cg q.2⟩, va_recv (ci := 1) (q0 := 20 + u) hK hP rfl (Q_u hRc (by first | omega | decide | assumption)), fun U hU hW => ⟨rfl, Pr_mk hE hRc hRr hRo hP hD hS hU hW⟩⟩ rfl rfl hl.1 rfl (lv_room (Nat.le_of_ble_eq_true rfl)) dX0_isWishDone_9 ⟨Nat.le_of_ble_eq_true rfl, Nat.le_of_ble_eq_true rfl⟩) hS (fun v _ H locs wl hv hRc hRr hRo hP hD hS => ?_)
    refine n_top (y := .int (nI (bN (goneP (c 9) u)))) (congrArg Value.int hv) ?_
    clear hv v
    refine n_ifb_eq (tgt := 19) hx hb dX0_isWishDone_12 (by decide) (fun c_12 => ?_) (fun c_12 => ?_)
    · refine lv_iconst (v := nI 0) hx hb dX0_isWishDone_19 (by decide) ?_
      exact W.zret (v := nI 0) (ty := .boolean) hx hb hr (nb_le (by first | exact bN_le _ | decide | omega | assumption)) (fun t ht hW => ⟨⟨_, (), rfl, (show nI 0 = nI (bN (doneP (c 9) u)) from by first | exact congrArg nI (bN_t (Or.inl (by assumption))).symm | exact congrArg nI (bN_t (Or.inr (by assumption))).symm | exact congrArg nI (bN_f (fun z => z.elim (fun z => absurd z (by assumption)) (fun z => absurd z (by assumption)))).symm), Wr_mk hRc hRr hRo hP hD ht⟩, hS.F ht⟩) hS.2.2 dX0_isWishDone_20
    · refine lv_iconst (v := nI 1) hx hb dX0_isWishDone_15 (by decide) ?_
      refine lv_goto (tgt := 20) hx hb dX0_isWishDone_16 (by decide) ?_
      exact W.zret (v := nI 1) (ty := .boolean) hx hb hr (nb_le (by first | exact bN_le _ | decide | omega | assumption)) (fun t ht hW => ⟨⟨_, (), rfl, (show nI 1 = nI (bN (doneP (c 9) u)) from by first | exact congrArg nI (bN_t (Or.inl (by assumption))).symm | exact congrArg nI (bN_t (Or.inr (by assumption))).symm | exact congrArg nI (bN_f (fun z => z.elim (fun z => absurd z (by assumption)) (fun z => absurd z (by assumption)))).symm), Wr_mk hRc hRr hRo hP hD ht⟩, hS.F ht⟩) hS.2.2 dX0_isWishDone_20
set_option maxHeartbeats 4000000 in
set_option maxRecDepth 100000 in
theorem k_X0_comeToEnd (l : Launch) (D : va_G) (G : Nat → Nat) (h0 : Nat) (c r : Nat → Nat → Nat) (o : Nat) (u : Nat) (hu : u < 20) (hB : BC c) (hb : c 3 u + c 1 u < 2 ^ 31) : Met l yX0_comeToEnd wsX0_comeToEnd ({ frames := 1, cells := 0, slots := 0, locals := 21 } : Room) (va_Pc [.ref (G (20 + u))] (fun U => Pr D G h0 c r o U)) (va_Qv (fun (_ : Unit) => True) (fun _ t => Wr D G h0 (c_come c u) r o t) (fun q => h0 ≤ q)) 0 0 (fun q => h0 ≤ q) := by
  refine Met.ofW (cc := cX0_comeToEnd) (maxL := 1) (ret := none) (by decide) rfl ?_
  intro p e s m args below meth cd s₁ B hml hv
  obtain ⟨rfl, hE, wl, hRc, hRr, hRo, hP, hD⟩ := hv
  have hx := B.exec
  have hb := B.bytes
  have hr := B.returns
  have hts := atoms_spec (ws := wsX0_comeToEnd) B.pre
  have hown : s.vm.findClass RX0 = some m.cls := findClass_of_methodNamed B.named
  have hlocks := B.notSynchronized
  have hK := hE.2.1
  have hS : va_S (fun q => h0 ≤ q) s.heap s.heap [] := va_S.rf
  have hl := lv_entry ([.ref (G (20 + u))]) (n := 1) (Nat.le_of_ble_eq_true rfl)
  rw [lg_entry_eq]
  generalize (lg_sl ([.ref (G (20 + u))]) ++ List.replicate (1 - (lg_sl ([.ref (G (20 + u))])).length) Slot.unset).toArray = ls at hl ⊢
  have hl : lv_has ls 1 [(0, .ref (G (20 + u)))] := hl
  have inX0 : ∀ w ∈ wsX00, w ∈ wsX0_comeToEnd := by decide +kernel
  refine lv_aload_n hx hb dX0_comeToEnd_0 rfl (lv_at hl 0 rfl) ?_
  refine va_get (D := D) (ci := 1) (v := .int (nI (c 4 u))) (C := RX0) (T := TX0) (N := 13) hx hb hts inX0 hown hK hP (20 + u) (Q_u hRc (by first | omega | decide | assumption)) rfl 4 (by decide) (hts (.fieldLink RX0 21 "BootStage$Unit" "faults" "I") (by decide +kernel)) (fun _ h9 => h9) rfl dX0_comeToEnd_1 ?_
  refine n_if_ne (tgt := 32) hx hb dX0_comeToEnd_4 (by decide) (hB _ _ (by decide)) (fun c_4 => ?_) (fun c_4 => ?_)
  · refine lv_aload_n hx hb dX0_comeToEnd_32 rfl (lv_at hl 0 rfl) ?_
    refine lv_dup hx hb dX0_comeToEnd_33 rfl ?_
    refine va_get (D := D) (ci := 1) (v := .int (nI (c 4 u))) (C := RX0) (T := TX0) (N := 13) hx hb hts inX0 hown hK hP (20 + u) (Q_u hRc (by first | omega | decide | assumption)) rfl 4 (by decide) (hts (.fieldLink RX0 21 "BootStage$Unit" "faults" "I") (by decide +kernel)) (fun _ h9 => h9) rfl dX0_comeToEnd_34 ?_
    refine lv_iconst (v := nI 1) hx hb dX0_comeToEnd_37 (by decide) ?_
    refine n_isub hx hb dX0_comeToEnd_38 (by omega) ?_
    refine x_put (D := D) (G := G) (ci := 1) (ty := .int) (C := RX0) (T := TX0) (N := 13) (Z := fun wl => Rc G (up2 c 4 u ((c 4 u) - 1)) wl ∧ Rr G r wl ∧ Ro G o wl) hx hb hts inX0 tyX0 tyX0_ok nmX0 hown hK hP hD hS (20 + u) (Q_u hRc (by first | omega | decide | assumption)) rfl 4 (by decide) (hts (.fieldLink RX0 21 "BootStage$Unit" "faults" "I") (by decide +kernel)) (fun _ h9 => h9) rfl (by decide +kernel) rfl rfl (Nat.le_of_ble_eq_true rfl) dX0_comeToEnd_39 ⟨P_u4 ((c 4 u) - 1) (by first | omega | decide | assumption) hRc, Rr_fr hRr (by omega), Ro_fr hRo (by omega)⟩ (fun H locs wl hZ hP hD hS => ?_)
    obtain ⟨hRc, hRr, hRo⟩ := hZ
    refine lv_aload_n hx hb dX0_comeToEnd_42 rfl (lv_at hl 0 rfl) ?_
    refine va_get (D := D) (ci := 1) (v := .int (nI (c 11 u))) (C := RX0) (T := TX0) (N := 13) hx hb hts inX0 hown hK hP (20 + u) (Q_u hRc (by first | omega | decide | assumption)) rfl 11 (by decide) (hts (.fieldLink RX0 44 "BootStage$Unit" "retriesUsed" "I") (by decide +kernel)) (fun _ h9 => h9) (congrArg (fun z => some (Value.int (nI z))) (show (up2 c 4 u ((c 4 u) - 1)) 11 u = c 11 u from by simp [up2])) dX0_comeToEnd_43 ?_
    refine lv_aload_n hx hb dX0_comeToEnd_46 rfl (lv_at hl 0 rfl) ?_
    refine va_get (D := D) (ci := 1) (v := .int (nI (c 2 u))) (C := RX0) (T := TX0) (N := 13) hx hb hts inX0 hown hK hP (20 + u) (Q_u hRc (by first | omega | decide | assumption)) rfl 2 (by decide) (hts (.fieldLink RX0 15 "BootStage$Unit" "retries" "I") (by decide +kernel)) (fun _ h9 => h9) (congrArg (fun z => some (Value.int (nI z))) (show (up2 c 4 u ((c 4 u) - 1)) 2 u = c 2 u from by simp [up2])) dX0_comeToEnd_47 ?_
    refine n_icmp_ge (tgt := 71) hx hb dX0_comeToEnd_50 (by decide) (hB _ _ (by decide)) (hB _ _ (by decide)) (fun c_50 => ?_) (fun c_50 => ?_)
    · refine lv_aload_n hx hb dX0_comeToEnd_71 rfl (lv_at hl 0 rfl) ?_
      refine lv_iconst (v := nI 3) hx hb dX0_comeToEnd_72 (by decide) ?_
      refine x_put (D := D) (G := G) (ci := 1) (ty := .int) (C := RX0) (T := TX0) (N := 13) (Z := fun wl => Rc G (up2 (up2 c 4 u ((c 4 u) - 1)) 9 u 3) wl ∧ Rr G r wl ∧ Ro G o wl) hx hb hts inX0 tyX0 tyX0_ok nmX0 hown hK hP hD hS (20 + u) (Q_u hRc (by first | omega | decide | assumption)) rfl 9 (by decide) (hts (.fieldLink RX0 38 "BootStage$Unit" "state" "I") (by decide +kernel)) (fun _ h9 => h9) rfl (by decide +kernel) rfl rfl (Nat.le_of_ble_eq_true rfl) dX0_comeToEnd_73 ⟨P_u9 3 (by first | omega | decide | assumption) hRc, Rr_fr hRr (by omega), Ro_fr hRo (by omega)⟩ (fun H locs wl hZ hP hD hS => ?_)
      obtain ⟨hRc, hRr, hRo⟩ := hZ
      exact W.vret hx hb hr (fun t ht hW => ⟨⟨(), rfl, trivial, Wr_mk (show Rc G (c_come c u) wl from by rw [show (c_come c u) = up2 (up2 c 4 u ((c 4 u) - 1)) 9 u 3 from by unfold c_come; rw [if_neg (by omega), if_neg (by omega)]]; exact hRc) hRr hRo hP hD ht⟩, hS.F ht⟩) hS.2.2 dX0_comeToEnd_76
    · refine lv_aload_n hx hb dX0_comeToEnd_53 rfl (lv_at hl 0 rfl) ?_
      refine lv_dup hx hb dX0_comeToEnd_54 rfl ?_
      refine va_get (D := D) (ci := 1) (v := .int (nI (c 11 u))) (C := RX0) (T := TX0) (N := 13) hx hb hts inX0 hown hK hP (20 + u) (Q_u hRc (by first | omega | decide | assumption)) rfl 11 (by decide) (hts (.fieldLink RX0 44 "BootStage$Unit" "retriesUsed" "I") (by decide +kernel)) (fun _ h9 => h9) (congrArg (fun z => some (Value.int (nI z))) (show (up2 c 4 u ((c 4 u) - 1)) 11 u = c 11 u from by simp [up2])) dX0_comeToEnd_55 ?_
      refine lv_iconst (v := nI 1) hx hb dX0_comeToEnd_58 (by decide) ?_
      refine n_iadd hx hb dX0_comeToEnd_59 ?_
      refine x_put (D := D) (G := G) (ci := 1) (ty := .int) (C := RX0) (T := TX0) (N := 13) (Z := fun wl => Rc G (up2 (up2 c 4 u ((c 4 u) - 1)) 11 u ((c 11 u) + 1)) wl ∧ Rr G r wl ∧ Ro G o wl) hx hb hts inX0 tyX0 tyX0_ok nmX0 hown hK hP hD hS (20 + u) (Q_u hRc (by first | omega | decide | assumption)) rfl 11 (by decide) (hts (.fieldLink RX0 44 "BootStage$Unit" "retriesUsed" "I") (by decide +kernel)) (fun _ h9 => h9) rfl (by decide +kernel) rfl rfl (Nat.le_of_ble_eq_true rfl) dX0_comeToEnd_60 ⟨P_u11 ((c 11 u) + 1) (by first | omega | decide | assumption) hRc, Rr_fr hRr (by omega), Ro_fr hRo (by omega)⟩ (fun H locs wl hZ hP hD hS => ?_)
      obtain ⟨hRc, hRr, hRo⟩ := hZ
      refine lv_aload_n hx hb dX0_comeToEnd_63 rfl (lv_at hl 0 rfl) ?_
      refine lv_iconst (v := nI 0) hx hb dX0_comeToEnd_64 (by decide) ?_
      refine x_put (D := D) (G := G) (ci := 1) (ty := .int) (C := RX0) (T := TX0) (N := 13) (Z := fun wl => Rc G (up2 (up2 (up2 c 4 u ((c 4 u) - 1)) 11 u ((c 11 u) + 1)) 9 u 0) wl ∧ Rr G r wl ∧ Ro G o wl) hx hb hts inX0 tyX0 tyX0_ok nmX0 hown hK hP hD hS (20 + u) (Q_u hRc (by first | omega | decide | assumption)) rfl 9 (by decide) (hts (.fieldLink RX0 38 "BootStage$Unit" "state" "I") (by decide +kernel)) (fun _ h9 => h9) rfl (by decide +kernel) rfl rfl (Nat.le_of_ble_eq_true rfl) dX0_comeToEnd_65 ⟨P_u9 0 (by first | omega | decide | assumption) hRc, Rr_fr hRr (by omega), Ro_fr hRo (by omega)⟩ (fun H locs wl hZ hP hD hS => ?_)
      obtain ⟨hRc, hRr, hRo⟩ := hZ
      refine lv_goto (tgt := 76) hx hb dX0_comeToEnd_68 (by decide) ?_
      exact W.vret hx hb hr (fun t ht hW => ⟨⟨(), rfl, trivial, Wr_mk (show Rc G (c_come c u) wl from by rw [show (c_come c u) = up2 (up2 (up2 c 4 u ((c 4 u) - 1)) 11 u ((c 11 u) + 1)) 9 u 0 from by unfold c_come; rw [if_neg (by omega), if_pos (by assumption)]]; exact hRc) hRr hRo hP hD ht⟩, hS.F ht⟩) hS.2.2 dX0_comeToEnd_76
  · refine lv_aload_n hx hb dX0_comeToEnd_7 rfl (lv_at hl 0 rfl) ?_
    refine lv_iconst (v := nI 2) hx hb dX0_comeToEnd_8 (by decide) ?_
    refine x_put (D := D) (G := G) (ci := 1) (ty := .int) (C := RX0) (T := TX0) (N := 13) (Z := fun wl => Rc G (up2 c 9 u 2) wl ∧ Rr G r wl ∧ Ro G o wl) hx hb hts inX0 tyX0 tyX0_ok nmX0 hown hK hP hD hS (20 + u) (Q_u hRc (by first | omega | decide | assumption)) rfl 9 (by decide) (hts (.fieldLink RX0 38 "BootStage$Unit" "state" "I") (by decide +kernel)) (fun _ h9 => h9) rfl (by decide +kernel) rfl rfl (Nat.le_of_ble_eq_true rfl) dX0_comeToEnd_9 ⟨P_u9 2 (by first | omega | decide | assumption) hRc, Rr_fr hRr (by omega), Ro_fr hRo (by omega)⟩ (fun H locs wl hZ hP hD hS => ?_)
    obtain ⟨hRc, hRr, hRo⟩ := hZ
    refine lv_aload_n hx hb dX0_comeToEnd_12 rfl (lv_at hl 0 rfl) ?_
    refine lv_iconst (v := nI 1) hx hb dX0_comeToEnd_13 (by decide) ?_
    refine lv_aload_n hx hb dX0_comeToEnd_14 rfl (lv_at hl 0 rfl) ?_
    refine va_get (D := D) (ci := 1) (v := .int (nI (c 3 u))) (C := RX0) (T := TX0) (N := 13) hx hb hts inX0 hown hK hP (20 + u) (Q_u hRc (by first | omega | decide | assumption)) rfl 3 (by decide) (hts (.fieldLink RX0 18 "BootStage$Unit" "learned" "I") (by decide +kernel)) (fun _ h9 => h9) (congrArg (fun z => some (Value.int (nI z))) (show (up2 c 9 u 2) 3 u = c 3 u from by simp [up2])) dX0_comeToEnd_15 ?_
    refine lv_aload_n hx hb dX0_comeToEnd_18 rfl (lv_at hl 0 rfl) ?_
    refine va_get (D := D) (ci := 1) (v := .int (nI (c 1 u))) (C := RX0) (T := TX0) (N := 13) hx hb hts inX0 hown hK hP (20 + u) (Q_u hRc (by first | omega | decide | assumption)) rfl 1 (by decide) (hts (.fieldLink RX0 9 "BootStage$Unit" "time" "I") (by decide +kernel)) (fun _ h9 => h9) (congrArg (fun z => some (Value.int (nI z))) (show (up2 c 9 u 2) 1 u = c 1 u from by simp [up2])) dX0_comeToEnd_19 ?_
    refine n_iadd hx hb dX0_comeToEnd_22 ?_
    refine lv_iconst (v := nI 2) hx hb dX0_comeToEnd_23 (by decide) ?_
    refine n_idiv hx hb dX0_comeToEnd_24 (by omega) (by first | omega | decide | assumption) (by decide) ?_
    refine va_mmax hx hb (hml.trans hl.1.symm) hown (hts (.methodLink RX0 57 Lib.Math.max.name) (by decide +kernel)) (hts (.static Lib.Math.max.name) (by decide +kernel)) (hts (.initialized "java/lang/Math") (by decide +kernel)) (hts (.code Lib.Math.max.name Lib.Math.max.code 2 (some .int)) (by decide +kernel)) (Nat.le_of_ble_eq_true rfl) (Nat.le_of_ble_eq_true rfl) (Nat.le_of_ble_eq_true rfl) (Nat.le_of_ble_eq_true rfl) dX0_comeToEnd_25 ?_
    refine n_top (y := .int (nI (max 1 (((c 3 u) + (c 1 u)) / 2)))) (congrArg Value.int (nI_max (by decide) (by omega))) ?_
    refine x_put (D := D) (G := G) (ci := 1) (ty := .int) (C := RX0) (T := TX0) (N := 13) (Z := fun wl => Rc G (up2 (up2 c 9 u 2) 3 u (max 1 (((c 3 u) + (c 1 u)) / 2))) wl ∧ Rr G r wl ∧ Ro G o wl) hx hb hts inX0 tyX0 tyX0_ok nmX0 hown hK hP hD hS (20 + u) (Q_u hRc (by first | omega | decide | assumption)) rfl 3 (by decide) (hts (.fieldLink RX0 18 "BootStage$Unit" "learned" "I") (by decide +kernel)) (fun _ h9 => h9) rfl (by decide +kernel) rfl rfl (Nat.le_of_ble_eq_true rfl) dX0_comeToEnd_28 ⟨P_u3 (max 1 (((c 3 u) + (c 1 u)) / 2)) (by first | omega | decide | assumption) hRc, Rr_fr hRr (by omega), Ro_fr hRo (by omega)⟩ (fun H locs wl hZ hP hD hS => ?_)
    obtain ⟨hRc, hRr, hRo⟩ := hZ
    exact W.vret hx hb hr (fun t ht hW => ⟨⟨(), rfl, trivial, Wr_mk (show Rc G (c_come c u) wl from by rw [show (c_come c u) = up2 (up2 c 9 u 2) 3 u (max 1 (((c 3 u) + (c 1 u)) / 2)) from by unfold c_come; rw [if_pos (by assumption)]]; exact hRc) hRr hRo hP hD ht⟩, hS.F ht⟩) hS.2.2 dX0_comeToEnd_31
set_option maxHeartbeats 4000000 in
set_option maxRecDepth 100000 in
theorem k_X0_timeDone (l : Launch) (D : va_G) (G : Nat → Nat) (h0 : Nat) (c r : Nat → Nat → Nat) (o : Nat) (u : Nat) (hu : u < 20) (hB : BC c) : Met l yX0_timeDone wsX0_timeDone ({ frames := 1, cells := 0, slots := 0, locals := 21 } : Room) (va_Pc [.ref (G (20 + u))] (fun U => Pr D G h0 c r o U)) (va_Qi (fun (v9 : Int32) (_ : Unit) => v9 = nI (c_part c u)) (fun _ t => Wr D G h0 c r o t) (fun q => h0 ≤ q)) 0 0 (fun q => h0 ≤ q) := by
  refine Met.ofW (cc := cX0_timeDone) (maxL := 1) (ret := (some .int)) (by decide) rfl ?_
  intro p e s m args below meth cd s₁ B hml hv
  obtain ⟨rfl, hE, wl, hRc, hRr, hRo, hP, hD⟩ := hv
  have hx := B.exec
  have hb := B.bytes
  have hr := B.returns
  have hts := atoms_spec (ws := wsX0_timeDone) B.pre
  have hown : s.vm.findClass RX0 = some m.cls := findClass_of_methodNamed B.named
  have hlocks := B.notSynchronized
  have hK := hE.2.1
  have hS : va_S (fun q => h0 ≤ q) s.heap s.heap [] := va_S.rf
  have hl := lv_entry ([.ref (G (20 + u))]) (n := 1) (Nat.le_of_ble_eq_true rfl)
  rw [lg_entry_eq]
  generalize (lg_sl ([.ref (G (20 + u))]) ++ List.replicate (1 - (lg_sl ([.ref (G (20 + u))])).length) Slot.unset).toArray = ls at hl ⊢
  have hl : lv_has ls 1 [(0, .ref (G (20 + u)))] := hl
  have inX0 : ∀ w ∈ wsX00, w ∈ wsX0_timeDone := by decide +kernel
  refine lv_aload_n hx hb dX0_timeDone_0 rfl (lv_at hl 0 rfl) ?_
  refine va_get (D := D) (ci := 1) (v := .int (nI (c 9 u))) (C := RX0) (T := TX0) (N := 13) hx hb hts inX0 hown hK hP (20 + u) (Q_u hRc (by first | omega | decide | assumption)) rfl 9 (by decide) (hts (.fieldLink RX0 38 "BootStage$Unit" "state" "I") (by decide +kernel)) (fun _ h9 => h9) rfl dX0_timeDone_1 ?_
  refine lv_iconst (v := nI 2) hx hb dX0_timeDone_4 (by decide) ?_
  refine n_icmp_eq (tgt := 16) hx hb dX0_timeDone_5 (by decide) (hB _ _ (by decide)) (by decide) (fun c_5 => ?_) (fun c_5 => ?_)
  · refine lv_aload_n hx hb dX0_timeDone_16 rfl (lv_at hl 0 rfl) ?_
    refine va_get (D := D) (ci := 1) (v := .int (nI (c 12 u))) (C := RX0) (T := TX0) (N := 13) hx hb hts inX0 hown hK hP (20 + u) (Q_u hRc (by first | omega | decide | assumption)) rfl 12 (by decide) (hts (.fieldLink RX0 47 "BootStage$Unit" "learnedAtBegin" "I") (by decide +kernel)) (fun _ h9 => h9) rfl dX0_timeDone_17 ?_
    exact W.iret (v := nI (c 12 u)) hx hb hr (fun t ht hW => ⟨⟨_, (), rfl, (show nI (c 12 u) = nI (c_part c u) from by unfold c_part; first | rw [if_pos (by omega)] | rw [if_neg (by omega), if_pos (by omega)] | rw [if_neg (by omega), if_neg (by omega)]), Wr_mk hRc hRr hRo hP hD ht⟩, hS.F ht⟩) hS.2.2 dX0_timeDone_20
  · refine lv_aload_n hx hb dX0_timeDone_8 rfl (lv_at hl 0 rfl) ?_
    refine va_get (D := D) (ci := 1) (v := .int (nI (c 9 u))) (C := RX0) (T := TX0) (N := 13) hx hb hts inX0 hown hK hP (20 + u) (Q_u hRc (by first | omega | decide | assumption)) rfl 9 (by decide) (hts (.fieldLink RX0 38 "BootStage$Unit" "state" "I") (by decide +kernel)) (fun _ h9 => h9) rfl dX0_timeDone_9 ?_
    refine lv_iconst (v := nI 3) hx hb dX0_timeDone_12 (by decide) ?_
    refine n_icmp_ne (tgt := 21) hx hb dX0_timeDone_13 (by decide) (hB _ _ (by decide)) (by decide) (fun c_13 => ?_) (fun c_13 => ?_)
    · refine lv_aload_n hx hb dX0_timeDone_21 rfl (lv_at hl 0 rfl) ?_
      refine va_get (D := D) (ci := 1) (v := .int (nI (c 9 u))) (C := RX0) (T := TX0) (N := 13) hx hb hts inX0 hown hK hP (20 + u) (Q_u hRc (by first | omega | decide | assumption)) rfl 9 (by decide) (hts (.fieldLink RX0 38 "BootStage$Unit" "state" "I") (by decide +kernel)) (fun _ h9 => h9) rfl dX0_timeDone_22 ?_
      refine lv_iconst (v := nI 1) hx hb dX0_timeDone_25 (by decide) ?_
      refine n_icmp_ne (tgt := 43) hx hb dX0_timeDone_26 (by decide) (hB _ _ (by decide)) (by decide) (fun c_26 => ?_) (fun c_26 => ?_)
      · refine lv_iconst (v := nI 0) hx hb dX0_timeDone_43 (by decide) ?_
        exact W.iret (v := nI 0) hx hb hr (fun t ht hW => ⟨⟨_, (), rfl, (show nI 0 = nI (c_part c u) from by unfold c_part; first | rw [if_pos (by omega)] | rw [if_neg (by omega), if_pos (by omega)] | rw [if_neg (by omega), if_neg (by omega)]), Wr_mk hRc hRr hRo hP hD ht⟩, hS.F ht⟩) hS.2.2 dX0_timeDone_44
      · refine lv_aload_n hx hb dX0_timeDone_29 rfl (lv_at hl 0 rfl) ?_
        refine va_get (D := D) (ci := 1) (v := .int (nI (c 10 u))) (C := RX0) (T := TX0) (N := 13) hx hb hts inX0 hown hK hP (20 + u) (Q_u hRc (by first | omega | decide | assumption)) rfl 10 (by decide) (hts (.fieldLink RX0 41 "BootStage$Unit" "ticksStarting" "I") (by decide +kernel)) (fun _ h9 => h9) rfl dX0_timeDone_30 ?_
        refine lv_aload_n hx hb dX0_timeDone_33 rfl (lv_at hl 0 rfl) ?_
        refine va_get (D := D) (ci := 1) (v := .int (nI (c 12 u))) (C := RX0) (T := TX0) (N := 13) hx hb hts inX0 hown hK hP (20 + u) (Q_u hRc (by first | omega | decide | assumption)) rfl 12 (by decide) (hts (.fieldLink RX0 47 "BootStage$Unit" "learnedAtBegin" "I") (by decide +kernel)) (fun _ h9 => h9) rfl dX0_timeDone_34 ?_
        refine va_mmin hx hb (hml.trans hl.1.symm) hown (hts (.methodLink RX0 63 Lib.Math.min.name) (by decide +kernel)) (hts (.static Lib.Math.min.name) (by decide +kernel)) (hts (.initialized "java/lang/Math") (by decide +kernel)) (hts (.code Lib.Math.min.name Lib.Math.min.code 2 (some .int)) (by decide +kernel)) (Nat.le_of_ble_eq_true rfl) (Nat.le_of_ble_eq_true rfl) (Nat.le_of_ble_eq_true rfl) (Nat.le_of_ble_eq_true rfl) dX0_timeDone_37 ?_
        refine n_top (y := .int (nI (min (c 10 u) (c 12 u)))) (congrArg Value.int (nI_min (hB _ _ (by decide)) (hB _ _ (by decide)))) ?_
        refine lv_goto (tgt := 44) hx hb dX0_timeDone_40 (by decide) ?_
        exact W.iret (v := nI (min (c 10 u) (c 12 u))) hx hb hr (fun t ht hW => ⟨⟨_, (), rfl, (show nI (min (c 10 u) (c 12 u)) = nI (c_part c u) from by unfold c_part; first | rw [if_pos (by omega)] | rw [if_neg (by omega), if_pos (by omega)] | rw [if_neg (by omega), if_neg (by omega)]), Wr_mk hRc hRr hRo hP hD ht⟩, hS.F ht⟩) hS.2.2 dX0_timeDone_44
    · refine lv_aload_n hx hb dX0_timeDone_16 rfl (lv_at hl 0 rfl) ?_
      refine va_get (D := D) (ci := 1) (v := .int (nI (c 12 u))) (C := RX0) (T := TX0) (N := 13) hx hb hts inX0 hown hK hP (20 + u) (Q_u hRc (by first | omega | decide | assumption)) rfl 12 (by decide) (hts (.fieldLink RX0 47 "BootStage$Unit" "learnedAtBegin" "I") (by decide +kernel)) (fun _ h9 => h9) rfl dX0_timeDone_17 ?_
      exact W.iret (v := nI (c 12 u)) hx hb hr (fun t ht hW => ⟨⟨_, (), rfl, (show nI (c 12 u) = nI (c_part c u) from by unfold c_part; first | rw [if_pos (by omega)] | rw [if_neg (by omega), if_pos (by omega)] | rw [if_neg (by omega), if_neg (by omega)]), Wr_mk hRc hRr hRo hP hD ht⟩, hS.F ht⟩) hS.2.2 dX0_timeDone_20
end
section
set_option maxHeartbeats 4000000 in
set_option maxRecDepth 100000 in
theorem k_X2_contains (l : Launch) (D : va_G) (G : Nat → Nat) (h0 : Nat) (c r : Nat → Nat → Nat) (o : Nat) (f u : Nat) (hu : u < 20) : Met l yX2_contains wsX2_contains ({ frames := 1, cells := 0, slots := 0, locals := 20 } : Room) (va_Pc [.ref (G 0), .int (nI f), .ref (G (20 + u))] (fun U => Pr D G h0 c r o U)) (va_Qi (fun (v9 : Int32) (_ : Unit) => v9 = nI (bN (f.testBit u = true))) (fun _ t => Wr D G h0 c r o t) (fun q => h0 ≤ q)) 0 0 (fun q => h0 ≤ q) := by
  refine Met.ofW (cc := cX2_contains) (maxL := 3) (ret := (some .boolean)) (by decide) rfl ?_
  intro p e s m args below meth cd s₁ B hml hv
  obtain ⟨rfl, hE, wl, hRc, hRr, hRo, hP, hD⟩ := hv
  have hx := B.exec
  have hb := B.bytes
  have hr := B.returns
  have hts := atoms_spec (ws := wsX2_contains) B.pre
  have hown : s.vm.findClass RX2 = some m.cls := findClass_of_methodNamed B.named
  have hlocks := B.notSynchronized
  have hK := hE.2.1
  have hS : va_S (fun q => h0 ≤ q) s.heap s.heap [] := va_S.rf
  have hl := lv_entry ([.ref (G 0), .int (nI f), .ref (G (20 + u))]) (n := 3) (Nat.le_of_ble_eq_true rfl)
  rw [lg_entry_eq]
  generalize (lg_sl ([.ref (G 0), .int (nI f), .ref (G (20 + u))]) ++ List.replicate (3 - (lg_sl ([.ref (G 0), .int (nI f), .ref (G (20 + u))])).length) Slot.unset).toArray = ls at hl ⊢
  have hl : lv_has ls 3 [(0, .ref (G 0)), (1, .int (nI f)), (2, .ref (G (20 + u)))] := hl
  refine lv_iload_n hx hb dX2_contains_0 rfl (lv_at hl 1 rfl) ?_
  refine lv_aload_n hx hb dX2_contains_1 rfl (lv_at hl 2 rfl) ?_
  refine y_calli (va_runV (As := []) (rest := [.int (nI f)]) ⟨hx, hb, hml, hown, hts⟩ (k_X0_bit l D G h0 c r o u (by first | omega | assumption)) (cwV 0 hts gX2_contains_X0_bit rfl rfl rfl (by decide +kernel) ⟨Nat.le_of_ble_eq_true rfl, Nat.le_of_ble_eq_true rfl⟩) ⟨fun a U g mk q => ⟨q.1, Pr_cg q.2⟩, va_recv (ci := 1) (q0 := 20 + u) hK hP rfl (Q_u hRc (by first | omega | decide | assumption)), fun U hU hW => ⟨rfl, Pr_mk hE hRc hRr hRo hP hD hS hU hW⟩⟩ rfl rfl hl.1 rfl (lv_room (Nat.le_of_ble_eq_true rfl)) dX2_contains_2 ⟨Nat.le_of_ble_eq_true rfl, Nat.le_of_ble_eq_true rfl⟩) hS (fun v _ H locs wl hv hRc hRr hRo hP hD hS => ?_)
  refine n_top (y := .int (nI (2 ^ u))) (congrArg Value.int hv) ?_
  clear hv v
  refine n_iand hx hb dX2_contains_5 ?_
  refine n_if_eq (tgt := 13) hx hb dX2_contains_6 (by decide) (Nat.lt_of_le_of_lt Nat.and_le_right (Nat.pow_lt_pow_right (by decide) (by omega))) (fun c_6 => ?_) (fun c_6 => ?_)
  · refine lv_iconst (v := nI 0) hx hb dX2_contains_13 (by decide) ?_
    exact W.zret (v := nI 0) (ty := .boolean) hx hb hr (nb_le (by first | exact bN_le _ | decide | omega | assumption)) (fun t ht hW => ⟨⟨_, (), rfl, (show nI 0 = nI (bN (f.testBit u = true)) from by exact congrArg nI (bN_f (and_bit.mp c_6)).symm), Wr_mk hRc hRr hRo hP hD ht⟩, hS.F ht⟩) hS.2.2 dX2_contains_14
  · refine lv_iconst (v := nI 1) hx hb dX2_contains_9 (by decide) ?_
    refine lv_goto (tgt := 14) hx hb dX2_contains_10 (by decide) ?_
    exact W.zret (v := nI 1) (ty := .boolean) hx hb hr (nb_le (by first | exact bN_le _ | decide | omega | assumption)) (fun t ht hW => ⟨⟨_, (), rfl, (show nI 1 = nI (bN (f.testBit u = true)) from by exact congrArg nI (bN_t (Classical.byContradiction (fun z => absurd (and_bit.mpr z) (by omega)))).symm), Wr_mk hRc hRr hRo hP hD ht⟩, hS.F ht⟩) hS.2.2 dX2_contains_14
set_option maxHeartbeats 4000000 in
set_option maxRecDepth 100000 in
theorem k_X2_countStarting (l : Launch) (D : va_G) (G : Nat → Nat) (h0 : Nat) (c r : Nat → Nat → Nat) (o : Nat) (hI : IC c) : Met l yX2_countStarting wsX2_countStarting ({ frames := 0, cells := 0, slots := 0, locals := 0 } : Room) (va_Pc [.ref (G 0)] (fun U => Pr D G h0 c r o U)) (va_Qi (fun (v9 : Int32) (_ : Unit) => v9 = nI (ct (fun w => c 9 w = 1) (c 20 1))) (fun _ t => Wr D G h0 c r o t) (fun q => h0 ≤ q)) 0 0 (fun q => h0 ≤ q) := by
  refine Met.ofW (cc := cX2_countStarting) (maxL := 3) (ret := (some .int)) (by decide) rfl ?_
  intro p e s m args below meth cd s₁ B hml hv
  obtain ⟨rfl, hE, wl, hRc, hRr, hRo, hP, hD⟩ := hv
  have hx := B.exec
  have hb := B.bytes
  have hr := B.returns
  have hts := atoms_spec (ws := wsX2_countStarting) B.pre
  have hown : s.vm.findClass RX2 = some m.cls := findClass_of_methodNamed B.named
  have hlocks := B.notSynchronized
  have hK := hE.2.1
  have hS : va_S (fun q => h0 ≤ q) s.heap s.heap [] := va_S.rf
  have hl := lv_entry ([.ref (G 0)]) (n := 3) (Nat.le_of_ble_eq_true rfl)
  rw [lg_entry_eq]
  generalize (lg_sl ([.ref (G 0)]) ++ List.replicate (3 - (lg_sl ([.ref (G 0)])).length) Slot.unset).toArray = ls at hl ⊢
  have hl : lv_has ls 3 [(0, .ref (G 0))] := hl
  have inX0 : ∀ w ∈ wsX00, w ∈ wsX2_countStarting := by decide +kernel
  have inX2 : ∀ w ∈ wsX20, w ∈ wsX2_countStarting := by decide +kernel
  obtain ⟨Q, hQ⟩ : ∃ Q, Q = MQ below (va_Qi (fun (v9 : Int32) (_ : Unit) => v9 = nI (ct (fun w => c 9 w = 1) (c 20 1))) (fun _ t => Wr D G h0 c r o t) (fun q => h0 ≤ q)) ([.ref (G 0)] : List Value).toArray s 0 0 (fun q => h0 ≤ q) := ⟨_, rfl⟩
  rw [← hQ]
  have hB := IC_B hI
  have hn := IC_n hI
  have hs := IC_s hI
  refine lv_iconst (v := nI 0) hx hb dX2_countStarting_0 (by decide) ?_
  refine lv_istore_n (lv' := [(1, .int (nI 0)), (0, .ref (G 0))]) hx hb dX2_countStarting_1 rfl hl (by decide) rfl (fun ls hl => ?_)
  refine lv_iconst (v := nI 0) hx hb dX2_countStarting_2 (by decide) ?_
  refine lv_istore_n (lv' := [(2, .int (nI 0)), (1, .int (nI 0)), (0, .ref (G 0))]) hx hb dX2_countStarting_3 rfl hl (by decide) rfl (fun ls hl => ?_)
  have L4 : ∀ (d i : Nat), c 20 1 - i < d → i ≤ c 20 1 → ∀ (H : Heap) (locs : List Loc) (wl : va_W) (ls : Array Slot), Rc G c wl → Rr G r wl → Ro G o wl → va_P D vwCl wl H → va_D (fun q => h0 ≤ q) wl → va_S (fun q => h0 ≤ q) s.heap H locs → lv_has ls 3 [(2, .int (nI i)), (1, .int (nI (ct (fun w => c 9 w = 1) i))), (0, .ref (G 0))] → W p l e (headSpec wsX2_countStarting ({ frames := 0, cells := 0, slots := 0, locals := 0 } : Room)).room s m ([.ref (G 0)] : List Value).toArray below meth cd H locs 0 0 Q (F0 m 4 ls []) := by
    intro d4
    induction d4 with
    | zero => intro i hd; exact absurd hd (Nat.not_lt_zero _)
    | succ d4 ih4 =>
      intro i hd hi  H locs wl ls hRc hRr hRo hP hD hS hl
      refine lv_iload_n hx hb dX2_countStarting_4 rfl (lv_at hl 0 rfl) ?_
      refine lv_aload_n hx hb dX2_countStarting_5 rfl (lv_at hl 2 rfl) ?_
      refine va_get (D := D) (ci := 3) (v := .int (nI (c 20 1))) (C := RX2) (T := TX2) (N := 7) hx hb hts inX2 hown hK hP 0 (Q_o hRc) rfl 1 (by decide) (hts (.fieldLink RX2 15 "BootStage" "count" "I") (by decide +kernel)) (fun _ h9 => h9) rfl dX2_countStarting_6 ?_
      refine n_icmp_ge (tgt := 39) hx hb dX2_countStarting_9 (by decide) (by omega) (hB _ _ (by decide)) (fun c_9 => ?_) (fun c_9 => ?_)
      · refine lv_iload_n hx hb dX2_countStarting_39 rfl (lv_at hl 1 rfl) ?_
        rw [hQ]
        exact W.iret (v := nI (ct (fun w => c 9 w = 1) i)) hx hb hr (fun t ht hW => ⟨⟨_, (), rfl, (show nI (ct (fun w => c 9 w = 1) i) = nI (ct (fun w => c 9 w = 1) (c 20 1)) from by rw [show i = c 20 1 by omega]), Wr_mk hRc hRr hRo hP hD ht⟩, hS.F ht⟩) hS.2.2 dX2_countStarting_40
      · refine lv_iload_n hx hb dX2_countStarting_12 rfl (lv_at hl 1 rfl) ?_
        refine lv_aload_n hx hb dX2_countStarting_13 rfl (lv_at hl 2 rfl) ?_
        refine va_get (D := D) (ci := 3) (v := .ref (G 1)) (C := RX2) (T := TX2) (N := 7) hx hb hts inX2 hown hK hP 0 (Q_o hRc) rfl 0 (by decide) (hts (.fieldLink RX2 11 "BootStage" "rows" "[LBootStage$Unit;") (by decide +kernel)) (fun _ h9 => h9) rfl dX2_countStarting_14 ?_
        refine lv_iload_n hx hb dX2_countStarting_17 rfl (lv_at hl 0 rfl) ?_
        refine x_row hx hb hK hP hRc (by first | omega | decide | assumption) dX2_countStarting_18 ?_
        refine va_get (D := D) (ci := 1) (v := .int (nI (c 9 i))) (C := RX0) (T := TX0) (N := 13) hx hb hts inX0 hown hK hP (20 + i) (Q_u hRc (by first | omega | decide | assumption)) rfl 9 (by decide) (hts (.fieldLink RX2 136 "BootStage$Unit" "state" "I") (by decide +kernel)) (fun _ h9 => h9) rfl dX2_countStarting_19 ?_
        refine lv_iconst (v := nI 1) hx hb dX2_countStarting_22 (by decide) ?_
        refine n_icmp_ne (tgt := 30) hx hb dX2_countStarting_23 (by decide) (hB _ _ (by decide)) (by decide) (fun c_23 => ?_) (fun c_23 => ?_)
        · refine lv_iconst (v := nI 0) hx hb dX2_countStarting_30 (by decide) ?_
          refine n_iadd hx hb dX2_countStarting_31 ?_
          refine lv_istore_n (lv' := [(1, .int (nI ((ct (fun w => c 9 w = 1) i) + 0))), (2, .int (nI i)), (0, .ref (G 0))]) hx hb dX2_countStarting_32 rfl hl (by decide) rfl (fun ls hl => ?_)
          refine lv_iinc (v := nI (i + 1)) (lv' := [(2, .int (nI (i + 1))), (1, .int (nI ((ct (fun w => c 9 w = 1) i) + 0))), (0, .ref (G 0))]) hx hb dX2_countStarting_33 hl (k := 1) rfl (nI_add i 1) (by decide) rfl (fun ls hl => ?_)
          refine lv_goto (tgt := 4) hx hb dX2_countStarting_36 (by decide) ?_
          exact ih4 (i + 1) (by omega) (by omega)   _ _ _ _ hRc hRr hRo hP hD hS (show lv_has ls 3 [(2, .int (nI (i + 1))), (1, .int (nI (ct (fun w => c 9 w = 1) (i + 1)))), (0, .ref (G 0))] from by rw [show ((.int (nI (ct (fun w => c 9 w = 1) (i + 1))) : Value)) = .int (nI ((ct (fun w => c 9 w = 1) i) + 0)) from by first | exact congrArg (fun z => Value.int (nI z)) (ct_t (by assumption)) | exact congrArg (fun z => Value.int (nI z)) (ct_f (by assumption))]; exact lv_sub hl [0, 1, 2] rfl)
        · refine lv_iconst (v := nI 1) hx hb dX2_countStarting_26 (by decide) ?_
          refine lv_goto (tgt := 31) hx hb dX2_countStarting_27 (by decide) ?_
          refine n_iadd hx hb dX2_countStarting_31 ?_
          refine lv_istore_n (lv' := [(1, .int (nI ((ct (fun w => c 9 w = 1) i) + 1))), (2, .int (nI i)), (0, .ref (G 0))]) hx hb dX2_countStarting_32 rfl hl (by decide) rfl (fun ls hl => ?_)
          refine lv_iinc (v := nI (i + 1)) (lv' := [(2, .int (nI (i + 1))), (1, .int (nI ((ct (fun w => c 9 w = 1) i) + 1))), (0, .ref (G 0))]) hx hb dX2_countStarting_33 hl (k := 1) rfl (nI_add i 1) (by decide) rfl (fun ls hl => ?_)
          refine lv_goto (tgt := 4) hx hb dX2_countStarting_36 (by decide) ?_
          exact ih4 (i + 1) (by omega) (by omega)   _ _ _ _ hRc hRr hRo hP hD hS (show lv_has ls 3 [(2, .int (nI (i + 1))), (1, .int (nI (ct (fun w => c 9 w = 1) (i + 1)))), (0, .ref (G 0))] from by rw [show ((.int (nI (ct (fun w => c 9 w = 1) (i + 1))) : Value)) = .int (nI ((ct (fun w => c 9 w = 1) i) + 1)) from by first | exact congrArg (fun z => Value.int (nI z)) (ct_t (by assumption)) | exact congrArg (fun z => Value.int (nI z)) (ct_f (by assumption))]; exact lv_sub hl [0, 1, 2] rfl)
  exact L4 _ 0 (Nat.lt_succ_self _) (by omega)   _ _ _ _ hRc hRr hRo hP hD hS (show lv_has ls 3 [(2, .int (nI 0)), (1, .int (nI (ct (fun w => c 9 w = 1) 0))), (0, .ref (G 0))] from by rw [show ((.int (nI (ct (fun w => c 9 w = 1) 0)) : Value)) = .int (nI 0) from by rfl]; exact lv_sub hl [0, 1, 2] rfl)
set_option maxHeartbeats 4000000 in
set_option maxRecDepth 100000 in
theorem k_X2_metNeeds (l : Launch) (D : va_G) (G : Nat → Nat) (h0 : Nat) (c r : Nat → Nat → Nat) (o : Nat) (hI : IC c) : Met l yX2_metNeeds wsX2_metNeeds ({ frames := 2, cells := 0, slots := 0, locals := 40 } : Room) (va_Pc [.ref (G 0)] (fun U => Pr D G h0 c r o U)) (va_Qi (fun (v9 : Int32) (_ : Unit) => v9 = nI (mk (metP (c 9) (c 6)) (c 20 1))) (fun _ t => Wr D G h0 c r o t) (fun q => h0 ≤ q)) 0 0 (fun q => h0 ≤ q) := by
  refine Met.ofW (cc := cX2_metNeeds) (maxL := 3) (ret := (some .int)) (by decide) rfl ?_
  intro p e s m args below meth cd s₁ B hml hv
  obtain ⟨rfl, hE, wl, hRc, hRr, hRo, hP, hD⟩ := hv
  have hx := B.exec
  have hb := B.bytes
  have hr := B.returns
  have hts := atoms_spec (ws := wsX2_metNeeds) B.pre
  have hown : s.vm.findClass RX2 = some m.cls := findClass_of_methodNamed B.named
  have hlocks := B.notSynchronized
  have hK := hE.2.1
  have hS : va_S (fun q => h0 ≤ q) s.heap s.heap [] := va_S.rf
  have hl := lv_entry ([.ref (G 0)]) (n := 3) (Nat.le_of_ble_eq_true rfl)
  rw [lg_entry_eq]
  generalize (lg_sl ([.ref (G 0)]) ++ List.replicate (3 - (lg_sl ([.ref (G 0)])).length) Slot.unset).toArray = ls at hl ⊢
  have hl : lv_has ls 3 [(0, .ref (G 0))] := hl
  have inX2 : ∀ w ∈ wsX20, w ∈ wsX2_metNeeds := by decide +kernel
  obtain ⟨Q, hQ⟩ : ∃ Q, Q = MQ below (va_Qi (fun (v9 : Int32) (_ : Unit) => v9 = nI (mk (metP (c 9) (c 6)) (c 20 1))) (fun _ t => Wr D G h0 c r o t) (fun q => h0 ≤ q)) ([.ref (G 0)] : List Value).toArray s 0 0 (fun q => h0 ≤ q) := ⟨_, rfl⟩
  rw [← hQ]
  have hB := IC_B hI
  have hn := IC_n hI
  have hs := IC_s hI
  refine lv_iconst (v := nI 0) hx hb dX2_metNeeds_0 (by decide) ?_
  refine lv_istore_n (lv' := [(1, .int (nI 0)), (0, .ref (G 0))]) hx hb dX2_metNeeds_1 rfl hl (by decide) rfl (fun ls hl => ?_)
  refine lv_iconst (v := nI 0) hx hb dX2_metNeeds_2 (by decide) ?_
  refine lv_istore_n (lv' := [(2, .int (nI 0)), (1, .int (nI 0)), (0, .ref (G 0))]) hx hb dX2_metNeeds_3 rfl hl (by decide) rfl (fun ls hl => ?_)
  have L4 : ∀ (d i : Nat), c 20 1 - i < d → i ≤ c 20 1 → ∀ (H : Heap) (locs : List Loc) (wl : va_W) (ls : Array Slot), Rc G c wl → Rr G r wl → Ro G o wl → va_P D vwCl wl H → va_D (fun q => h0 ≤ q) wl → va_S (fun q => h0 ≤ q) s.heap H locs → lv_has ls 3 [(2, .int (nI i)), (1, .int (nI (mk (metP (c 9) (c 6)) i))), (0, .ref (G 0))] → W p l e (headSpec wsX2_metNeeds ({ frames := 2, cells := 0, slots := 0, locals := 40 } : Room)).room s m ([.ref (G 0)] : List Value).toArray below meth cd H locs 0 0 Q (F0 m 4 ls []) := by
    intro d4
    induction d4 with
    | zero => intro i hd; exact absurd hd (Nat.not_lt_zero _)
    | succ d4 ih4 =>
      intro i hd hi  H locs wl ls hRc hRr hRo hP hD hS hl
      refine lv_iload_n hx hb dX2_metNeeds_4 rfl (lv_at hl 0 rfl) ?_
      refine lv_aload_n hx hb dX2_metNeeds_5 rfl (lv_at hl 2 rfl) ?_
      refine va_get (D := D) (ci := 3) (v := .int (nI (c 20 1))) (C := RX2) (T := TX2) (N := 7) hx hb hts inX2 hown hK hP 0 (Q_o hRc) rfl 1 (by decide) (hts (.fieldLink RX2 15 "BootStage" "count" "I") (by decide +kernel)) (fun _ h9 => h9) rfl dX2_metNeeds_6 ?_
      refine n_icmp_ge (tgt := 46) hx hb dX2_metNeeds_9 (by decide) (by omega) (hB _ _ (by decide)) (fun c_9 => ?_) (fun c_9 => ?_)
      · refine lv_iload_n hx hb dX2_metNeeds_46 rfl (lv_at hl 1 rfl) ?_
        rw [hQ]
        exact W.iret (v := nI (mk (metP (c 9) (c 6)) i)) hx hb hr (fun t ht hW => ⟨⟨_, (), rfl, (show nI (mk (metP (c 9) (c 6)) i) = nI (mk (metP (c 9) (c 6)) (c 20 1)) from by rw [show i = c 20 1 by omega]), Wr_mk hRc hRr hRo hP hD ht⟩, hS.F ht⟩) hS.2.2 dX2_metNeeds_47
      · refine lv_iload_n hx hb dX2_metNeeds_12 rfl (lv_at hl 1 rfl) ?_
        refine lv_aload_n hx hb dX2_metNeeds_13 rfl (lv_at hl 2 rfl) ?_
        refine va_get (D := D) (ci := 3) (v := .ref (G 1)) (C := RX2) (T := TX2) (N := 7) hx hb hts inX2 hown hK hP 0 (Q_o hRc) rfl 0 (by decide) (hts (.fieldLink RX2 11 "BootStage" "rows" "[LBootStage$Unit;") (by decide +kernel)) (fun _ h9 => h9) rfl dX2_metNeeds_14 ?_
        refine lv_iload_n hx hb dX2_metNeeds_17 rfl (lv_at hl 0 rfl) ?_
        refine x_row hx hb hK hP hRc (by first | omega | decide | assumption) dX2_metNeeds_18 ?_
        refine y_calli (va_runV (As := []) (rest := [.int (nI (mk (metP (c 9) (c 6)) i))]) ⟨hx, hb, hml, hown, hts⟩ (k_X0_isNeedMet l D G h0 c r o i (by first | omega | assumption) hB hs) (cwV 0 hts gX2_metNeeds_X0_isNeedMet rfl rfl rfl (by decide +kernel) ⟨Nat.le_of_ble_eq_true rfl, Nat.le_of_ble_eq_true rfl⟩) ⟨fun a U g mk q => ⟨q.1, Pr_cg q.2⟩, va_recv (ci := 1) (q0 := 20 + i) hK hP rfl (Q_u hRc (by first | omega | decide | assumption)), fun U hU hW => ⟨rfl, Pr_mk hE hRc hRr hRo hP hD hS hU hW⟩⟩ rfl rfl hl.1 rfl (lv_room (Nat.le_of_ble_eq_true rfl)) dX2_metNeeds_19 ⟨Nat.le_of_ble_eq_true rfl, Nat.le_of_ble_eq_true rfl⟩) hS (fun v _ H locs wl hv hRc hRr hRo hP hD hS => ?_)
        refine n_top (y := .int (nI (bN (metP (c 9) (c 6) i)))) (congrArg Value.int hv) ?_
        clear hv v
        refine n_ifb_eq (tgt := 37) hx hb dX2_metNeeds_22 (by decide) (fun c_22 => ?_) (fun c_22 => ?_)
        · refine lv_iconst (v := nI 0) hx hb dX2_metNeeds_37 (by decide) ?_
          refine n_ior hx hb dX2_metNeeds_38 ?_
          refine lv_istore_n (lv' := [(1, .int (nI ((mk (metP (c 9) (c 6)) i) ||| 0))), (2, .int (nI i)), (0, .ref (G 0))]) hx hb dX2_metNeeds_39 rfl hl (by decide) rfl (fun ls hl => ?_)
          refine lv_iinc (v := nI (i + 1)) (lv' := [(2, .int (nI (i + 1))), (1, .int (nI ((mk (metP (c 9) (c 6)) i) ||| 0))), (0, .ref (G 0))]) hx hb dX2_metNeeds_40 hl (k := 1) rfl (nI_add i 1) (by decide) rfl (fun ls hl => ?_)
          refine lv_goto (tgt := 4) hx hb dX2_metNeeds_43 (by decide) ?_
          exact ih4 (i + 1) (by omega) (by omega)   _ _ _ _ hRc hRr hRo hP hD hS (show lv_has ls 3 [(2, .int (nI (i + 1))), (1, .int (nI (mk (metP (c 9) (c 6)) (i + 1)))), (0, .ref (G 0))] from by rw [show ((.int (nI (mk (metP (c 9) (c 6)) (i + 1))) : Value)) = .int (nI ((mk (metP (c 9) (c 6)) i) ||| 0)) from by first | exact congrArg (fun z => Value.int (nI z)) (mk_t (by assumption)) | exact congrArg (fun z => Value.int (nI z)) ((mk_f (by assumption)).trans (Nat.or_zero _).symm)]; exact lv_sub hl [0, 1, 2] rfl)
        · refine lv_aload_n hx hb dX2_metNeeds_25 rfl (lv_at hl 2 rfl) ?_
          refine va_get (D := D) (ci := 3) (v := .ref (G 1)) (C := RX2) (T := TX2) (N := 7) hx hb hts inX2 hown hK hP 0 (Q_o hRc) rfl 0 (by decide) (hts (.fieldLink RX2 11 "BootStage" "rows" "[LBootStage$Unit;") (by decide +kernel)) (fun _ h9 => h9) rfl dX2_metNeeds_26 ?_
          refine lv_iload_n hx hb dX2_metNeeds_29 rfl (lv_at hl 0 rfl) ?_
          refine x_row hx hb hK hP hRc (by first | omega | decide | assumption) dX2_metNeeds_30 ?_
          refine y_calli (va_runV (As := []) (rest := [.int (nI (mk (metP (c 9) (c 6)) i))]) ⟨hx, hb, hml, hown, hts⟩ (k_X0_bit l D G h0 c r o i (by first | omega | assumption)) (cwV 0 hts gX2_metNeeds_X0_bit rfl rfl rfl (by decide +kernel) ⟨Nat.le_of_ble_eq_true rfl, Nat.le_of_ble_eq_true rfl⟩) ⟨fun a U g mk q => ⟨q.1, Pr_cg q.2⟩, va_recv (ci := 1) (q0 := 20 + i) hK hP rfl (Q_u hRc (by first | omega | decide | assumption)), fun U hU hW => ⟨rfl, Pr_mk hE hRc hRr hRo hP hD hS hU hW⟩⟩ rfl rfl hl.1 rfl (lv_room (Nat.le_of_ble_eq_true rfl)) dX2_metNeeds_31 ⟨Nat.le_of_ble_eq_true rfl, Nat.le_of_ble_eq_true rfl⟩) hS (fun v _ H locs wl hv hRc hRr hRo hP hD hS => ?_)
          refine n_top (y := .int (nI (2 ^ i))) (congrArg Value.int hv) ?_
          clear hv v
          refine lv_goto (tgt := 38) hx hb dX2_metNeeds_34 (by decide) ?_
          refine n_ior hx hb dX2_metNeeds_38 ?_
          refine lv_istore_n (lv' := [(1, .int (nI ((mk (metP (c 9) (c 6)) i) ||| (2 ^ i)))), (2, .int (nI i)), (0, .ref (G 0))]) hx hb dX2_metNeeds_39 rfl hl (by decide) rfl (fun ls hl => ?_)
          refine lv_iinc (v := nI (i + 1)) (lv' := [(2, .int (nI (i + 1))), (1, .int (nI ((mk (metP (c 9) (c 6)) i) ||| (2 ^ i)))), (0, .ref (G 0))]) hx hb dX2_metNeeds_40 hl (k := 1) rfl (nI_add i 1) (by decide) rfl (fun ls hl => ?_)
          refine lv_goto (tgt := 4) hx hb dX2_metNeeds_43 (by decide) ?_
          exact ih4 (i + 1) (by omega) (by omega)   _ _ _ _ hRc hRr hRo hP hD hS (show lv_has ls 3 [(2, .int (nI (i + 1))), (1, .int (nI (mk (metP (c 9) (c 6)) (i + 1)))), (0, .ref (G 0))] from by rw [show ((.int (nI (mk (metP (c 9) (c 6)) (i + 1))) : Value)) = .int (nI ((mk (metP (c 9) (c 6)) i) ||| (2 ^ i))) from by first | exact congrArg (fun z => Value.int (nI z)) (mk_t (by assumption)) | exact congrArg (fun z => Value.int (nI z)) ((mk_f (by assumption)).trans (Nat.or_zero _).symm)]; exact lv_sub hl [0, 1, 2] rfl)
  exact L4 _ 0 (Nat.lt_succ_self _) (by omega)   _ _ _ _ hRc hRr hRo hP hD hS (show lv_has ls 3 [(2, .int (nI 0)), (1, .int (nI (mk (metP (c 9) (c 6)) 0))), (0, .ref (G 0))] from by rw [show ((.int (nI (mk (metP (c 9) (c 6)) 0)) : Value)) = .int (nI 0) from by rfl]; exact lv_sub hl [0, 1, 2] rfl)
set_option maxHeartbeats 4000000 in
set_option maxRecDepth 100000 in
theorem k_X2_lostNeeds (l : Launch) (D : va_G) (G : Nat → Nat) (h0 : Nat) (c r : Nat → Nat → Nat) (o : Nat) (hI : IC c) : Met l yX2_lostNeeds wsX2_lostNeeds ({ frames := 2, cells := 0, slots := 0, locals := 40 } : Room) (va_Pc [.ref (G 0)] (fun U => Pr D G h0 c r o U)) (va_Qi (fun (v9 : Int32) (_ : Unit) => v9 = nI (mk (lostP (c 9) (c 6)) (c 20 1))) (fun _ t => Wr D G h0 c r o t) (fun q => h0 ≤ q)) 0 0 (fun q => h0 ≤ q) := by
  refine Met.ofW (cc := cX2_lostNeeds) (maxL := 3) (ret := (some .int)) (by decide) rfl ?_
  intro p e s m args below meth cd s₁ B hml hv
  obtain ⟨rfl, hE, wl, hRc, hRr, hRo, hP, hD⟩ := hv
  have hx := B.exec
  have hb := B.bytes
  have hr := B.returns
  have hts := atoms_spec (ws := wsX2_lostNeeds) B.pre
  have hown : s.vm.findClass RX2 = some m.cls := findClass_of_methodNamed B.named
  have hlocks := B.notSynchronized
  have hK := hE.2.1
  have hS : va_S (fun q => h0 ≤ q) s.heap s.heap [] := va_S.rf
  have hl := lv_entry ([.ref (G 0)]) (n := 3) (Nat.le_of_ble_eq_true rfl)
  rw [lg_entry_eq]
  generalize (lg_sl ([.ref (G 0)]) ++ List.replicate (3 - (lg_sl ([.ref (G 0)])).length) Slot.unset).toArray = ls at hl ⊢
  have hl : lv_has ls 3 [(0, .ref (G 0))] := hl
  have inX2 : ∀ w ∈ wsX20, w ∈ wsX2_lostNeeds := by decide +kernel
  obtain ⟨Q, hQ⟩ : ∃ Q, Q = MQ below (va_Qi (fun (v9 : Int32) (_ : Unit) => v9 = nI (mk (lostP (c 9) (c 6)) (c 20 1))) (fun _ t => Wr D G h0 c r o t) (fun q => h0 ≤ q)) ([.ref (G 0)] : List Value).toArray s 0 0 (fun q => h0 ≤ q) := ⟨_, rfl⟩
  rw [← hQ]
  have hB := IC_B hI
  have hn := IC_n hI
  have hs := IC_s hI
  refine lv_iconst (v := nI 0) hx hb dX2_lostNeeds_0 (by decide) ?_
  refine lv_istore_n (lv' := [(1, .int (nI 0)), (0, .ref (G 0))]) hx hb dX2_lostNeeds_1 rfl hl (by decide) rfl (fun ls hl => ?_)
  refine lv_iconst (v := nI 0) hx hb dX2_lostNeeds_2 (by decide) ?_
  refine lv_istore_n (lv' := [(2, .int (nI 0)), (1, .int (nI 0)), (0, .ref (G 0))]) hx hb dX2_lostNeeds_3 rfl hl (by decide) rfl (fun ls hl => ?_)
  have L4 : ∀ (d i : Nat), c 20 1 - i < d → i ≤ c 20 1 → ∀ (H : Heap) (locs : List Loc) (wl : va_W) (ls : Array Slot), Rc G c wl → Rr G r wl → Ro G o wl → va_P D vwCl wl H → va_D (fun q => h0 ≤ q) wl → va_S (fun q => h0 ≤ q) s.heap H locs → lv_has ls 3 [(2, .int (nI i)), (1, .int (nI (mk (lostP (c 9) (c 6)) i))), (0, .ref (G 0))] → W p l e (headSpec wsX2_lostNeeds ({ frames := 2, cells := 0, slots := 0, locals := 40 } : Room)).room s m ([.ref (G 0)] : List Value).toArray below meth cd H locs 0 0 Q (F0 m 4 ls []) := by
    intro d4
    induction d4 with
    | zero => intro i hd; exact absurd hd (Nat.not_lt_zero _)
    | succ d4 ih4 =>
      intro i hd hi  H locs wl ls hRc hRr hRo hP hD hS hl
      refine lv_iload_n hx hb dX2_lostNeeds_4 rfl (lv_at hl 0 rfl) ?_
      refine lv_aload_n hx hb dX2_lostNeeds_5 rfl (lv_at hl 2 rfl) ?_
      refine va_get (D := D) (ci := 3) (v := .int (nI (c 20 1))) (C := RX2) (T := TX2) (N := 7) hx hb hts inX2 hown hK hP 0 (Q_o hRc) rfl 1 (by decide) (hts (.fieldLink RX2 15 "BootStage" "count" "I") (by decide +kernel)) (fun _ h9 => h9) rfl dX2_lostNeeds_6 ?_
      refine n_icmp_ge (tgt := 46) hx hb dX2_lostNeeds_9 (by decide) (by omega) (hB _ _ (by decide)) (fun c_9 => ?_) (fun c_9 => ?_)
      · refine lv_iload_n hx hb dX2_lostNeeds_46 rfl (lv_at hl 1 rfl) ?_
        rw [hQ]
        exact W.iret (v := nI (mk (lostP (c 9) (c 6)) i)) hx hb hr (fun t ht hW => ⟨⟨_, (), rfl, (show nI (mk (lostP (c 9) (c 6)) i) = nI (mk (lostP (c 9) (c 6)) (c 20 1)) from by rw [show i = c 20 1 by omega]), Wr_mk hRc hRr hRo hP hD ht⟩, hS.F ht⟩) hS.2.2 dX2_lostNeeds_47
      · refine lv_iload_n hx hb dX2_lostNeeds_12 rfl (lv_at hl 1 rfl) ?_
        refine lv_aload_n hx hb dX2_lostNeeds_13 rfl (lv_at hl 2 rfl) ?_
        refine va_get (D := D) (ci := 3) (v := .ref (G 1)) (C := RX2) (T := TX2) (N := 7) hx hb hts inX2 hown hK hP 0 (Q_o hRc) rfl 0 (by decide) (hts (.fieldLink RX2 11 "BootStage" "rows" "[LBootStage$Unit;") (by decide +kernel)) (fun _ h9 => h9) rfl dX2_lostNeeds_14 ?_
        refine lv_iload_n hx hb dX2_lostNeeds_17 rfl (lv_at hl 0 rfl) ?_
        refine x_row hx hb hK hP hRc (by first | omega | decide | assumption) dX2_lostNeeds_18 ?_
        refine y_calli (va_runV (As := []) (rest := [.int (nI (mk (lostP (c 9) (c 6)) i))]) ⟨hx, hb, hml, hown, hts⟩ (k_X0_isNeedLost l D G h0 c r o i (by first | omega | assumption) hB hs) (cwV 0 hts gX2_lostNeeds_X0_isNeedLost rfl rfl rfl (by decide +kernel) ⟨Nat.le_of_ble_eq_true rfl, Nat.le_of_ble_eq_true rfl⟩) ⟨fun a U g mk q => ⟨q.1, Pr_cg q.2⟩, va_recv (ci := 1) (q0 := 20 + i) hK hP rfl (Q_u hRc (by first | omega | decide | assumption)), fun U hU hW => ⟨rfl, Pr_mk hE hRc hRr hRo hP hD hS hU hW⟩⟩ rfl rfl hl.1 rfl (lv_room (Nat.le_of_ble_eq_true rfl)) dX2_lostNeeds_19 ⟨Nat.le_of_ble_eq_true rfl, Nat.le_of_ble_eq_true rfl⟩) hS (fun v _ H locs wl hv hRc hRr hRo hP hD hS => ?_)
        refine n_top (y := .int (nI (bN (lostP (c 9) (c 6) i)))) (congrArg Value.int hv) ?_
        clear hv v
        refine n_ifb_eq (tgt := 37) hx hb dX2_lostNeeds_22 (by decide) (fun c_22 => ?_) (fun c_22 => ?_)
        · refine lv_iconst (v := nI 0) hx hb dX2_lostNeeds_37 (by decide) ?_
          refine n_ior hx hb dX2_lostNeeds_38 ?_
          refine lv_istore_n (lv' := [(1, .int (nI ((mk (lostP (c 9) (c 6)) i) ||| 0))), (2, .int (nI i)), (0, .ref (G 0))]) hx hb dX2_lostNeeds_39 rfl hl (by decide) rfl (fun ls hl => ?_)
          refine lv_iinc (v := nI (i + 1)) (lv' := [(2, .int (nI (i + 1))), (1, .int (nI ((mk (lostP (c 9) (c 6)) i) ||| 0))), (0, .ref (G 0))]) hx hb dX2_lostNeeds_40 hl (k := 1) rfl (nI_add i 1) (by decide) rfl (fun ls hl => ?_)
          refine lv_goto (tgt := 4) hx hb dX2_lostNeeds_43 (by decide) ?_
          exact ih4 (i + 1) (by omega) (by omega)   _ _ _ _ hRc hRr hRo hP hD hS (show lv_has ls 3 [(2, .int (nI (i + 1))), (1, .int (nI (mk (lostP (c 9) (c 6)) (i + 1)))), (0, .ref (G 0))] from by rw [show ((.int (nI (mk (lostP (c 9) (c 6)) (i + 1))) : Value)) = .int (nI ((mk (lostP (c 9) (c 6)) i) ||| 0)) from by first | exact congrArg (fun z => Value.int (nI z)) (mk_t (by assumption)) | exact congrArg (fun z => Value.int (nI z)) ((mk_f (by assumption)).trans (Nat.or_zero _).symm)]; exact lv_sub hl [0, 1, 2] rfl)
        · refine lv_aload_n hx hb dX2_lostNeeds_25 rfl (lv_at hl 2 rfl) ?_
          refine va_get (D := D) (ci := 3) (v := .ref (G 1)) (C := RX2) (T := TX2) (N := 7) hx hb hts inX2 hown hK hP 0 (Q_o hRc) rfl 0 (by decide) (hts (.fieldLink RX2 11 "BootStage" "rows" "[LBootStage$Unit;") (by decide +kernel)) (fun _ h9 => h9) rfl dX2_lostNeeds_26 ?_
          refine lv_iload_n hx hb dX2_lostNeeds_29 rfl (lv_at hl 0 rfl) ?_
          refine x_row hx hb hK hP hRc (by first | omega | decide | assumption) dX2_lostNeeds_30 ?_
          refine y_calli (va_runV (As := []) (rest := [.int (nI (mk (lostP (c 9) (c 6)) i))]) ⟨hx, hb, hml, hown, hts⟩ (k_X0_bit l D G h0 c r o i (by first | omega | assumption)) (cwV 0 hts gX2_lostNeeds_X0_bit rfl rfl rfl (by decide +kernel) ⟨Nat.le_of_ble_eq_true rfl, Nat.le_of_ble_eq_true rfl⟩) ⟨fun a U g mk q => ⟨q.1, Pr_cg q.2⟩, va_recv (ci := 1) (q0 := 20 + i) hK hP rfl (Q_u hRc (by first | omega | decide | assumption)), fun U hU hW => ⟨rfl, Pr_mk hE hRc hRr hRo hP hD hS hU hW⟩⟩ rfl rfl hl.1 rfl (lv_room (Nat.le_of_ble_eq_true rfl)) dX2_lostNeeds_31 ⟨Nat.le_of_ble_eq_true rfl, Nat.le_of_ble_eq_true rfl⟩) hS (fun v _ H locs wl hv hRc hRr hRo hP hD hS => ?_)
          refine n_top (y := .int (nI (2 ^ i))) (congrArg Value.int hv) ?_
          clear hv v
          refine lv_goto (tgt := 38) hx hb dX2_lostNeeds_34 (by decide) ?_
          refine n_ior hx hb dX2_lostNeeds_38 ?_
          refine lv_istore_n (lv' := [(1, .int (nI ((mk (lostP (c 9) (c 6)) i) ||| (2 ^ i)))), (2, .int (nI i)), (0, .ref (G 0))]) hx hb dX2_lostNeeds_39 rfl hl (by decide) rfl (fun ls hl => ?_)
          refine lv_iinc (v := nI (i + 1)) (lv' := [(2, .int (nI (i + 1))), (1, .int (nI ((mk (lostP (c 9) (c 6)) i) ||| (2 ^ i)))), (0, .ref (G 0))]) hx hb dX2_lostNeeds_40 hl (k := 1) rfl (nI_add i 1) (by decide) rfl (fun ls hl => ?_)
          refine lv_goto (tgt := 4) hx hb dX2_lostNeeds_43 (by decide) ?_
          exact ih4 (i + 1) (by omega) (by omega)   _ _ _ _ hRc hRr hRo hP hD hS (show lv_has ls 3 [(2, .int (nI (i + 1))), (1, .int (nI (mk (lostP (c 9) (c 6)) (i + 1)))), (0, .ref (G 0))] from by rw [show ((.int (nI (mk (lostP (c 9) (c 6)) (i + 1))) : Value)) = .int (nI ((mk (lostP (c 9) (c 6)) i) ||| (2 ^ i))) from by first | exact congrArg (fun z => Value.int (nI z)) (mk_t (by assumption)) | exact congrArg (fun z => Value.int (nI z)) ((mk_f (by assumption)).trans (Nat.or_zero _).symm)]; exact lv_sub hl [0, 1, 2] rfl)
  exact L4 _ 0 (Nat.lt_succ_self _) (by omega)   _ _ _ _ hRc hRr hRo hP hD hS (show lv_has ls 3 [(2, .int (nI 0)), (1, .int (nI (mk (lostP (c 9) (c 6)) 0))), (0, .ref (G 0))] from by rw [show ((.int (nI (mk (lostP (c 9) (c 6)) 0)) : Value)) = .int (nI 0) from by rfl]; exact lv_sub hl [0, 1, 2] rfl)
set_option maxHeartbeats 4000000 in
set_option maxRecDepth 100000 in
theorem k_X2_doneWishes (l : Launch) (D : va_G) (G : Nat → Nat) (h0 : Nat) (c r : Nat → Nat → Nat) (o : Nat) (hI : IC c) : Met l yX2_doneWishes wsX2_doneWishes ({ frames := 2, cells := 0, slots := 0, locals := 40 } : Room) (va_Pc [.ref (G 0)] (fun U => Pr D G h0 c r o U)) (va_Qi (fun (v9 : Int32) (_ : Unit) => v9 = nI (mk (doneP (c 9)) (c 20 1))) (fun _ t => Wr D G h0 c r o t) (fun q => h0 ≤ q)) 0 0 (fun q => h0 ≤ q) := by
  refine Met.ofW (cc := cX2_doneWishes) (maxL := 3) (ret := (some .int)) (by decide) rfl ?_
  intro p e s m args below meth cd s₁ B hml hv
  obtain ⟨rfl, hE, wl, hRc, hRr, hRo, hP, hD⟩ := hv
  have hx := B.exec
  have hb := B.bytes
  have hr := B.returns
  have hts := atoms_spec (ws := wsX2_doneWishes) B.pre
  have hown : s.vm.findClass RX2 = some m.cls := findClass_of_methodNamed B.named
  have hlocks := B.notSynchronized
  have hK := hE.2.1
  have hS : va_S (fun q => h0 ≤ q) s.heap s.heap [] := va_S.rf
  have hl := lv_entry ([.ref (G 0)]) (n := 3) (Nat.le_of_ble_eq_true rfl)
  rw [lg_entry_eq]
  generalize (lg_sl ([.ref (G 0)]) ++ List.replicate (3 - (lg_sl ([.ref (G 0)])).length) Slot.unset).toArray = ls at hl ⊢
  have hl : lv_has ls 3 [(0, .ref (G 0))] := hl
  have inX2 : ∀ w ∈ wsX20, w ∈ wsX2_doneWishes := by decide +kernel
  obtain ⟨Q, hQ⟩ : ∃ Q, Q = MQ below (va_Qi (fun (v9 : Int32) (_ : Unit) => v9 = nI (mk (doneP (c 9)) (c 20 1))) (fun _ t => Wr D G h0 c r o t) (fun q => h0 ≤ q)) ([.ref (G 0)] : List Value).toArray s 0 0 (fun q => h0 ≤ q) := ⟨_, rfl⟩
  rw [← hQ]
  have hB := IC_B hI
  have hn := IC_n hI
  have hs := IC_s hI
  refine lv_iconst (v := nI 0) hx hb dX2_doneWishes_0 (by decide) ?_
  refine lv_istore_n (lv' := [(1, .int (nI 0)), (0, .ref (G 0))]) hx hb dX2_doneWishes_1 rfl hl (by decide) rfl (fun ls hl => ?_)
  refine lv_iconst (v := nI 0) hx hb dX2_doneWishes_2 (by decide) ?_
  refine lv_istore_n (lv' := [(2, .int (nI 0)), (1, .int (nI 0)), (0, .ref (G 0))]) hx hb dX2_doneWishes_3 rfl hl (by decide) rfl (fun ls hl => ?_)
  have L4 : ∀ (d i : Nat), c 20 1 - i < d → i ≤ c 20 1 → ∀ (H : Heap) (locs : List Loc) (wl : va_W) (ls : Array Slot), Rc G c wl → Rr G r wl → Ro G o wl → va_P D vwCl wl H → va_D (fun q => h0 ≤ q) wl → va_S (fun q => h0 ≤ q) s.heap H locs → lv_has ls 3 [(2, .int (nI i)), (1, .int (nI (mk (doneP (c 9)) i))), (0, .ref (G 0))] → W p l e (headSpec wsX2_doneWishes ({ frames := 2, cells := 0, slots := 0, locals := 40 } : Room)).room s m ([.ref (G 0)] : List Value).toArray below meth cd H locs 0 0 Q (F0 m 4 ls []) := by
    intro d4
    induction d4 with
    | zero => intro i hd; exact absurd hd (Nat.not_lt_zero _)
    | succ d4 ih4 =>
      intro i hd hi  H locs wl ls hRc hRr hRo hP hD hS hl
      refine lv_iload_n hx hb dX2_doneWishes_4 rfl (lv_at hl 0 rfl) ?_
      refine lv_aload_n hx hb dX2_doneWishes_5 rfl (lv_at hl 2 rfl) ?_
      refine va_get (D := D) (ci := 3) (v := .int (nI (c 20 1))) (C := RX2) (T := TX2) (N := 7) hx hb hts inX2 hown hK hP 0 (Q_o hRc) rfl 1 (by decide) (hts (.fieldLink RX2 15 "BootStage" "count" "I") (by decide +kernel)) (fun _ h9 => h9) rfl dX2_doneWishes_6 ?_
      refine n_icmp_ge (tgt := 46) hx hb dX2_doneWishes_9 (by decide) (by omega) (hB _ _ (by decide)) (fun c_9 => ?_) (fun c_9 => ?_)
      · refine lv_iload_n hx hb dX2_doneWishes_46 rfl (lv_at hl 1 rfl) ?_
        rw [hQ]
        exact W.iret (v := nI (mk (doneP (c 9)) i)) hx hb hr (fun t ht hW => ⟨⟨_, (), rfl, (show nI (mk (doneP (c 9)) i) = nI (mk (doneP (c 9)) (c 20 1)) from by rw [show i = c 20 1 by omega]), Wr_mk hRc hRr hRo hP hD ht⟩, hS.F ht⟩) hS.2.2 dX2_doneWishes_47
      · refine lv_iload_n hx hb dX2_doneWishes_12 rfl (lv_at hl 1 rfl) ?_
        refine lv_aload_n hx hb dX2_doneWishes_13 rfl (lv_at hl 2 rfl) ?_
        refine va_get (D := D) (ci := 3) (v := .ref (G 1)) (C := RX2) (T := TX2) (N := 7) hx hb hts inX2 hown hK hP 0 (Q_o hRc) rfl 0 (by decide) (hts (.fieldLink RX2 11 "BootStage" "rows" "[LBootStage$Unit;") (by decide +kernel)) (fun _ h9 => h9) rfl dX2_doneWishes_14 ?_
        refine lv_iload_n hx hb dX2_doneWishes_17 rfl (lv_at hl 0 rfl) ?_
        refine x_row hx hb hK hP hRc (by first | omega | decide | assumption) dX2_doneWishes_18 ?_
        refine y_calli (va_runV (As := []) (rest := [.int (nI (mk (doneP (c 9)) i))]) ⟨hx, hb, hml, hown, hts⟩ (k_X0_isWishDone l D G h0 c r o i (by first | omega | assumption) hB) (cwV 0 hts gX2_doneWishes_X0_isWishDone rfl rfl rfl (by decide +kernel) ⟨Nat.le_of_ble_eq_true rfl, Nat.le_of_ble_eq_true rfl⟩) ⟨fun a U g mk q => ⟨q.1, Pr_cg q.2⟩, va_recv (ci := 1) (q0 := 20 + i) hK hP rfl (Q_u hRc (by first | omega | decide | assumption)), fun U hU hW => ⟨rfl, Pr_mk hE hRc hRr hRo hP hD hS hU hW⟩⟩ rfl rfl hl.1 rfl (lv_room (Nat.le_of_ble_eq_true rfl)) dX2_doneWishes_19 ⟨Nat.le_of_ble_eq_true rfl, Nat.le_of_ble_eq_true rfl⟩) hS (fun v _ H locs wl hv hRc hRr hRo hP hD hS => ?_)
        refine n_top (y := .int (nI (bN (doneP (c 9) i)))) (congrArg Value.int hv) ?_
        clear hv v
        refine n_ifb_eq (tgt := 37) hx hb dX2_doneWishes_22 (by decide) (fun c_22 => ?_) (fun c_22 => ?_)
        · refine lv_iconst (v := nI 0) hx hb dX2_doneWishes_37 (by decide) ?_
          refine n_ior hx hb dX2_doneWishes_38 ?_
          refine lv_istore_n (lv' := [(1, .int (nI ((mk (doneP (c 9)) i) ||| 0))), (2, .int (nI i)), (0, .ref (G 0))]) hx hb dX2_doneWishes_39 rfl hl (by decide) rfl (fun ls hl => ?_)
          refine lv_iinc (v := nI (i + 1)) (lv' := [(2, .int (nI (i + 1))), (1, .int (nI ((mk (doneP (c 9)) i) ||| 0))), (0, .ref (G 0))]) hx hb dX2_doneWishes_40 hl (k := 1) rfl (nI_add i 1) (by decide) rfl (fun ls hl => ?_)
          refine lv_goto (tgt := 4) hx hb dX2_doneWishes_43 (by decide) ?_
          exact ih4 (i + 1) (by omega) (by omega)   _ _ _ _ hRc hRr hRo hP hD hS (show lv_has ls 3 [(2, .int (nI (i + 1))), (1, .int (nI (mk (doneP (c 9)) (i + 1)))), (0, .ref (G 0))] from by rw [show ((.int (nI (mk (doneP (c 9)) (i + 1))) : Value)) = .int (nI ((mk (doneP (c 9)) i) ||| 0)) from by first | exact congrArg (fun z => Value.int (nI z)) (mk_t (by assumption)) | exact congrArg (fun z => Value.int (nI z)) ((mk_f (by assumption)).trans (Nat.or_zero _).symm)]; exact lv_sub hl [0, 1, 2] rfl)
        · refine lv_aload_n hx hb dX2_doneWishes_25 rfl (lv_at hl 2 rfl) ?_
          refine va_get (D := D) (ci := 3) (v := .ref (G 1)) (C := RX2) (T := TX2) (N := 7) hx hb hts inX2 hown hK hP 0 (Q_o hRc) rfl 0 (by decide) (hts (.fieldLink RX2 11 "BootStage" "rows" "[LBootStage$Unit;") (by decide +kernel)) (fun _ h9 => h9) rfl dX2_doneWishes_26 ?_
          refine lv_iload_n hx hb dX2_doneWishes_29 rfl (lv_at hl 0 rfl) ?_
          refine x_row hx hb hK hP hRc (by first | omega | decide | assumption) dX2_doneWishes_30 ?_
          refine y_calli (va_runV (As := []) (rest := [.int (nI (mk (doneP (c 9)) i))]) ⟨hx, hb, hml, hown, hts⟩ (k_X0_bit l D G h0 c r o i (by first | omega | assumption)) (cwV 0 hts gX2_doneWishes_X0_bit rfl rfl rfl (by decide +kernel) ⟨Nat.le_of_ble_eq_true rfl, Nat.le_of_ble_eq_true rfl⟩) ⟨fun a U g mk q => ⟨q.1, Pr_cg q.2⟩, va_recv (ci := 1) (q0 := 20 + i) hK hP rfl (Q_u hRc (by first | omega | decide | assumption)), fun U hU hW => ⟨rfl, Pr_mk hE hRc hRr hRo hP hD hS hU hW⟩⟩ rfl rfl hl.1 rfl (lv_room (Nat.le_of_ble_eq_true rfl)) dX2_doneWishes_31 ⟨Nat.le_of_ble_eq_true rfl, Nat.le_of_ble_eq_true rfl⟩) hS (fun v _ H locs wl hv hRc hRr hRo hP hD hS => ?_)
          refine n_top (y := .int (nI (2 ^ i))) (congrArg Value.int hv) ?_
          clear hv v
          refine lv_goto (tgt := 38) hx hb dX2_doneWishes_34 (by decide) ?_
          refine n_ior hx hb dX2_doneWishes_38 ?_
          refine lv_istore_n (lv' := [(1, .int (nI ((mk (doneP (c 9)) i) ||| (2 ^ i)))), (2, .int (nI i)), (0, .ref (G 0))]) hx hb dX2_doneWishes_39 rfl hl (by decide) rfl (fun ls hl => ?_)
          refine lv_iinc (v := nI (i + 1)) (lv' := [(2, .int (nI (i + 1))), (1, .int (nI ((mk (doneP (c 9)) i) ||| (2 ^ i)))), (0, .ref (G 0))]) hx hb dX2_doneWishes_40 hl (k := 1) rfl (nI_add i 1) (by decide) rfl (fun ls hl => ?_)
          refine lv_goto (tgt := 4) hx hb dX2_doneWishes_43 (by decide) ?_
          exact ih4 (i + 1) (by omega) (by omega)   _ _ _ _ hRc hRr hRo hP hD hS (show lv_has ls 3 [(2, .int (nI (i + 1))), (1, .int (nI (mk (doneP (c 9)) (i + 1)))), (0, .ref (G 0))] from by rw [show ((.int (nI (mk (doneP (c 9)) (i + 1))) : Value)) = .int (nI ((mk (doneP (c 9)) i) ||| (2 ^ i))) from by first | exact congrArg (fun z => Value.int (nI z)) (mk_t (by assumption)) | exact congrArg (fun z => Value.int (nI z)) ((mk_f (by assumption)).trans (Nat.or_zero _).symm)]; exact lv_sub hl [0, 1, 2] rfl)
  exact L4 _ 0 (Nat.lt_succ_self _) (by omega)   _ _ _ _ hRc hRr hRo hP hD hS (show lv_has ls 3 [(2, .int (nI 0)), (1, .int (nI (mk (doneP (c 9)) 0))), (0, .ref (G 0))] from by rw [show ((.int (nI (mk (doneP (c 9)) 0)) : Value)) = .int (nI 0) from by rfl]; exact lv_sub hl [0, 1, 2] rfl)
set_option maxHeartbeats 4000000 in
set_option maxRecDepth 100000 in
theorem k_X2_timeDone (l : Launch) (D : va_G) (G : Nat → Nat) (h0 : Nat) (c r : Nat → Nat → Nat) (o : Nat) (hI : IC c) : Met l yX2_timeDone wsX2_timeDone ({ frames := 2, cells := 0, slots := 0, locals := 41 } : Room) (va_Pc [.ref (G 0)] (fun U => Pr D G h0 c r o U)) (va_Qi (fun (v9 : Int32) (_ : Unit) => v9 = nI (sm (c_part c) (c 20 1))) (fun _ t => Wr D G h0 c r o t) (fun q => h0 ≤ q)) 0 0 (fun q => h0 ≤ q) := by
  refine Met.ofW (cc := cX2_timeDone) (maxL := 3) (ret := (some .int)) (by decide) rfl ?_
  intro p e s m args below meth cd s₁ B hml hv
  obtain ⟨rfl, hE, wl, hRc, hRr, hRo, hP, hD⟩ := hv
  have hx := B.exec
  have hb := B.bytes
  have hr := B.returns
  have hts := atoms_spec (ws := wsX2_timeDone) B.pre
  have hown : s.vm.findClass RX2 = some m.cls := findClass_of_methodNamed B.named
  have hlocks := B.notSynchronized
  have hK := hE.2.1
  have hS : va_S (fun q => h0 ≤ q) s.heap s.heap [] := va_S.rf
  have hl := lv_entry ([.ref (G 0)]) (n := 3) (Nat.le_of_ble_eq_true rfl)
  rw [lg_entry_eq]
  generalize (lg_sl ([.ref (G 0)]) ++ List.replicate (3 - (lg_sl ([.ref (G 0)])).length) Slot.unset).toArray = ls at hl ⊢
  have hl : lv_has ls 3 [(0, .ref (G 0))] := hl
  have inX2 : ∀ w ∈ wsX20, w ∈ wsX2_timeDone := by decide +kernel
  obtain ⟨Q, hQ⟩ : ∃ Q, Q = MQ below (va_Qi (fun (v9 : Int32) (_ : Unit) => v9 = nI (sm (c_part c) (c 20 1))) (fun _ t => Wr D G h0 c r o t) (fun q => h0 ≤ q)) ([.ref (G 0)] : List Value).toArray s 0 0 (fun q => h0 ≤ q) := ⟨_, rfl⟩
  rw [← hQ]
  have hB := IC_B hI
  have hn := IC_n hI
  have hs := IC_s hI
  refine lv_iconst (v := nI 0) hx hb dX2_timeDone_0 (by decide) ?_
  refine lv_istore_n (lv' := [(1, .int (nI 0)), (0, .ref (G 0))]) hx hb dX2_timeDone_1 rfl hl (by decide) rfl (fun ls hl => ?_)
  refine lv_iconst (v := nI 0) hx hb dX2_timeDone_2 (by decide) ?_
  refine lv_istore_n (lv' := [(2, .int (nI 0)), (1, .int (nI 0)), (0, .ref (G 0))]) hx hb dX2_timeDone_3 rfl hl (by decide) rfl (fun ls hl => ?_)
  have L4 : ∀ (d i : Nat), c 20 1 - i < d → i ≤ c 20 1 → ∀ (H : Heap) (locs : List Loc) (wl : va_W) (ls : Array Slot), Rc G c wl → Rr G r wl → Ro G o wl → va_P D vwCl wl H → va_D (fun q => h0 ≤ q) wl → va_S (fun q => h0 ≤ q) s.heap H locs → lv_has ls 3 [(2, .int (nI i)), (1, .int (nI (sm (c_part c) i))), (0, .ref (G 0))] → W p l e (headSpec wsX2_timeDone ({ frames := 2, cells := 0, slots := 0, locals := 41 } : Room)).room s m ([.ref (G 0)] : List Value).toArray below meth cd H locs 0 0 Q (F0 m 4 ls []) := by
    intro d4
    induction d4 with
    | zero => intro i hd; exact absurd hd (Nat.not_lt_zero _)
    | succ d4 ih4 =>
      intro i hd hi  H locs wl ls hRc hRr hRo hP hD hS hl
      refine lv_iload_n hx hb dX2_timeDone_4 rfl (lv_at hl 0 rfl) ?_
      refine lv_aload_n hx hb dX2_timeDone_5 rfl (lv_at hl 2 rfl) ?_
      refine va_get (D := D) (ci := 3) (v := .int (nI (c 20 1))) (C := RX2) (T := TX2) (N := 7) hx hb hts inX2 hown hK hP 0 (Q_o hRc) rfl 1 (by decide) (hts (.fieldLink RX2 15 "BootStage" "count" "I") (by decide +kernel)) (fun _ h9 => h9) rfl dX2_timeDone_6 ?_
      refine n_icmp_ge (tgt := 30) hx hb dX2_timeDone_9 (by decide) (by omega) (hB _ _ (by decide)) (fun c_9 => ?_) (fun c_9 => ?_)
      · refine lv_iload_n hx hb dX2_timeDone_30 rfl (lv_at hl 1 rfl) ?_
        rw [hQ]
        exact W.iret (v := nI (sm (c_part c) i)) hx hb hr (fun t ht hW => ⟨⟨_, (), rfl, (show nI (sm (c_part c) i) = nI (sm (c_part c) (c 20 1)) from by rw [show i = c 20 1 by omega]), Wr_mk hRc hRr hRo hP hD ht⟩, hS.F ht⟩) hS.2.2 dX2_timeDone_31
      · refine lv_iload_n hx hb dX2_timeDone_12 rfl (lv_at hl 1 rfl) ?_
        refine lv_aload_n hx hb dX2_timeDone_13 rfl (lv_at hl 2 rfl) ?_
        refine va_get (D := D) (ci := 3) (v := .ref (G 1)) (C := RX2) (T := TX2) (N := 7) hx hb hts inX2 hown hK hP 0 (Q_o hRc) rfl 0 (by decide) (hts (.fieldLink RX2 11 "BootStage" "rows" "[LBootStage$Unit;") (by decide +kernel)) (fun _ h9 => h9) rfl dX2_timeDone_14 ?_
        refine lv_iload_n hx hb dX2_timeDone_17 rfl (lv_at hl 0 rfl) ?_
        refine x_row hx hb hK hP hRc (by first | omega | decide | assumption) dX2_timeDone_18 ?_
        refine y_calli (va_runV (As := []) (rest := [.int (nI (sm (c_part c) i))]) ⟨hx, hb, hml, hown, hts⟩ (k_X0_timeDone l D G h0 c r o i (by first | omega | assumption) hB) (cwV 0 hts gX2_timeDone_X0_timeDone rfl rfl rfl (by decide +kernel) ⟨Nat.le_of_ble_eq_true rfl, Nat.le_of_ble_eq_true rfl⟩) ⟨fun a U g mk q => ⟨q.1, Pr_cg q.2⟩, va_recv (ci := 1) (q0 := 20 + i) hK hP rfl (Q_u hRc (by first | omega | decide | assumption)), fun U hU hW => ⟨rfl, Pr_mk hE hRc hRr hRo hP hD hS hU hW⟩⟩ rfl rfl hl.1 rfl (lv_room (Nat.le_of_ble_eq_true rfl)) dX2_timeDone_19 ⟨Nat.le_of_ble_eq_true rfl, Nat.le_of_ble_eq_true rfl⟩) hS (fun v _ H locs wl hv hRc hRr hRo hP hD hS => ?_)
        refine n_top (y := .int (nI (c_part c i))) (congrArg Value.int hv) ?_
        clear hv v
        refine n_iadd hx hb dX2_timeDone_22 ?_
        refine lv_istore_n (lv' := [(1, .int (nI ((sm (c_part c) i) + (c_part c i)))), (2, .int (nI i)), (0, .ref (G 0))]) hx hb dX2_timeDone_23 rfl hl (by decide) rfl (fun ls hl => ?_)
        refine lv_iinc (v := nI (i + 1)) (lv' := [(2, .int (nI (i + 1))), (1, .int (nI ((sm (c_part c) i) + (c_part c i)))), (0, .ref (G 0))]) hx hb dX2_timeDone_24 hl (k := 1) rfl (nI_add i 1) (by decide) rfl (fun ls hl => ?_)
        refine lv_goto (tgt := 4) hx hb dX2_timeDone_27 (by decide) ?_
        exact ih4 (i + 1) (by omega) (by omega)   _ _ _ _ hRc hRr hRo hP hD hS (show lv_has ls 3 [(2, .int (nI (i + 1))), (1, .int (nI (sm (c_part c) (i + 1)))), (0, .ref (G 0))] from by rw [show ((.int (nI (sm (c_part c) (i + 1))) : Value)) = .int (nI ((sm (c_part c) i) + (c_part c i))) from by rfl]; exact lv_sub hl [0, 1, 2] rfl)
  exact L4 _ 0 (Nat.lt_succ_self _) (by omega)   _ _ _ _ hRc hRr hRo hP hD hS (show lv_has ls 3 [(2, .int (nI 0)), (1, .int (nI (sm (c_part c) 0))), (0, .ref (G 0))] from by rw [show ((.int (nI (sm (c_part c) 0)) : Value)) = .int (nI 0) from by rfl]; exact lv_sub hl [0, 1, 2] rfl)
set_option maxHeartbeats 4000000 in
set_option maxRecDepth 100000 in
theorem k_X2_ready (l : Launch) (D : va_G) (G : Nat → Nat) (h0 : Nat) (c r : Nat → Nat → Nat) (o : Nat) (hI : IC c) : Met l yX2_ready wsX2_ready ({ frames := 1, cells := 0, slots := 0, locals := 20 } : Room) (va_Pc [.ref (G 0)] (fun U => Pr D G h0 c r o U)) (va_Qi (fun (v9 : Int32) (_ : Unit) => v9 = nI (mk (fun w => c 9 w = 2) (c 20 1))) (fun _ t => Wr D G h0 c r o t) (fun q => h0 ≤ q)) 0 0 (fun q => h0 ≤ q) := by
  refine Met.ofW (cc := cX2_ready) (maxL := 3) (ret := (some .int)) (by decide) rfl ?_
  intro p e s m args below meth cd s₁ B hml hv
  obtain ⟨rfl, hE, wl, hRc, hRr, hRo, hP, hD⟩ := hv
  have hx := B.exec
  have hb := B.bytes
  have hr := B.returns
  have hts := atoms_spec (ws := wsX2_ready) B.pre
  have hown : s.vm.findClass RX2 = some m.cls := findClass_of_methodNamed B.named
  have hlocks := B.notSynchronized
  have hK := hE.2.1
  have hS : va_S (fun q => h0 ≤ q) s.heap s.heap [] := va_S.rf
  have hl := lv_entry ([.ref (G 0)]) (n := 3) (Nat.le_of_ble_eq_true rfl)
  rw [lg_entry_eq]
  generalize (lg_sl ([.ref (G 0)]) ++ List.replicate (3 - (lg_sl ([.ref (G 0)])).length) Slot.unset).toArray = ls at hl ⊢
  have hl : lv_has ls 3 [(0, .ref (G 0))] := hl
  have inX0 : ∀ w ∈ wsX00, w ∈ wsX2_ready := by decide +kernel
  have inX2 : ∀ w ∈ wsX20, w ∈ wsX2_ready := by decide +kernel
  obtain ⟨Q, hQ⟩ : ∃ Q, Q = MQ below (va_Qi (fun (v9 : Int32) (_ : Unit) => v9 = nI (mk (fun w => c 9 w = 2) (c 20 1))) (fun _ t => Wr D G h0 c r o t) (fun q => h0 ≤ q)) ([.ref (G 0)] : List Value).toArray s 0 0 (fun q => h0 ≤ q) := ⟨_, rfl⟩
  rw [← hQ]
  have hB := IC_B hI
  have hn := IC_n hI
  have hs := IC_s hI
  refine lv_iconst (v := nI 0) hx hb dX2_ready_0 (by decide) ?_
  refine lv_istore_n (lv' := [(1, .int (nI 0)), (0, .ref (G 0))]) hx hb dX2_ready_1 rfl hl (by decide) rfl (fun ls hl => ?_)
  refine lv_iconst (v := nI 0) hx hb dX2_ready_2 (by decide) ?_
  refine lv_istore_n (lv' := [(2, .int (nI 0)), (1, .int (nI 0)), (0, .ref (G 0))]) hx hb dX2_ready_3 rfl hl (by decide) rfl (fun ls hl => ?_)
  have L4 : ∀ (d i : Nat), c 20 1 - i < d → i ≤ c 20 1 → ∀ (H : Heap) (locs : List Loc) (wl : va_W) (ls : Array Slot), Rc G c wl → Rr G r wl → Ro G o wl → va_P D vwCl wl H → va_D (fun q => h0 ≤ q) wl → va_S (fun q => h0 ≤ q) s.heap H locs → lv_has ls 3 [(2, .int (nI i)), (1, .int (nI (mk (fun w => c 9 w = 2) i))), (0, .ref (G 0))] → W p l e (headSpec wsX2_ready ({ frames := 1, cells := 0, slots := 0, locals := 20 } : Room)).room s m ([.ref (G 0)] : List Value).toArray below meth cd H locs 0 0 Q (F0 m 4 ls []) := by
    intro d4
    induction d4 with
    | zero => intro i hd; exact absurd hd (Nat.not_lt_zero _)
    | succ d4 ih4 =>
      intro i hd hi  H locs wl ls hRc hRr hRo hP hD hS hl
      refine lv_iload_n hx hb dX2_ready_4 rfl (lv_at hl 0 rfl) ?_
      refine lv_aload_n hx hb dX2_ready_5 rfl (lv_at hl 2 rfl) ?_
      refine va_get (D := D) (ci := 3) (v := .int (nI (c 20 1))) (C := RX2) (T := TX2) (N := 7) hx hb hts inX2 hown hK hP 0 (Q_o hRc) rfl 1 (by decide) (hts (.fieldLink RX2 15 "BootStage" "count" "I") (by decide +kernel)) (fun _ h9 => h9) rfl dX2_ready_6 ?_
      refine n_icmp_ge (tgt := 47) hx hb dX2_ready_9 (by decide) (by omega) (hB _ _ (by decide)) (fun c_9 => ?_) (fun c_9 => ?_)
      · refine lv_iload_n hx hb dX2_ready_47 rfl (lv_at hl 1 rfl) ?_
        rw [hQ]
        exact W.iret (v := nI (mk (fun w => c 9 w = 2) i)) hx hb hr (fun t ht hW => ⟨⟨_, (), rfl, (show nI (mk (fun w => c 9 w = 2) i) = nI (mk (fun w => c 9 w = 2) (c 20 1)) from by rw [show i = c 20 1 by omega]), Wr_mk hRc hRr hRo hP hD ht⟩, hS.F ht⟩) hS.2.2 dX2_ready_48
      · refine lv_iload_n hx hb dX2_ready_12 rfl (lv_at hl 1 rfl) ?_
        refine lv_aload_n hx hb dX2_ready_13 rfl (lv_at hl 2 rfl) ?_
        refine va_get (D := D) (ci := 3) (v := .ref (G 1)) (C := RX2) (T := TX2) (N := 7) hx hb hts inX2 hown hK hP 0 (Q_o hRc) rfl 0 (by decide) (hts (.fieldLink RX2 11 "BootStage" "rows" "[LBootStage$Unit;") (by decide +kernel)) (fun _ h9 => h9) rfl dX2_ready_14 ?_
        refine lv_iload_n hx hb dX2_ready_17 rfl (lv_at hl 0 rfl) ?_
        refine x_row hx hb hK hP hRc (by first | omega | decide | assumption) dX2_ready_18 ?_
        refine va_get (D := D) (ci := 1) (v := .int (nI (c 9 i))) (C := RX0) (T := TX0) (N := 13) hx hb hts inX0 hown hK hP (20 + i) (Q_u hRc (by first | omega | decide | assumption)) rfl 9 (by decide) (hts (.fieldLink RX2 136 "BootStage$Unit" "state" "I") (by decide +kernel)) (fun _ h9 => h9) rfl dX2_ready_19 ?_
        refine lv_iconst (v := nI 2) hx hb dX2_ready_22 (by decide) ?_
        refine n_icmp_ne (tgt := 38) hx hb dX2_ready_23 (by decide) (hB _ _ (by decide)) (by decide) (fun c_23 => ?_) (fun c_23 => ?_)
        · refine lv_iconst (v := nI 0) hx hb dX2_ready_38 (by decide) ?_
          refine n_ior hx hb dX2_ready_39 ?_
          refine lv_istore_n (lv' := [(1, .int (nI ((mk (fun w => c 9 w = 2) i) ||| 0))), (2, .int (nI i)), (0, .ref (G 0))]) hx hb dX2_ready_40 rfl hl (by decide) rfl (fun ls hl => ?_)
          refine lv_iinc (v := nI (i + 1)) (lv' := [(2, .int (nI (i + 1))), (1, .int (nI ((mk (fun w => c 9 w = 2) i) ||| 0))), (0, .ref (G 0))]) hx hb dX2_ready_41 hl (k := 1) rfl (nI_add i 1) (by decide) rfl (fun ls hl => ?_)
          refine lv_goto (tgt := 4) hx hb dX2_ready_44 (by decide) ?_
          exact ih4 (i + 1) (by omega) (by omega)   _ _ _ _ hRc hRr hRo hP hD hS (show lv_has ls 3 [(2, .int (nI (i + 1))), (1, .int (nI (mk (fun w => c 9 w = 2) (i + 1)))), (0, .ref (G 0))] from by rw [show ((.int (nI (mk (fun w => c 9 w = 2) (i + 1))) : Value)) = .int (nI ((mk (fun w => c 9 w = 2) i) ||| 0)) from by first | exact congrArg (fun z => Value.int (nI z)) (mk_t (by assumption)) | exact congrArg (fun z => Value.int (nI z)) ((mk_f (by assumption)).trans (Nat.or_zero _).symm)]; exact lv_sub hl [0, 1, 2] rfl)
        · refine lv_aload_n hx hb dX2_ready_26 rfl (lv_at hl 2 rfl) ?_
          refine va_get (D := D) (ci := 3) (v := .ref (G 1)) (C := RX2) (T := TX2) (N := 7) hx hb hts inX2 hown hK hP 0 (Q_o hRc) rfl 0 (by decide) (hts (.fieldLink RX2 11 "BootStage" "rows" "[LBootStage$Unit;") (by decide +kernel)) (fun _ h9 => h9) rfl dX2_ready_27 ?_
          refine lv_iload_n hx hb dX2_ready_30 rfl (lv_at hl 0 rfl) ?_
          refine x_row hx hb hK hP hRc (by first | omega | decide | assumption) dX2_ready_31 ?_
          refine y_calli (va_runV (As := []) (rest := [.int (nI (mk (fun w => c 9 w = 2) i))]) ⟨hx, hb, hml, hown, hts⟩ (k_X0_bit l D G h0 c r o i (by first | omega | assumption)) (cwV 0 hts gX2_ready_X0_bit rfl rfl rfl (by decide +kernel) ⟨Nat.le_of_ble_eq_true rfl, Nat.le_of_ble_eq_true rfl⟩) ⟨fun a U g mk q => ⟨q.1, Pr_cg q.2⟩, va_recv (ci := 1) (q0 := 20 + i) hK hP rfl (Q_u hRc (by first | omega | decide | assumption)), fun U hU hW => ⟨rfl, Pr_mk hE hRc hRr hRo hP hD hS hU hW⟩⟩ rfl rfl hl.1 rfl (lv_room (Nat.le_of_ble_eq_true rfl)) dX2_ready_32 ⟨Nat.le_of_ble_eq_true rfl, Nat.le_of_ble_eq_true rfl⟩) hS (fun v _ H locs wl hv hRc hRr hRo hP hD hS => ?_)
          refine n_top (y := .int (nI (2 ^ i))) (congrArg Value.int hv) ?_
          clear hv v
          refine lv_goto (tgt := 39) hx hb dX2_ready_35 (by decide) ?_
          refine n_ior hx hb dX2_ready_39 ?_
          refine lv_istore_n (lv' := [(1, .int (nI ((mk (fun w => c 9 w = 2) i) ||| (2 ^ i)))), (2, .int (nI i)), (0, .ref (G 0))]) hx hb dX2_ready_40 rfl hl (by decide) rfl (fun ls hl => ?_)
          refine lv_iinc (v := nI (i + 1)) (lv' := [(2, .int (nI (i + 1))), (1, .int (nI ((mk (fun w => c 9 w = 2) i) ||| (2 ^ i)))), (0, .ref (G 0))]) hx hb dX2_ready_41 hl (k := 1) rfl (nI_add i 1) (by decide) rfl (fun ls hl => ?_)
          refine lv_goto (tgt := 4) hx hb dX2_ready_44 (by decide) ?_
          exact ih4 (i + 1) (by omega) (by omega)   _ _ _ _ hRc hRr hRo hP hD hS (show lv_has ls 3 [(2, .int (nI (i + 1))), (1, .int (nI (mk (fun w => c 9 w = 2) (i + 1)))), (0, .ref (G 0))] from by rw [show ((.int (nI (mk (fun w => c 9 w = 2) (i + 1))) : Value)) = .int (nI ((mk (fun w => c 9 w = 2) i) ||| (2 ^ i))) from by first | exact congrArg (fun z => Value.int (nI z)) (mk_t (by assumption)) | exact congrArg (fun z => Value.int (nI z)) ((mk_f (by assumption)).trans (Nat.or_zero _).symm)]; exact lv_sub hl [0, 1, 2] rfl)
  exact L4 _ 0 (Nat.lt_succ_self _) (by omega)   _ _ _ _ hRc hRr hRo hP hD hS (show lv_has ls 3 [(2, .int (nI 0)), (1, .int (nI (mk (fun w => c 9 w = 2) 0))), (0, .ref (G 0))] from by rw [show ((.int (nI (mk (fun w => c 9 w = 2) 0)) : Value)) = .int (nI 0) from by rfl]; exact lv_sub hl [0, 1, 2] rfl)
set_option maxHeartbeats 4000000 in
set_option maxRecDepth 100000 in
theorem k_X2_ableAlone (l : Launch) (D : va_G) (G : Nat → Nat) (h0 : Nat) (c r : Nat → Nat → Nat) (o : Nat) (hI : IC c) : Met l yX2_ableAlone wsX2_ableAlone ({ frames := 1, cells := 0, slots := 0, locals := 20 } : Room) (va_Pc [.ref (G 0)] (fun U => Pr D G h0 c r o U)) (va_Qi (fun (v9 : Int32) (_ : Unit) => v9 = nI (mk (fun w => c 5 w = 0 ∧ c 4 w ≤ c 2 w) (c 20 1))) (fun _ t => Wr D G h0 c r o t) (fun q => h0 ≤ q)) 0 0 (fun q => h0 ≤ q) := by
  refine Met.ofW (cc := cX2_ableAlone) (maxL := 4) (ret := (some .int)) (by decide) rfl ?_
  intro p e s m args below meth cd s₁ B hml hv
  obtain ⟨rfl, hE, wl, hRc, hRr, hRo, hP, hD⟩ := hv
  have hx := B.exec
  have hb := B.bytes
  have hr := B.returns
  have hts := atoms_spec (ws := wsX2_ableAlone) B.pre
  have hown : s.vm.findClass RX2 = some m.cls := findClass_of_methodNamed B.named
  have hlocks := B.notSynchronized
  have hK := hE.2.1
  have hS : va_S (fun q => h0 ≤ q) s.heap s.heap [] := va_S.rf
  have hl := lv_entry ([.ref (G 0)]) (n := 4) (Nat.le_of_ble_eq_true rfl)
  rw [lg_entry_eq]
  generalize (lg_sl ([.ref (G 0)]) ++ List.replicate (4 - (lg_sl ([.ref (G 0)])).length) Slot.unset).toArray = ls at hl ⊢
  have hl : lv_has ls 4 [(0, .ref (G 0))] := hl
  have inX0 : ∀ w ∈ wsX00, w ∈ wsX2_ableAlone := by decide +kernel
  have inX2 : ∀ w ∈ wsX20, w ∈ wsX2_ableAlone := by decide +kernel
  obtain ⟨Q, hQ⟩ : ∃ Q, Q = MQ below (va_Qi (fun (v9 : Int32) (_ : Unit) => v9 = nI (mk (fun w => c 5 w = 0 ∧ c 4 w ≤ c 2 w) (c 20 1))) (fun _ t => Wr D G h0 c r o t) (fun q => h0 ≤ q)) ([.ref (G 0)] : List Value).toArray s 0 0 (fun q => h0 ≤ q) := ⟨_, rfl⟩
  rw [← hQ]
  have hB := IC_B hI
  have hn := IC_n hI
  have hs := IC_s hI
  refine lv_iconst (v := nI 0) hx hb dX2_ableAlone_0 (by decide) ?_
  refine lv_istore_n (lv' := [(1, .int (nI 0)), (0, .ref (G 0))]) hx hb dX2_ableAlone_1 rfl hl (by decide) rfl (fun ls hl => ?_)
  refine lv_iconst (v := nI 0) hx hb dX2_ableAlone_2 (by decide) ?_
  refine lv_istore_n (lv' := [(2, .int (nI 0)), (1, .int (nI 0)), (0, .ref (G 0))]) hx hb dX2_ableAlone_3 rfl hl (by decide) rfl (fun ls hl => ?_)
  have L4 : ∀ (d i : Nat), c 20 1 - i < d → i ≤ c 20 1 → ∀ (H : Heap) (locs : List Loc) (wl : va_W) (ls : Array Slot), Rc G c wl → Rr G r wl → Ro G o wl → va_P D vwCl wl H → va_D (fun q => h0 ≤ q) wl → va_S (fun q => h0 ≤ q) s.heap H locs → lv_has ls 4 [(2, .int (nI i)), (1, .int (nI (mk (fun w => c 5 w = 0 ∧ c 4 w ≤ c 2 w) i))), (0, .ref (G 0))] → W p l e (headSpec wsX2_ableAlone ({ frames := 1, cells := 0, slots := 0, locals := 20 } : Room)).room s m ([.ref (G 0)] : List Value).toArray below meth cd H locs 0 0 Q (F0 m 4 ls []) := by
    intro d4
    induction d4 with
    | zero => intro i hd; exact absurd hd (Nat.not_lt_zero _)
    | succ d4 ih4 =>
      intro i hd hi  H locs wl ls hRc hRr hRo hP hD hS hl
      refine lv_iload_n hx hb dX2_ableAlone_4 rfl (lv_at hl 0 rfl) ?_
      refine lv_aload_n hx hb dX2_ableAlone_5 rfl (lv_at hl 2 rfl) ?_
      refine va_get (D := D) (ci := 3) (v := .int (nI (c 20 1))) (C := RX2) (T := TX2) (N := 7) hx hb hts inX2 hown hK hP 0 (Q_o hRc) rfl 1 (by decide) (hts (.fieldLink RX2 15 "BootStage" "count" "I") (by decide +kernel)) (fun _ h9 => h9) rfl dX2_ableAlone_6 ?_
      refine n_icmp_ge (tgt := 54) hx hb dX2_ableAlone_9 (by decide) (by omega) (hB _ _ (by decide)) (fun c_9 => ?_) (fun c_9 => ?_)
      · refine lv_iload_n hx hb dX2_ableAlone_54 rfl (lv_at hl 1 rfl) ?_
        rw [hQ]
        exact W.iret (v := nI (mk (fun w => c 5 w = 0 ∧ c 4 w ≤ c 2 w) i)) hx hb hr (fun t ht hW => ⟨⟨_, (), rfl, (show nI (mk (fun w => c 5 w = 0 ∧ c 4 w ≤ c 2 w) i) = nI (mk (fun w => c 5 w = 0 ∧ c 4 w ≤ c 2 w) (c 20 1)) from by rw [show i = c 20 1 by omega]), Wr_mk hRc hRr hRo hP hD ht⟩, hS.F ht⟩) hS.2.2 dX2_ableAlone_55
      · refine lv_aload_n hx hb dX2_ableAlone_12 rfl (lv_at hl 2 rfl) ?_
        refine va_get (D := D) (ci := 3) (v := .ref (G 1)) (C := RX2) (T := TX2) (N := 7) hx hb hts inX2 hown hK hP 0 (Q_o hRc) rfl 0 (by decide) (hts (.fieldLink RX2 11 "BootStage" "rows" "[LBootStage$Unit;") (by decide +kernel)) (fun _ h9 => h9) rfl dX2_ableAlone_13 ?_
        refine lv_iload_n hx hb dX2_ableAlone_16 rfl (lv_at hl 0 rfl) ?_
        refine x_row hx hb hK hP hRc (by first | omega | decide | assumption) dX2_ableAlone_17 ?_
        refine lv_astore_n (lv' := [(3, .ref (G (20 + i))), (2, .int (nI i)), (1, .int (nI (mk (fun w => c 5 w = 0 ∧ c 4 w ≤ c 2 w) i))), (0, .ref (G 0))]) hx hb dX2_ableAlone_18 rfl hl (by decide) rfl (fun ls hl => ?_)
        refine lv_iload_n hx hb dX2_ableAlone_19 rfl (lv_at hl 2 rfl) ?_
        refine lv_aload_n hx hb dX2_ableAlone_20 rfl (lv_at hl 0 rfl) ?_
        refine va_get (D := D) (ci := 1) (v := .int (nI (c 5 i))) (C := RX0) (T := TX0) (N := 13) hx hb hts inX0 hown hK hP (20 + i) (Q_u hRc (by first | omega | decide | assumption)) rfl 5 (by decide) (hts (.fieldLink RX2 113 "BootStage$Unit" "isHeld" "Z") (by decide +kernel)) (fun _ h9 => h9) rfl dX2_ableAlone_21 ?_
        refine n_if_ne (tgt := 45) hx hb dX2_ableAlone_24 (by decide) (hB _ _ (by decide)) (fun c_24 => ?_) (fun c_24 => ?_)
        · refine lv_iconst (v := nI 0) hx hb dX2_ableAlone_45 (by decide) ?_
          refine n_ior hx hb dX2_ableAlone_46 ?_
          refine lv_istore_n (lv' := [(1, .int (nI ((mk (fun w => c 5 w = 0 ∧ c 4 w ≤ c 2 w) i) ||| 0))), (3, .ref (G (20 + i))), (2, .int (nI i)), (0, .ref (G 0))]) hx hb dX2_ableAlone_47 rfl hl (by decide) rfl (fun ls hl => ?_)
          refine lv_iinc (v := nI (i + 1)) (lv' := [(2, .int (nI (i + 1))), (1, .int (nI ((mk (fun w => c 5 w = 0 ∧ c 4 w ≤ c 2 w) i) ||| 0))), (3, .ref (G (20 + i))), (0, .ref (G 0))]) hx hb dX2_ableAlone_48 hl (k := 2) rfl (nI_add i 1) (by decide) rfl (fun ls hl => ?_)
          refine lv_goto (tgt := 4) hx hb dX2_ableAlone_51 (by decide) ?_
          exact ih4 (i + 1) (by omega) (by omega)   _ _ _ _ hRc hRr hRo hP hD hS (show lv_has ls 4 [(2, .int (nI (i + 1))), (1, .int (nI (mk (fun w => c 5 w = 0 ∧ c 4 w ≤ c 2 w) (i + 1)))), (0, .ref (G 0))] from by rw [show ((.int (nI (mk (fun w => c 5 w = 0 ∧ c 4 w ≤ c 2 w) (i + 1))) : Value)) = .int (nI ((mk (fun w => c 5 w = 0 ∧ c 4 w ≤ c 2 w) i) ||| 0)) from by first | exact congrArg (fun z => Value.int (nI z)) (mk_t ⟨by assumption, by assumption⟩) | exact congrArg (fun z => Value.int (nI z)) ((mk_f (fun z => absurd z.1 (by omega))).trans (Nat.or_zero _).symm) | exact congrArg (fun z => Value.int (nI z)) ((mk_f (fun z => absurd z.2 (by omega))).trans (Nat.or_zero _).symm)]; exact lv_sub hl [0, 1, 3] rfl)
        · refine lv_aload_n hx hb dX2_ableAlone_27 rfl (lv_at hl 0 rfl) ?_
          refine va_get (D := D) (ci := 1) (v := .int (nI (c 4 i))) (C := RX0) (T := TX0) (N := 13) hx hb hts inX0 hown hK hP (20 + i) (Q_u hRc (by first | omega | decide | assumption)) rfl 4 (by decide) (hts (.fieldLink RX2 116 "BootStage$Unit" "faults" "I") (by decide +kernel)) (fun _ h9 => h9) rfl dX2_ableAlone_28 ?_
          refine lv_aload_n hx hb dX2_ableAlone_31 rfl (lv_at hl 0 rfl) ?_
          refine va_get (D := D) (ci := 1) (v := .int (nI (c 2 i))) (C := RX0) (T := TX0) (N := 13) hx hb hts inX0 hown hK hP (20 + i) (Q_u hRc (by first | omega | decide | assumption)) rfl 2 (by decide) (hts (.fieldLink RX2 59 "BootStage$Unit" "retries" "I") (by decide +kernel)) (fun _ h9 => h9) rfl dX2_ableAlone_32 ?_
          refine n_icmp_gt (tgt := 45) hx hb dX2_ableAlone_35 (by decide) (hB _ _ (by decide)) (hB _ _ (by decide)) (fun c_35 => ?_) (fun c_35 => ?_)
          · refine lv_iconst (v := nI 0) hx hb dX2_ableAlone_45 (by decide) ?_
            refine n_ior hx hb dX2_ableAlone_46 ?_
            refine lv_istore_n (lv' := [(1, .int (nI ((mk (fun w => c 5 w = 0 ∧ c 4 w ≤ c 2 w) i) ||| 0))), (3, .ref (G (20 + i))), (2, .int (nI i)), (0, .ref (G 0))]) hx hb dX2_ableAlone_47 rfl hl (by decide) rfl (fun ls hl => ?_)
            refine lv_iinc (v := nI (i + 1)) (lv' := [(2, .int (nI (i + 1))), (1, .int (nI ((mk (fun w => c 5 w = 0 ∧ c 4 w ≤ c 2 w) i) ||| 0))), (3, .ref (G (20 + i))), (0, .ref (G 0))]) hx hb dX2_ableAlone_48 hl (k := 2) rfl (nI_add i 1) (by decide) rfl (fun ls hl => ?_)
            refine lv_goto (tgt := 4) hx hb dX2_ableAlone_51 (by decide) ?_
            exact ih4 (i + 1) (by omega) (by omega)   _ _ _ _ hRc hRr hRo hP hD hS (show lv_has ls 4 [(2, .int (nI (i + 1))), (1, .int (nI (mk (fun w => c 5 w = 0 ∧ c 4 w ≤ c 2 w) (i + 1)))), (0, .ref (G 0))] from by rw [show ((.int (nI (mk (fun w => c 5 w = 0 ∧ c 4 w ≤ c 2 w) (i + 1))) : Value)) = .int (nI ((mk (fun w => c 5 w = 0 ∧ c 4 w ≤ c 2 w) i) ||| 0)) from by first | exact congrArg (fun z => Value.int (nI z)) (mk_t ⟨by assumption, by assumption⟩) | exact congrArg (fun z => Value.int (nI z)) ((mk_f (fun z => absurd z.1 (by omega))).trans (Nat.or_zero _).symm) | exact congrArg (fun z => Value.int (nI z)) ((mk_f (fun z => absurd z.2 (by omega))).trans (Nat.or_zero _).symm)]; exact lv_sub hl [0, 1, 3] rfl)
          · refine lv_aload_n hx hb dX2_ableAlone_38 rfl (lv_at hl 0 rfl) ?_
            refine y_calli (va_runV (As := []) (rest := [.int (nI (mk (fun w => c 5 w = 0 ∧ c 4 w ≤ c 2 w) i))]) ⟨hx, hb, hml, hown, hts⟩ (k_X0_bit l D G h0 c r o i (by first | omega | assumption)) (cwV 0 hts gX2_ableAlone_X0_bit rfl rfl rfl (by decide +kernel) ⟨Nat.le_of_ble_eq_true rfl, Nat.le_of_ble_eq_true rfl⟩) ⟨fun a U g mk q => ⟨q.1, Pr_cg q.2⟩, va_recv (ci := 1) (q0 := 20 + i) hK hP rfl (Q_u hRc (by first | omega | decide | assumption)), fun U hU hW => ⟨rfl, Pr_mk hE hRc hRr hRo hP hD hS hU hW⟩⟩ rfl rfl hl.1 rfl (lv_room (Nat.le_of_ble_eq_true rfl)) dX2_ableAlone_39 ⟨Nat.le_of_ble_eq_true rfl, Nat.le_of_ble_eq_true rfl⟩) hS (fun v _ H locs wl hv hRc hRr hRo hP hD hS => ?_)
            refine n_top (y := .int (nI (2 ^ i))) (congrArg Value.int hv) ?_
            clear hv v
            refine lv_goto (tgt := 46) hx hb dX2_ableAlone_42 (by decide) ?_
            refine n_ior hx hb dX2_ableAlone_46 ?_
            refine lv_istore_n (lv' := [(1, .int (nI ((mk (fun w => c 5 w = 0 ∧ c 4 w ≤ c 2 w) i) ||| (2 ^ i)))), (3, .ref (G (20 + i))), (2, .int (nI i)), (0, .ref (G 0))]) hx hb dX2_ableAlone_47 rfl hl (by decide) rfl (fun ls hl => ?_)
            refine lv_iinc (v := nI (i + 1)) (lv' := [(2, .int (nI (i + 1))), (1, .int (nI ((mk (fun w => c 5 w = 0 ∧ c 4 w ≤ c 2 w) i) ||| (2 ^ i)))), (3, .ref (G (20 + i))), (0, .ref (G 0))]) hx hb dX2_ableAlone_48 hl (k := 2) rfl (nI_add i 1) (by decide) rfl (fun ls hl => ?_)
            refine lv_goto (tgt := 4) hx hb dX2_ableAlone_51 (by decide) ?_
            exact ih4 (i + 1) (by omega) (by omega)   _ _ _ _ hRc hRr hRo hP hD hS (show lv_has ls 4 [(2, .int (nI (i + 1))), (1, .int (nI (mk (fun w => c 5 w = 0 ∧ c 4 w ≤ c 2 w) (i + 1)))), (0, .ref (G 0))] from by rw [show ((.int (nI (mk (fun w => c 5 w = 0 ∧ c 4 w ≤ c 2 w) (i + 1))) : Value)) = .int (nI ((mk (fun w => c 5 w = 0 ∧ c 4 w ≤ c 2 w) i) ||| (2 ^ i))) from by first | exact congrArg (fun z => Value.int (nI z)) (mk_t ⟨by assumption, by assumption⟩) | exact congrArg (fun z => Value.int (nI z)) ((mk_f (fun z => absurd z.1 (by omega))).trans (Nat.or_zero _).symm) | exact congrArg (fun z => Value.int (nI z)) ((mk_f (fun z => absurd z.2 (by omega))).trans (Nat.or_zero _).symm)]; exact lv_sub hl [0, 1, 3] rfl)
  exact L4 _ 0 (Nat.lt_succ_self _) (by omega)   _ _ _ _ hRc hRr hRo hP hD hS (show lv_has ls 4 [(2, .int (nI 0)), (1, .int (nI (mk (fun w => c 5 w = 0 ∧ c 4 w ≤ c 2 w) 0))), (0, .ref (G 0))] from by rw [show ((.int (nI (mk (fun w => c 5 w = 0 ∧ c 4 w ≤ c 2 w) 0)) : Value)) = .int (nI 0) from by rfl]; exact lv_sub hl [0, 1, 2] rfl)
set_option maxHeartbeats 4000000 in
set_option maxRecDepth 100000 in
theorem k_X2_reaches (l : Launch) (D : va_G) (G : Nat → Nat) (h0 : Nat) (c r : Nat → Nat → Nat) (o : Nat) (hI : IC c) (a b fl : Nat) (ha : a < c 20 1) (hb2 : b < 20) (hf : fl < 2 ^ 31) : Met l yX2_reaches wsX2_reaches ({ frames := 2, cells := 0, slots := 0, locals := 42 } : Room) (va_Pc [.ref (G 0), .ref (G (20 + a)), .ref (G (20 + b)), .int (nI fl)] (fun U => Pr D G h0 c r o U)) (va_Qi (fun (v9 : Int32) (_ : Unit) => v9 = nI (bN (Rch (eC c fl) a b))) (fun _ t => Wr D G h0 c r o t) (fun q => h0 ≤ q)) 0 0 (fun q => h0 ≤ q) := by
  refine Met.ofW (cc := cX2_reaches) (maxL := 8) (ret := (some .boolean)) (by decide) rfl ?_
  intro p e s m args below meth cd s₁ B hml hv
  obtain ⟨rfl, hE, wl, hRc, hRr, hRo, hP, hD⟩ := hv
  have hx := B.exec
  have hb := B.bytes
  have hr := B.returns
  have hts := atoms_spec (ws := wsX2_reaches) B.pre
  have hown : s.vm.findClass RX2 = some m.cls := findClass_of_methodNamed B.named
  have hlocks := B.notSynchronized
  have hK := hE.2.1
  have hS : va_S (fun q => h0 ≤ q) s.heap s.heap [] := va_S.rf
  have hl := lv_entry ([.ref (G 0), .ref (G (20 + a)), .ref (G (20 + b)), .int (nI fl)]) (n := 8) (Nat.le_of_ble_eq_true rfl)
  rw [lg_entry_eq]
  generalize (lg_sl ([.ref (G 0), .ref (G (20 + a)), .ref (G (20 + b)), .int (nI fl)]) ++ List.replicate (8 - (lg_sl ([.ref (G 0), .ref (G (20 + a)), .ref (G (20 + b)), .int (nI fl)])).length) Slot.unset).toArray = ls at hl ⊢
  have hl : lv_has ls 8 [(0, .ref (G 0)), (1, .ref (G (20 + a))), (2, .ref (G (20 + b))), (3, .int (nI fl))] := hl
  have inX0 : ∀ w ∈ wsX00, w ∈ wsX2_reaches := by decide +kernel
  have inX2 : ∀ w ∈ wsX20, w ∈ wsX2_reaches := by decide +kernel
  obtain ⟨Q, hQ⟩ : ∃ Q, Q = MQ below (va_Qi (fun (v9 : Int32) (_ : Unit) => v9 = nI (bN (Rch (eC c fl) a b))) (fun _ t => Wr D G h0 c r o t) (fun q => h0 ≤ q)) ([.ref (G 0), .ref (G (20 + a)), .ref (G (20 + b)), .int (nI fl)] : List Value).toArray s 0 0 (fun q => h0 ≤ q) := ⟨_, rfl⟩
  rw [← hQ]
  have hB := IC_B hI
  have hn := IC_n hI
  have hs := IC_s hI
  have h7 := IC_7 hI
  have h8 := IC_8 hI
  refine lv_aload_n hx hb dX2_reaches_0 rfl (lv_at hl 1 rfl) ?_
  refine y_calli (va_runV (As := []) (rest := []) ⟨hx, hb, hml, hown, hts⟩ (k_X0_bit l D G h0 c r o a (by first | omega | assumption)) (cwV 0 hts gX2_reaches_X0_bit rfl rfl rfl (by decide +kernel) ⟨Nat.le_of_ble_eq_true rfl, Nat.le_of_ble_eq_true rfl⟩) ⟨fun a U g mk q => ⟨q.1, Pr_cg q.2⟩, va_recv (ci := 1) (q0 := 20 + a) hK hP rfl (Q_u hRc (by first | omega | decide | assumption)), fun U hU hW => ⟨rfl, Pr_mk hE hRc hRr hRo hP hD hS hU hW⟩⟩ rfl rfl hl.1 rfl (lv_room (Nat.le_of_ble_eq_true rfl)) dX2_reaches_1 ⟨Nat.le_of_ble_eq_true rfl, Nat.le_of_ble_eq_true rfl⟩) hS (fun v _ H locs wl hv hRc hRr hRo hP hD hS => ?_)
  refine n_top (y := .int (nI (2 ^ a))) (congrArg Value.int hv) ?_
  clear hv v
  refine lv_istore (lv' := [(4, .int (nI (2 ^ a))), (0, .ref (G 0)), (1, .ref (G (20 + a))), (2, .ref (G (20 + b))), (3, .int (nI fl))]) hx hb dX2_reaches_4 hl (by decide) rfl (fun ls hl => ?_)
  refine lv_iconst (v := nI 0) hx hb dX2_reaches_6 (by decide) ?_
  refine lv_istore (lv' := [(5, .int (nI 0)), (4, .int (nI (2 ^ a))), (0, .ref (G 0)), (1, .ref (G (20 + a))), (2, .ref (G (20 + b))), (3, .int (nI fl))]) hx hb dX2_reaches_7 hl (by decide) rfl (fun ls hl => ?_)
  refine lv_iconst (v := nI 0) hx hb dX2_reaches_9 (by decide) ?_
  refine lv_istore (lv' := [(6, .int (nI 0)), (5, .int (nI 0)), (4, .int (nI (2 ^ a))), (0, .ref (G 0)), (1, .ref (G (20 + a))), (2, .ref (G (20 + b))), (3, .int (nI fl))]) hx hb dX2_reaches_10 hl (by decide) rfl (fun ls hl => ?_)
  have L12 : ∀ (d i : Nat), (c 20 1 + 1) - i < d → i ≤ (c 20 1 + 1) → ∀ (H : Heap) (locs : List Loc) (wl : va_W) (ls : Array Slot), Rc G c wl → Rr G r wl → Ro G o wl → va_P D vwCl wl H → va_D (fun q => h0 ≤ q) wl → va_S (fun q => h0 ≤ q) s.heap H locs → lv_has ls 8 [(6, .int (nI i)), (4, .int (nI (rdI c fl a i))), (5, .int (nI (rdB c fl a i))), (0, .ref (G 0)), (1, .ref (G (20 + a))), (2, .ref (G (20 + b))), (3, .int (nI fl))] → W p l e (headSpec wsX2_reaches ({ frames := 2, cells := 0, slots := 0, locals := 42 } : Room)).room s m ([.ref (G 0), .ref (G (20 + a)), .ref (G (20 + b)), .int (nI fl)] : List Value).toArray below meth cd H locs 0 0 Q (F0 m 12 ls []) := by
    intro d12
    induction d12 with
    | zero => intro i hd; exact absurd hd (Nat.not_lt_zero _)
    | succ d12 ih12 =>
      intro i hd hi  H locs wl ls hRc hRr hRo hP hD hS hl
      have hf1 : rdI c fl a i < 2 ^ 31 := Nat.lt_of_lt_of_le (rdI_lt h7 h8 ha i) (Nat.pow_le_pow_right (by decide) (by omega))
      have hf2 : rdB c fl a i < 2 ^ 31 := by cases i with | zero => exact (by decide : (0 : Nat) < 2 ^ 31) | succ j => exact Nat.lt_of_lt_of_le (rdI_lt h7 h8 ha j) (Nat.pow_le_pow_right (by decide) (by omega))
      refine lv_iload hx hb dX2_reaches_12 (lv_at hl 0 rfl) ?_
      refine lv_aload_n hx hb dX2_reaches_14 rfl (lv_at hl 3 rfl) ?_
      refine va_get (D := D) (ci := 3) (v := .int (nI (c 20 1))) (C := RX2) (T := TX2) (N := 7) hx hb hts inX2 hown hK hP 0 (Q_o hRc) rfl 1 (by decide) (hts (.fieldLink RX2 15 "BootStage" "count" "I") (by decide +kernel)) (fun _ h9 => h9) rfl dX2_reaches_15 ?_
      refine n_icmp_gt (tgt := 106) hx hb dX2_reaches_18 (by decide) (by omega) (hB _ _ (by decide)) (fun c_18 => ?_) (fun c_18 => ?_)
      · refine lv_aload_n hx hb dX2_reaches_106 rfl (lv_at hl 3 rfl) ?_
        refine lv_iload hx hb dX2_reaches_107 (lv_at hl 1 rfl) ?_
        refine lv_aload_n hx hb dX2_reaches_109 rfl (lv_at hl 5 rfl) ?_
        refine y_calli (va_runV (As := [.int (nI (rdI c fl a i)), .ref (G (20 + b))]) (rest := []) ⟨hx, hb, hml, hown, hts⟩ (k_X2_contains l D G h0 c r o (rdI c fl a i) b (by first | omega | assumption)) (cwV 2 hts gX2_reaches_X2_contains rfl rfl rfl (by decide +kernel) ⟨Nat.le_of_ble_eq_true rfl, Nat.le_of_ble_eq_true rfl⟩) ⟨fun a U g mk q => ⟨q.1, Pr_cg q.2⟩, va_recv (ci := 3) (q0 := 0) hK hP rfl (Q_o hRc), fun U hU hW => ⟨rfl, Pr_mk hE hRc hRr hRo hP hD hS hU hW⟩⟩ rfl rfl hl.1 rfl (lv_room (Nat.le_of_ble_eq_true rfl)) dX2_reaches_110 ⟨Nat.le_of_ble_eq_true rfl, Nat.le_of_ble_eq_true rfl⟩) hS (fun v _ H locs wl hv hRc hRr hRo hP hD hS => ?_)
        refine n_top (y := .int (nI (bN (Nat.testBit (rdI c fl a i) b = true)))) (congrArg Value.int hv) ?_
        clear hv v
        rw [hQ]
        exact W.zret (v := nI (bN (Nat.testBit (rdI c fl a i) b = true))) (ty := .boolean) hx hb hr (nb_le (by first | exact bN_le _ | decide | omega | assumption)) (fun t ht hW => ⟨⟨_, (), rfl, (show nI (bN (Nat.testBit (rdI c fl a i) b = true)) = nI (bN (Rch (eC c fl) a b)) from by exact congrArg nI (bN_c (reach_fin h7 h8 ha (by first | exact Or.inl (by assumption) | exact Or.inr (by assumption))))), Wr_mk hRc hRr hRo hP hD ht⟩, hS.F ht⟩) hS.2.2 dX2_reaches_113
      · refine lv_iload hx hb dX2_reaches_21 (lv_at hl 1 rfl) ?_
        refine lv_iload hx hb dX2_reaches_23 (lv_at hl 2 rfl) ?_
        refine n_icmp_eq (tgt := 106) hx hb dX2_reaches_25 (by decide) hf1 hf2 (fun c_25 => ?_) (fun c_25 => ?_)
        · refine lv_aload_n hx hb dX2_reaches_106 rfl (lv_at hl 3 rfl) ?_
          refine lv_iload hx hb dX2_reaches_107 (lv_at hl 1 rfl) ?_
          refine lv_aload_n hx hb dX2_reaches_109 rfl (lv_at hl 5 rfl) ?_
          refine y_calli (va_runV (As := [.int (nI (rdI c fl a i)), .ref (G (20 + b))]) (rest := []) ⟨hx, hb, hml, hown, hts⟩ (k_X2_contains l D G h0 c r o (rdI c fl a i) b (by first | omega | assumption)) (cwV 2 hts gX2_reaches_X2_contains rfl rfl rfl (by decide +kernel) ⟨Nat.le_of_ble_eq_true rfl, Nat.le_of_ble_eq_true rfl⟩) ⟨fun a U g mk q => ⟨q.1, Pr_cg q.2⟩, va_recv (ci := 3) (q0 := 0) hK hP rfl (Q_o hRc), fun U hU hW => ⟨rfl, Pr_mk hE hRc hRr hRo hP hD hS hU hW⟩⟩ rfl rfl hl.1 rfl (lv_room (Nat.le_of_ble_eq_true rfl)) dX2_reaches_110 ⟨Nat.le_of_ble_eq_true rfl, Nat.le_of_ble_eq_true rfl⟩) hS (fun v _ H locs wl hv hRc hRr hRo hP hD hS => ?_)
          refine n_top (y := .int (nI (bN (Nat.testBit (rdI c fl a i) b = true)))) (congrArg Value.int hv) ?_
          clear hv v
          rw [hQ]
          exact W.zret (v := nI (bN (Nat.testBit (rdI c fl a i) b = true))) (ty := .boolean) hx hb hr (nb_le (by first | exact bN_le _ | decide | omega | assumption)) (fun t ht hW => ⟨⟨_, (), rfl, (show nI (bN (Nat.testBit (rdI c fl a i) b = true)) = nI (bN (Rch (eC c fl) a b)) from by exact congrArg nI (bN_c (reach_fin h7 h8 ha (by first | exact Or.inl (by assumption) | exact Or.inr (by assumption))))), Wr_mk hRc hRr hRo hP hD ht⟩, hS.F ht⟩) hS.2.2 dX2_reaches_113
        · refine lv_iload hx hb dX2_reaches_28 (lv_at hl 1 rfl) ?_
          refine lv_istore (lv' := [(5, .int (nI (rdI c fl a i))), (6, .int (nI i)), (4, .int (nI (rdI c fl a i))), (0, .ref (G 0)), (1, .ref (G (20 + a))), (2, .ref (G (20 + b))), (3, .int (nI fl))]) hx hb dX2_reaches_30 hl (by decide) rfl (fun ls hl => ?_)
          refine lv_iconst (v := nI 0) hx hb dX2_reaches_32 (by decide) ?_
          refine lv_istore (lv' := [(7, .int (nI 0)), (5, .int (nI (rdI c fl a i))), (6, .int (nI i)), (4, .int (nI (rdI c fl a i))), (0, .ref (G 0)), (1, .ref (G (20 + a))), (2, .ref (G (20 + b))), (3, .int (nI fl))]) hx hb dX2_reaches_33 hl (by decide) rfl (fun ls hl => ?_)
          have L35 : ∀ (d k : Nat), c 20 1 - k < d → k ≤ c 20 1 → ∀ (H : Heap) (locs : List Loc) (wl : va_W) (ls : Array Slot), Rc G c wl → Rr G r wl → Ro G o wl → va_P D vwCl wl H → va_D (fun q => h0 ≤ q) wl → va_S (fun q => h0 ≤ q) s.heap H locs → lv_has ls 8 [(7, .int (nI k)), (4, .int (nI (rsI c fl (rdI c fl a i) k))), (5, .int (nI (rdI c fl a i))), (6, .int (nI i)), (0, .ref (G 0)), (1, .ref (G (20 + a))), (2, .ref (G (20 + b))), (3, .int (nI fl))] → W p l e (headSpec wsX2_reaches ({ frames := 2, cells := 0, slots := 0, locals := 42 } : Room)).room s m ([.ref (G 0), .ref (G (20 + a)), .ref (G (20 + b)), .int (nI fl)] : List Value).toArray below meth cd H locs 0 0 Q (F0 m 35 ls []) := by
            intro d35
            induction d35 with
            | zero => intro k hd; exact absurd hd (Nat.not_lt_zero _)
            | succ d35 ih35 =>
              intro k hd hi  H locs wl ls hRc hRr hRo hP hD hS hl
              refine lv_iload hx hb dX2_reaches_35 (lv_at hl 0 rfl) ?_
              refine lv_aload_n hx hb dX2_reaches_37 rfl (lv_at hl 4 rfl) ?_
              refine va_get (D := D) (ci := 3) (v := .int (nI (c 20 1))) (C := RX2) (T := TX2) (N := 7) hx hb hts inX2 hown hK hP 0 (Q_o hRc) rfl 1 (by decide) (hts (.fieldLink RX2 15 "BootStage" "count" "I") (by decide +kernel)) (fun _ h9 => h9) rfl dX2_reaches_38 ?_
              refine n_icmp_ge (tgt := 100) hx hb dX2_reaches_41 (by decide) (by omega) (hB _ _ (by decide)) (fun c_41 => ?_) (fun c_41 => ?_)
              · refine lv_iinc (v := nI (i + 1)) (lv' := [(6, .int (nI (i + 1))), (7, .int (nI k)), (4, .int (nI (rsI c fl (rdI c fl a i) k))), (5, .int (nI (rdI c fl a i))), (0, .ref (G 0)), (1, .ref (G (20 + a))), (2, .ref (G (20 + b))), (3, .int (nI fl))]) hx hb dX2_reaches_100 hl (k := 3) rfl (nI_add i 1) (by decide) rfl (fun ls hl => ?_)
                refine lv_goto (tgt := 12) hx hb dX2_reaches_103 (by decide) ?_
                exact ih12 (i + 1) (by omega) (by omega)   _ _ _ _ hRc hRr hRo hP hD hS (show lv_has ls 8 [(6, .int (nI (i + 1))), (4, .int (nI (rdI c fl a (i + 1)))), (5, .int (nI (rdB c fl a (i + 1)))), (0, .ref (G 0)), (1, .ref (G (20 + a))), (2, .ref (G (20 + b))), (3, .int (nI fl))] from by rw [show ((.int (nI (rdI c fl a (i + 1))) : Value)) = .int (nI (rsI c fl (rdI c fl a i) k)) from by exact congrArg (fun z => Value.int (nI z)) (show rdI c fl a (i + 1) = rsI c fl (rdI c fl a i) k by rw [show k = c 20 1 by omega, rdI]), show ((.int (nI (rdB c fl a (i + 1))) : Value)) = .int (nI (rdI c fl a i)) from by rfl]; exact lv_sub hl [0, 2, 3, 4, 5, 6, 7] rfl)
              · refine lv_aload_n hx hb dX2_reaches_44 rfl (lv_at hl 4 rfl) ?_
                refine lv_iload hx hb dX2_reaches_45 (lv_at hl 1 rfl) ?_
                refine lv_aload_n hx hb dX2_reaches_47 rfl (lv_at hl 4 rfl) ?_
                refine va_get (D := D) (ci := 3) (v := .ref (G 1)) (C := RX2) (T := TX2) (N := 7) hx hb hts inX2 hown hK hP 0 (Q_o hRc) rfl 0 (by decide) (hts (.fieldLink RX2 11 "BootStage" "rows" "[LBootStage$Unit;") (by decide +kernel)) (fun _ h9 => h9) rfl dX2_reaches_48 ?_
                refine lv_iload hx hb dX2_reaches_51 (lv_at hl 0 rfl) ?_
                refine x_row hx hb hK hP hRc (by first | omega | decide | assumption) dX2_reaches_53 ?_
                refine y_calli (va_runV (As := [.int (nI (rsI c fl (rdI c fl a i) k)), .ref (G (20 + k))]) (rest := []) ⟨hx, hb, hml, hown, hts⟩ (k_X2_contains l D G h0 c r o (rsI c fl (rdI c fl a i) k) k (by first | omega | assumption)) (cwV 2 hts gX2_reaches_X2_contains rfl rfl rfl (by decide +kernel) ⟨Nat.le_of_ble_eq_true rfl, Nat.le_of_ble_eq_true rfl⟩) ⟨fun a U g mk q => ⟨q.1, Pr_cg q.2⟩, va_recv (ci := 3) (q0 := 0) hK hP rfl (Q_o hRc), fun U hU hW => ⟨rfl, Pr_mk hE hRc hRr hRo hP hD hS hU hW⟩⟩ rfl rfl hl.1 rfl (lv_room (Nat.le_of_ble_eq_true rfl)) dX2_reaches_54 ⟨Nat.le_of_ble_eq_true rfl, Nat.le_of_ble_eq_true rfl⟩) hS (fun v _ H locs wl hv hRc hRr hRo hP hD hS => ?_)
                refine n_top (y := .int (nI (bN (Nat.testBit (rsI c fl (rdI c fl a i) k) k = true)))) (congrArg Value.int hv) ?_
                clear hv v
                refine n_ifb_eq (tgt := 94) hx hb dX2_reaches_57 (by decide) (fun c_57 => ?_) (fun c_57 => ?_)
                · refine lv_iinc (v := nI (k + 1)) (lv' := [(7, .int (nI (k + 1))), (4, .int (nI (rsI c fl (rdI c fl a i) k))), (5, .int (nI (rdI c fl a i))), (6, .int (nI i)), (0, .ref (G 0)), (1, .ref (G (20 + a))), (2, .ref (G (20 + b))), (3, .int (nI fl))]) hx hb dX2_reaches_94 hl (k := 0) rfl (nI_add k 1) (by decide) rfl (fun ls hl => ?_)
                  refine lv_goto (tgt := 35) hx hb dX2_reaches_97 (by decide) ?_
                  exact ih35 (k + 1) (by omega) (by omega)   _ _ _ _ hRc hRr hRo hP hD hS (show lv_has ls 8 [(7, .int (nI (k + 1))), (4, .int (nI (rsI c fl (rdI c fl a i) (k + 1)))), (5, .int (nI (rdI c fl a i))), (6, .int (nI i)), (0, .ref (G 0)), (1, .ref (G (20 + a))), (2, .ref (G (20 + b))), (3, .int (nI fl))] from by rw [show ((.int (nI (rsI c fl (rdI c fl a i) (k + 1))) : Value)) = .int (nI (rsI c fl (rdI c fl a i) k)) from by (first | (rw [rsI, if_pos (by assumption)]; first | rfl | (simp only [rsE]; rw [if_neg (by omega)]) | (simp only [rsE]; rw [if_pos (by omega)])) | (rw [rsI, if_neg (by assumption)]))]; exact lv_sub hl [0, 1, 2, 3, 4, 5, 6, 7] rfl)
                · refine lv_iload hx hb dX2_reaches_60 (lv_at hl 1 rfl) ?_
                  refine lv_aload_n hx hb dX2_reaches_62 rfl (lv_at hl 4 rfl) ?_
                  refine va_get (D := D) (ci := 3) (v := .ref (G 1)) (C := RX2) (T := TX2) (N := 7) hx hb hts inX2 hown hK hP 0 (Q_o hRc) rfl 0 (by decide) (hts (.fieldLink RX2 11 "BootStage" "rows" "[LBootStage$Unit;") (by decide +kernel)) (fun _ h9 => h9) rfl dX2_reaches_63 ?_
                  refine lv_iload hx hb dX2_reaches_66 (lv_at hl 0 rfl) ?_
                  refine x_row hx hb hK hP hRc (by first | omega | decide | assumption) dX2_reaches_68 ?_
                  refine va_get (D := D) (ci := 1) (v := .int (nI (c 7 k))) (C := RX0) (T := TX0) (N := 13) hx hb hts inX0 hown hK hP (20 + k) (Q_u hRc (by first | omega | decide | assumption)) rfl 7 (by decide) (hts (.fieldLink RX2 75 "BootStage$Unit" "needs" "I") (by decide +kernel)) (fun _ h9 => h9) rfl dX2_reaches_69 ?_
                  refine lv_iload_n hx hb dX2_reaches_72 rfl (lv_at hl 7 rfl) ?_
                  refine n_if_eq (tgt := 89) hx hb dX2_reaches_73 (by decide) hf (fun c_73 => ?_) (fun c_73 => ?_)
                  · refine lv_iconst (v := nI 0) hx hb dX2_reaches_89 (by decide) ?_
                    refine n_ior hx hb dX2_reaches_90 ?_
                    refine n_ior hx hb dX2_reaches_91 ?_
                    refine lv_istore (lv' := [(4, .int (nI ((rsI c fl (rdI c fl a i) k) ||| ((c 7 k) ||| 0)))), (7, .int (nI k)), (5, .int (nI (rdI c fl a i))), (6, .int (nI i)), (0, .ref (G 0)), (1, .ref (G (20 + a))), (2, .ref (G (20 + b))), (3, .int (nI fl))]) hx hb dX2_reaches_92 hl (by decide) rfl (fun ls hl => ?_)
                    refine lv_iinc (v := nI (k + 1)) (lv' := [(7, .int (nI (k + 1))), (4, .int (nI ((rsI c fl (rdI c fl a i) k) ||| ((c 7 k) ||| 0)))), (5, .int (nI (rdI c fl a i))), (6, .int (nI i)), (0, .ref (G 0)), (1, .ref (G (20 + a))), (2, .ref (G (20 + b))), (3, .int (nI fl))]) hx hb dX2_reaches_94 hl (k := 1) rfl (nI_add k 1) (by decide) rfl (fun ls hl => ?_)
                    refine lv_goto (tgt := 35) hx hb dX2_reaches_97 (by decide) ?_
                    exact ih35 (k + 1) (by omega) (by omega)   _ _ _ _ hRc hRr hRo hP hD hS (show lv_has ls 8 [(7, .int (nI (k + 1))), (4, .int (nI (rsI c fl (rdI c fl a i) (k + 1)))), (5, .int (nI (rdI c fl a i))), (6, .int (nI i)), (0, .ref (G 0)), (1, .ref (G (20 + a))), (2, .ref (G (20 + b))), (3, .int (nI fl))] from by rw [show ((.int (nI (rsI c fl (rdI c fl a i) (k + 1))) : Value)) = .int (nI ((rsI c fl (rdI c fl a i) k) ||| ((c 7 k) ||| 0))) from by (first | (rw [rsI, if_pos (by assumption)]; first | rfl | (simp only [rsE]; rw [if_neg (by omega)]) | (simp only [rsE]; rw [if_pos (by omega)])) | (rw [rsI, if_neg (by assumption)]))]; exact lv_sub hl [0, 1, 2, 3, 4, 5, 6, 7] rfl)
                  · refine lv_aload_n hx hb dX2_reaches_76 rfl (lv_at hl 4 rfl) ?_
                    refine va_get (D := D) (ci := 3) (v := .ref (G 1)) (C := RX2) (T := TX2) (N := 7) hx hb hts inX2 hown hK hP 0 (Q_o hRc) rfl 0 (by decide) (hts (.fieldLink RX2 11 "BootStage" "rows" "[LBootStage$Unit;") (by decide +kernel)) (fun _ h9 => h9) rfl dX2_reaches_77 ?_
                    refine lv_iload hx hb dX2_reaches_80 (lv_at hl 0 rfl) ?_
                    refine x_row hx hb hK hP hRc (by first | omega | decide | assumption) dX2_reaches_82 ?_
                    refine va_get (D := D) (ci := 1) (v := .int (nI (c 8 k))) (C := RX0) (T := TX0) (N := 13) hx hb hts inX0 hown hK hP (20 + k) (Q_u hRc (by first | omega | decide | assumption)) rfl 8 (by decide) (hts (.fieldLink RX2 103 "BootStage$Unit" "keptWishes" "I") (by decide +kernel)) (fun _ h9 => h9) rfl dX2_reaches_83 ?_
                    refine lv_goto (tgt := 90) hx hb dX2_reaches_86 (by decide) ?_
                    refine n_ior hx hb dX2_reaches_90 ?_
                    refine n_ior hx hb dX2_reaches_91 ?_
                    refine lv_istore (lv' := [(4, .int (nI ((rsI c fl (rdI c fl a i) k) ||| ((c 7 k) ||| (c 8 k))))), (7, .int (nI k)), (5, .int (nI (rdI c fl a i))), (6, .int (nI i)), (0, .ref (G 0)), (1, .ref (G (20 + a))), (2, .ref (G (20 + b))), (3, .int (nI fl))]) hx hb dX2_reaches_92 hl (by decide) rfl (fun ls hl => ?_)
                    refine lv_iinc (v := nI (k + 1)) (lv' := [(7, .int (nI (k + 1))), (4, .int (nI ((rsI c fl (rdI c fl a i) k) ||| ((c 7 k) ||| (c 8 k))))), (5, .int (nI (rdI c fl a i))), (6, .int (nI i)), (0, .ref (G 0)), (1, .ref (G (20 + a))), (2, .ref (G (20 + b))), (3, .int (nI fl))]) hx hb dX2_reaches_94 hl (k := 1) rfl (nI_add k 1) (by decide) rfl (fun ls hl => ?_)
                    refine lv_goto (tgt := 35) hx hb dX2_reaches_97 (by decide) ?_
                    exact ih35 (k + 1) (by omega) (by omega)   _ _ _ _ hRc hRr hRo hP hD hS (show lv_has ls 8 [(7, .int (nI (k + 1))), (4, .int (nI (rsI c fl (rdI c fl a i) (k + 1)))), (5, .int (nI (rdI c fl a i))), (6, .int (nI i)), (0, .ref (G 0)), (1, .ref (G (20 + a))), (2, .ref (G (20 + b))), (3, .int (nI fl))] from by rw [show ((.int (nI (rsI c fl (rdI c fl a i) (k + 1))) : Value)) = .int (nI ((rsI c fl (rdI c fl a i) k) ||| ((c 7 k) ||| (c 8 k)))) from by (first | (rw [rsI, if_pos (by assumption)]; first | rfl | (simp only [rsE]; rw [if_neg (by omega)]) | (simp only [rsE]; rw [if_pos (by omega)])) | (rw [rsI, if_neg (by assumption)]))]; exact lv_sub hl [0, 1, 2, 3, 4, 5, 6, 7] rfl)
          exact L35 _ 0 (Nat.lt_succ_self _) (by omega)   _ _ _ _ hRc hRr hRo hP hD hS (show lv_has ls 8 [(7, .int (nI 0)), (4, .int (nI (rsI c fl (rdI c fl a i) 0))), (5, .int (nI (rdI c fl a i))), (6, .int (nI i)), (0, .ref (G 0)), (1, .ref (G (20 + a))), (2, .ref (G (20 + b))), (3, .int (nI fl))] from by rw [show ((.int (nI (rsI c fl (rdI c fl a i) 0)) : Value)) = .int (nI (rdI c fl a i)) from by rfl]; exact lv_sub hl [0, 3, 1, 2, 4, 5, 6, 7] rfl)
  exact L12 _ 0 (Nat.lt_succ_self _) (by omega)   _ _ _ _ hRc hRr hRo hP hD hS (show lv_has ls 8 [(6, .int (nI 0)), (4, .int (nI (rdI c fl a 0))), (5, .int (nI (rdB c fl a 0))), (0, .ref (G 0)), (1, .ref (G (20 + a))), (2, .ref (G (20 + b))), (3, .int (nI fl))] from by rw [show ((.int (nI (rdI c fl a 0)) : Value)) = .int (nI (2 ^ a)) from by rfl, show ((.int (nI (rdB c fl a 0)) : Value)) = .int (nI 0) from by rfl]; exact lv_sub hl [0, 2, 1, 3, 4, 5, 6] rfl)
set_option maxHeartbeats 4000000 in
set_option maxRecDepth 100000 in
theorem k_X2_keepSupplied (l : Launch) (D : va_G) (G : Nat → Nat) (h0 : Nat) (c r : Nat → Nat → Nat) (o : Nat) (hI : IC c) (f : Nat) (hf : f < 2 ^ 20) : Met l yX2_keepSupplied wsX2_keepSupplied ({ frames := 2, cells := 0, slots := 0, locals := 42 } : Room) (va_Pc [.ref (G 0), .int (nI f)] (fun U => Pr D G h0 c r o U)) (va_Qi (fun (v9 : Int32) (_ : Unit) => v9 = nI (keepS c f)) (fun _ t => Wr D G h0 c r o t) (fun q => h0 ≤ q)) 0 0 (fun q => h0 ≤ q) := by
  refine Met.ofW (cc := cX2_keepSupplied) (maxL := 6) (ret := (some .int)) (by decide) rfl ?_
  intro p e s m args below meth cd s₁ B hml hv
  obtain ⟨rfl, hE, wl, hRc, hRr, hRo, hP, hD⟩ := hv
  have hx := B.exec
  have hb := B.bytes
  have hr := B.returns
  have hts := atoms_spec (ws := wsX2_keepSupplied) B.pre
  have hown : s.vm.findClass RX2 = some m.cls := findClass_of_methodNamed B.named
  have hlocks := B.notSynchronized
  have hK := hE.2.1
  have hS : va_S (fun q => h0 ≤ q) s.heap s.heap [] := va_S.rf
  have hl := lv_entry ([.ref (G 0), .int (nI f)]) (n := 6) (Nat.le_of_ble_eq_true rfl)
  rw [lg_entry_eq]
  generalize (lg_sl ([.ref (G 0), .int (nI f)]) ++ List.replicate (6 - (lg_sl ([.ref (G 0), .int (nI f)])).length) Slot.unset).toArray = ls at hl ⊢
  have hl : lv_has ls 6 [(0, .ref (G 0)), (1, .int (nI f))] := hl
  have inX0 : ∀ w ∈ wsX00, w ∈ wsX2_keepSupplied := by decide +kernel
  have inX2 : ∀ w ∈ wsX20, w ∈ wsX2_keepSupplied := by decide +kernel
  obtain ⟨Q, hQ⟩ : ∃ Q, Q = MQ below (va_Qi (fun (v9 : Int32) (_ : Unit) => v9 = nI (keepS c f)) (fun _ t => Wr D G h0 c r o t) (fun q => h0 ≤ q)) ([.ref (G 0), .int (nI f)] : List Value).toArray s 0 0 (fun q => h0 ≤ q) := ⟨_, rfl⟩
  rw [← hQ]
  have hB := IC_B hI
  have hn := IC_n hI
  have hs := IC_s hI
  have h7 := IC_7 hI
  refine lv_iload_n hx hb dX2_keepSupplied_0 rfl (lv_at hl 1 rfl) ?_
  refine lv_istore_n (lv' := [(2, .int (nI f)), (0, .ref (G 0)), (1, .int (nI f))]) hx hb dX2_keepSupplied_1 rfl hl (by decide) rfl (fun ls hl => ?_)
  refine lv_iconst (v := nI 0) hx hb dX2_keepSupplied_2 (by decide) ?_
  refine lv_istore_n (lv' := [(3, .int (nI 0)), (2, .int (nI f)), (0, .ref (G 0)), (1, .int (nI f))]) hx hb dX2_keepSupplied_3 rfl hl (by decide) rfl (fun ls hl => ?_)
  have L4 : ∀ (d i : Nat), c 20 1 - i < d → i ≤ c 20 1 → ∀ (H : Heap) (locs : List Loc) (wl : va_W) (ls : Array Slot), Rc G c wl → Rr G r wl → Ro G o wl → va_P D vwCl wl H → va_D (fun q => h0 ≤ q) wl → va_S (fun q => h0 ≤ q) s.heap H locs → lv_has ls 6 [(3, .int (nI i)), (2, .int (nI (f ||| mk (fun w => c 6 w ≠ 0 ∧ f.testBit (c 6 w - 1) = true) i))), (0, .ref (G 0)), (1, .int (nI f))] → W p l e (headSpec wsX2_keepSupplied ({ frames := 2, cells := 0, slots := 0, locals := 42 } : Room)).room s m ([.ref (G 0), .int (nI f)] : List Value).toArray below meth cd H locs 0 0 Q (F0 m 4 ls []) := by
    intro d4
    induction d4 with
    | zero => intro i hd; exact absurd hd (Nat.not_lt_zero _)
    | succ d4 ih4 =>
      intro i hd hi  H locs wl ls hRc hRr hRo hP hD hS hl
      refine lv_iload_n hx hb dX2_keepSupplied_4 rfl (lv_at hl 0 rfl) ?_
      refine lv_aload_n hx hb dX2_keepSupplied_5 rfl (lv_at hl 2 rfl) ?_
      refine va_get (D := D) (ci := 3) (v := .int (nI (c 20 1))) (C := RX2) (T := TX2) (N := 7) hx hb hts inX2 hown hK hP 0 (Q_o hRc) rfl 1 (by decide) (hts (.fieldLink RX2 15 "BootStage" "count" "I") (by decide +kernel)) (fun _ h9 => h9) rfl dX2_keepSupplied_6 ?_
      refine n_icmp_ge (tgt := 60) hx hb dX2_keepSupplied_9 (by decide) (by omega) (hB _ _ (by decide)) (fun c_9 => ?_) (fun c_9 => ?_)
      · refine lv_iconst (v := nI 0) hx hb dX2_keepSupplied_60 (by decide) ?_
        refine lv_istore_n (lv' := [(3, .int (nI 0)), (2, .int (nI (f ||| mk (fun w => c 6 w ≠ 0 ∧ f.testBit (c 6 w - 1) = true) i))), (0, .ref (G 0)), (1, .int (nI f))]) hx hb dX2_keepSupplied_61 rfl hl (by decide) rfl (fun ls hl => ?_)
        refine lv_iconst (v := nI 0) hx hb dX2_keepSupplied_62 (by decide) ?_
        refine lv_istore (lv' := [(4, .int (nI 0)), (3, .int (nI 0)), (2, .int (nI (f ||| mk (fun w => c 6 w ≠ 0 ∧ f.testBit (c 6 w - 1) = true) i))), (0, .ref (G 0)), (1, .int (nI f))]) hx hb dX2_keepSupplied_63 hl (by decide) rfl (fun ls hl => ?_)
        have L65 : ∀ (d k : Nat), c 20 1 - k < d → k ≤ c 20 1 → ∀ (H : Heap) (locs : List Loc) (wl : va_W) (ls : Array Slot), Rc G c wl → Rr G r wl → Ro G o wl → va_P D vwCl wl H → va_D (fun q => h0 ≤ q) wl → va_S (fun q => h0 ≤ q) s.heap H locs → lv_has ls 6 [(4, .int (nI k)), (3, .int (nI (mk (fun u => f.testBit u = true ∧ anN (c 7 u) (f ||| mk (fun w => c 6 w ≠ 0 ∧ f.testBit (c 6 w - 1) = true) (c 20 1)) = 0) k))), (2, .int (nI (f ||| mk (fun w => c 6 w ≠ 0 ∧ f.testBit (c 6 w - 1) = true) (c 20 1)))), (0, .ref (G 0)), (1, .int (nI f))] → W p l e (headSpec wsX2_keepSupplied ({ frames := 2, cells := 0, slots := 0, locals := 42 } : Room)).room s m ([.ref (G 0), .int (nI f)] : List Value).toArray below meth cd H locs 0 0 Q (F0 m 65 ls []) := by
          intro d65
          induction d65 with
          | zero => intro k hd; exact absurd hd (Nat.not_lt_zero _)
          | succ d65 ih65 =>
            intro k hd hi  H locs wl ls hRc hRr hRo hP hD hS hl
            have ha7 : anN (c 7 k) (f ||| mk (fun w => c 6 w ≠ 0 ∧ f.testBit (c 6 w - 1) = true) (c 20 1)) < 2 ^ 31 := Nat.lt_trans (anN_lt (p20 (h7 k) hn)) (by decide)
            refine lv_iload hx hb dX2_keepSupplied_65 (lv_at hl 0 rfl) ?_
            refine lv_aload_n hx hb dX2_keepSupplied_67 rfl (lv_at hl 3 rfl) ?_
            refine va_get (D := D) (ci := 3) (v := .int (nI (c 20 1))) (C := RX2) (T := TX2) (N := 7) hx hb hts inX2 hown hK hP 0 (Q_o hRc) rfl 1 (by decide) (hts (.fieldLink RX2 15 "BootStage" "count" "I") (by decide +kernel)) (fun _ h9 => h9) rfl dX2_keepSupplied_68 ?_
            refine n_icmp_ge (tgt := 141) hx hb dX2_keepSupplied_71 (by decide) (by omega) (hB _ _ (by decide)) (fun c_71 => ?_) (fun c_71 => ?_)
            · refine lv_iload_n hx hb dX2_keepSupplied_141 rfl (lv_at hl 1 rfl) ?_
              rw [hQ]
              exact W.iret (v := nI (mk (fun u => f.testBit u = true ∧ anN (c 7 u) (f ||| mk (fun w => c 6 w ≠ 0 ∧ f.testBit (c 6 w - 1) = true) (c 20 1)) = 0) k)) hx hb hr (fun t ht hW => ⟨⟨_, (), rfl, (show nI (mk (fun u => f.testBit u = true ∧ anN (c 7 u) (f ||| mk (fun w => c 6 w ≠ 0 ∧ f.testBit (c 6 w - 1) = true) (c 20 1)) = 0) k) = nI (keepS c f) from by unfold keepS; rw [show k = c 20 1 by omega]), Wr_mk hRc hRr hRo hP hD ht⟩, hS.F ht⟩) hS.2.2 dX2_keepSupplied_142
            · refine lv_aload_n hx hb dX2_keepSupplied_74 rfl (lv_at hl 3 rfl) ?_
              refine lv_iload_n hx hb dX2_keepSupplied_75 rfl (lv_at hl 4 rfl) ?_
              refine lv_aload_n hx hb dX2_keepSupplied_76 rfl (lv_at hl 3 rfl) ?_
              refine va_get (D := D) (ci := 3) (v := .ref (G 1)) (C := RX2) (T := TX2) (N := 7) hx hb hts inX2 hown hK hP 0 (Q_o hRc) rfl 0 (by decide) (hts (.fieldLink RX2 11 "BootStage" "rows" "[LBootStage$Unit;") (by decide +kernel)) (fun _ h9 => h9) rfl dX2_keepSupplied_77 ?_
              refine lv_iload hx hb dX2_keepSupplied_80 (lv_at hl 0 rfl) ?_
              refine x_row hx hb hK hP hRc (by first | omega | decide | assumption) dX2_keepSupplied_82 ?_
              refine y_calli (va_runV (As := [.int (nI f), .ref (G (20 + k))]) (rest := []) ⟨hx, hb, hml, hown, hts⟩ (k_X2_contains l D G h0 c r o f k (by first | omega | assumption)) (cwV 2 hts gX2_keepSupplied_X2_contains rfl rfl rfl (by decide +kernel) ⟨Nat.le_of_ble_eq_true rfl, Nat.le_of_ble_eq_true rfl⟩) ⟨fun a U g mk q => ⟨q.1, Pr_cg q.2⟩, va_recv (ci := 3) (q0 := 0) hK hP rfl (Q_o hRc), fun U hU hW => ⟨rfl, Pr_mk hE hRc hRr hRo hP hD hS hU hW⟩⟩ rfl rfl hl.1 rfl (lv_room (Nat.le_of_ble_eq_true rfl)) dX2_keepSupplied_83 ⟨Nat.le_of_ble_eq_true rfl, Nat.le_of_ble_eq_true rfl⟩) hS (fun v _ H locs wl hv hRc hRr hRo hP hD hS => ?_)
              refine n_top (y := .int (nI (bN (Nat.testBit f k = true)))) (congrArg Value.int hv) ?_
              clear hv v
              refine n_ifb_eq (tgt := 110) hx hb dX2_keepSupplied_86 (by decide) (fun c_86 => ?_) (fun c_86 => ?_)
              · refine lv_iconst (v := nI 0) hx hb dX2_keepSupplied_110 (by decide) ?_
                refine lv_istore (lv' := [(5, .int (nI 0)), (4, .int (nI k)), (3, .int (nI (mk (fun u => f.testBit u = true ∧ anN (c 7 u) (f ||| mk (fun w => c 6 w ≠ 0 ∧ f.testBit (c 6 w - 1) = true) (c 20 1)) = 0) k))), (2, .int (nI (f ||| mk (fun w => c 6 w ≠ 0 ∧ f.testBit (c 6 w - 1) = true) (c 20 1)))), (0, .ref (G 0)), (1, .int (nI f))]) hx hb dX2_keepSupplied_111 hl (by decide) rfl (fun ls hl => ?_)
                refine lv_iload_n hx hb dX2_keepSupplied_113 rfl (lv_at hl 2 rfl) ?_
                refine lv_iload hx hb dX2_keepSupplied_114 (lv_at hl 0 rfl) ?_
                refine n_if_eq (tgt := 132) hx hb dX2_keepSupplied_116 (by decide) (by decide) (fun c_116 => ?_) (fun c_116 => ?_)
                · refine lv_iconst (v := nI 0) hx hb dX2_keepSupplied_132 (by decide) ?_
                  refine n_ior hx hb dX2_keepSupplied_133 ?_
                  refine lv_istore_n (lv' := [(3, .int (nI ((mk (fun u => f.testBit u = true ∧ anN (c 7 u) (f ||| mk (fun w => c 6 w ≠ 0 ∧ f.testBit (c 6 w - 1) = true) (c 20 1)) = 0) k) ||| 0))), (5, .int (nI 0)), (4, .int (nI k)), (2, .int (nI (f ||| mk (fun w => c 6 w ≠ 0 ∧ f.testBit (c 6 w - 1) = true) (c 20 1)))), (0, .ref (G 0)), (1, .int (nI f))]) hx hb dX2_keepSupplied_134 rfl hl (by decide) rfl (fun ls hl => ?_)
                  refine lv_iinc (v := nI (k + 1)) (lv' := [(4, .int (nI (k + 1))), (3, .int (nI ((mk (fun u => f.testBit u = true ∧ anN (c 7 u) (f ||| mk (fun w => c 6 w ≠ 0 ∧ f.testBit (c 6 w - 1) = true) (c 20 1)) = 0) k) ||| 0))), (5, .int (nI 0)), (2, .int (nI (f ||| mk (fun w => c 6 w ≠ 0 ∧ f.testBit (c 6 w - 1) = true) (c 20 1)))), (0, .ref (G 0)), (1, .int (nI f))]) hx hb dX2_keepSupplied_135 hl (k := 2) rfl (nI_add k 1) (by decide) rfl (fun ls hl => ?_)
                  refine lv_goto (tgt := 65) hx hb dX2_keepSupplied_138 (by decide) ?_
                  exact ih65 (k + 1) (by omega) (by omega)   _ _ _ _ hRc hRr hRo hP hD hS (show lv_has ls 6 [(4, .int (nI (k + 1))), (3, .int (nI (mk (fun u => f.testBit u = true ∧ anN (c 7 u) (f ||| mk (fun w => c 6 w ≠ 0 ∧ f.testBit (c 6 w - 1) = true) (c 20 1)) = 0) (k + 1)))), (2, .int (nI (f ||| mk (fun w => c 6 w ≠ 0 ∧ f.testBit (c 6 w - 1) = true) (c 20 1)))), (0, .ref (G 0)), (1, .int (nI f))] from by rw [show ((.int (nI (mk (fun u => f.testBit u = true ∧ anN (c 7 u) (f ||| mk (fun w => c 6 w ≠ 0 ∧ f.testBit (c 6 w - 1) = true) (c 20 1)) = 0) (k + 1))) : Value)) = .int (nI ((mk (fun u => f.testBit u = true ∧ anN (c 7 u) (f ||| mk (fun w => c 6 w ≠ 0 ∧ f.testBit (c 6 w - 1) = true) (c 20 1)) = 0) k) ||| 0)) from by first | exact congrArg (fun z => Value.int (nI z)) (mk_t ⟨by assumption, by assumption⟩) | exact congrArg (fun z => Value.int (nI z)) ((mk_f (fun z => absurd z.1 (by assumption))).trans (Nat.or_zero _).symm) | exact congrArg (fun z => Value.int (nI z)) ((mk_f (fun z => absurd z.2 (by omega))).trans (Nat.or_zero _).symm)]; exact lv_sub hl [0, 1, 3, 4, 5] rfl)
                · exfalso; omega
              · refine lv_aload_n hx hb dX2_keepSupplied_89 rfl (lv_at hl 3 rfl) ?_
                refine va_get (D := D) (ci := 3) (v := .ref (G 1)) (C := RX2) (T := TX2) (N := 7) hx hb hts inX2 hown hK hP 0 (Q_o hRc) rfl 0 (by decide) (hts (.fieldLink RX2 11 "BootStage" "rows" "[LBootStage$Unit;") (by decide +kernel)) (fun _ h9 => h9) rfl dX2_keepSupplied_90 ?_
                refine lv_iload hx hb dX2_keepSupplied_93 (lv_at hl 0 rfl) ?_
                refine x_row hx hb hK hP hRc (by first | omega | decide | assumption) dX2_keepSupplied_95 ?_
                refine va_get (D := D) (ci := 1) (v := .int (nI (c 7 k))) (C := RX0) (T := TX0) (N := 13) hx hb hts inX0 hown hK hP (20 + k) (Q_u hRc (by first | omega | decide | assumption)) rfl 7 (by decide) (hts (.fieldLink RX2 75 "BootStage$Unit" "needs" "I") (by decide +kernel)) (fun _ h9 => h9) rfl dX2_keepSupplied_96 ?_
                refine lv_iload_n hx hb dX2_keepSupplied_99 rfl (lv_at hl 2 rfl) ?_
                refine lv_iconst (v := (-1)) hx hb dX2_keepSupplied_100 (by decide) ?_
                refine lv_ixor hx hb dX2_keepSupplied_101 ?_
                refine n_nand hx hb dX2_keepSupplied_102 ?_
                refine n_if_ne (tgt := 110) hx hb dX2_keepSupplied_103 (by decide) ha7 (fun c_103 => ?_) (fun c_103 => ?_)
                · refine lv_iconst (v := nI 0) hx hb dX2_keepSupplied_110 (by decide) ?_
                  refine lv_istore (lv' := [(5, .int (nI 0)), (4, .int (nI k)), (3, .int (nI (mk (fun u => f.testBit u = true ∧ anN (c 7 u) (f ||| mk (fun w => c 6 w ≠ 0 ∧ f.testBit (c 6 w - 1) = true) (c 20 1)) = 0) k))), (2, .int (nI (f ||| mk (fun w => c 6 w ≠ 0 ∧ f.testBit (c 6 w - 1) = true) (c 20 1)))), (0, .ref (G 0)), (1, .int (nI f))]) hx hb dX2_keepSupplied_111 hl (by decide) rfl (fun ls hl => ?_)
                  refine lv_iload_n hx hb dX2_keepSupplied_113 rfl (lv_at hl 2 rfl) ?_
                  refine lv_iload hx hb dX2_keepSupplied_114 (lv_at hl 0 rfl) ?_
                  refine n_if_eq (tgt := 132) hx hb dX2_keepSupplied_116 (by decide) (by decide) (fun c_116 => ?_) (fun c_116 => ?_)
                  · refine lv_iconst (v := nI 0) hx hb dX2_keepSupplied_132 (by decide) ?_
                    refine n_ior hx hb dX2_keepSupplied_133 ?_
                    refine lv_istore_n (lv' := [(3, .int (nI ((mk (fun u => f.testBit u = true ∧ anN (c 7 u) (f ||| mk (fun w => c 6 w ≠ 0 ∧ f.testBit (c 6 w - 1) = true) (c 20 1)) = 0) k) ||| 0))), (5, .int (nI 0)), (4, .int (nI k)), (2, .int (nI (f ||| mk (fun w => c 6 w ≠ 0 ∧ f.testBit (c 6 w - 1) = true) (c 20 1)))), (0, .ref (G 0)), (1, .int (nI f))]) hx hb dX2_keepSupplied_134 rfl hl (by decide) rfl (fun ls hl => ?_)
                    refine lv_iinc (v := nI (k + 1)) (lv' := [(4, .int (nI (k + 1))), (3, .int (nI ((mk (fun u => f.testBit u = true ∧ anN (c 7 u) (f ||| mk (fun w => c 6 w ≠ 0 ∧ f.testBit (c 6 w - 1) = true) (c 20 1)) = 0) k) ||| 0))), (5, .int (nI 0)), (2, .int (nI (f ||| mk (fun w => c 6 w ≠ 0 ∧ f.testBit (c 6 w - 1) = true) (c 20 1)))), (0, .ref (G 0)), (1, .int (nI f))]) hx hb dX2_keepSupplied_135 hl (k := 2) rfl (nI_add k 1) (by decide) rfl (fun ls hl => ?_)
                    refine lv_goto (tgt := 65) hx hb dX2_keepSupplied_138 (by decide) ?_
                    exact ih65 (k + 1) (by omega) (by omega)   _ _ _ _ hRc hRr hRo hP hD hS (show lv_has ls 6 [(4, .int (nI (k + 1))), (3, .int (nI (mk (fun u => f.testBit u = true ∧ anN (c 7 u) (f ||| mk (fun w => c 6 w ≠ 0 ∧ f.testBit (c 6 w - 1) = true) (c 20 1)) = 0) (k + 1)))), (2, .int (nI (f ||| mk (fun w => c 6 w ≠ 0 ∧ f.testBit (c 6 w - 1) = true) (c 20 1)))), (0, .ref (G 0)), (1, .int (nI f))] from by rw [show ((.int (nI (mk (fun u => f.testBit u = true ∧ anN (c 7 u) (f ||| mk (fun w => c 6 w ≠ 0 ∧ f.testBit (c 6 w - 1) = true) (c 20 1)) = 0) (k + 1))) : Value)) = .int (nI ((mk (fun u => f.testBit u = true ∧ anN (c 7 u) (f ||| mk (fun w => c 6 w ≠ 0 ∧ f.testBit (c 6 w - 1) = true) (c 20 1)) = 0) k) ||| 0)) from by first | exact congrArg (fun z => Value.int (nI z)) (mk_t ⟨by assumption, by assumption⟩) | exact congrArg (fun z => Value.int (nI z)) ((mk_f (fun z => absurd z.1 (by assumption))).trans (Nat.or_zero _).symm) | exact congrArg (fun z => Value.int (nI z)) ((mk_f (fun z => absurd z.2 (by omega))).trans (Nat.or_zero _).symm)]; exact lv_sub hl [0, 1, 3, 4, 5] rfl)
                  · exfalso; omega
                · refine lv_iconst (v := nI 1) hx hb dX2_keepSupplied_106 (by decide) ?_
                  refine lv_goto (tgt := 111) hx hb dX2_keepSupplied_107 (by decide) ?_
                  refine lv_istore (lv' := [(5, .int (nI 1)), (4, .int (nI k)), (3, .int (nI (mk (fun u => f.testBit u = true ∧ anN (c 7 u) (f ||| mk (fun w => c 6 w ≠ 0 ∧ f.testBit (c 6 w - 1) = true) (c 20 1)) = 0) k))), (2, .int (nI (f ||| mk (fun w => c 6 w ≠ 0 ∧ f.testBit (c 6 w - 1) = true) (c 20 1)))), (0, .ref (G 0)), (1, .int (nI f))]) hx hb dX2_keepSupplied_111 hl (by decide) rfl (fun ls hl => ?_)
                  refine lv_iload_n hx hb dX2_keepSupplied_113 rfl (lv_at hl 2 rfl) ?_
                  refine lv_iload hx hb dX2_keepSupplied_114 (lv_at hl 0 rfl) ?_
                  refine n_if_eq (tgt := 132) hx hb dX2_keepSupplied_116 (by decide) (by decide) (fun c_116 => ?_) (fun c_116 => ?_)
                  · exfalso; omega
                  · refine lv_aload_n hx hb dX2_keepSupplied_119 rfl (lv_at hl 4 rfl) ?_
                    refine va_get (D := D) (ci := 3) (v := .ref (G 1)) (C := RX2) (T := TX2) (N := 7) hx hb hts inX2 hown hK hP 0 (Q_o hRc) rfl 0 (by decide) (hts (.fieldLink RX2 11 "BootStage" "rows" "[LBootStage$Unit;") (by decide +kernel)) (fun _ h9 => h9) rfl dX2_keepSupplied_120 ?_
                    refine lv_iload hx hb dX2_keepSupplied_123 (lv_at hl 1 rfl) ?_
                    refine x_row hx hb hK hP hRc (by first | omega | decide | assumption) dX2_keepSupplied_125 ?_
                    refine y_calli (va_runV (As := []) (rest := [.int (nI (mk (fun u => f.testBit u = true ∧ anN (c 7 u) (f ||| mk (fun w => c 6 w ≠ 0 ∧ f.testBit (c 6 w - 1) = true) (c 20 1)) = 0) k))]) ⟨hx, hb, hml, hown, hts⟩ (k_X0_bit l D G h0 c r o k (by first | omega | assumption)) (cwV 0 hts gX2_keepSupplied_X0_bit rfl rfl rfl (by decide +kernel) ⟨Nat.le_of_ble_eq_true rfl, Nat.le_of_ble_eq_true rfl⟩) ⟨fun a U g mk q => ⟨q.1, Pr_cg q.2⟩, va_recv (ci := 1) (q0 := 20 + k) hK hP rfl (Q_u hRc (by first | omega | decide | assumption)), fun U hU hW => ⟨rfl, Pr_mk hE hRc hRr hRo hP hD hS hU hW⟩⟩ rfl rfl hl.1 rfl (lv_room (Nat.le_of_ble_eq_true rfl)) dX2_keepSupplied_126 ⟨Nat.le_of_ble_eq_true rfl, Nat.le_of_ble_eq_true rfl⟩) hS (fun v _ H locs wl hv hRc hRr hRo hP hD hS => ?_)
                    refine n_top (y := .int (nI (2 ^ k))) (congrArg Value.int hv) ?_
                    clear hv v
                    refine lv_goto (tgt := 133) hx hb dX2_keepSupplied_129 (by decide) ?_
                    refine n_ior hx hb dX2_keepSupplied_133 ?_
                    refine lv_istore_n (lv' := [(3, .int (nI ((mk (fun u => f.testBit u = true ∧ anN (c 7 u) (f ||| mk (fun w => c 6 w ≠ 0 ∧ f.testBit (c 6 w - 1) = true) (c 20 1)) = 0) k) ||| (2 ^ k)))), (5, .int (nI 1)), (4, .int (nI k)), (2, .int (nI (f ||| mk (fun w => c 6 w ≠ 0 ∧ f.testBit (c 6 w - 1) = true) (c 20 1)))), (0, .ref (G 0)), (1, .int (nI f))]) hx hb dX2_keepSupplied_134 rfl hl (by decide) rfl (fun ls hl => ?_)
                    refine lv_iinc (v := nI (k + 1)) (lv' := [(4, .int (nI (k + 1))), (3, .int (nI ((mk (fun u => f.testBit u = true ∧ anN (c 7 u) (f ||| mk (fun w => c 6 w ≠ 0 ∧ f.testBit (c 6 w - 1) = true) (c 20 1)) = 0) k) ||| (2 ^ k)))), (5, .int (nI 1)), (2, .int (nI (f ||| mk (fun w => c 6 w ≠ 0 ∧ f.testBit (c 6 w - 1) = true) (c 20 1)))), (0, .ref (G 0)), (1, .int (nI f))]) hx hb dX2_keepSupplied_135 hl (k := 2) rfl (nI_add k 1) (by decide) rfl (fun ls hl => ?_)
                    refine lv_goto (tgt := 65) hx hb dX2_keepSupplied_138 (by decide) ?_
                    exact ih65 (k + 1) (by omega) (by omega)   _ _ _ _ hRc hRr hRo hP hD hS (show lv_has ls 6 [(4, .int (nI (k + 1))), (3, .int (nI (mk (fun u => f.testBit u = true ∧ anN (c 7 u) (f ||| mk (fun w => c 6 w ≠ 0 ∧ f.testBit (c 6 w - 1) = true) (c 20 1)) = 0) (k + 1)))), (2, .int (nI (f ||| mk (fun w => c 6 w ≠ 0 ∧ f.testBit (c 6 w - 1) = true) (c 20 1)))), (0, .ref (G 0)), (1, .int (nI f))] from by rw [show ((.int (nI (mk (fun u => f.testBit u = true ∧ anN (c 7 u) (f ||| mk (fun w => c 6 w ≠ 0 ∧ f.testBit (c 6 w - 1) = true) (c 20 1)) = 0) (k + 1))) : Value)) = .int (nI ((mk (fun u => f.testBit u = true ∧ anN (c 7 u) (f ||| mk (fun w => c 6 w ≠ 0 ∧ f.testBit (c 6 w - 1) = true) (c 20 1)) = 0) k) ||| (2 ^ k))) from by first | exact congrArg (fun z => Value.int (nI z)) (mk_t ⟨by assumption, by assumption⟩) | exact congrArg (fun z => Value.int (nI z)) ((mk_f (fun z => absurd z.1 (by assumption))).trans (Nat.or_zero _).symm) | exact congrArg (fun z => Value.int (nI z)) ((mk_f (fun z => absurd z.2 (by omega))).trans (Nat.or_zero _).symm)]; exact lv_sub hl [0, 1, 3, 4, 5] rfl)
        exact L65 _ 0 (Nat.lt_succ_self _) (by omega)   _ _ _ _ hRc hRr hRo hP hD hS (show lv_has ls 6 [(4, .int (nI 0)), (3, .int (nI (mk (fun u => f.testBit u = true ∧ anN (c 7 u) (f ||| mk (fun w => c 6 w ≠ 0 ∧ f.testBit (c 6 w - 1) = true) (c 20 1)) = 0) 0))), (2, .int (nI (f ||| mk (fun w => c 6 w ≠ 0 ∧ f.testBit (c 6 w - 1) = true) (c 20 1)))), (0, .ref (G 0)), (1, .int (nI f))] from by rw [show ((.int (nI (mk (fun u => f.testBit u = true ∧ anN (c 7 u) (f ||| mk (fun w => c 6 w ≠ 0 ∧ f.testBit (c 6 w - 1) = true) (c 20 1)) = 0) 0)) : Value)) = .int (nI 0) from by rfl, show ((.int (nI (f ||| mk (fun w => c 6 w ≠ 0 ∧ f.testBit (c 6 w - 1) = true) (c 20 1))) : Value)) = .int (nI (f ||| mk (fun w => c 6 w ≠ 0 ∧ f.testBit (c 6 w - 1) = true) i)) from by exact congrArg (fun z => Value.int (nI z)) (show f ||| mk (fun w => c 6 w ≠ 0 ∧ f.testBit (c 6 w - 1) = true) (c 20 1) = f ||| mk (fun w => c 6 w ≠ 0 ∧ f.testBit (c 6 w - 1) = true) i by rw [show i = c 20 1 by omega])]; exact lv_sub hl [0, 1, 2, 3, 4] rfl)
      · refine lv_aload_n hx hb dX2_keepSupplied_12 rfl (lv_at hl 2 rfl) ?_
        refine va_get (D := D) (ci := 3) (v := .ref (G 1)) (C := RX2) (T := TX2) (N := 7) hx hb hts inX2 hown hK hP 0 (Q_o hRc) rfl 0 (by decide) (hts (.fieldLink RX2 11 "BootStage" "rows" "[LBootStage$Unit;") (by decide +kernel)) (fun _ h9 => h9) rfl dX2_keepSupplied_13 ?_
        refine lv_iload_n hx hb dX2_keepSupplied_16 rfl (lv_at hl 0 rfl) ?_
        refine x_row hx hb hK hP hRc (by first | omega | decide | assumption) dX2_keepSupplied_17 ?_
        rcases (show c 6 i = 0 ∨ ∃ w, c 6 i = w + 1 from by cases h9 : c 6 i with | zero => exact Or.inl rfl | succ w => exact Or.inr ⟨w, rfl⟩) with hz_18 | ⟨w_18, hz_18⟩
        · skip
          refine va_get (D := D) (ci := 1) (v := .null) (C := RX0) (T := TX0) (N := 13) hx hb hts inX0 hown hK hP (20 + i) (Q_u hRc (by first | omega | decide | assumption)) rfl 6 (by decide) (hts (.fieldLink RX2 109 "BootStage$Unit" "substitute" "LBootStage$Unit;") (by decide +kernel)) (fun _ h9 => h9) (congrArg some (sbV_0 G hz_18)) dX2_keepSupplied_18 ?_
          refine lv_astoreN (lv' := [(4, .null), (3, .int (nI i)), (2, .int (nI (f ||| mk (fun w => c 6 w ≠ 0 ∧ f.testBit (c 6 w - 1) = true) i))), (0, .ref (G 0)), (1, .int (nI f))]) hx hb dX2_keepSupplied_21 hl (by decide) rfl (fun ls hl => ?_)
          refine lv_iload_n hx hb dX2_keepSupplied_23 rfl (lv_at hl 2 rfl) ?_
          refine lv_aloadN hx hb dX2_keepSupplied_24 (lv_at hl 0 rfl) ?_
          refine lv_ifnullN (tgt := 51) hx hb dX2_keepSupplied_26 (by decide) ?_
          refine lv_iconst (v := nI 0) hx hb dX2_keepSupplied_51 (by decide) ?_
          refine n_ior hx hb dX2_keepSupplied_52 ?_
          refine lv_istore_n (lv' := [(2, .int (nI ((f ||| mk (fun w => c 6 w ≠ 0 ∧ f.testBit (c 6 w - 1) = true) i) ||| 0))), (4, .null), (3, .int (nI i)), (0, .ref (G 0)), (1, .int (nI f))]) hx hb dX2_keepSupplied_53 rfl hl (by decide) rfl (fun ls hl => ?_)
          refine lv_iinc (v := nI (i + 1)) (lv' := [(3, .int (nI (i + 1))), (2, .int (nI ((f ||| mk (fun w => c 6 w ≠ 0 ∧ f.testBit (c 6 w - 1) = true) i) ||| 0))), (4, .null), (0, .ref (G 0)), (1, .int (nI f))]) hx hb dX2_keepSupplied_54 hl (k := 2) rfl (nI_add i 1) (by decide) rfl (fun ls hl => ?_)
          refine lv_goto (tgt := 4) hx hb dX2_keepSupplied_57 (by decide) ?_
          exact ih4 (i + 1) (by omega) (by omega)   _ _ _ _ hRc hRr hRo hP hD hS (show lv_has ls 6 [(3, .int (nI (i + 1))), (2, .int (nI (f ||| mk (fun w => c 6 w ≠ 0 ∧ f.testBit (c 6 w - 1) = true) (i + 1)))), (0, .ref (G 0)), (1, .int (nI f))] from by rw [show ((.int (nI (f ||| mk (fun w => c 6 w ≠ 0 ∧ f.testBit (c 6 w - 1) = true) (i + 1))) : Value)) = .int (nI ((f ||| mk (fun w => c 6 w ≠ 0 ∧ f.testBit (c 6 w - 1) = true) i) ||| 0)) from by exact congrArg (fun z => Value.int (nI z)) (show f ||| mk (fun w => c 6 w ≠ 0 ∧ f.testBit (c 6 w - 1) = true) (i + 1) = (f ||| mk (fun w => c 6 w ≠ 0 ∧ f.testBit (c 6 w - 1) = true) i) ||| 0 by rw [mk_f (fun (z : c 6 i ≠ 0 ∧ f.testBit (c 6 i - 1) = true) => z.1 hz_18), Nat.or_zero])]; exact lv_sub hl [0, 1, 3, 4] rfl)
        · have hw_w_18 : w_18 < 20 := by have h9 := hs i; omega
          refine va_get (D := D) (ci := 1) (v := .ref (G (20 + w_18))) (C := RX0) (T := TX0) (N := 13) hx hb hts inX0 hown hK hP (20 + i) (Q_u hRc (by first | omega | decide | assumption)) rfl 6 (by decide) (hts (.fieldLink RX2 109 "BootStage$Unit" "substitute" "LBootStage$Unit;") (by decide +kernel)) (fun _ h9 => h9) (congrArg some (sbV_s G hz_18)) dX2_keepSupplied_18 ?_
          refine lv_astore (lv' := [(4, .ref (G (20 + w_18))), (3, .int (nI i)), (2, .int (nI (f ||| mk (fun w => c 6 w ≠ 0 ∧ f.testBit (c 6 w - 1) = true) i))), (0, .ref (G 0)), (1, .int (nI f))]) hx hb dX2_keepSupplied_21 hl (by decide) rfl (fun ls hl => ?_)
          refine lv_iload_n hx hb dX2_keepSupplied_23 rfl (lv_at hl 2 rfl) ?_
          refine lv_aload hx hb dX2_keepSupplied_24 (lv_at hl 0 rfl) ?_
          refine lv_ifnull hx hb dX2_keepSupplied_26 ?_
          refine lv_aload_n hx hb dX2_keepSupplied_29 rfl (lv_at hl 3 rfl) ?_
          refine lv_iload_n hx hb dX2_keepSupplied_30 rfl (lv_at hl 4 rfl) ?_
          refine lv_aload hx hb dX2_keepSupplied_31 (lv_at hl 0 rfl) ?_
          refine y_calli (va_runV (As := [.int (nI f), .ref (G (20 + w_18))]) (rest := [.int (nI (f ||| mk (fun w => c 6 w ≠ 0 ∧ f.testBit (c 6 w - 1) = true) i))]) ⟨hx, hb, hml, hown, hts⟩ (k_X2_contains l D G h0 c r o f w_18 (by first | omega | assumption)) (cwV 2 hts gX2_keepSupplied_X2_contains rfl rfl rfl (by decide +kernel) ⟨Nat.le_of_ble_eq_true rfl, Nat.le_of_ble_eq_true rfl⟩) ⟨fun a U g mk q => ⟨q.1, Pr_cg q.2⟩, va_recv (ci := 3) (q0 := 0) hK hP rfl (Q_o hRc), fun U hU hW => ⟨rfl, Pr_mk hE hRc hRr hRo hP hD hS hU hW⟩⟩ rfl rfl hl.1 rfl (lv_room (Nat.le_of_ble_eq_true rfl)) dX2_keepSupplied_33 ⟨Nat.le_of_ble_eq_true rfl, Nat.le_of_ble_eq_true rfl⟩) hS (fun v _ H locs wl hv hRc hRr hRo hP hD hS => ?_)
          refine n_top (y := .int (nI (bN (Nat.testBit f w_18 = true)))) (congrArg Value.int hv) ?_
          clear hv v
          refine n_ifb_eq (tgt := 51) hx hb dX2_keepSupplied_36 (by decide) (fun c_36 => ?_) (fun c_36 => ?_)
          · refine lv_iconst (v := nI 0) hx hb dX2_keepSupplied_51 (by decide) ?_
            refine n_ior hx hb dX2_keepSupplied_52 ?_
            refine lv_istore_n (lv' := [(2, .int (nI ((f ||| mk (fun w => c 6 w ≠ 0 ∧ f.testBit (c 6 w - 1) = true) i) ||| 0))), (4, .ref (G (20 + w_18))), (3, .int (nI i)), (0, .ref (G 0)), (1, .int (nI f))]) hx hb dX2_keepSupplied_53 rfl hl (by decide) rfl (fun ls hl => ?_)
            refine lv_iinc (v := nI (i + 1)) (lv' := [(3, .int (nI (i + 1))), (2, .int (nI ((f ||| mk (fun w => c 6 w ≠ 0 ∧ f.testBit (c 6 w - 1) = true) i) ||| 0))), (4, .ref (G (20 + w_18))), (0, .ref (G 0)), (1, .int (nI f))]) hx hb dX2_keepSupplied_54 hl (k := 2) rfl (nI_add i 1) (by decide) rfl (fun ls hl => ?_)
            refine lv_goto (tgt := 4) hx hb dX2_keepSupplied_57 (by decide) ?_
            exact ih4 (i + 1) (by omega) (by omega)   _ _ _ _ hRc hRr hRo hP hD hS (show lv_has ls 6 [(3, .int (nI (i + 1))), (2, .int (nI (f ||| mk (fun w => c 6 w ≠ 0 ∧ f.testBit (c 6 w - 1) = true) (i + 1)))), (0, .ref (G 0)), (1, .int (nI f))] from by rw [show ((.int (nI (f ||| mk (fun w => c 6 w ≠ 0 ∧ f.testBit (c 6 w - 1) = true) (i + 1))) : Value)) = .int (nI ((f ||| mk (fun w => c 6 w ≠ 0 ∧ f.testBit (c 6 w - 1) = true) i) ||| 0)) from by exact congrArg (fun z => Value.int (nI z)) (show f ||| mk (fun w => c 6 w ≠ 0 ∧ f.testBit (c 6 w - 1) = true) (i + 1) = (f ||| mk (fun w => c 6 w ≠ 0 ∧ f.testBit (c 6 w - 1) = true) i) ||| 0 by rw [mk_f (fun (z : c 6 i ≠ 0 ∧ f.testBit (c 6 i - 1) = true) => by have z2 := z.2; rw [hz_18, Nat.add_sub_cancel] at z2; exact c_36 z2), Nat.or_zero])]; exact lv_sub hl [0, 1, 3, 4] rfl)
          · refine lv_aload_n hx hb dX2_keepSupplied_39 rfl (lv_at hl 3 rfl) ?_
            refine va_get (D := D) (ci := 3) (v := .ref (G 1)) (C := RX2) (T := TX2) (N := 7) hx hb hts inX2 hown hK hP 0 (Q_o hRc) rfl 0 (by decide) (hts (.fieldLink RX2 11 "BootStage" "rows" "[LBootStage$Unit;") (by decide +kernel)) (fun _ h9 => h9) rfl dX2_keepSupplied_40 ?_
            refine lv_iload_n hx hb dX2_keepSupplied_43 rfl (lv_at hl 1 rfl) ?_
            refine x_row hx hb hK hP hRc (by first | omega | decide | assumption) dX2_keepSupplied_44 ?_
            refine y_calli (va_runV (As := []) (rest := [.int (nI (f ||| mk (fun w => c 6 w ≠ 0 ∧ f.testBit (c 6 w - 1) = true) i))]) ⟨hx, hb, hml, hown, hts⟩ (k_X0_bit l D G h0 c r o i (by first | omega | assumption)) (cwV 0 hts gX2_keepSupplied_X0_bit rfl rfl rfl (by decide +kernel) ⟨Nat.le_of_ble_eq_true rfl, Nat.le_of_ble_eq_true rfl⟩) ⟨fun a U g mk q => ⟨q.1, Pr_cg q.2⟩, va_recv (ci := 1) (q0 := 20 + i) hK hP rfl (Q_u hRc (by first | omega | decide | assumption)), fun U hU hW => ⟨rfl, Pr_mk hE hRc hRr hRo hP hD hS hU hW⟩⟩ rfl rfl hl.1 rfl (lv_room (Nat.le_of_ble_eq_true rfl)) dX2_keepSupplied_45 ⟨Nat.le_of_ble_eq_true rfl, Nat.le_of_ble_eq_true rfl⟩) hS (fun v _ H locs wl hv hRc hRr hRo hP hD hS => ?_)
            refine n_top (y := .int (nI (2 ^ i))) (congrArg Value.int hv) ?_
            clear hv v
            refine lv_goto (tgt := 52) hx hb dX2_keepSupplied_48 (by decide) ?_
            refine n_ior hx hb dX2_keepSupplied_52 ?_
            refine lv_istore_n (lv' := [(2, .int (nI ((f ||| mk (fun w => c 6 w ≠ 0 ∧ f.testBit (c 6 w - 1) = true) i) ||| (2 ^ i)))), (4, .ref (G (20 + w_18))), (3, .int (nI i)), (0, .ref (G 0)), (1, .int (nI f))]) hx hb dX2_keepSupplied_53 rfl hl (by decide) rfl (fun ls hl => ?_)
            refine lv_iinc (v := nI (i + 1)) (lv' := [(3, .int (nI (i + 1))), (2, .int (nI ((f ||| mk (fun w => c 6 w ≠ 0 ∧ f.testBit (c 6 w - 1) = true) i) ||| (2 ^ i)))), (4, .ref (G (20 + w_18))), (0, .ref (G 0)), (1, .int (nI f))]) hx hb dX2_keepSupplied_54 hl (k := 2) rfl (nI_add i 1) (by decide) rfl (fun ls hl => ?_)
            refine lv_goto (tgt := 4) hx hb dX2_keepSupplied_57 (by decide) ?_
            exact ih4 (i + 1) (by omega) (by omega)   _ _ _ _ hRc hRr hRo hP hD hS (show lv_has ls 6 [(3, .int (nI (i + 1))), (2, .int (nI (f ||| mk (fun w => c 6 w ≠ 0 ∧ f.testBit (c 6 w - 1) = true) (i + 1)))), (0, .ref (G 0)), (1, .int (nI f))] from by rw [show ((.int (nI (f ||| mk (fun w => c 6 w ≠ 0 ∧ f.testBit (c 6 w - 1) = true) (i + 1))) : Value)) = .int (nI ((f ||| mk (fun w => c 6 w ≠ 0 ∧ f.testBit (c 6 w - 1) = true) i) ||| (2 ^ i))) from by exact congrArg (fun z => Value.int (nI z)) (show f ||| mk (fun w => c 6 w ≠ 0 ∧ f.testBit (c 6 w - 1) = true) (i + 1) = (f ||| mk (fun w => c 6 w ≠ 0 ∧ f.testBit (c 6 w - 1) = true) i) ||| 2 ^ i by rw [mk_t (show c 6 i ≠ 0 ∧ f.testBit (c 6 i - 1) = true from ⟨by rw [hz_18]; exact Nat.succ_ne_zero _, by rw [hz_18, Nat.add_sub_cancel]; exact c_36⟩), Nat.or_assoc])]; exact lv_sub hl [0, 1, 3, 4] rfl)
  exact L4 _ 0 (Nat.lt_succ_self _) (by omega)   _ _ _ _ hRc hRr hRo hP hD hS (show lv_has ls 6 [(3, .int (nI 0)), (2, .int (nI (f ||| mk (fun w => c 6 w ≠ 0 ∧ f.testBit (c 6 w - 1) = true) 0))), (0, .ref (G 0)), (1, .int (nI f))] from by rw [show ((.int (nI (f ||| mk (fun w => c 6 w ≠ 0 ∧ f.testBit (c 6 w - 1) = true) 0)) : Value)) = .int (nI f) from by exact congrArg (fun z => Value.int (nI z)) (Nat.or_zero f)]; exact lv_sub hl [0, 1, 2, 3] rfl)
set_option maxHeartbeats 4000000 in
set_option maxRecDepth 100000 in
theorem k_X2_canRun (l : Launch) (D : va_G) (G : Nat → Nat) (h0 : Nat) (c r : Nat → Nat → Nat) (o : Nat) (hI : IC c) : Met l yX2_canRun wsX2_canRun ({ frames := 3, cells := 0, slots := 0, locals := 67 } : Room) (va_Pc [.ref (G 0)] (fun U => Pr D G h0 c r o U)) (va_Qi (fun (v9 : Int32) (_ : Unit) => v9 = nI (canC c)) (fun _ t => Wr D G h0 c r o t) (fun q => h0 ≤ q)) 0 0 (fun q => h0 ≤ q) := by
  refine Met.ofW (cc := cX2_canRun) (maxL := 4) (ret := (some .int)) (by decide) rfl ?_
  intro p e s m args below meth cd s₁ B hml hv
  obtain ⟨rfl, hE, wl, hRc, hRr, hRo, hP, hD⟩ := hv
  have hx := B.exec
  have hb := B.bytes
  have hr := B.returns
  have hts := atoms_spec (ws := wsX2_canRun) B.pre
  have hown : s.vm.findClass RX2 = some m.cls := findClass_of_methodNamed B.named
  have hlocks := B.notSynchronized
  have hK := hE.2.1
  have hS : va_S (fun q => h0 ≤ q) s.heap s.heap [] := va_S.rf
  have hl := lv_entry ([.ref (G 0)]) (n := 4) (Nat.le_of_ble_eq_true rfl)
  rw [lg_entry_eq]
  generalize (lg_sl ([.ref (G 0)]) ++ List.replicate (4 - (lg_sl ([.ref (G 0)])).length) Slot.unset).toArray = ls at hl ⊢
  have hl : lv_has ls 4 [(0, .ref (G 0))] := hl
  have inX2 : ∀ w ∈ wsX20, w ∈ wsX2_canRun := by decide +kernel
  obtain ⟨Q, hQ⟩ : ∃ Q, Q = MQ below (va_Qi (fun (v9 : Int32) (_ : Unit) => v9 = nI (canC c)) (fun _ t => Wr D G h0 c r o t) (fun q => h0 ≤ q)) ([.ref (G 0)] : List Value).toArray s 0 0 (fun q => h0 ≤ q) := ⟨_, rfl⟩
  rw [← hQ]
  have hB := IC_B hI
  have hn := IC_n hI
  have hs := IC_s hI
  refine lv_aload_n hx hb dX2_canRun_0 rfl (lv_at hl 0 rfl) ?_
  refine y_calli (va_runV (As := []) (rest := []) ⟨hx, hb, hml, hown, hts⟩ (k_X2_ableAlone l D G h0 c r o hI) (cwV 0 hts gX2_canRun_X2_ableAlone rfl rfl rfl (by decide +kernel) ⟨Nat.le_of_ble_eq_true rfl, Nat.le_of_ble_eq_true rfl⟩) ⟨fun a U g mk q => ⟨q.1, Pr_cg q.2⟩, va_recv (ci := 3) (q0 := 0) hK hP rfl (Q_o hRc), fun U hU hW => ⟨rfl, Pr_mk hE hRc hRr hRo hP hD hS hU hW⟩⟩ rfl rfl hl.1 rfl (lv_room (Nat.le_of_ble_eq_true rfl)) dX2_canRun_1 ⟨Nat.le_of_ble_eq_true rfl, Nat.le_of_ble_eq_true rfl⟩) hS (fun v _ H locs wl hv hRc hRr hRo hP hD hS => ?_)
  refine n_top (y := .int (nI (mk (fun w => c 5 w = 0 ∧ c 4 w ≤ c 2 w) (c 20 1)))) (congrArg Value.int hv) ?_
  clear hv v
  refine lv_istore_n (lv' := [(1, .int (nI (mk (fun w => c 5 w = 0 ∧ c 4 w ≤ c 2 w) (c 20 1)))), (0, .ref (G 0))]) hx hb dX2_canRun_4 rfl hl (by decide) rfl (fun ls hl => ?_)
  refine lv_iconst (v := nI 0) hx hb dX2_canRun_5 (by decide) ?_
  refine lv_istore_n (lv' := [(2, .int (nI 0)), (1, .int (nI (mk (fun w => c 5 w = 0 ∧ c 4 w ≤ c 2 w) (c 20 1)))), (0, .ref (G 0))]) hx hb dX2_canRun_6 rfl hl (by decide) rfl (fun ls hl => ?_)
  refine lv_iconst (v := nI 0) hx hb dX2_canRun_7 (by decide) ?_
  refine lv_istore_n (lv' := [(3, .int (nI 0)), (2, .int (nI 0)), (1, .int (nI (mk (fun w => c 5 w = 0 ∧ c 4 w ≤ c 2 w) (c 20 1)))), (0, .ref (G 0))]) hx hb dX2_canRun_8 rfl hl (by decide) rfl (fun ls hl => ?_)
  have L9 : ∀ (d i : Nat), (c 20 1 + 1) - i < d → i ≤ (c 20 1 + 1) → ∀ (H : Heap) (locs : List Loc) (wl : va_W) (ls : Array Slot), Rc G c wl → Rr G r wl → Ro G o wl → va_P D vwCl wl H → va_D (fun q => h0 ≤ q) wl → va_S (fun q => h0 ≤ q) s.heap H locs → lv_has ls 4 [(3, .int (nI i)), (1, .int (nI (kpI c i))), (2, .int (nI (kpB c i))), (0, .ref (G 0))] → W p l e (headSpec wsX2_canRun ({ frames := 3, cells := 0, slots := 0, locals := 67 } : Room)).room s m ([.ref (G 0)] : List Value).toArray below meth cd H locs 0 0 Q (F0 m 9 ls []) := by
    intro d9
    induction d9 with
    | zero => intro i hd; exact absurd hd (Nat.not_lt_zero _)
    | succ d9 ih9 =>
      intro i hd hi  H locs wl ls hRc hRr hRo hP hD hS hl
      have hf1 : kpI c i < 2 ^ 20 := kpI_lt hn i
      have hf2 : kpB c i < 2 ^ 20 := kpB_lt hn i
      refine lv_iload_n hx hb dX2_canRun_9 rfl (lv_at hl 0 rfl) ?_
      refine lv_aload_n hx hb dX2_canRun_10 rfl (lv_at hl 3 rfl) ?_
      refine va_get (D := D) (ci := 3) (v := .int (nI (c 20 1))) (C := RX2) (T := TX2) (N := 7) hx hb hts inX2 hown hK hP 0 (Q_o hRc) rfl 1 (by decide) (hts (.fieldLink RX2 15 "BootStage" "count" "I") (by decide +kernel)) (fun _ h9 => h9) rfl dX2_canRun_11 ?_
      refine n_icmp_gt (tgt := 36) hx hb dX2_canRun_14 (by decide) (by omega) (hB _ _ (by decide)) (fun c_14 => ?_) (fun c_14 => ?_)
      · refine lv_iload_n hx hb dX2_canRun_36 rfl (lv_at hl 1 rfl) ?_
        rw [hQ]
        exact W.iret (v := nI (kpI c i)) hx hb hr (fun t ht hW => ⟨⟨_, (), rfl, (show nI (kpI c i) = nI (canC c) from by exact congrArg nI (canC_fin (by first | exact Or.inl (by assumption) | exact Or.inr (by assumption)))), Wr_mk hRc hRr hRo hP hD ht⟩, hS.F ht⟩) hS.2.2 dX2_canRun_37
      · refine lv_iload_n hx hb dX2_canRun_17 rfl (lv_at hl 1 rfl) ?_
        refine lv_iload_n hx hb dX2_canRun_18 rfl (lv_at hl 2 rfl) ?_
        refine n_icmp_eq (tgt := 36) hx hb dX2_canRun_19 (by decide) (Nat.lt_trans hf1 (by decide)) (Nat.lt_trans hf2 (by decide)) (fun c_19 => ?_) (fun c_19 => ?_)
        · refine lv_iload_n hx hb dX2_canRun_36 rfl (lv_at hl 1 rfl) ?_
          rw [hQ]
          exact W.iret (v := nI (kpI c i)) hx hb hr (fun t ht hW => ⟨⟨_, (), rfl, (show nI (kpI c i) = nI (canC c) from by exact congrArg nI (canC_fin (by first | exact Or.inl (by assumption) | exact Or.inr (by assumption)))), Wr_mk hRc hRr hRo hP hD ht⟩, hS.F ht⟩) hS.2.2 dX2_canRun_37
        · refine lv_iload_n hx hb dX2_canRun_22 rfl (lv_at hl 1 rfl) ?_
          refine lv_istore_n (lv' := [(2, .int (nI (kpI c i))), (3, .int (nI i)), (1, .int (nI (kpI c i))), (0, .ref (G 0))]) hx hb dX2_canRun_23 rfl hl (by decide) rfl (fun ls hl => ?_)
          refine lv_aload_n hx hb dX2_canRun_24 rfl (lv_at hl 3 rfl) ?_
          refine lv_iload_n hx hb dX2_canRun_25 rfl (lv_at hl 2 rfl) ?_
          refine y_calli (va_runV (As := [.int (nI (kpI c i))]) (rest := []) ⟨hx, hb, hml, hown, hts⟩ (k_X2_keepSupplied l D G h0 c r o hI (kpI c i) (by assumption)) (cwV 1 hts gX2_canRun_X2_keepSupplied rfl rfl rfl (by decide +kernel) ⟨Nat.le_of_ble_eq_true rfl, Nat.le_of_ble_eq_true rfl⟩) ⟨fun a U g mk q => ⟨q.1, Pr_cg q.2⟩, va_recv (ci := 3) (q0 := 0) hK hP rfl (Q_o hRc), fun U hU hW => ⟨rfl, Pr_mk hE hRc hRr hRo hP hD hS hU hW⟩⟩ rfl rfl hl.1 rfl (lv_room (Nat.le_of_ble_eq_true rfl)) dX2_canRun_26 ⟨Nat.le_of_ble_eq_true rfl, Nat.le_of_ble_eq_true rfl⟩) hS (fun v _ H locs wl hv hRc hRr hRo hP hD hS => ?_)
          refine n_top (y := .int (nI (keepS c (kpI c i)))) (congrArg Value.int hv) ?_
          clear hv v
          refine lv_istore_n (lv' := [(1, .int (nI (keepS c (kpI c i)))), (2, .int (nI (kpI c i))), (3, .int (nI i)), (0, .ref (G 0))]) hx hb dX2_canRun_29 rfl hl (by decide) rfl (fun ls hl => ?_)
          refine lv_iinc (v := nI (i + 1)) (lv' := [(3, .int (nI (i + 1))), (1, .int (nI (keepS c (kpI c i)))), (2, .int (nI (kpI c i))), (0, .ref (G 0))]) hx hb dX2_canRun_30 hl (k := 2) rfl (nI_add i 1) (by decide) rfl (fun ls hl => ?_)
          refine lv_goto (tgt := 9) hx hb dX2_canRun_33 (by decide) ?_
          exact ih9 (i + 1) (by omega) (by omega)   _ _ _ _ hRc hRr hRo hP hD hS (show lv_has ls 4 [(3, .int (nI (i + 1))), (1, .int (nI (kpI c (i + 1)))), (2, .int (nI (kpB c (i + 1)))), (0, .ref (G 0))] from by rw [show ((.int (nI (kpI c (i + 1))) : Value)) = .int (nI (keepS c (kpI c i))) from by rfl, show ((.int (nI (kpB c (i + 1))) : Value)) = .int (nI (kpI c i)) from by rfl]; exact lv_sub hl [0, 1, 2, 3] rfl)
  exact L9 _ 0 (Nat.lt_succ_self _) (by omega)   _ _ _ _ hRc hRr hRo hP hD hS (show lv_has ls 4 [(3, .int (nI 0)), (1, .int (nI (kpI c 0))), (2, .int (nI (kpB c 0))), (0, .ref (G 0))] from by rw [show ((.int (nI (kpI c 0)) : Value)) = .int (nI (mk (fun w => c 5 w = 0 ∧ c 4 w ≤ c 2 w) (c 20 1))) from by rfl, show ((.int (nI (kpB c 0)) : Value)) = .int (nI 0) from by rfl]; exact lv_sub hl [0, 2, 1, 3] rfl)
set_option maxHeartbeats 4000000 in
set_option maxRecDepth 100000 in
theorem k_X2_isAwaited (l : Launch) (D : va_G) (G : Nat → Nat) (h0 : Nat) (c r : Nat → Nat → Nat) (o : Nat) (hI : IC c) (v u : Nat) (hv : v < 20) (hu : u < 20) : Met l yX2_isAwaited wsX2_isAwaited ({ frames := 2, cells := 0, slots := 0, locals := 42 } : Room) (va_Pc [.ref (G 0), .ref (G (20 + v)), .ref (G (20 + u))] (fun U => Pr D G h0 c r o U)) (va_Qi (fun (v9 : Int32) (_ : Unit) => v9 = nI (bN (awC c u v))) (fun _ t => Wr D G h0 c r o t) (fun q => h0 ≤ q)) 0 0 (fun q => h0 ≤ q) := by
  refine Met.ofW (cc := cX2_isAwaited) (maxL := 5) (ret := (some .boolean)) (by decide) rfl ?_
  intro p e s m args below meth cd s₁ B hml hv
  obtain ⟨rfl, hE, wl, hRc, hRr, hRo, hP, hD⟩ := hv
  have hx := B.exec
  have hb := B.bytes
  have hr := B.returns
  have hts := atoms_spec (ws := wsX2_isAwaited) B.pre
  have hown : s.vm.findClass RX2 = some m.cls := findClass_of_methodNamed B.named
  have hlocks := B.notSynchronized
  have hK := hE.2.1
  have hS : va_S (fun q => h0 ≤ q) s.heap s.heap [] := va_S.rf
  have hl := lv_entry ([.ref (G 0), .ref (G (20 + v)), .ref (G (20 + u))]) (n := 5) (Nat.le_of_ble_eq_true rfl)
  rw [lg_entry_eq]
  generalize (lg_sl ([.ref (G 0), .ref (G (20 + v)), .ref (G (20 + u))]) ++ List.replicate (5 - (lg_sl ([.ref (G 0), .ref (G (20 + v)), .ref (G (20 + u))])).length) Slot.unset).toArray = ls at hl ⊢
  have hl : lv_has ls 5 [(0, .ref (G 0)), (1, .ref (G (20 + v))), (2, .ref (G (20 + u)))] := hl
  have inX0 : ∀ w ∈ wsX00, w ∈ wsX2_isAwaited := by decide +kernel
  have hB := IC_B hI
  have hn := IC_n hI
  have hs := IC_s hI
  refine lv_aload_n hx hb dX2_isAwaited_0 rfl (lv_at hl 0 rfl) ?_
  refine lv_aload_n hx hb dX2_isAwaited_1 rfl (lv_at hl 2 rfl) ?_
  refine va_get (D := D) (ci := 1) (v := .int (nI (c 7 u))) (C := RX0) (T := TX0) (N := 13) hx hb hts inX0 hown hK hP (20 + u) (Q_u hRc (by first | omega | decide | assumption)) rfl 7 (by decide) (hts (.fieldLink RX2 75 "BootStage$Unit" "needs" "I") (by decide +kernel)) (fun _ h9 => h9) rfl dX2_isAwaited_2 ?_
  refine lv_aload_n hx hb dX2_isAwaited_5 rfl (lv_at hl 1 rfl) ?_
  refine y_calli (va_runV (As := [.int (nI (c 7 u)), .ref (G (20 + v))]) (rest := []) ⟨hx, hb, hml, hown, hts⟩ (k_X2_contains l D G h0 c r o (c 7 u) v (by first | omega | assumption)) (cwV 2 hts gX2_isAwaited_X2_contains rfl rfl rfl (by decide +kernel) ⟨Nat.le_of_ble_eq_true rfl, Nat.le_of_ble_eq_true rfl⟩) ⟨fun a U g mk q => ⟨q.1, Pr_cg q.2⟩, va_recv (ci := 3) (q0 := 0) hK hP rfl (Q_o hRc), fun U hU hW => ⟨rfl, Pr_mk hE hRc hRr hRo hP hD hS hU hW⟩⟩ rfl rfl hl.1 rfl (lv_room (Nat.le_of_ble_eq_true rfl)) dX2_isAwaited_6 ⟨Nat.le_of_ble_eq_true rfl, Nat.le_of_ble_eq_true rfl⟩) hS (fun v _ H locs wl hv hRc hRr hRo hP hD hS => ?_)
  refine n_top (y := .int (nI (bN (Nat.testBit (c 7 u) v = true)))) (congrArg Value.int hv) ?_
  clear hv v
  refine n_ifb_eq (tgt := 30) hx hb dX2_isAwaited_9 (by decide) (fun c_9 => ?_) (fun c_9 => ?_)
  · refine lv_iconst (v := nI 0) hx hb dX2_isAwaited_30 (by decide) ?_
    refine lv_istore_n (lv' := [(3, .int (nI 0)), (0, .ref (G 0)), (1, .ref (G (20 + v))), (2, .ref (G (20 + u)))]) hx hb dX2_isAwaited_31 rfl hl (by decide) rfl (fun ls hl => ?_)
    refine lv_aload_n hx hb dX2_isAwaited_32 rfl (lv_at hl 1 rfl) ?_
    refine lv_aload_n hx hb dX2_isAwaited_33 rfl (lv_at hl 3 rfl) ?_
    refine va_get (D := D) (ci := 1) (v := .int (nI (c 8 u))) (C := RX0) (T := TX0) (N := 13) hx hb hts inX0 hown hK hP (20 + u) (Q_u hRc (by first | omega | decide | assumption)) rfl 8 (by decide) (hts (.fieldLink RX2 103 "BootStage$Unit" "keptWishes" "I") (by decide +kernel)) (fun _ h9 => h9) rfl dX2_isAwaited_34 ?_
    refine lv_aload_n hx hb dX2_isAwaited_37 rfl (lv_at hl 2 rfl) ?_
    refine y_calli (va_runV (As := [.int (nI (c 8 u)), .ref (G (20 + v))]) (rest := []) ⟨hx, hb, hml, hown, hts⟩ (k_X2_contains l D G h0 c r o (c 8 u) v (by first | omega | assumption)) (cwV 2 hts gX2_isAwaited_X2_contains rfl rfl rfl (by decide +kernel) ⟨Nat.le_of_ble_eq_true rfl, Nat.le_of_ble_eq_true rfl⟩) ⟨fun a U g mk q => ⟨q.1, Pr_cg q.2⟩, va_recv (ci := 3) (q0 := 0) hK hP rfl (Q_o hRc), fun U hU hW => ⟨rfl, Pr_mk hE hRc hRr hRo hP hD hS hU hW⟩⟩ rfl rfl hl.1 rfl (lv_room (Nat.le_of_ble_eq_true rfl)) dX2_isAwaited_38 ⟨Nat.le_of_ble_eq_true rfl, Nat.le_of_ble_eq_true rfl⟩) hS (fun v _ H locs wl hv hRc hRr hRo hP hD hS => ?_)
    refine n_top (y := .int (nI (bN (Nat.testBit (c 8 u) v = true)))) (congrArg Value.int hv) ?_
    clear hv v
    refine n_ifb_eq (tgt := 55) hx hb dX2_isAwaited_41 (by decide) (fun c_41 => ?_) (fun c_41 => ?_)
    · refine lv_iconst (v := nI 0) hx hb dX2_isAwaited_55 (by decide) ?_
      refine lv_istore (lv' := [(4, .int (nI 0)), (3, .int (nI 0)), (0, .ref (G 0)), (1, .ref (G (20 + v))), (2, .ref (G (20 + u)))]) hx hb dX2_isAwaited_56 hl (by decide) rfl (fun ls hl => ?_)
      refine lv_iload_n hx hb dX2_isAwaited_58 rfl (lv_at hl 1 rfl) ?_
      refine n_if_ne (tgt := 67) hx hb dX2_isAwaited_59 (by decide) (by decide) (fun c_59 => ?_) (fun c_59 => ?_)
      · exfalso; omega
      · refine lv_iload hx hb dX2_isAwaited_62 (lv_at hl 0 rfl) ?_
        refine n_if_eq (tgt := 71) hx hb dX2_isAwaited_64 (by decide) (by decide) (fun c_64 => ?_) (fun c_64 => ?_)
        · refine lv_iconst (v := nI 0) hx hb dX2_isAwaited_71 (by decide) ?_
          exact W.zret (v := nI 0) (ty := .boolean) hx hb hr (nb_le (by first | exact bN_le _ | decide | omega | assumption)) (fun t ht hW => ⟨⟨_, (), rfl, (show nI 0 = nI (bN (awC c u v)) from by exact congrArg nI (bN_f (fun z => z.elim (fun z => absurd z.1 c_9) (fun z => absurd z.1 c_41))).symm), Wr_mk hRc hRr hRo hP hD ht⟩, hS.F ht⟩) hS.2.2 dX2_isAwaited_72
        · exfalso; omega
    · refine lv_aload_n hx hb dX2_isAwaited_44 rfl (lv_at hl 2 rfl) ?_
      refine y_calli (va_runV (As := []) (rest := []) ⟨hx, hb, hml, hown, hts⟩ (k_X0_isWishDone l D G h0 c r o v (by first | omega | assumption) hB) (cwV 0 hts gX2_isAwaited_X0_isWishDone rfl rfl rfl (by decide +kernel) ⟨Nat.le_of_ble_eq_true rfl, Nat.le_of_ble_eq_true rfl⟩) ⟨fun a U g mk q => ⟨q.1, Pr_cg q.2⟩, va_recv (ci := 1) (q0 := 20 + v) hK hP rfl (Q_u hRc (by first | omega | decide | assumption)), fun U hU hW => ⟨rfl, Pr_mk hE hRc hRr hRo hP hD hS hU hW⟩⟩ rfl rfl hl.1 rfl (lv_room (Nat.le_of_ble_eq_true rfl)) dX2_isAwaited_45 ⟨Nat.le_of_ble_eq_true rfl, Nat.le_of_ble_eq_true rfl⟩) hS (fun v _ H locs wl hv hRc hRr hRo hP hD hS => ?_)
      refine n_top (y := .int (nI (bN (doneP (c 9) v)))) (congrArg Value.int hv) ?_
      clear hv v
      refine n_ifb_ne (tgt := 55) hx hb dX2_isAwaited_48 (by decide) (fun c_48 => ?_) (fun c_48 => ?_)
      · refine lv_iconst (v := nI 0) hx hb dX2_isAwaited_55 (by decide) ?_
        refine lv_istore (lv' := [(4, .int (nI 0)), (3, .int (nI 0)), (0, .ref (G 0)), (1, .ref (G (20 + v))), (2, .ref (G (20 + u)))]) hx hb dX2_isAwaited_56 hl (by decide) rfl (fun ls hl => ?_)
        refine lv_iload_n hx hb dX2_isAwaited_58 rfl (lv_at hl 1 rfl) ?_
        refine n_if_ne (tgt := 67) hx hb dX2_isAwaited_59 (by decide) (by decide) (fun c_59 => ?_) (fun c_59 => ?_)
        · exfalso; omega
        · refine lv_iload hx hb dX2_isAwaited_62 (lv_at hl 0 rfl) ?_
          refine n_if_eq (tgt := 71) hx hb dX2_isAwaited_64 (by decide) (by decide) (fun c_64 => ?_) (fun c_64 => ?_)
          · refine lv_iconst (v := nI 0) hx hb dX2_isAwaited_71 (by decide) ?_
            exact W.zret (v := nI 0) (ty := .boolean) hx hb hr (nb_le (by first | exact bN_le _ | decide | omega | assumption)) (fun t ht hW => ⟨⟨_, (), rfl, (show nI 0 = nI (bN (awC c u v)) from by exact congrArg nI (bN_f (fun z => z.elim (fun z => absurd z.1 c_9) (fun z => absurd c_48 z.2))).symm), Wr_mk hRc hRr hRo hP hD ht⟩, hS.F ht⟩) hS.2.2 dX2_isAwaited_72
          · exfalso; omega
      · refine lv_iconst (v := nI 1) hx hb dX2_isAwaited_51 (by decide) ?_
        refine lv_goto (tgt := 56) hx hb dX2_isAwaited_52 (by decide) ?_
        refine lv_istore (lv' := [(4, .int (nI 1)), (3, .int (nI 0)), (0, .ref (G 0)), (1, .ref (G (20 + v))), (2, .ref (G (20 + u)))]) hx hb dX2_isAwaited_56 hl (by decide) rfl (fun ls hl => ?_)
        refine lv_iload_n hx hb dX2_isAwaited_58 rfl (lv_at hl 1 rfl) ?_
        refine n_if_ne (tgt := 67) hx hb dX2_isAwaited_59 (by decide) (by decide) (fun c_59 => ?_) (fun c_59 => ?_)
        · exfalso; omega
        · refine lv_iload hx hb dX2_isAwaited_62 (lv_at hl 0 rfl) ?_
          refine n_if_eq (tgt := 71) hx hb dX2_isAwaited_64 (by decide) (by decide) (fun c_64 => ?_) (fun c_64 => ?_)
          · exfalso; omega
          · refine lv_iconst (v := nI 1) hx hb dX2_isAwaited_67 (by decide) ?_
            refine lv_goto (tgt := 72) hx hb dX2_isAwaited_68 (by decide) ?_
            exact W.zret (v := nI 1) (ty := .boolean) hx hb hr (nb_le (by first | exact bN_le _ | decide | omega | assumption)) (fun t ht hW => ⟨⟨_, (), rfl, (show nI 1 = nI (bN (awC c u v)) from by exact congrArg nI (bN_t (Or.inr ⟨by assumption, by assumption⟩)).symm), Wr_mk hRc hRr hRo hP hD ht⟩, hS.F ht⟩) hS.2.2 dX2_isAwaited_72
  · refine lv_aload_n hx hb dX2_isAwaited_12 rfl (lv_at hl 1 rfl) ?_
    refine y_calli (va_runV (As := []) (rest := []) ⟨hx, hb, hml, hown, hts⟩ (k_X0_isNeedMet l D G h0 c r o v (by first | omega | assumption) hB hs) (cwV 0 hts gX2_isAwaited_X0_isNeedMet rfl rfl rfl (by decide +kernel) ⟨Nat.le_of_ble_eq_true rfl, Nat.le_of_ble_eq_true rfl⟩) ⟨fun a U g mk q => ⟨q.1, Pr_cg q.2⟩, va_recv (ci := 1) (q0 := 20 + v) hK hP rfl (Q_u hRc (by first | omega | decide | assumption)), fun U hU hW => ⟨rfl, Pr_mk hE hRc hRr hRo hP hD hS hU hW⟩⟩ rfl rfl hl.1 rfl (lv_room (Nat.le_of_ble_eq_true rfl)) dX2_isAwaited_13 ⟨Nat.le_of_ble_eq_true rfl, Nat.le_of_ble_eq_true rfl⟩) hS (fun v _ H locs wl hv hRc hRr hRo hP hD hS => ?_)
    refine n_top (y := .int (nI (bN (metP (c 9) (c 6) v)))) (congrArg Value.int hv) ?_
    clear hv v
    refine n_ifb_ne (tgt := 30) hx hb dX2_isAwaited_16 (by decide) (fun c_16 => ?_) (fun c_16 => ?_)
    · refine lv_iconst (v := nI 0) hx hb dX2_isAwaited_30 (by decide) ?_
      refine lv_istore_n (lv' := [(3, .int (nI 0)), (0, .ref (G 0)), (1, .ref (G (20 + v))), (2, .ref (G (20 + u)))]) hx hb dX2_isAwaited_31 rfl hl (by decide) rfl (fun ls hl => ?_)
      refine lv_aload_n hx hb dX2_isAwaited_32 rfl (lv_at hl 1 rfl) ?_
      refine lv_aload_n hx hb dX2_isAwaited_33 rfl (lv_at hl 3 rfl) ?_
      refine va_get (D := D) (ci := 1) (v := .int (nI (c 8 u))) (C := RX0) (T := TX0) (N := 13) hx hb hts inX0 hown hK hP (20 + u) (Q_u hRc (by first | omega | decide | assumption)) rfl 8 (by decide) (hts (.fieldLink RX2 103 "BootStage$Unit" "keptWishes" "I") (by decide +kernel)) (fun _ h9 => h9) rfl dX2_isAwaited_34 ?_
      refine lv_aload_n hx hb dX2_isAwaited_37 rfl (lv_at hl 2 rfl) ?_
      refine y_calli (va_runV (As := [.int (nI (c 8 u)), .ref (G (20 + v))]) (rest := []) ⟨hx, hb, hml, hown, hts⟩ (k_X2_contains l D G h0 c r o (c 8 u) v (by first | omega | assumption)) (cwV 2 hts gX2_isAwaited_X2_contains rfl rfl rfl (by decide +kernel) ⟨Nat.le_of_ble_eq_true rfl, Nat.le_of_ble_eq_true rfl⟩) ⟨fun a U g mk q => ⟨q.1, Pr_cg q.2⟩, va_recv (ci := 3) (q0 := 0) hK hP rfl (Q_o hRc), fun U hU hW => ⟨rfl, Pr_mk hE hRc hRr hRo hP hD hS hU hW⟩⟩ rfl rfl hl.1 rfl (lv_room (Nat.le_of_ble_eq_true rfl)) dX2_isAwaited_38 ⟨Nat.le_of_ble_eq_true rfl, Nat.le_of_ble_eq_true rfl⟩) hS (fun v _ H locs wl hv hRc hRr hRo hP hD hS => ?_)
      refine n_top (y := .int (nI (bN (Nat.testBit (c 8 u) v = true)))) (congrArg Value.int hv) ?_
      clear hv v
      refine n_ifb_eq (tgt := 55) hx hb dX2_isAwaited_41 (by decide) (fun c_41 => ?_) (fun c_41 => ?_)
      · refine lv_iconst (v := nI 0) hx hb dX2_isAwaited_55 (by decide) ?_
        refine lv_istore (lv' := [(4, .int (nI 0)), (3, .int (nI 0)), (0, .ref (G 0)), (1, .ref (G (20 + v))), (2, .ref (G (20 + u)))]) hx hb dX2_isAwaited_56 hl (by decide) rfl (fun ls hl => ?_)
        refine lv_iload_n hx hb dX2_isAwaited_58 rfl (lv_at hl 1 rfl) ?_
        refine n_if_ne (tgt := 67) hx hb dX2_isAwaited_59 (by decide) (by decide) (fun c_59 => ?_) (fun c_59 => ?_)
        · exfalso; omega
        · refine lv_iload hx hb dX2_isAwaited_62 (lv_at hl 0 rfl) ?_
          refine n_if_eq (tgt := 71) hx hb dX2_isAwaited_64 (by decide) (by decide) (fun c_64 => ?_) (fun c_64 => ?_)
          · refine lv_iconst (v := nI 0) hx hb dX2_isAwaited_71 (by decide) ?_
            exact W.zret (v := nI 0) (ty := .boolean) hx hb hr (nb_le (by first | exact bN_le _ | decide | omega | assumption)) (fun t ht hW => ⟨⟨_, (), rfl, (show nI 0 = nI (bN (awC c u v)) from by exact congrArg nI (bN_f (fun z => z.elim (fun z => absurd c_16 z.2.1) (fun z => absurd z.1 c_41))).symm), Wr_mk hRc hRr hRo hP hD ht⟩, hS.F ht⟩) hS.2.2 dX2_isAwaited_72
          · exfalso; omega
      · refine lv_aload_n hx hb dX2_isAwaited_44 rfl (lv_at hl 2 rfl) ?_
        refine y_calli (va_runV (As := []) (rest := []) ⟨hx, hb, hml, hown, hts⟩ (k_X0_isWishDone l D G h0 c r o v (by first | omega | assumption) hB) (cwV 0 hts gX2_isAwaited_X0_isWishDone rfl rfl rfl (by decide +kernel) ⟨Nat.le_of_ble_eq_true rfl, Nat.le_of_ble_eq_true rfl⟩) ⟨fun a U g mk q => ⟨q.1, Pr_cg q.2⟩, va_recv (ci := 1) (q0 := 20 + v) hK hP rfl (Q_u hRc (by first | omega | decide | assumption)), fun U hU hW => ⟨rfl, Pr_mk hE hRc hRr hRo hP hD hS hU hW⟩⟩ rfl rfl hl.1 rfl (lv_room (Nat.le_of_ble_eq_true rfl)) dX2_isAwaited_45 ⟨Nat.le_of_ble_eq_true rfl, Nat.le_of_ble_eq_true rfl⟩) hS (fun v _ H locs wl hv hRc hRr hRo hP hD hS => ?_)
        refine n_top (y := .int (nI (bN (doneP (c 9) v)))) (congrArg Value.int hv) ?_
        clear hv v
        refine n_ifb_ne (tgt := 55) hx hb dX2_isAwaited_48 (by decide) (fun c_48 => ?_) (fun c_48 => ?_)
        · refine lv_iconst (v := nI 0) hx hb dX2_isAwaited_55 (by decide) ?_
          refine lv_istore (lv' := [(4, .int (nI 0)), (3, .int (nI 0)), (0, .ref (G 0)), (1, .ref (G (20 + v))), (2, .ref (G (20 + u)))]) hx hb dX2_isAwaited_56 hl (by decide) rfl (fun ls hl => ?_)
          refine lv_iload_n hx hb dX2_isAwaited_58 rfl (lv_at hl 1 rfl) ?_
          refine n_if_ne (tgt := 67) hx hb dX2_isAwaited_59 (by decide) (by decide) (fun c_59 => ?_) (fun c_59 => ?_)
          · exfalso; omega
          · refine lv_iload hx hb dX2_isAwaited_62 (lv_at hl 0 rfl) ?_
            refine n_if_eq (tgt := 71) hx hb dX2_isAwaited_64 (by decide) (by decide) (fun c_64 => ?_) (fun c_64 => ?_)
            · refine lv_iconst (v := nI 0) hx hb dX2_isAwaited_71 (by decide) ?_
              exact W.zret (v := nI 0) (ty := .boolean) hx hb hr (nb_le (by first | exact bN_le _ | decide | omega | assumption)) (fun t ht hW => ⟨⟨_, (), rfl, (show nI 0 = nI (bN (awC c u v)) from by exact congrArg nI (bN_f (fun z => z.elim (fun z => absurd c_16 z.2.1) (fun z => absurd c_48 z.2))).symm), Wr_mk hRc hRr hRo hP hD ht⟩, hS.F ht⟩) hS.2.2 dX2_isAwaited_72
            · exfalso; omega
        · refine lv_iconst (v := nI 1) hx hb dX2_isAwaited_51 (by decide) ?_
          refine lv_goto (tgt := 56) hx hb dX2_isAwaited_52 (by decide) ?_
          refine lv_istore (lv' := [(4, .int (nI 1)), (3, .int (nI 0)), (0, .ref (G 0)), (1, .ref (G (20 + v))), (2, .ref (G (20 + u)))]) hx hb dX2_isAwaited_56 hl (by decide) rfl (fun ls hl => ?_)
          refine lv_iload_n hx hb dX2_isAwaited_58 rfl (lv_at hl 1 rfl) ?_
          refine n_if_ne (tgt := 67) hx hb dX2_isAwaited_59 (by decide) (by decide) (fun c_59 => ?_) (fun c_59 => ?_)
          · exfalso; omega
          · refine lv_iload hx hb dX2_isAwaited_62 (lv_at hl 0 rfl) ?_
            refine n_if_eq (tgt := 71) hx hb dX2_isAwaited_64 (by decide) (by decide) (fun c_64 => ?_) (fun c_64 => ?_)
            · exfalso; omega
            · refine lv_iconst (v := nI 1) hx hb dX2_isAwaited_67 (by decide) ?_
              refine lv_goto (tgt := 72) hx hb dX2_isAwaited_68 (by decide) ?_
              exact W.zret (v := nI 1) (ty := .boolean) hx hb hr (nb_le (by first | exact bN_le _ | decide | omega | assumption)) (fun t ht hW => ⟨⟨_, (), rfl, (show nI 1 = nI (bN (awC c u v)) from by exact congrArg nI (bN_t (Or.inr ⟨by assumption, by assumption⟩)).symm), Wr_mk hRc hRr hRo hP hD ht⟩, hS.F ht⟩) hS.2.2 dX2_isAwaited_72
    · refine lv_aload_n hx hb dX2_isAwaited_19 rfl (lv_at hl 1 rfl) ?_
      refine y_calli (va_runV (As := []) (rest := []) ⟨hx, hb, hml, hown, hts⟩ (k_X0_isNeedLost l D G h0 c r o v (by first | omega | assumption) hB hs) (cwV 0 hts gX2_isAwaited_X0_isNeedLost rfl rfl rfl (by decide +kernel) ⟨Nat.le_of_ble_eq_true rfl, Nat.le_of_ble_eq_true rfl⟩) ⟨fun a U g mk q => ⟨q.1, Pr_cg q.2⟩, va_recv (ci := 1) (q0 := 20 + v) hK hP rfl (Q_u hRc (by first | omega | decide | assumption)), fun U hU hW => ⟨rfl, Pr_mk hE hRc hRr hRo hP hD hS hU hW⟩⟩ rfl rfl hl.1 rfl (lv_room (Nat.le_of_ble_eq_true rfl)) dX2_isAwaited_20 ⟨Nat.le_of_ble_eq_true rfl, Nat.le_of_ble_eq_true rfl⟩) hS (fun v _ H locs wl hv hRc hRr hRo hP hD hS => ?_)
      refine n_top (y := .int (nI (bN (lostP (c 9) (c 6) v)))) (congrArg Value.int hv) ?_
      clear hv v
      refine n_ifb_ne (tgt := 30) hx hb dX2_isAwaited_23 (by decide) (fun c_23 => ?_) (fun c_23 => ?_)
      · refine lv_iconst (v := nI 0) hx hb dX2_isAwaited_30 (by decide) ?_
        refine lv_istore_n (lv' := [(3, .int (nI 0)), (0, .ref (G 0)), (1, .ref (G (20 + v))), (2, .ref (G (20 + u)))]) hx hb dX2_isAwaited_31 rfl hl (by decide) rfl (fun ls hl => ?_)
        refine lv_aload_n hx hb dX2_isAwaited_32 rfl (lv_at hl 1 rfl) ?_
        refine lv_aload_n hx hb dX2_isAwaited_33 rfl (lv_at hl 3 rfl) ?_
        refine va_get (D := D) (ci := 1) (v := .int (nI (c 8 u))) (C := RX0) (T := TX0) (N := 13) hx hb hts inX0 hown hK hP (20 + u) (Q_u hRc (by first | omega | decide | assumption)) rfl 8 (by decide) (hts (.fieldLink RX2 103 "BootStage$Unit" "keptWishes" "I") (by decide +kernel)) (fun _ h9 => h9) rfl dX2_isAwaited_34 ?_
        refine lv_aload_n hx hb dX2_isAwaited_37 rfl (lv_at hl 2 rfl) ?_
        refine y_calli (va_runV (As := [.int (nI (c 8 u)), .ref (G (20 + v))]) (rest := []) ⟨hx, hb, hml, hown, hts⟩ (k_X2_contains l D G h0 c r o (c 8 u) v (by first | omega | assumption)) (cwV 2 hts gX2_isAwaited_X2_contains rfl rfl rfl (by decide +kernel) ⟨Nat.le_of_ble_eq_true rfl, Nat.le_of_ble_eq_true rfl⟩) ⟨fun a U g mk q => ⟨q.1, Pr_cg q.2⟩, va_recv (ci := 3) (q0 := 0) hK hP rfl (Q_o hRc), fun U hU hW => ⟨rfl, Pr_mk hE hRc hRr hRo hP hD hS hU hW⟩⟩ rfl rfl hl.1 rfl (lv_room (Nat.le_of_ble_eq_true rfl)) dX2_isAwaited_38 ⟨Nat.le_of_ble_eq_true rfl, Nat.le_of_ble_eq_true rfl⟩) hS (fun v _ H locs wl hv hRc hRr hRo hP hD hS => ?_)
        refine n_top (y := .int (nI (bN (Nat.testBit (c 8 u) v = true)))) (congrArg Value.int hv) ?_
        clear hv v
        refine n_ifb_eq (tgt := 55) hx hb dX2_isAwaited_41 (by decide) (fun c_41 => ?_) (fun c_41 => ?_)
        · refine lv_iconst (v := nI 0) hx hb dX2_isAwaited_55 (by decide) ?_
          refine lv_istore (lv' := [(4, .int (nI 0)), (3, .int (nI 0)), (0, .ref (G 0)), (1, .ref (G (20 + v))), (2, .ref (G (20 + u)))]) hx hb dX2_isAwaited_56 hl (by decide) rfl (fun ls hl => ?_)
          refine lv_iload_n hx hb dX2_isAwaited_58 rfl (lv_at hl 1 rfl) ?_
          refine n_if_ne (tgt := 67) hx hb dX2_isAwaited_59 (by decide) (by decide) (fun c_59 => ?_) (fun c_59 => ?_)
          · exfalso; omega
          · refine lv_iload hx hb dX2_isAwaited_62 (lv_at hl 0 rfl) ?_
            refine n_if_eq (tgt := 71) hx hb dX2_isAwaited_64 (by decide) (by decide) (fun c_64 => ?_) (fun c_64 => ?_)
            · refine lv_iconst (v := nI 0) hx hb dX2_isAwaited_71 (by decide) ?_
              exact W.zret (v := nI 0) (ty := .boolean) hx hb hr (nb_le (by first | exact bN_le _ | decide | omega | assumption)) (fun t ht hW => ⟨⟨_, (), rfl, (show nI 0 = nI (bN (awC c u v)) from by exact congrArg nI (bN_f (fun z => z.elim (fun z => absurd c_23 z.2.2) (fun z => absurd z.1 c_41))).symm), Wr_mk hRc hRr hRo hP hD ht⟩, hS.F ht⟩) hS.2.2 dX2_isAwaited_72
            · exfalso; omega
        · refine lv_aload_n hx hb dX2_isAwaited_44 rfl (lv_at hl 2 rfl) ?_
          refine y_calli (va_runV (As := []) (rest := []) ⟨hx, hb, hml, hown, hts⟩ (k_X0_isWishDone l D G h0 c r o v (by first | omega | assumption) hB) (cwV 0 hts gX2_isAwaited_X0_isWishDone rfl rfl rfl (by decide +kernel) ⟨Nat.le_of_ble_eq_true rfl, Nat.le_of_ble_eq_true rfl⟩) ⟨fun a U g mk q => ⟨q.1, Pr_cg q.2⟩, va_recv (ci := 1) (q0 := 20 + v) hK hP rfl (Q_u hRc (by first | omega | decide | assumption)), fun U hU hW => ⟨rfl, Pr_mk hE hRc hRr hRo hP hD hS hU hW⟩⟩ rfl rfl hl.1 rfl (lv_room (Nat.le_of_ble_eq_true rfl)) dX2_isAwaited_45 ⟨Nat.le_of_ble_eq_true rfl, Nat.le_of_ble_eq_true rfl⟩) hS (fun v _ H locs wl hv hRc hRr hRo hP hD hS => ?_)
          refine n_top (y := .int (nI (bN (doneP (c 9) v)))) (congrArg Value.int hv) ?_
          clear hv v
          refine n_ifb_ne (tgt := 55) hx hb dX2_isAwaited_48 (by decide) (fun c_48 => ?_) (fun c_48 => ?_)
          · refine lv_iconst (v := nI 0) hx hb dX2_isAwaited_55 (by decide) ?_
            refine lv_istore (lv' := [(4, .int (nI 0)), (3, .int (nI 0)), (0, .ref (G 0)), (1, .ref (G (20 + v))), (2, .ref (G (20 + u)))]) hx hb dX2_isAwaited_56 hl (by decide) rfl (fun ls hl => ?_)
            refine lv_iload_n hx hb dX2_isAwaited_58 rfl (lv_at hl 1 rfl) ?_
            refine n_if_ne (tgt := 67) hx hb dX2_isAwaited_59 (by decide) (by decide) (fun c_59 => ?_) (fun c_59 => ?_)
            · exfalso; omega
            · refine lv_iload hx hb dX2_isAwaited_62 (lv_at hl 0 rfl) ?_
              refine n_if_eq (tgt := 71) hx hb dX2_isAwaited_64 (by decide) (by decide) (fun c_64 => ?_) (fun c_64 => ?_)
              · refine lv_iconst (v := nI 0) hx hb dX2_isAwaited_71 (by decide) ?_
                exact W.zret (v := nI 0) (ty := .boolean) hx hb hr (nb_le (by first | exact bN_le _ | decide | omega | assumption)) (fun t ht hW => ⟨⟨_, (), rfl, (show nI 0 = nI (bN (awC c u v)) from by exact congrArg nI (bN_f (fun z => z.elim (fun z => absurd c_23 z.2.2) (fun z => absurd c_48 z.2))).symm), Wr_mk hRc hRr hRo hP hD ht⟩, hS.F ht⟩) hS.2.2 dX2_isAwaited_72
              · exfalso; omega
          · refine lv_iconst (v := nI 1) hx hb dX2_isAwaited_51 (by decide) ?_
            refine lv_goto (tgt := 56) hx hb dX2_isAwaited_52 (by decide) ?_
            refine lv_istore (lv' := [(4, .int (nI 1)), (3, .int (nI 0)), (0, .ref (G 0)), (1, .ref (G (20 + v))), (2, .ref (G (20 + u)))]) hx hb dX2_isAwaited_56 hl (by decide) rfl (fun ls hl => ?_)
            refine lv_iload_n hx hb dX2_isAwaited_58 rfl (lv_at hl 1 rfl) ?_
            refine n_if_ne (tgt := 67) hx hb dX2_isAwaited_59 (by decide) (by decide) (fun c_59 => ?_) (fun c_59 => ?_)
            · exfalso; omega
            · refine lv_iload hx hb dX2_isAwaited_62 (lv_at hl 0 rfl) ?_
              refine n_if_eq (tgt := 71) hx hb dX2_isAwaited_64 (by decide) (by decide) (fun c_64 => ?_) (fun c_64 => ?_)
              · exfalso; omega
              · refine lv_iconst (v := nI 1) hx hb dX2_isAwaited_67 (by decide) ?_
                refine lv_goto (tgt := 72) hx hb dX2_isAwaited_68 (by decide) ?_
                exact W.zret (v := nI 1) (ty := .boolean) hx hb hr (nb_le (by first | exact bN_le _ | decide | omega | assumption)) (fun t ht hW => ⟨⟨_, (), rfl, (show nI 1 = nI (bN (awC c u v)) from by exact congrArg nI (bN_t (Or.inr ⟨by assumption, by assumption⟩)).symm), Wr_mk hRc hRr hRo hP hD ht⟩, hS.F ht⟩) hS.2.2 dX2_isAwaited_72
      · refine lv_iconst (v := nI 1) hx hb dX2_isAwaited_26 (by decide) ?_
        refine lv_goto (tgt := 31) hx hb dX2_isAwaited_27 (by decide) ?_
        refine lv_istore_n (lv' := [(3, .int (nI 1)), (0, .ref (G 0)), (1, .ref (G (20 + v))), (2, .ref (G (20 + u)))]) hx hb dX2_isAwaited_31 rfl hl (by decide) rfl (fun ls hl => ?_)
        refine lv_aload_n hx hb dX2_isAwaited_32 rfl (lv_at hl 1 rfl) ?_
        refine lv_aload_n hx hb dX2_isAwaited_33 rfl (lv_at hl 3 rfl) ?_
        refine va_get (D := D) (ci := 1) (v := .int (nI (c 8 u))) (C := RX0) (T := TX0) (N := 13) hx hb hts inX0 hown hK hP (20 + u) (Q_u hRc (by first | omega | decide | assumption)) rfl 8 (by decide) (hts (.fieldLink RX2 103 "BootStage$Unit" "keptWishes" "I") (by decide +kernel)) (fun _ h9 => h9) rfl dX2_isAwaited_34 ?_
        refine lv_aload_n hx hb dX2_isAwaited_37 rfl (lv_at hl 2 rfl) ?_
        refine y_calli (va_runV (As := [.int (nI (c 8 u)), .ref (G (20 + v))]) (rest := []) ⟨hx, hb, hml, hown, hts⟩ (k_X2_contains l D G h0 c r o (c 8 u) v (by first | omega | assumption)) (cwV 2 hts gX2_isAwaited_X2_contains rfl rfl rfl (by decide +kernel) ⟨Nat.le_of_ble_eq_true rfl, Nat.le_of_ble_eq_true rfl⟩) ⟨fun a U g mk q => ⟨q.1, Pr_cg q.2⟩, va_recv (ci := 3) (q0 := 0) hK hP rfl (Q_o hRc), fun U hU hW => ⟨rfl, Pr_mk hE hRc hRr hRo hP hD hS hU hW⟩⟩ rfl rfl hl.1 rfl (lv_room (Nat.le_of_ble_eq_true rfl)) dX2_isAwaited_38 ⟨Nat.le_of_ble_eq_true rfl, Nat.le_of_ble_eq_true rfl⟩) hS (fun v _ H locs wl hv hRc hRr hRo hP hD hS => ?_)
        refine n_top (y := .int (nI (bN (Nat.testBit (c 8 u) v = true)))) (congrArg Value.int hv) ?_
        clear hv v
        refine n_ifb_eq (tgt := 55) hx hb dX2_isAwaited_41 (by decide) (fun c_41 => ?_) (fun c_41 => ?_)
        · refine lv_iconst (v := nI 0) hx hb dX2_isAwaited_55 (by decide) ?_
          refine lv_istore (lv' := [(4, .int (nI 0)), (3, .int (nI 1)), (0, .ref (G 0)), (1, .ref (G (20 + v))), (2, .ref (G (20 + u)))]) hx hb dX2_isAwaited_56 hl (by decide) rfl (fun ls hl => ?_)
          refine lv_iload_n hx hb dX2_isAwaited_58 rfl (lv_at hl 1 rfl) ?_
          refine n_if_ne (tgt := 67) hx hb dX2_isAwaited_59 (by decide) (by decide) (fun c_59 => ?_) (fun c_59 => ?_)
          · refine lv_iconst (v := nI 1) hx hb dX2_isAwaited_67 (by decide) ?_
            refine lv_goto (tgt := 72) hx hb dX2_isAwaited_68 (by decide) ?_
            exact W.zret (v := nI 1) (ty := .boolean) hx hb hr (nb_le (by first | exact bN_le _ | decide | omega | assumption)) (fun t ht hW => ⟨⟨_, (), rfl, (show nI 1 = nI (bN (awC c u v)) from by exact congrArg nI (bN_t (Or.inl ⟨by assumption, by assumption, by assumption⟩)).symm), Wr_mk hRc hRr hRo hP hD ht⟩, hS.F ht⟩) hS.2.2 dX2_isAwaited_72
          · exfalso; omega
        · refine lv_aload_n hx hb dX2_isAwaited_44 rfl (lv_at hl 2 rfl) ?_
          refine y_calli (va_runV (As := []) (rest := []) ⟨hx, hb, hml, hown, hts⟩ (k_X0_isWishDone l D G h0 c r o v (by first | omega | assumption) hB) (cwV 0 hts gX2_isAwaited_X0_isWishDone rfl rfl rfl (by decide +kernel) ⟨Nat.le_of_ble_eq_true rfl, Nat.le_of_ble_eq_true rfl⟩) ⟨fun a U g mk q => ⟨q.1, Pr_cg q.2⟩, va_recv (ci := 1) (q0 := 20 + v) hK hP rfl (Q_u hRc (by first | omega | decide | assumption)), fun U hU hW => ⟨rfl, Pr_mk hE hRc hRr hRo hP hD hS hU hW⟩⟩ rfl rfl hl.1 rfl (lv_room (Nat.le_of_ble_eq_true rfl)) dX2_isAwaited_45 ⟨Nat.le_of_ble_eq_true rfl, Nat.le_of_ble_eq_true rfl⟩) hS (fun v _ H locs wl hv hRc hRr hRo hP hD hS => ?_)
          refine n_top (y := .int (nI (bN (doneP (c 9) v)))) (congrArg Value.int hv) ?_
          clear hv v
          refine n_ifb_ne (tgt := 55) hx hb dX2_isAwaited_48 (by decide) (fun c_48 => ?_) (fun c_48 => ?_)
          · refine lv_iconst (v := nI 0) hx hb dX2_isAwaited_55 (by decide) ?_
            refine lv_istore (lv' := [(4, .int (nI 0)), (3, .int (nI 1)), (0, .ref (G 0)), (1, .ref (G (20 + v))), (2, .ref (G (20 + u)))]) hx hb dX2_isAwaited_56 hl (by decide) rfl (fun ls hl => ?_)
            refine lv_iload_n hx hb dX2_isAwaited_58 rfl (lv_at hl 1 rfl) ?_
            refine n_if_ne (tgt := 67) hx hb dX2_isAwaited_59 (by decide) (by decide) (fun c_59 => ?_) (fun c_59 => ?_)
            · refine lv_iconst (v := nI 1) hx hb dX2_isAwaited_67 (by decide) ?_
              refine lv_goto (tgt := 72) hx hb dX2_isAwaited_68 (by decide) ?_
              exact W.zret (v := nI 1) (ty := .boolean) hx hb hr (nb_le (by first | exact bN_le _ | decide | omega | assumption)) (fun t ht hW => ⟨⟨_, (), rfl, (show nI 1 = nI (bN (awC c u v)) from by exact congrArg nI (bN_t (Or.inl ⟨by assumption, by assumption, by assumption⟩)).symm), Wr_mk hRc hRr hRo hP hD ht⟩, hS.F ht⟩) hS.2.2 dX2_isAwaited_72
            · exfalso; omega
          · refine lv_iconst (v := nI 1) hx hb dX2_isAwaited_51 (by decide) ?_
            refine lv_goto (tgt := 56) hx hb dX2_isAwaited_52 (by decide) ?_
            refine lv_istore (lv' := [(4, .int (nI 1)), (3, .int (nI 1)), (0, .ref (G 0)), (1, .ref (G (20 + v))), (2, .ref (G (20 + u)))]) hx hb dX2_isAwaited_56 hl (by decide) rfl (fun ls hl => ?_)
            refine lv_iload_n hx hb dX2_isAwaited_58 rfl (lv_at hl 1 rfl) ?_
            refine n_if_ne (tgt := 67) hx hb dX2_isAwaited_59 (by decide) (by decide) (fun c_59 => ?_) (fun c_59 => ?_)
            · refine lv_iconst (v := nI 1) hx hb dX2_isAwaited_67 (by decide) ?_
              refine lv_goto (tgt := 72) hx hb dX2_isAwaited_68 (by decide) ?_
              exact W.zret (v := nI 1) (ty := .boolean) hx hb hr (nb_le (by first | exact bN_le _ | decide | omega | assumption)) (fun t ht hW => ⟨⟨_, (), rfl, (show nI 1 = nI (bN (awC c u v)) from by exact congrArg nI (bN_t (Or.inl ⟨by assumption, by assumption, by assumption⟩)).symm), Wr_mk hRc hRr hRo hP hD ht⟩, hS.F ht⟩) hS.2.2 dX2_isAwaited_72
            · exfalso; omega
end
